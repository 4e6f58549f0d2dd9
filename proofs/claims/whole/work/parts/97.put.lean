/-! STEPS OF A RUN: characters put -/
def uN (r : Int64) : Nat := r.toBitVec.toNat
theorem uN_lt (r : Int64) : uN r < 18446744073709551616 := r.toBitVec.isLt
theorem and255 (r : Int64) : (r &&& 255).toBitVec.toNat = uN r % 256 := by
  rw [Int64.toBitVec_and, BitVec.toNat_and]
  have e : (255 : Int64).toBitVec.toNat = 255 := rfl
  have e2 := Nat.and_two_pow_sub_one_eq_mod r.toBitVec.toNat 8
  simp only [Nat.reducePow, Nat.reduceSub] at e2
  rw [e, e2]
  rfl
theorem and255I (r : Int64) : (r &&& 255).toInt = ((uN r % 256 : Nat) : Int) := by
  show (r &&& 255).toBitVec.toInt = _
  rw [BitVec.toInt_eq_toNat_of_lt (by rw [and255]; omega), and255]
theorem xB_u (r : Int64) : xB r = ((uN r % 256 : Nat) : Int) := b255n r
theorem i64_0 (r : Int64) : r = 0 ↔ uN r = 0 := by
  constructor
  · intro h; rw [h]; rfl
  · intro h
    have : r.toBitVec = (0 : Int64).toBitVec := BitVec.eq_of_toNat_eq h
    exact Int64.toBitVec_inj.mp this
theorem lg_s (x y : Int64) : ((lg_cmp x y).toInt < 0 ↔ x.toInt < y.toInt) ∧ (0 < (lg_cmp x y).toInt ↔ y.toInt < x.toInt) ∧ ((lg_cmp x y).toInt = 0 ↔ x = y) ∧ (lg_cmp x y = 0 ↔ x = y) := by
  refine ⟨?_, ?_, ?_, lg_cmp_eq x y⟩
  · rw [← Int64.lt_iff_toInt_lt, ← lg_cmp_lt x y, Int32.lt_iff_toInt_lt]
    rfl
  · rw [← Int64.lt_iff_toInt_lt, ← lg_cmp_gt x y, Int32.lt_iff_toInt_lt]
    rfl
  · rw [← lg_cmp_eq x y]
    constructor
    · intro h
      exact Int32.toInt_inj.mp (by rw [h]; rfl)
    · intro h; rw [h]; rfl
theorem shr_u (c : Int64) (K : UInt64) (n : Nat) (hK : K.toNat % 64 = n) : uN (c.toUInt64 >>> K).toInt64 = uN c / 2 ^ n := by
  show (c.toUInt64 >>> K).toNat = _
  rw [UInt64.toNat_shiftRight, hK, Nat.shiftRight_eq_div_pow]
  rfl
theorem xS_u (r : Int64) : uN (xS r) = uN r / 256 := shr_u r _ 8 (by decide)
theorem ssh_lo (v : BitVec 64) (n : Nat) (hn : n ≤ 56) : (v.sshiftRight n).toNat % 256 = (v.toNat / 2 ^ n) % 256 := by
  have h : (v.sshiftRight n).setWidth 8 = (v >>> n).setWidth 8 := by
    apply BitVec.eq_of_getLsbD_eq
    intro i hi
    rw [BitVec.getLsbD_setWidth, BitVec.getLsbD_setWidth, BitVec.getLsbD_sshiftRight, BitVec.getLsbD_ushiftRight]
    have h1 : ¬ 64 ≤ i := by omega
    have h2 : n + i < 64 := by omega
    simp [h1, h2]
  have h2 := congrArg BitVec.toNat h
  rw [BitVec.toNat_setWidth, BitVec.toNat_setWidth, BitVec.toNat_ushiftRight, Nat.shiftRight_eq_div_pow] at h2
  exact h2
theorem kAt_u (c : Int64) {p : Int} (p0 : 0 ≤ p) (p1 : p < 8) : kAt c p = ((uN c / 2 ^ (8 * p.toNat) % 256 : Nat) : Int) := by
  have hp : p = 0 ∨ p = 1 ∨ p = 2 ∨ p = 3 ∨ p = 4 ∨ p = 5 ∨ p = 6 ∨ p = 7 := by omega
  unfold kAt
  rw [b255n]
  congr 2
  rcases hp with rfl | rfl | rfl | rfl | rfl | rfl | rfl | rfl
  · exact shr_u c _ 0 (by decide)
  · exact shr_u c _ 8 (by decide)
  · exact shr_u c _ 16 (by decide)
  · exact shr_u c _ 24 (by decide)
  · exact shr_u c _ 32 (by decide)
  · exact shr_u c _ 40 (by decide)
  · exact shr_u c _ 48 (by decide)
  · exact shr_u c _ 56 (by decide)
theorem sar_u (c K : Int64) (n : Nat) (hn : n ≤ 56) (hK : (K.toBitVec.smod 64#64).toNat = n) : (c >>> K).toBitVec.toNat % 256 = uN c / 2 ^ n % 256 := by
  rw [Int64.toBitVec_shiftRight]
  show (c.toBitVec.sshiftRight (K.toBitVec.smod 64#64).toNat).toNat % 256 = _
  rw [hK]
  exact ssh_lo _ _ hn
theorem xAt_u (c : Int64) {n k : Int} (p0 : 0 ≤ n - 1 - k) (p1 : n - 1 - k < 8) : xAt c n k = ((uN c / 2 ^ (8 * (n - 1 - k).toNat) % 256 : Nat) : Int) := by
  unfold xAt
  generalize n - 1 - k = p at *
  have hp : p = 0 ∨ p = 1 ∨ p = 2 ∨ p = 3 ∨ p = 4 ∨ p = 5 ∨ p = 6 ∨ p = 7 := by omega
  rw [b255n]
  congr 1
  rcases hp with rfl | rfl | rfl | rfl | rfl | rfl | rfl | rfl
  · exact sar_u c _ 0 (by decide) (by decide)
  · exact sar_u c _ 8 (by decide) (by decide)
  · exact sar_u c _ 16 (by decide) (by decide)
  · exact sar_u c _ 24 (by decide) (by decide)
  · exact sar_u c _ 32 (by decide) (by decide)
  · exact sar_u c _ 40 (by decide) (by decide)
  · exact sar_u c _ 48 (by decide) (by decide)
  · exact sar_u c _ 56 (by decide) (by decide)
/-- how many characters: both count alike, and each is a right one -/
def xCfin (p : Int × Int64) : Int := if p.1 ≤ 0 then 0 else (if lg_cmp p.2 0 = 0 then p.1 else 0)
theorem kC_x : ∀ (n : Nat) (r : Int64) (k : Int), 0 ≤ k → uN r < 2 ^ (8 * n) → kC n r k = xCfin (xC n r k) ∧ (0 < kC n r k → k ≤ kC n r k ∧ ∀ p : Nat, (p : Int) < kC n r k - k → 33 ≤ uN r / 2 ^ (8 * p) % 256 ∧ uN r / 2 ^ (8 * p) % 256 ≤ 126) := by
  intro n
  induction n with
  | zero =>
    intro r k k0 hr
    have h0 : r = 0 := (i64_0 r).mpr (by simpa using hr)
    have e1 : kC 0 r k = k := rfl
    have e2 : xC 0 r k = (k, r) := rfl
    rw [e1, e2]
    refine ⟨?_, fun _ => ⟨Int.le_refl _, fun p hp => by omega⟩⟩
    unfold xCfin
    by_cases c : k ≤ 0
    · rw [if_pos c]; omega
    · rw [if_neg c, if_pos ((lg_s r 0).2.2.2.mpr h0)]
  | succ n ih =>
    intro r k k0 hr
    rw [kC_s, xC_s]
    have b := xB_u r
    have s33 := (lg_s (r &&& 255) 33).1
    have s126 := (lg_s (r &&& 255) 126).2.1
    rw [and255I] at s33 s126
    have e33 : (33 : Int64).toInt = 33 := rfl
    have e126 : (126 : Int64).toInt = 126 := rfl
    rw [e33] at s33
    rw [e126] at s126
    have z1 : (lg_cmp r 0).toInt = 0 ↔ uN r = 0 := (lg_s r 0).2.2.1.trans (i64_0 r)
    have z2 : lg_cmp (r &&& 255) 0 = 0 ↔ uN r % 256 = 0 := by
      refine (lg_s (r &&& 255) 0).2.2.2.trans ((i64_0 _).trans ?_)
      show (r &&& 255).toBitVec.toNat = 0 ↔ _
      rw [and255]
    by_cases c0 : uN r = 0
    · rw [if_pos (z1.mpr c0), if_pos (z2.mpr (by rw [c0]))]
      refine ⟨?_, fun _ => ⟨Int.le_refl _, fun p hp => by omega⟩⟩
      unfold xCfin
      by_cases c : k ≤ 0
      · rw [if_pos c]; omega
      · rw [if_neg c, if_pos ((lg_s r 0).2.2.2.mpr ((i64_0 r).mpr c0))]
    · rw [if_neg (fun q => c0 (z1.mp q))]
      have hnz : ¬ lg_cmp r 0 = 0 := fun q => c0 ((i64_0 r).mp ((lg_s r 0).2.2.2.mp q))
      by_cases c1 : uN r % 256 < 33
      · rw [if_pos (s33.mpr (by omega))]
        refine ⟨?_, fun q => absurd q (by decide)⟩
        by_cases c2 : uN r % 256 = 0
        · rw [if_pos (z2.mpr c2)]
          unfold xCfin
          by_cases c9 : k ≤ 0
          · rw [if_pos c9]
          · rw [if_neg c9, if_neg hnz]
        · rw [if_neg (fun q => c2 (z2.mp q)), if_neg (by omega)]
          rfl
      · rw [if_neg (show ¬ (lg_cmp (r &&& 255) 33).toInt < 0 from fun q => c1 (by have := s33.mp q; omega)), if_neg (show ¬ lg_cmp (r &&& 255) 0 = 0 from fun q => c1 (by have := z2.mp q; omega))]
        by_cases c3 : 126 < uN r % 256
        · rw [if_pos (s126.mpr (by omega)), if_neg (show ¬ (33 ≤ xB r ∧ xB r ≤ 126) by omega)]
          exact ⟨rfl, fun q => absurd q (by decide)⟩
        · rw [if_neg (show ¬ 0 < (lg_cmp (r &&& 255) 126).toInt from fun q => c3 (by have := s126.mp q; omega)), if_pos (show 33 ≤ xB r ∧ xB r ≤ 126 by omega)]
          have hs := xS_u r
          have i := ih (xS r) (k + 1) (by omega) (by
            rw [hs]
            have : 2 ^ (8 * (n + 1)) = 2 ^ (8 * n) * 256 := by rw [show 8 * (n + 1) = 8 * n + 8 by omega, Nat.pow_add]
            rw [this] at hr
            exact Nat.div_lt_of_lt_mul (by rw [Nat.mul_comm]; exact hr))
          refine ⟨i.1, fun q => ?_⟩
          obtain ⟨g1, g2⟩ := i.2 q
          refine ⟨by omega, fun p hp => ?_⟩
          cases p with
          | zero =>
            rw [Nat.mul_zero, Nat.pow_zero, Nat.div_one]
            omega
          | succ p =>
            have := g2 p (by omega)
            rw [hs, Nat.div_div_eq_div_mul] at this
            rw [show 8 * (p + 1) = 8 + 8 * p by omega, Nat.pow_add]
            exact this
theorem kC_8 (c : Int64) : kC 8 c 0 = xMany c ∧ (0 < kC 8 c 0 → ∀ p : Nat, (p : Int) < kC 8 c 0 → 33 ≤ uN c / 2 ^ (8 * p) % 256 ∧ uN c / 2 ^ (8 * p) % 256 ≤ 126) := by
  have h := kC_x 8 c 0 (Int.le_refl _) (uN_lt c)
  exact ⟨h.1, fun q p hp => (h.2 q).2 p (by omega)⟩
theorem st_put {a b : sm_W} (h : Rel a b) (c : Int64) : (if kC 8 c 0 = 0 then -2 else (if 80 < wI a 83 0 + kC 8 c 0 then -4 else wI a 83 0 + kC 8 c 0)) = (if xMany c = 0 then -2 else (if 80 < wI b 154 24 + xMany c then -4 else wI b 154 24 + xMany c)) ∧ Rel (if kC 8 c 0 = 0 then a else (if 80 < wI a 83 0 + kC 8 c 0 then a else kApp a c (kC 8 c 0))) (if xMany c = 0 then b else (if 80 < wI b 154 24 + xMany c then b else mPut b c)) := by
  have hh := h
  obtain ⟨⟨⟨l1, l2⟩, hd, hko⟩, ⟨r1, r2, r3, r4, r5, r6⟩, x1, x2, x3, x4⟩ := h
  obtain ⟨e1, e2⟩ := kC_8 c
  have hb := kC_b 8 c 0 (Int.le_refl _)
  have eM : mPut b c = wsI (itI (mPut1 c (xMany c) (wI b 154 24)) b (xMany c)) 154 24 (wI b 154 24 + xMany c) := rfl
  rw [← e1] at eM ⊢
  rw [x4.1]
  refine ⟨rfl, ?_⟩
  generalize hN : kC 8 c 0 = N at *
  by_cases c0 : N = 0
  · rw [if_pos c0, if_pos c0]; exact hh
  · rw [if_neg c0, if_neg c0]
    by_cases c1 : 80 < wI b 154 24 + N
    · rw [if_pos c1, if_pos c1]; exact hh
    · rw [if_neg c1, if_neg c1]
      have t := tOK_F0.mp r4
      obtain ⟨L, hL⟩ : ∃ L, L = wI b 154 24 := ⟨_, rfl⟩
      have hL83 : wI a 83 0 = L := by rw [x4.1, hL]
      -- the class
      have ka := kApL c N a N (by omega)
      have eA : kApp a c N = itI (kAp1 c N L) a N := by unfold kApp; rw [hL83]
      rw [hL83, ← eA] at ka
      have a1 : ∀ x, x ≠ 83 → x ≠ 84 → wI (kApp a c N) x = wI a x := fun x h1 h2 => ka.1.outA (fun i v hs => by omega)
      have a84 : ∀ j, wI (kApp a c N) 84 j = if L ≤ j ∧ j < L + N then kAt c (N - 1 - (j - L)) else wI a 84 j := fun j => by
        rw [eA]
        refine itI_ind (f := kAp1 c N L) (a := a) (fun i r => wI r 84 j = if L ≤ j ∧ j < L + i then kAt c (N - 1 - (j - L)) else wI a 84 j) N (by rw [if_neg (by omega)]) (fun i r i0 i1 hr => ?_) N (by omega) (Int.le_refl _)
        unfold kAp1
        rw [wIf_ne (by decide), wI_wsI]
        by_cases e : j = L + i
        · rw [if_pos ⟨rfl, e⟩, if_pos (by omega), show j - L = i by omega]
        · rw [if_neg (fun q => e q.2), hr]
          by_cases e3 : L ≤ j ∧ j < L + i
          · rw [if_pos e3, if_pos (by omega)]
          · rw [if_neg e3, if_neg (by omega)]
      -- the reference
      rw [← hL] at eM
      have mb := mPutL c N L b N (by omega)
      have b1 : ∀ x, x ≠ 154 → x ≠ 173 → wI (mPut b c) x = wI b x := fun x h1 h2 => by rw [eM, wIf_ne h1, mb.1 x h2]
      have b4 : ∀ k, k ≠ 24 → wI (mPut b c) 154 k = wI b 154 k := fun k hk => by rw [eM, wI_wsI, if_neg (fun q => hk q.2), mb.1 154 (by decide)]
      have b24 : wI (mPut b c) 154 24 = L + N := by rw [eM, wI_wsI, if_pos ⟨rfl, rfl⟩]
      have b173 : ∀ j, wI (mPut b c) 173 j = if L ≤ j ∧ j < L + N then xAt c N (j - L) else wI b 173 j := fun j => by
        rw [eM, wIf_ne (by decide)]
        refine itI_ind (f := mPut1 c N L) (a := b) (fun i r => wI r 173 j = if L ≤ j ∧ j < L + i then xAt c N (j - L) else wI b 173 j) N (by rw [if_neg (by omega)]) (fun i r i0 i1 hr => ?_) N (by omega) (Int.le_refl _)
        unfold mPut1
        rw [wI_wsI]
        by_cases e : j = L + i
        · rw [if_pos ⟨rfl, e⟩, if_pos (by omega), show j - L = i by omega]
        · rw [if_neg (fun q => e q.2), hr]
          by_cases e3 : L ≤ j ∧ j < L + i
          · rw [if_pos e3, if_pos (by omega)]
          · rw [if_neg e3, if_neg (by omega)]
      have hch : ∀ j, L ≤ j → j < L + N → kAt c (N - 1 - (j - L)) = xAt c N (j - L) ∧ 33 ≤ xAt c N (j - L) ∧ xAt c N (j - L) ≤ 126 := fun j j0 j1 => by
        rw [kAt_u c (by omega) (by omega), xAt_u c (by omega) (by omega)]
        have := e2 (by omega) (N - 1 - (j - L)).toNat (by omega)
        exact ⟨rfl, by omega, by omega⟩
      have gT : sT (kApp a c N) := sFr_sT ka.1 l1.1
      have hT : sT (mPut b c) := by rw [eM]; exact sT_wsI (mb.2 r1.1.1)
      have gv : ∀ x, (x + 7 < 83 ∨ 84 < x) → vL (kApp a c N) x = vL a x := fun x hx => vL_of8 (fun k hk => a1 _ (by omega) (by omega))
      have gL : ∀ i, hLn (kApp a c N) i = hLn a i := fun i => by unfold hLn; rw [ka.1.R]
      have bp : ∀ i, bPast (mPut b c) i = bPast b i := fun i => funext fun k => by unfold bPast; rw [b4 2 (by decide), b1 156 (by decide) (by decide)]
      have bs : ∀ i, bSlot (mPut b c) i = bSlot b i := fun i => funext fun k => by unfold bSlot; rw [b1 157 (by decide) (by decide)]
      obtain ⟨k1, k2, k3, k4⟩ := hko
      refine ⟨⟨⟨⟨gT, is2, by rw [gv 2 (by decide)]; exact l1.2.2⟩, by rw [a1 86 (by decide) (by decide)]; exact l2⟩, fun i j i0 i1 j0 j1 hne => by rw [gL, gL]; exact hd i j i0 i1 j0 j1 hne, ⟨sT_wsI gT, ?_, ?_, fun k => ?_⟩⟩, ⟨mGd0_c r1 hT (by rw [b1 155 (by decide) (by decide)]; exact r1.1.2) (b4 20 (by decide)) (fun x h0 h1 => b1 x (by omega) (by omega)), mCh_c r2 (b4 17 (by decide)) (b4 18 (by decide)) (b4 20 (by decide)) (fun x h0 h1 => b1 x (by omega) (by omega)), by unfold mH; rw [b4 2 (by decide), b4 3 (by decide)]; exact r3, tOK_F0.mpr ⟨hT, by rw [b24]; omega, fun k => ?_⟩, fun i i0 i1 => by rw [bp]; exact r5 i i0 (by rw [b4 3 (by decide)] at i1; exact i1), fun s s0 s1 => by rw [b1 158 (by decide) (by decide), bs]; exact r6 s s0 s1⟩, by rw [gv 2 (by decide), b1 155 (by decide) (by decide)]; exact x1, ⟨by rw [a1 86 (by decide) (by decide), b4 3 (by decide)]; exact x2.1, fun i i0 i1 => ?_⟩, fun s s0 s1 => ?_, by rw [ka.2, b24], fun i i0 i1 => ?_⟩
      · unfold kF0; rw [wI_wsI, if_neg (by omega), ka.2]; omega
      · unfold kF0; rw [wI_wsI, if_pos ⟨rfl, rfl⟩]; omega
      · have e : wI (kF0 (kApp a c N)) 84 k = wI (kApp a c N) 84 k := rfl
        have e' : wI (kF0 a) 84 k = wI a 84 k := rfl
        have q4 := k4 k
        rw [e'] at q4
        rw [e, a84]
        by_cases q : L ≤ k ∧ k < L + N
        · rw [if_pos q]
          have := hch k q.1 q.2
          omega
        · rw [if_neg q]; exact q4
      · rw [b173]
        by_cases q : L ≤ k ∧ k < L + N
        · rw [if_pos q]
          have := hch k q.1 q.2
          omega
        · rw [if_neg q]; exact t.2.2 k
      · rw [b4 3 (by decide)] at i1
        have := hLn_mem l1.1 i0 (by have := r3.2; omega)
        rw [gL, gv _ (by omega), bp]
        exact x2.2 i i0 i1
      · have hc := cSl_b s
        rw [a1 137 (by decide) (by decide), b1 158 (by decide) (by decide), gv _ (by omega), bs]
        exact x3 s s0 s1
      · rw [b24] at i1
        rw [a84, b173]
        by_cases q : L ≤ i ∧ i < L + N
        · rw [if_pos q, if_pos q]
          exact (hch i q.1 q.2).1
        · rw [if_neg q, if_neg q]
          exact x4.2 i i0 (by omega)
