/-! STEPS OF A RUN: orders carried out -/
/-- what was read stays -/
def tP (b z : sm_W) : Prop := (∀ k, k < wI b 154 27 → wI z 174 k = wI b 174 k) ∧ (∀ i, i < 5 * wI b 154 27 → wI z 175 i = wI b 175 i) ∧ wI b 154 27 ≤ wI z 154 27
theorem tP.rf (b : sm_W) : tP b b := ⟨fun _ _ => rfl, fun _ _ => rfl, Int.le_refl _⟩
theorem tP.tr {b z y : sm_W} (h : tP b z) (k : tP z y) : tP b y := by
  have h3 := h.2.2
  exact ⟨fun i hi => (k.1 i (by omega)).trans (h.1 i hi), fun i hi => (k.2.1 i (by omega)).trans (h.2.1 i hi), Int.le_trans h3 k.2.2⟩
theorem tP_54 (b : sm_W) {k v : Int} (hk : k ≠ 27) : tP b (wsI b 154 k v) := ⟨fun i _ => by rw [wIf_ne (by decide)], fun i _ => by rw [wIf_ne (by decide)], by rw [wI_wsI, if_neg (fun q => hk q.2.symm)]; exact Int.le_refl _⟩
theorem tP_75 (b : sm_W) {i v : Int} (hi : 5 * wI b 154 27 ≤ i) : tP b (wsI b 175 i v) := ⟨fun k _ => by rw [wIf_ne (by decide)], fun k hk => by rw [wI_wsI, if_neg (fun q => by omega)], by rw [wIf_ne (by decide)]; exact Int.le_refl _⟩
theorem tP_W (b : sm_W) (x y : Int) : tP b (tW b x y) := (tP_54 b (by decide)).tr (tP_54 _ (by decide))
theorem tP_S (b : sm_W) (s : Int) : tP b (tSign b s) := by
  unfold tSign
  split <;> exact tP_W _ _ _
theorem tP_O (b : sm_W) {n : Int} (hn : 0 ≤ n) (hi : Int) : tP b (tOne b n hi) := by
  unfold tOne
  split
  · refine ((tP_54 b (by decide)).tr (tP_75 _ ?_)).tr (tP_54 _ (by decide))
    rw [wI_wsI, if_neg (by omega)]
    omega
  · exact tP_54 b (by decide)
theorem tP_NL {n : Int} (hn : 0 ≤ n) : ∀ (m : Nat) (b : sm_W) (v : Int), tP b (tNumL m b n v) := by
  intro m
  induction m with
  | zero => intro b v; exact tP_75 b (by omega)
  | succ m ih =>
    intro b v
    rw [tNumL_s]
    split
    · split
      · exact (tP_W b _ _).tr (ih _ _)
      · exact (tP_W b _ _).tr (ih _ _)
    · exact tP_75 b (by omega)
theorem tP_N (b : sm_W) {n : Int} (hn : 0 ≤ n) : tP b (tNum b n) := by
  unfold tNum
  split
  · exact (tP_W b _ _).tr (tP_NL hn _ _ _)
  · exact tP_54 b (by decide)
theorem tP_Sh (b : sm_W) : tP b (tSh b) := by
  have h5 : tP b (tSh5 b) := ((((tP_O b (by decide) _).tr (tP_S _ _)).tr (tP_O _ (by decide) _)).tr (tP_S _ _)).tr (tP_N _ (by decide))
  have h7 : ∀ z, tP z (tSh7 z) := fun z => (tP_75 z (i := 5 * wI z 154 27 + 3) (by omega)).tr (tP_75 _ (by rw [wIf_ne (by decide)]; omega))
  have hP : ∀ z, tP z (tShP z) := fun z => by
    unfold tShP
    split
    · exact ((h7 z).tr (tP_54 _ (by decide))).tr (tP_N _ (by decide))
    · exact h7 z
  have hC : ∀ z, tP z (tShC z) := fun z => by
    unfold tShC
    split
    · exact (tP_54 z (by decide)).tr (tP_O _ (by decide) _)
    · exact tP.rf z
  exact (h5.tr (hP _)).tr (hC _)
theorem tP_B (b : sm_W) (c : Int) : tP b (tBody b c) := by
  unfold tBody
  split
  · exact tP_Sh b
  · split
    · exact ((tP_O b (by decide) _).tr (tP_S _ _)).tr (tP_N _ (by decide))
    · split
      · exact ((tP_O b (by decide) _).tr (tP_S _ _)).tr (tP_N _ (by decide))
      · split
        · exact ((tP_O b (by decide) _).tr (tP_S _ _)).tr (tP_N _ (by decide))
        · split
          · exact ((tP_O b (by decide) _).tr (tP_S _ _)).tr (tP_O _ (by decide) _)
          · split
            · exact tP_O b (by decide) _
            · exact (tP_54 b (by decide)).tr (tP_54 _ (by decide))
theorem tP_Ord (b : sm_W) : tP b (tOrd b) := by
  have h1 : tP b (tOrd0 b) := (tP_54 b (v := wI b 154 25 + 1) (by decide)).tr (tP_B _ _)
  refine h1.tr ?_
  have e : tOrd b = tOrdE (tNext b) (tOrd0 b) := rfl
  rw [e]
  generalize tNext b = c
  generalize tOrd0 b = z
  unfold tOrdE
  split
  · refine ⟨fun k hk => ?_, fun i hi => ?_, ?_⟩
    · rw [wIf_ne (by decide), wI_wsI, if_neg (fun q => by omega)]
    · rw [wIf_ne (by decide), wIf_ne (by decide)]
    · rw [wI_wsI, if_pos ⟨rfl, rfl⟩]; omega
  · exact tP.rf z
theorem tP_Fl : ∀ (m : Nat) (b : sm_W), tP b (tFl m b) := by
  intro m
  induction m with
  | zero => intro b; exact tP.rf b
  | succ m ih =>
    intro b
    rw [tFl_s]
    split
    · split
      · exact ((tP_S b 59).tr (tP_Ord _)).tr (ih _)
      · exact (tP_S b 59).tr (ih _)
    · exact tP.rf b
/-- one order, for both lines -/
theorem ob_eq {p q : sm_W} {r : Int} (hL : lOK p 2) (hO : mOK q) (he : eq57 (vL p 2) (wI q 155)) (hk : wI p 83 3 = wI q 174 r) (hn : ∀ j, jK (wI q 174 r) j → 0 ≤ j → j < 5 → wI p 85 j = wI q 175 (5 * r + j)) (hc : wI q 174 r = 115 ∨ wI q 174 r = 108 ∨ wI q 174 r = 116 ∨ wI q 174 r = 114 ∨ wI q 174 r = 112 ∨ wI q 174 r = 120) : kObA p 2 = cAns q r ∧ eq57 (vL (kObW p 2) 2) (wI (cW q r) 155) := by
  have hv := hO.2
  have hm := vOK_many hv
  have n7 : wI p 2 7 = wI q 155 1 := he 1 (by decide) (by decide)
  have lv : ∀ x, 0 ≤ x → x < wI q 155 1 → wI p (2 + 5) x = wI q 155 (17 + 5 * x + 2) ∧ wI p (2 + 7) x = wI q 155 (17 + 5 * x + 4) := fun x x0 x1 => by
    have s := vL_s p 2 x0
    exact ⟨s.2.2.1.symm.trans (he _ (by omega) (by omega)), s.2.2.2.2.symm.trans (he _ (by omega) (by omega))⟩
  have j0 : jK (wI q 174 r) 0 := by
    unfold jK
    split
    · trivial
    · split
      · rfl
      · exact Or.inl rfl
  have m0 : wI p 85 0 = wI q 175 (5 * r) := by
    have := hn 0 j0 (by decide) (by decide)
    rw [Int.add_zero] at this
    exact this
  have m1 : wI q 174 r ≠ 120 → wI p 85 1 = wI q 175 (5 * r + 1) := fun h => hn 1 (by
    unfold jK
    split
    · trivial
    · first
        | exact Or.inr rfl
        | (rw [if_neg h]; exact Or.inr rfl)) (by decide) (by decide)
  unfold kObA kObW cAns cW
  rw [hk, m0, n7]
  generalize hx : wI q 175 (5 * r) = x at *
  rcases hc with c | c | c | c | c | c
  · have a1 := m1 (by omega)
    have jj : ∀ j, jK (wI q 174 r) j := fun j => by unfold jK; rw [if_pos c]; trivial
    have a2 := hn 2 (jj 2) (by decide) (by decide)
    have a3 := hn 3 (jj 3) (by decide) (by decide)
    have a4 := hn 4 (jj 4) (by decide) (by decide)
    rw [if_pos c, if_pos c, if_pos c, if_pos c, a1, a2, a3, a4]
    refine ⟨rfl, ?_⟩
    split
    · exact he
    · split
      · exact he
      · rw [vL_new p 2 (by rw [n7]; exact hm.1), mKf_0]
        exact mNew_57 (w := wOf (vL p 2)) (show eq57 (vL p 2) (wI q 155) from he) _ _ _ _ _
  · have a1 := m1 (by omega)
    have eE : lLateE p 2 x (wI q 175 (5 * r + 1)) = mLateE q x (wI q 175 (5 * r + 1)) := by
      unfold lLateE mLateE
      rw [n7]
      by_cases c2 : 0 ≤ x ∧ x < wI q 155 1
      · rw [(lv x c2.1 c2.2).1]
      · rw [if_neg c2, if_neg c2]
    have nc : ¬ wI q 174 r = 115 := by omega
    rw [if_neg nc, if_neg nc, if_neg nc, if_neg nc, if_pos c, if_pos c, if_pos c, if_pos c, a1, eE]
    by_cases c2 : mLateE q x (wI q 175 (5 * r + 1)) < 0
    · rw [if_pos c2, if_pos c2, if_pos c2, if_pos c2]
      exact ⟨rfl, he⟩
    · have c0 := mLateE_0 c2
      rw [if_neg c2, if_neg c2, if_neg c2, if_neg c2, (lv x c0.1 c0.2.1).1, mKf_0, vL_u5 p 2 _ c0.1, wI_updI]
      exact ⟨rfl, he.up _ _⟩
  · have a1 := m1 (by omega)
    have n1 : ¬ wI q 174 r = 115 := by omega
    have n2 : ¬ wI q 174 r = 108 := by omega
    rw [if_neg n1, if_neg n1, if_neg n1, if_neg n1, if_neg n2, if_neg n2, if_neg n2, if_neg n2, if_pos c, if_pos c, if_pos c, if_pos c, a1]
    by_cases c2 : 0 ≤ x ∧ x ≤ 7
    · rw [if_pos c2, if_pos c2, if_pos c2, if_pos c2]
      by_cases c3 : 1 ≤ wI q 175 (5 * r + 1) ∧ wI q 175 (5 * r + 1) ≤ 4
      · rw [if_pos c3, if_pos c3, if_pos c3, if_pos c3, mKf_0, vL_u1 p 2 _ c2.1 (by omega), wI_updI]
        refine ⟨?_, he.up _ _⟩
        rw [← he (2 + x) (by omega) (by omega)]
        exact (vL_t p 2 c2.1 (by omega)).symm
      · rw [if_neg c3, if_neg c3, if_neg c3, if_neg c3]
        exact ⟨rfl, he⟩
    · rw [if_neg c2, if_neg c2, if_neg c2, if_neg c2]
      exact ⟨rfl, he⟩
  · have a1 := m1 (by omega)
    have n1 : ¬ wI q 174 r = 115 := by omega
    have n2 : ¬ wI q 174 r = 108 := by omega
    have n3 : ¬ wI q 174 r = 116 := by omega
    rw [if_neg n1, if_neg n1, if_neg n1, if_neg n1, if_neg n2, if_neg n2, if_neg n2, if_neg n2, if_neg n3, if_neg n3, if_neg n3, if_neg n3, if_pos c, if_pos c, if_pos c, if_pos c, a1]
    by_cases c2 : 0 ≤ x ∧ x ≤ 6
    · rw [if_pos c2, if_pos c2, if_pos c2, if_pos c2]
      by_cases c3 : 1 ≤ wI q 175 (5 * r + 1) ∧ wI q 175 (5 * r + 1) ≤ 30
      · rw [if_pos c3, if_pos c3, if_pos c3, if_pos c3, mKf_0, vL_u2 p 2 _ c2.1 (by omega), wI_updI]
        refine ⟨?_, he.up _ _⟩
        rw [← he (10 + x) (by omega) (by omega)]
        exact (vL_r p 2 c2.1 (by omega)).symm
      · rw [if_neg c3, if_neg c3, if_neg c3, if_neg c3]
        exact ⟨rfl, he⟩
    · rw [if_neg c2, if_neg c2, if_neg c2, if_neg c2]
      exact ⟨rfl, he⟩
  · have a1 := m1 (by omega)
    have n1 : ¬ wI q 174 r = 115 := by omega
    have n2 : ¬ wI q 174 r = 108 := by omega
    have n3 : ¬ wI q 174 r = 116 := by omega
    have n4 : ¬ wI q 174 r = 114 := by omega
    rw [if_neg n1, if_neg n1, if_neg n1, if_neg n1, if_neg n2, if_neg n2, if_neg n2, if_neg n2, if_neg n3, if_neg n3, if_neg n3, if_neg n3, if_neg n4, if_neg n4, if_neg n4, if_neg n4, if_pos c, if_pos c, if_pos c, if_pos c, a1]
    by_cases c2 : 0 ≤ x ∧ x < wI q 155 1
    · rw [if_pos c2, if_pos c2, if_pos c2, if_pos c2]
      by_cases c3 : 0 ≤ wI q 175 (5 * r + 1) ∧ wI q 175 (5 * r + 1) ≤ 9
      · rw [if_pos c3, if_pos c3, if_pos c3, if_pos c3, mKf_0, vL_u7 p 2 _ c2.1, wI_updI]
        exact ⟨(lv x c2.1 c2.2).2, he.up _ _⟩
      · rw [if_neg c3, if_neg c3, if_neg c3, if_neg c3]
        exact ⟨rfl, he⟩
    · rw [if_neg c2, if_neg c2, if_neg c2, if_neg c2]
      exact ⟨rfl, he⟩
  · have n1 : ¬ wI q 174 r = 115 := by omega
    have n2 : ¬ wI q 174 r = 108 := by omega
    have n3 : ¬ wI q 174 r = 116 := by omega
    have n4 : ¬ wI q 174 r = 114 := by omega
    have n5 : ¬ wI q 174 r = 112 := by omega
    rw [if_neg n1, if_neg n1, if_neg n1, if_neg n1, if_neg n2, if_neg n2, if_neg n2, if_neg n2, if_neg n3, if_neg n3, if_neg n3, if_neg n3, if_neg n4, if_neg n4, if_neg n4, if_neg n4, if_neg n5, if_neg n5, if_neg n5, if_neg n5, if_pos c, if_pos c]
    by_cases c2 : 0 ≤ x ∧ x < wI q 155 1
    · rw [if_pos c2, if_pos c2, if_pos c2]
      refine ⟨rfl, (vL_rm c2.1 (by rw [n7]; exact c2.2) 0).tr (mRm_57 ?_ hv c2.1 c2.2)⟩
      exact he
    · rw [if_neg c2, if_neg c2, if_neg c2]
      exact ⟨rfl, he⟩
/-- the class obeys order by order, the reference carries out what it has read -/
theorem obey : ∀ (n m1 m2 : Nat) (a b q : sm_W) (r : Int), sy a b r → wI b 154 26 = 0 → 3 * r ≤ wI b 154 25 → wI b 154 25 ≤ wI b 154 24 → wI b 154 24 - wI b 154 25 + 3 ≤ 3 * n → wI (tFl m1 (tOrd b)) 154 26 = 0 → wI b 154 24 - wI b 154 25 ≤ 3 * m1 → lOK a 2 → mOK q → eq57 (vL a 2) (wI q 155) → wI q 154 27 = wI (tFl m1 (tOrd b)) 154 27 → wI q 174 = wI (tFl m1 (tOrd b)) 174 → wI q 175 = wI (tFl m1 (tOrd b)) 175 → wI (tFl m1 (tOrd b)) 154 27 - r < m2 → 0 ≤ r → (kOb n a r).2 = (cLp m2 q r).2 ∧ eq57 (vL (kOb n a r).1 2) (wI (cLp m2 q r).1 155) ∧ mOK (cLp m2 q r).1 ∧ (∀ x, x ≠ 155 → wI (cLp m2 q r).1 x = wI q x) := by
  intro n
  induction n with
  | zero =>
    intro m1 m2 a b q r _ _ _ hs hn
    exfalso
    omega
  | succ n ih =>
    intro m1 m2 a b q r h hw hr hs' hn hF hm1 hL hO he h27 h174 h175 hm2 r0
    have hLn := h.2.1.2.1
    have hs : wI b 154 25 ≤ 80 := by omega
    have hr27 : r ≤ 27 := by omega
    obtain ⟨k1, k2, k3, _⟩ := pOrd h hw hs hr27
    have hb26 : wI (tOrd b) 154 26 = 0 := by
      rcases k2.2.2.2.1 with z | z
      · exact z
      · rw [tFl_w z] at hF; omega
    obtain ⟨l1, l2, l3, l4, l5, l6, l7, l8⟩ := pOrd_len h hw hs hr27 hb26
    have nx := sy_nx h
    have hlt : wI a 83 2 < wI a 83 0 := by
      have := (kNx_b h.1).2.2 (by omega)
      exact this
    have e24 := (tOrd_same b).2.1 24 (by decide) (by decide) (by decide)
    have r27 : wI (tOrd b) 154 27 = r + 1 := l2.2.2.2.2.2
    obtain ⟨t1, t2, t3⟩ := tP_Fl m1 (tOrd b)
    rw [r27] at t1 t2 t3
    have q174 : wI q 174 r = kNx a := by rw [h174, t1 r (by omega), l5]
    have hki := kOrd_in h.1 (by rw [h.2.2.2.2.1]; exact hs)
    have hfa := hki.1
    have hLp := sRd_l hfa hL
    have vp : vL (kOrd a).1 2 = vL a 2 := vL_of8 (fun k hk => hfa.outA (fun i v hs => by unfold sRd at hs; omega))
    have ob := ob_eq (r := r) hLp hO (by rw [vp]; exact he) (by rw [l6, q174]) (fun j hj j0 j1 => by rw [q174] at hj; rw [l7 j hj j0 j1, h175, t2 _ (by omega)]) (by rw [q174]; exact l8)
    have oi := kOb_in hLp
    have cs := cW_st hO r
    obtain ⟨m2, rfl⟩ : ∃ j, m2 = j + 1 := ⟨m2 - 1, by omega⟩
    rw [kOb_s, if_pos hlt, if_neg (by rw [l1]; decide), cLp_s, if_pos (show r < wI q 154 27 by rw [h27]; omega), ob.1]
    by_cases c : cAns q r < 0
    · rw [if_pos c, if_pos c]
      refine ⟨rfl, ?_, hO, fun _ _ => rfl⟩
      have := ob.2
      rw [cs.2.2 c] at this
      exact this
    · rw [if_neg c, if_neg c]
      have hkw := kOK_ob k1 hLp
      have f2 := oi.1
      have sy2 : sy (kObW (kOrd a).1 2) (tOrd b) (r + 1) := by
        obtain ⟨s1, s2, s3, s4, s5, s6⟩ := l2
        have e83 : wI (kObW (kOrd a).1 2) 83 = wI (kOrd a).1 83 := f2.outA (fun i v hs => by unfold sLn at hs; omega)
        have e84 : wI (kObW (kOrd a).1 2) 84 = wI (kOrd a).1 84 := f2.outA (fun i v hs => by unfold sLn at hs; omega)
        exact ⟨hkw, s2, by rw [e83]; exact s3, by rw [e84]; exact s4, by rw [e83]; exact s5, s6⟩
      have g := pS (s := 59) (J := fun _ => False) (by decide) sy2 hb26 (fun j hj => absurd hj id)
      have vS : ∀ u, vL (kS 59 u).1 2 = vL u 2 := fun u => by
        unfold kS
        split
        · exact vL_of8 (fun k hk => wIf_ne (by omega))
        · rfl
      have lS : ∀ u, lOK u 2 → lOK (kS 59 u).1 2 := fun u hu => ⟨by unfold kS; split; exact sT_wsI hu.1; exact hu.1, is2, by rw [vS]; exact hu.2.2⟩
      by_cases c3 : wI (tOrd b) 154 25 = wI (tOrd b) 154 24
      · -- the text is at its end
        have eF : tFl m1 (tOrd b) = tOrd b := tFl_e (by omega) m1
        have kz : kNx (kObW (kOrd a).1 2) = 0 := by
          unfold kNx
          rw [if_neg (by rw [sy2.2.2.1, sy2.2.2.2.2.1]; omega)]
        have eS : kS 59 (kObW (kOrd a).1 2) = (kObW (kOrd a).1 2, 0) := by unfold kS; rw [if_neg (by rw [kz]; decide)]
        have eK : kOb n (kS 59 (kObW (kOrd a).1 2)).1 (r + 1) = (kObW (kOrd a).1 2, r + 1) := by
          rw [eS]
          cases n with
          | zero => rfl
          | succ n => rw [kOb_s, if_neg (by show ¬ wI (kObW (kOrd a).1 2) 83 2 < wI (kObW (kOrd a).1 2) 83 0; rw [sy2.2.2.1, sy2.2.2.2.2.1]; omega)]
        have eC : cLp m2 (cW q r) (r + 1) = (cW q r, r + 1) := by
          cases m2 with
          | zero => rfl
          | succ m2 => rw [cLp_s, if_neg (by rw [cs.2.1 154 (by decide), h27, eF, r27]; omega)]
        rw [eK, eC]
        exact ⟨rfl, ob.2, cs.1, cs.2.1⟩
      · have hlt2 : wI (tOrd b) 154 25 < wI (tOrd b) 154 24 := by omega
        obtain ⟨m1, rfl⟩ : ∃ j, m1 = j + 1 := ⟨m1 - 1, by omega⟩
        have eF : tFl (m1 + 1) (tOrd b) = (if wI (tSign (tOrd b) 59) 154 26 = 0 then tFl m1 (tOrd (tSign (tOrd b) 59)) else tFl m1 (tSign (tOrd b) 59)) := by rw [tFl_s, if_pos (show _ ∧ _ from ⟨hb26, hlt2⟩)]
        have w26 : wI (tSign (tOrd b) 59) 154 26 = 0 := by
          apply Classical.byContradiction
          intro z
          rw [eF, if_neg z] at hF
          have z1 : wI (tSign (tOrd b) 59) 154 26 = 1 := by
            rcases g.2 with ⟨_, z2, _⟩ | ⟨_, z2⟩
            · exact absurd z2 z
            · exact z2
          rw [tFl_w z1] at hF
          omega
        rw [if_pos w26] at eF
        rw [eF] at hF h27 h174 h175 hm2 t3
        have hcc : tNext (tOrd b) = 59 := by
          apply Classical.byContradiction
          intro z
          have e2 : tSign (tOrd b) 59 = tW (tOrd b) 1 (wI (tOrd b) 154 25) := by unfold tSign; rw [if_neg (fun y => z y.2)]
          rw [e2] at w26
          unfold tW at w26
          rw [wI_wsI, if_neg (by omega), wI_wsI, if_pos ⟨rfl, rfl⟩] at w26
          exact absurd w26 (by decide)
        have e2 : tSign (tOrd b) 59 = tW (tOrd b) 0 (wI (tOrd b) 154 25 + 1) := by unfold tSign; rw [if_pos ⟨hb26, hcc⟩]
        have e25 : wI (tSign (tOrd b) 59) 154 25 = wI (tOrd b) 154 25 + 1 := by rw [e2]; unfold tW; rw [wI_wsI, if_pos ⟨rfl, rfl⟩]
        have e24' : wI (tSign (tOrd b) 59) 154 24 = wI b 154 24 := by rw [(tSign_same (tOrd b) 59).2.1 24 (by decide) (by decide) (by decide), e24]
        have i := ih m1 m2 (kS 59 (kObW (kOrd a).1 2)).1 (tSign (tOrd b) 59) (cW q r) (r + 1) g.1 w26 (by rw [e25]; omega) (by rw [e25, e24']; omega) (by rw [e25, e24']; omega) hF (by rw [e25, e24']; omega) (lS _ oi.2.1) cs.1 (by rw [vS]; exact ob.2) (by rw [cs.2.1 154 (by decide)]; exact h27) (by rw [cs.2.1 174 (by decide)]; exact h174) (by rw [cs.2.1 175 (by decide)]; exact h175) (by omega) (by omega)
        exact ⟨i.1, i.2.1, i.2.2.1, fun x hx => (i.2.2.2 x hx).trans (cs.2.1 x hx)⟩
