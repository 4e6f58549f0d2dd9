/-! STEPS OF A RUN: the best order -/
def wrow (w : sm_W) (x : Nat) (f : Int → Int) : sm_W := (w.1, w.2.1, (fun y j => if y = x then f j else w.2.2.1 y j), w.2.2.2)
theorem wrow_I (w : sm_W) (x : Nat) (f : Int → Int) : wI (wrow w x f) x = f := funext fun j => if_pos rfl
theorem wrow_ne {w : sm_W} {x y : Nat} {f : Int → Int} (h : y ≠ x) : wI (wrow w x f) y = wI w y := funext fun j => if_neg h
theorem wrow_T {w : sm_W} {x : Nat} {f : Int → Int} (h : sT w) : sT (wrow w x f) := h
def qF (q : List Nat) (j : Int) : Int := (q.getD j.toNat 0 : Nat)
theorem qF_y {n : Nat} {q : List Nat} (h : q.length = n) : yE n (qF q) q := ⟨h, fun p _ => rfl⟩
theorem LC_u0 {g f : Int → Int} (h : eq57 f g) (hm : 0 ≤ g 1 ∧ g 1 ≤ 8) : LC g (updI f 0 0) := by
  have ne : ∀ j, 0 < j → j < 57 → updI f 0 0 j = g j := fun j j0 j1 => by
    unfold updI
    rw [if_neg (by omega)]
    exact h j (by omega) j1
  refine ⟨if_pos rfl, ne 1 (by decide) (by decide), fun j j0 j1 => ne j (by omega) (by omega), fun x x0 x1 => ⟨ne _ (by omega) (by omega), ne _ (by omega) (by omega), ne _ (by omega) (by omega), ne _ (by omega) (by omega)⟩⟩
theorem JC_0 {a b : sm_W} (h : Rel a b) {n : Nat} (hg : wI b 155 1 = n) (hn : n ≤ 5) : JC a (wI b 155) n (-6, []) (tW0 34 n (cT a)) ∧ zE n (tW0 34 n (cT a)) (List.range n) ∧ wI (cT a) (34 + 1) 7 = n := by
  have hl := h.1.1.1
  have k := cT_in hl
  have e57 : eq57 (vL (cT a) 35) (wI b 155) := k.2.2.2.1.tr h.2.2.1
  have hm := vOK_many h.2.1.1.1.2
  have hD : dOK (cT a) 34 := ⟨Or.inr rfl, k.2.1⟩
  have en : wI (cT a) (34 + 1) 7 = n := by
    have : wI (cT a) (34 + 1) 7 = wI b 155 1 := e57 1 (by decide) (by decide)
    rw [this, hg]
  have hI := tW0_i hD
  rw [en] at hI
  have ho := tO1_in (cT a) n (by omega)
  have f1 : sFr (fun x _ _ => x = 80 ∨ x = 82) (cT a) (wsI (itI tO1 (cT a) n) 80 1 (-6)) := (ho.1.mono (fun a i v h => Or.inr h)).st (Or.inl rfl)
  have hv : vL (wsI (itI tO1 (cT a) n) 80 1 (-6)) 35 = vL (cT a) 35 := vL_cong (fun k hk => f1.outA (fun i v hs => by omega))
  refine ⟨⟨?_, hI, ?_, ?_, fun e => absurd e (by decide)⟩, ⟨List.length_range, fun p hp => ?_⟩, en⟩
  · unfold tW0
    exact cAg_st (cAg_fS (cT_ag hl) f1 (fun x i v hs => by omega)) (by omega)
  · unfold tW0
    rw [show (34 + 1 : Nat) = 35 from rfl, vL_u8, hv]
    exact LC_u0 e57 hm
  · unfold tW0
    rw [wI_wsI, if_neg (by omega), wI_wsI, if_pos ⟨rfl, rfl⟩]
  · unfold tW0
    rw [wIf_ne (by decide), wIf_ne (by decide), ho.2 p (by omega) (by omega), List.getD_eq_getElem?_getD, List.getElem?_range hp]
    rfl
theorem JR_0 {a b : sm_W} (h : Rel a b) {n : Nat} (hg : wI b 155 1 = n) : JR b (wI b 155) n (-6, []) (mBo0 b, -6) := by
  have hm := vOK_many h.2.1.1.1.2
  have k := mBo0_gd h.2.1.1
  have m0 := mAs0_in b
  have o : ∀ x, x ≠ 155 → x ≠ 159 → wI (mBo0 b) x = wI b x := fun x h1 h2 => by
    unfold mBo0
    rw [wIf_ne h1, m0.1 x h2]
  refine ⟨k.1, mCh_of h.2.1.2.1 (fun x h1 h2 _ _ => o x h1 h2), ?_, fun x hx => o x (by omega) (by omega), ?_, fun j j0 j1 => ?_, rfl, fun e => absurd e (by decide)⟩
  · show LC _ (wI (wsI (mAs0 b) 155 0 0) 155)
    rw [wI_updI, m0.1 155 (by decide)]
    exact LC_u0 (eq57.rf _) hm
  · show wI (mBo0 b) 154 2 = _ ∧ wI (mBo0 b) 154 3 = _ ∧ wI (mBo0 b) 154 24 = _
    rw [o 154 (by decide) (by decide)]
    exact ⟨rfl, rfl, rfl⟩
  · show wI (wsI (mAs0 b) 155 0 0) 159 j = _
    rw [wIf_ne (by decide)]
    exact mAs0_at b j0 j1
/-- how late the day is in the order q -/
def bD (b : sm_W) (q : List Nat) : Int := mDl (mRun (mDo (wrow (mBo0 b) 171 (qF q))))
theorem bo_v0 {a b : sm_W} (h : Rel a b) {n : Nat} (hg : wI b 155 1 = n) {q : List Nat} (hq : q.length = n) : mGd0 (wrow (mBo0 b) 171 (qF q)) ∧ mCh (wrow (mBo0 b) 171 (qF q)) ∧ LC (wI b 155) (wI (wrow (mBo0 b) 171 (qF q)) 155) ∧ yE n (wI (wrow (mBo0 b) 171 (qF q)) 171) q := by
  obtain ⟨h1, h2, h3, -⟩ := JR_0 h hg
  dsimp only at h1 h2 h3
  refine ⟨mGd0_of h1 (wrow_T h1.1.1) (by rw [wrow_ne (by decide)]; exact h1.1.2) (fun x _ _ h _ => wrow_ne h), mCh_of h2 (fun x _ _ h _ => wrow_ne h), by rw [wrow_ne (by decide)]; exact h3, by rw [wrow_I]; exact qF_y hq⟩
theorem bo_u0 {a b : sm_W} (h : Rel a b) {n : Nat} (hg : wI b 155 1 = n) (hn : n ≤ 5) {q : List Nat} (hq : pOk n q = true) : tI (wrow (tW0 34 n (cT a)) 82 (qF q)) 34 n ∧ LC (wI b 155) (vL (wrow (tW0 34 n (cT a)) 82 (qF q)) 35) ∧ zE n (wrow (tW0 34 n (cT a)) 82 (qF q)) q := by
  obtain ⟨⟨-, h2, h3, -⟩, -, -⟩ := JC_0 h hg hn
  obtain ⟨q1, q2, q3, q4⟩ := pOk_s hq
  have hv : vL (wrow (tW0 34 n (cT a)) 82 (qF q)) (34 + 1) = vL (tW0 34 n (cT a)) (34 + 1) := vL_cong (fun k hk => wrow_ne (by omega))
  refine ⟨⟨⟨h2.1.1, wrow_T h2.1.2.1, h2.1.2.2.1, by rw [hv]; exact h2.1.2.2.2⟩, by rw [wrow_ne (by decide)]; exact h2.2.1, fun p p0 p1 => ?_⟩, ?_, q1, fun p hp => ?_⟩
  · rw [wrow_I]
    unfold qF
    have := q2 p.toNat (by omega)
    omega
  · rw [show vL (wrow (tW0 34 n (cT a)) 82 (qF q)) 35 = vL (tW0 34 n (cT a)) 35 from hv]
    exact h3
  · rw [wrow_I]
    rfl
theorem bo_all {a b : sm_W} (h : Rel a b) {n : Nat} (hg : wI b 155 1 = n) (hn : n ≤ 5) : ∃ best : Int × List Nat, JC a (wI b 155) n best (tAll 34 (cT a)) ∧ JR b (wI b 155) n best (mBo b (mOrds (wI b 155 1) (wI b 155 1))) := by
  obtain ⟨c0, z0, en⟩ := JC_0 h hg hn
  have r0 := JR_0 h hg
  have hA : ∀ best u q, JC a (wI b 155) n best u → zE n u q → pOk n q = true → xDl (xRun 34 (tPr 34 n u)) 34 = bD b q := fun best u q hj hz hq => by
    obtain ⟨v1, v2, v3, v4⟩ := bo_v0 h hg (pOk_s hq).1
    exact bo_AB hq hg hn hj.2.1 hj.2.2.1 hz v1 v2 v3 v4
  have hB : ∀ v q, mGd0 v → mCh v → LC (wI b 155) (wI v 155) → yE n (wI v 171) q → pOk n q = true → mDl (mRun (mDo v)) = bD b q := fun v q w1 w2 w3 w4 hq => by
    obtain ⟨v1, v2, v3, v4⟩ := bo_v0 h hg (pOk_s hq).1
    obtain ⟨u1, u2, u3⟩ := bo_u0 h hg hn hq
    exact (bo_AB hq hg hn u1 u2 u3 w1 w2 w3 w4).symm.trans (bo_AB hq hg hn u1 u2 u3 v1 v2 v3 v4)
  have hOk := pOks n (by omega)
  have hC := JC_all (Dq := bD b) hn hA 120 (List.range n) 1 _ _ c0 z0 (by rw [pEq n (by omega)]; exact hOk)
  have hR := JR_all (Dq := bD b) hn hg hB r0 (n ^ n) hOk
  rw [pEq n (by omega)] at hC
  refine ⟨(pAll n (n ^ n)).foldl (bS (bD b)) (-6, []), ?_, ?_⟩
  · have eT : tAll 34 (cT a) = tLp 120 34 n (tW0 34 n (cT a)) ((1 : Nat) : Int) := by
      unfold tAll
      rw [en]
      rfl
    rw [eT]
    exact hC
  · have eM : mBo b (mOrds (wI b 155 1) (wI b 155 1)) = itI (mBo1 n) (mBo0 b, -6) ((n ^ n : Nat) : Int) := by
      unfold mBo
      rw [hg, mOrds_p n (by omega)]
    rw [eM]
    exact hR
theorem st_bestOrder {a b : sm_W} (h : Rel a b) (k : Int) : (if 0 ≤ k ∧ k ≤ wI a 2 7 then (if 5 < wI a 2 7 then -5 else cBoA (tAll 34 (cT a)) k) else -2) = (if 0 ≤ k ∧ k ≤ wI b 155 1 then (if 5 < wI b 155 1 then -5 else mBoA b k (mBo b (mOrds (wI b 155 1) (wI b 155 1)))) else -2) ∧ Rel (if 0 ≤ k ∧ k ≤ wI a 2 7 then (if 5 < wI a 2 7 then a else tAll 34 (cT a)) else a) (if 0 ≤ k ∧ k ≤ wI b 155 1 then (if 5 < wI b 155 1 then b else mBack (mBo b (mOrds (wI b 155 1) (wI b 155 1))).1) else b) := by
  have hm := vOK_many h.2.1.1.1.2
  rw [Rel_n h]
  by_cases hk : 0 ≤ k ∧ k ≤ wI b 155 1
  · rw [if_pos hk, if_pos hk, if_pos hk, if_pos hk]
    by_cases h5 : 5 < wI b 155 1
    · rw [if_pos h5, if_pos h5, if_pos h5, if_pos h5]
      exact ⟨rfl, h⟩
    · rw [if_neg h5, if_neg h5, if_neg h5, if_neg h5]
      obtain ⟨best, hC, hR⟩ := bo_all h (n := (wI b 155 1).toNat) (by omega) (by omega)
      generalize tAll 34 (cT a) = G at *
      generalize mBo b (mOrds (wI b 155 1) (wI b 155 1)) = r at *
      obtain ⟨c1, -, -, c4, c5⟩ := hC
      obtain ⟨r1, r2, r3, r4, r5, r6, r7, r8⟩ := hR
      refine ⟨?_, Rel_of h c1 (mTry_kp h.2.1 r1 r2 (fun x _ _ _ _ hx => r4 x hx) r5 r6 rfl)⟩
      unfold cBoA mBoA
      rw [c4, r7]
      by_cases d0 : best.1 < 0
      · rw [if_pos d0, if_pos d0]
        split <;> rfl
      · rw [if_neg d0, if_neg d0]
        by_cases k0 : k = 0
        · rw [if_pos k0, if_pos k0]
        · rw [if_neg k0, if_neg k0]
          have e1 := (c5 (by omega)).2 (k - 1).toNat (by omega)
          have e2 := (r8 (by omega)).2 (k - 1).toNat (by omega)
          rw [show (((k - 1).toNat : Nat) : Int) = k - 1 by omega] at e1 e2
          rw [e1, e2]
  · rw [if_neg hk, if_neg hk, if_neg hk, if_neg hk]
    exact ⟨rfl, h⟩
