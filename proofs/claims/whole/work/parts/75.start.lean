/-! THE TWO DAYS: where they begin, and that they end alike -/
theorem rsum_cg {v u : Int → Int} (h : ∀ k, 0 ≤ k → k < 7 → v (10 + k) = u (10 + k)) {a : Int} (ha : 0 ≤ a) {n : Int} (hn : 0 ≤ n) (h7 : a + n ≤ 7) : rsum v a n = rsum u a n := by
  have key : ∀ k : Nat, (k : Int) ≤ n → rsum v a k = rsum u a k := by
    intro k
    induction k with
    | zero => exact fun _ => rfl
    | succ k ih =>
      intro hk
      rw [show ((k + 1 : Nat) : Int) = (k : Int) + 1 by omega, rsum_s v a (by omega), rsum_s u a (by omega), ih (by omega), h (a + k) (by omega) (by omega)]
  have := key n.toNat (by omega)
  rw [Int.toNat_of_nonneg hn] at this
  exact this
theorem wT_cg {v u : Int → Int} (h : ∀ k, 0 ≤ k → k < 7 → v (10 + k) = u (10 + k)) {a b : Int} (sp : Int) (ha : 0 ≤ a) (hab : a ≤ b) (hb : b ≤ 7) : wT v sp a b = wT u sp a b := by
  unfold wT
  rw [rsum_cg h ha (by omega) (by omega)]
theorem vTime_cg {v u : Int → Int} {x p : Int} (h : ∀ k, 0 ≤ k → k < 7 → v (10 + k) = u (10 + k)) (h1 : v (17 + 5 * x + 1) = u (17 + 5 * x + 1)) (h3 : v (17 + 5 * x + 3) = u (17 + 5 * x + 3)) (e0 : 0 ≤ u (17 + 5 * x + 1)) (e1 : u (17 + 5 * x + 1) < 8) (p0 : 0 ≤ p) (p1 : p < 8) : vTime v x p = vTime u x p := by
  unfold vTime
  rw [h1, h3]
  split
  · exact wT_cg h _ p0 (by omega) (by omega)
  · exact wT_cg h _ e0 (by omega) (by omega)
/-- lines that are alike, but the priorities: their order counts -/
def lEq (v u : Int → Int) : Prop := v 0 = u 0 ∧ v 1 = u 1 ∧ (∀ j, 2 ≤ j → j < 17 → v j = u j) ∧ (∀ x, 0 ≤ x → x < u 1 → v (17 + 5 * x) = u (17 + 5 * x) ∧ v (17 + 5 * x + 1) = u (17 + 5 * x + 1) ∧ v (17 + 5 * x + 2) = u (17 + 5 * x + 2) ∧ v (17 + 5 * x + 3) = u (17 + 5 * x + 3)) ∧ ∀ x y, 0 ≤ x → x < u 1 → 0 ≤ y → y < u 1 → (v (17 + 5 * y + 4) < v (17 + 5 * x + 4) ↔ u (17 + 5 * y + 4) < u (17 + 5 * x + 4))
theorem lEq_57 {v u : Int → Int} (hu : vOK u) (h : eq57 v u) : lEq v u := by
  have hm := vOK_many hu
  refine ⟨h 0 (by decide) (by decide), h 1 (by decide) (by decide), fun j h0 h1 => h j (by omega) (by omega), fun x x0 x1 => ⟨h _ (by omega) (by omega), h _ (by omega) (by omega), h _ (by omega) (by omega), h _ (by omega) (by omega)⟩, fun x y x0 x1 y0 y1 => ?_⟩
  rw [h (17 + 5 * y + 4) (by omega) (by omega), h (17 + 5 * x + 4) (by omega) (by omega)]
theorem rLn_of {a b : sm_W} {d : Nat} (hu : vOK (wI b 155)) (h : lEq (vL a (d + 1)) (wI b 155)) : rLn a d b := by
  have hm := vOK_many hu
  obtain ⟨h0, h1, h2, h3, h4⟩ := h
  refine ⟨h1, h0, fun k k0 k1 => by rw [← vL_t a (d + 1) k0 k1]; exact h2 _ (by omega) (by omega), fun k k0 k1 => by rw [← vL_r a (d + 1) k0 k1]; exact h2 _ (by omega) (by omega), fun x x0 x1 => ?_, fun x y x0 x1 y0 y1 => ?_⟩
  · have hx := h3 x x0 x1
    have hv := vL_s a (d + 1) x0
    have hq := vOK_sh hu x0 x1
    refine ⟨hv.1.symm.trans hx.1, hv.2.1.symm.trans hx.2.1, hv.2.2.1.symm.trans hx.2.2.1, hv.2.2.2.1.symm.trans hx.2.2.2, ?_, fun p p0 p1 => ?_⟩
    · unfold mWay
      rw [hx.1, hx.2.1]
    · exact vTime_cg (fun k k0 k1 => h2 _ (by omega) (by omega)) hx.2.1 hx.2.2.2 hq.2.1.1 hq.2.1.2 p0 p1
  · rw [← (vL_s a (d + 1) x0).2.2.2.2, ← (vL_s a (d + 1) y0).2.2.2.2]
    exact h4 x y x0 x1 y0 y1
theorem rLn_57 {a b b1 : sm_W} {d : Nat} (h : rLn a d b) (hu : vOK (wI b 155)) (he : eq57 (wI b 155) (wI b1 155)) : rLn a d b1 := by
  have hm := vOK_many hu
  have e1 : wI b1 155 1 = wI b 155 1 := (he 1 (by decide) (by decide)).symm
  obtain ⟨l1, l2, l3, l4, l5, l6⟩ := h
  have e := fun (j : Int) (h0 : 0 ≤ j) (h1 : j < 57) => (he j h0 h1).symm
  unfold rLn
  rw [e1]
  refine ⟨l1, l2.trans (e 0 (by decide) (by decide)).symm, fun k k0 k1 => (l3 k k0 k1).trans (e _ (by omega) (by omega)).symm, fun k k0 k1 => (l4 k k0 k1).trans (e _ (by omega) (by omega)).symm, fun x x0 x1 => ?_, fun x y x0 x1 y0 y1 => ?_⟩
  · obtain ⟨m1, m2, m3, m4, m5, m6⟩ := l5 x x0 x1
    have hq := vOK_sh hu x0 x1
    refine ⟨m1.trans (e _ (by omega) (by omega)).symm, m2.trans (e _ (by omega) (by omega)).symm, m3.trans (e _ (by omega) (by omega)).symm, m4.trans (e _ (by omega) (by omega)).symm, ?_, fun p p0 p1 => ?_⟩
    · rw [m5]
      unfold mWay
      rw [e _ (by omega) (by omega), e _ (by omega) (by omega)]
    · rw [m6 p p0 p1]
      exact (vTime_cg (fun k k0 k1 => e _ (by omega) (by omega)) (e _ (by omega) (by omega)) (e _ (by omega) (by omega)) hq.2.1.1 hq.2.1.2 p0 p1).symm
  · rw [e (17 + 5 * y + 4) (by omega) (by omega), e (17 + 5 * x + 4) (by omega) (by omega)]
    exact l6 x y x0 x1 y0 y1
theorem sumI_z {f : Int → Int} {n : Int} (hn : 0 ≤ n) (h : ∀ x, 0 ≤ x → x < n → f x = 0) : sumI f n = 0 := by
  have h1 := sumI_cgI (f := f) (g := fun _ => 0) hn h
  rw [h1]
  refine itI_ind (f := fun (x : Int) (r : Int) => r + 0) (a := (0 : Int)) (fun i r => r = 0) n rfl (fun i r i0 i1 k => by omega) n hn (Int.le_refl _)
theorem rel_start {a b : sm_W} {d : Nat} (hD : dOK a d) (hG : mGd0 b) (hL : rLn a d b) : rel (xOut0 d a) d (mStart b) := by
  have hO := hG.1
  have hm := vOK_many hO.2
  obtain ⟨s155, sT1, s160, s170, s20⟩ := mStart_in hO
  have hb := mBegin_in (mSt0 b) (by rw [(mSt0_in b).1 155 (by decide) (by decide)]; exact hm.1)
  rw [← mStart_eq] at hb
  have hx := xOut_in hD
  have hr : rel (xOut d a) d (mStart b) := by
    have hn : wI a (d + 1) 7 = wI b 155 1 := hL.1
    refine ⟨rLn_fr hL hx.1 s155, fun x x0 x1 => ?_, ?_⟩
    · rw [s155] at x1
      obtain ⟨w0, w1, w2⟩ := s160 x x0 x1
      obtain ⟨o27, o28, o29, o30, oC⟩ := hx.2.1 x x0 (by rw [hn]; exact x1)
      obtain ⟨m3, m4, m5, m6, mw, mt⟩ := hL.2.2.2.2.1 x x0 x1
      have hq := vOK_sh hO.2 x0 x1
      unfold rSh mReady
      rw [w0, w1, w2, s155, o27, o28, o29, o30, m3, m5, if_pos rfl]
      refine ⟨fun _ => ⟨rfl, rfl, rfl, ?_⟩, fun k => absurd k (by decide), fun k => absurd k (by decide), fun _ => rfl, fun k => absurd k (by decide), fun s t0 t1 => ?_⟩
      · unfold xUrg
        rw [hL.2.1, mt _ hq.1.1 hq.1.2]
      · have h6 := hb.2.1 (8 * x + s) (by omega) (by omega)
        have h7 := oC s t0 t1
        rw [h6.1, h6.2.2.1, h7.1, h7.2]
        exact ⟨rfl, rfl⟩
    · have h0 : ∀ x, 0 ≤ x → x < wI (mStart b) 155 1 → wI (mStart b) 160 x = 0 := fun x x0 x1 => (s160 x x0 (by rw [← s155]; exact x1)).1
      refine ⟨fun s _ _ _ x x0 x1 hxs => ?_, fun s t0 t1 hz => absurd (hx.2.2.1 s t0 t1) hz, fun x y x0 x1 _ _ hx2 _ _ => ?_, fun s t0 t1 => ?_⟩
      · have := h0 x x0 x1
        have h2 := hxs.1
        omega
      · have := h0 x x0 x1
        omega
      · rw [hx.2.2.2 s t0 t1]
        refine (sumI_z (by rw [s155]; exact hm.1) (fun x x0 x1 => ?_)).symm
        unfold rTk mTo
        rw [h0 x x0 x1]
        simp only [Int.reduceEq, false_and, if_false, false_or]
        rw [if_neg (fun k => by omega)]
  exact rel_a hr ((sFr.refl _).st rfl)
theorem day_fin {a b : sm_W} {d : Nat} (hD : dOK a d) (hG : mGd0 b) (hL : rLn a d b) : rFin (xLoop 1000 d (xOut0 d a) 0) d (mDayL 7000 (mStart b) 0) := by
  have hI := mStart_inv hG.1 hG.2.2.1
  have he := evM_nn (t := 0 - 1) hI.1.1
  exact rel_day 7000 _ _ 0 0 1000 ⟨rel_start hD hG hL, Int.le_refl _, fun _ => rfl, fun k => absurd k (by decide)⟩ hI.1 (by rw [if_pos rfl]; have := hI.2; omega) (by rw [if_pos rfl]; omega) (by decide)
theorem orI_0 {r : Int} (h : 0 ≤ r) : orI r 0 = r := by
  unfold orI
  rw [show (0 : Int).toNat = 0 by rfl, Nat.or_zero]
  omega
theorem rel_left {a b : sm_W} {d : Nat} (h : rel a d b) (hD : mDay b) : xLeft a d (wI b 155 1) = mLeft b (wI b 155 1) := by
  have hm := vOK_many hD.1.2
  have key : ∀ k : Nat, (k : Int) ≤ wI b 155 1 → xLeft a d k = mLeft b k := by
    intro k
    induction k with
    | zero => exact fun _ => rfl
    | succ k ih =>
      intro hk
      have e : ((k + 1 : Nat) : Int) = (k : Int) + 1 := by omega
      have e1 : xLeft a d ((k : Int) + 1) = xLf a d k (xLeft a d k) := itI_s _ _ (by omega)
      have e2 : mLeft b ((k : Int) + 1) = mLf b k (mLeft b k) := itI_s _ _ (by omega)
      rw [e, e1, e2, ih (by omega)]
      have he := (rel_end h hD (x := k) (by omega) (by omega)).1
      have hb := mLeft_b b k (by omega) (by omega)
      unfold xLf mLf
      by_cases c : wI b 160 k = 3
      · rw [if_pos c, if_pos (he.mpr c), orI_0 hb.1]
      · rw [if_neg c, if_neg (fun q => c (he.mp q))]
  have := key (wI b 155 1).toNat (by omega)
  rw [Int.toNat_of_nonneg hm.1] at this
  exact this
/-- both days done -/
def rDn (a : sm_W) (d : Nat) (b : sm_W) : Prop := rel a d b ∧ mDay b ∧ wI a d 3 = wI b 154 17 ∧ wI a d 4 = wI b 154 18 ∧ 0 ≤ wI b 154 17 ∧ ∀ x, 0 ≤ x → x < wI b 155 1 → wI b 160 x ≠ 2 ∧ (wI b 160 x ≤ 1 → mReady b x ≤ wI b 154 17)
theorem day_dn {a b : sm_W} {d : Nat} (hD : dOK a d) (hG : mGd0 b) (hL : rLn a d b) : rDn (xRun d a) d (mDayL 7000 (mStart b) 0) := by
  have h := day_fin hD hG hL
  unfold xRun xFin
  obtain ⟨h1, h2, h3, h4, h5, h6⟩ := h
  have hl : wI (xLoop 1000 d (xOut0 d a) 0) (d + 1) 7 = wI (mDayL 7000 (mStart b) 0) 155 1 := h1.1.1
  refine ⟨rel_a h1 ((sFr.refl _).st rfl), h2, ?_, ?_, h5, h6⟩
  · rw [wI_wsI, if_neg (by omega)]
    exact h3
  · rw [wI_wsI, if_pos ⟨rfl, rfl⟩, hl, rel_left h1 h2, h4]
