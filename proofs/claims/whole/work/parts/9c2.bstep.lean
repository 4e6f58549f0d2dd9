/-! THE BEST ORDER: one order tried by both -/
def LC (g f : Int → Int) : Prop := f 0 = 0 ∧ f 1 = g 1 ∧ (∀ j, 2 ≤ j → j < 17 → f j = g j) ∧ ∀ x, 0 ≤ x → x < g 1 → f (17 + 5 * x) = g (17 + 5 * x) ∧ f (17 + 5 * x + 1) = g (17 + 5 * x + 1) ∧ f (17 + 5 * x + 2) = g (17 + 5 * x + 2) ∧ f (17 + 5 * x + 3) = g (17 + 5 * x + 3)
theorem pOk_s {n : Nat} {q : List Nat} (h : pOk n q = true) : q.length = n ∧ (∀ x, x < n → q.getD x 0 < n) ∧ (∀ x y, x < n → y < n → q.getD x 0 = q.getD y 0 → x = y) ∧ ∀ x, x < n → ∃ p, p < n ∧ q.getD p 0 = x := by
  unfold pOk at h
  rw [Bool.and_eq_true, decide_eq_true_eq, List.all_eq_true] at h
  obtain ⟨h1, h2⟩ := h
  have k : ∀ x, x < n → q.getD x 0 < n ∧ (∀ y, y < n → q.getD x 0 = q.getD y 0 → x = y) ∧ ∃ p, p < n ∧ q.getD p 0 = x := fun x hx => by
    have h3 := h2 x (List.mem_range.mpr hx)
    rw [Bool.and_eq_true, Bool.and_eq_true, decide_eq_true_eq, List.all_eq_true, List.any_eq_true] at h3
    obtain ⟨⟨g1, g2⟩, p, g3, g4⟩ := h3
    refine ⟨g1, fun y hy => ?_, p, List.mem_range.mp g3, of_decide_eq_true g4⟩
    exact of_decide_eq_true (g2 y (List.mem_range.mpr hy))
  exact ⟨h1, fun x hx => (k x hx).1, fun x y hx hy => (k x hx).2.1 y hy, fun x hx => (k x hx).2.2⟩
theorem lEq_pr {g v u : Int → Int} {n : Nat} {q : List Nat} (hq : pOk n q = true) (hg : g 1 = n) (hv : LC g v) (hu : LC g u) (pv : ∀ p : Nat, p < n → v (17 + 5 * (q.getD p 0 : Nat) + 4) = n - (p : Int)) (pu : ∀ p : Nat, p < n → u (17 + 5 * (q.getD p 0 : Nat) + 4) = 9 - (p : Int)) : lEq v u := by
  obtain ⟨q1, q2, q3, q4⟩ := pOk_s hq
  refine ⟨hv.1.trans hu.1.symm, hv.2.1.trans hu.2.1.symm, fun j j0 j1 => (hv.2.2.1 j j0 j1).trans (hu.2.2.1 j j0 j1).symm, fun x x0 x1 => ?_, fun x y x0 x1 y0 y1 => ?_⟩
  · rw [hu.2.1] at x1
    obtain ⟨a1, a2, a3, a4⟩ := hv.2.2.2 x x0 x1
    obtain ⟨b1, b2, b3, b4⟩ := hu.2.2.2 x x0 x1
    exact ⟨a1.trans b1.symm, a2.trans b2.symm, a3.trans b3.symm, a4.trans b4.symm⟩
  · rw [hu.2.1, hg] at x1 y1
    obtain ⟨px, hx, ex⟩ := q4 x.toNat (by omega)
    obtain ⟨py, hy, ey⟩ := q4 y.toNat (by omega)
    have vx := pv px hx
    have vy := pv py hy
    have ux := pu px hx
    have uy := pu py hy
    rw [ex, show ((x.toNat : Nat) : Int) = x by omega] at vx ux
    rw [ey, show ((y.toNat : Nat) : Int) = y by omega] at vy uy
    rw [vx, vy, ux, uy]
    omega
theorem LC_vL {g : Int → Int} {u w : sm_W} (h : ∀ a, 35 ≤ a → a ≤ 41 → wI u a = wI w a) (k : LC g (vL w 35)) : LC g (vL u 35) := by
  have e : ∀ j, j < 17 → vL u 35 j = vL w 35 j := fun j hj => by
    unfold vL
    rw [h 35 (by decide) (by decide), h (35 + 1) (by decide) (by decide), h (35 + 2) (by decide) (by decide)]
    by_cases c0 : j = 0
    · rw [if_pos c0, if_pos c0]
    · rw [if_neg c0, if_neg c0]
      by_cases c1 : j = 1
      · rw [if_pos c1, if_pos c1]
      · rw [if_neg c1, if_neg c1]
        by_cases c2 : j < 10
        · rw [if_pos c2, if_pos c2]
        · rw [if_neg c2, if_neg c2, if_pos hj, if_pos hj]
  obtain ⟨k0, k1, k2, k3⟩ := k
  refine ⟨by rw [e 0 (by decide)]; exact k0, by rw [e 1 (by decide)]; exact k1, fun j j0 j1 => by rw [e j j1]; exact k2 j j0 j1, fun x x0 x1 => ?_⟩
  obtain ⟨a1, a2, a3, a4⟩ := k3 x x0 x1
  obtain ⟨b1, b2, b3, b4, -⟩ := vL_s u 35 x0
  obtain ⟨c1, c2, c3, c4, -⟩ := vL_s w 35 x0
  rw [b1, b2, b3, b4, h (35 + 3) (by decide) (by decide), h (35 + 4) (by decide) (by decide), h (35 + 5) (by decide) (by decide), h (35 + 6) (by decide) (by decide), ← c1, ← c2, ← c3, ← c4]
  exact ⟨a1, a2, a3, a4⟩
theorem tPr_fr (n : Int) (n0 : 0 ≤ n) (u : sm_W) : sFr (fun a _ _ => a = 42) u (tPr 34 n u) := sFr.it (f := tPr1 34 n) n n0 (fun i r _ _ _ => (sFr.refl r).st rfl)
theorem tPr_at {n : Nat} {u : sm_W} {q : List Nat} (hq : pOk n q = true) (hz : zE n u q) : ∀ p : Nat, p < n → wI (tPr 34 n u) 42 ((q.getD p 0 : Nat) : Int) = n - (p : Int) := by
  obtain ⟨q1, q2, q3, q4⟩ := pOk_s hq
  have key := itI_ind (f := tPr1 34 n) (a := u) (fun i r => wI r 82 = wI u 82 ∧ ∀ p : Nat, p < n → (p : Int) < i → wI r 42 ((q.getD p 0 : Nat) : Int) = n - (p : Int)) n ⟨rfl, fun p _ hp => by omega⟩ (fun i r i0 i1 hr => ?_) n (by omega) (Int.le_refl _)
  · exact fun p hp => key.2 p hp (by omega)
  · unfold tPr1
    refine ⟨by rw [wIf_ne (by decide)]; exact hr.1, fun p hp hpi => ?_⟩
    have e : wI r 82 i = ((q.getD i.toNat 0 : Nat) : Int) := by
      rw [hr.1, ← hz.2 i.toNat (by omega)]
      congr 1
      omega
    show (if (42 : Nat) = 34 + 1 + 7 ∧ ((q.getD p 0 : Nat) : Int) = wI r 82 i then (n : Int) - i else wI r 42 ((q.getD p 0 : Nat) : Int)) = _
    rw [e]
    by_cases c : p = i.toNat
    · rw [if_pos ⟨rfl, by rw [c]⟩]
      omega
    · rw [if_neg (fun e => c (q3 p i.toNat hp (by omega) (by omega)))]
      exact hr.2 p hp (by omega)
theorem mDo_at {n : Nat} {v : sm_W} {q : List Nat} {g : Int → Int} (hq : pOk n q = true) (hg : g 1 = n) (hy : yE n (wI v 171) q) (hv : LC g (wI v 155)) : LC g (wI (mDo v) 155) ∧ (∀ a, a ≠ 155 → wI (mDo v) a = wI v a) ∧ ∀ p : Nat, p < n → wI (mDo v) 155 (17 + 5 * (q.getD p 0 : Nat) + 4) = 9 - (p : Int) := by
  obtain ⟨q1, q2, q3, q4⟩ := pOk_s hq
  have hn : wI v 155 1 = n := hv.2.1.trans hg
  unfold mDo
  rw [hn]
  have key := itI_ind (f := mDo1) (a := v) (fun i r => LC g (wI r 155) ∧ (∀ a, a ≠ 155 → wI r a = wI v a) ∧ ∀ p : Nat, p < n → (p : Int) < i → wI r 155 (17 + 5 * (q.getD p 0 : Nat) + 4) = 9 - (p : Int)) n ⟨hv, fun _ _ => rfl, fun p _ hp => by omega⟩ (fun i r i0 i1 hr => ?_) n (by omega) (Int.le_refl _)
  · exact ⟨key.1, key.2.1, fun p hp => key.2.2 p hp (by omega)⟩
  · obtain ⟨h1, h2, h3⟩ := hr
    unfold mDo1
    have e : wI r 171 i = ((q.getD i.toNat 0 : Nat) : Int) := by
      rw [h2 171 (by decide), ← hy.2 i.toNat (by omega)]
      congr 1
      omega
    have eb := q2 i.toNat (by omega)
    rw [e]
    generalize hQ : q.getD i.toNat 0 = Q at *
    have ne : ∀ j, j ≠ 17 + 5 * (Q : Int) + 4 → wI (wsI r 155 (17 + 5 * (Q : Int) + 4) (9 - i)) 155 j = wI r 155 j := fun j hj => by
      rw [wI_wsI, if_neg (fun e => hj e.2)]
    refine ⟨⟨by rw [ne 0 (by omega)]; exact h1.1, by rw [ne 1 (by omega)]; exact h1.2.1, fun j j0 j1 => by rw [ne j (by omega)]; exact h1.2.2.1 j j0 j1, fun x x0 x1 => ?_⟩, fun a ha => by rw [wIf_ne ha]; exact h2 a ha, fun p hp hpi => ?_⟩
    · rw [ne _ (by omega), ne _ (by omega), ne _ (by omega), ne _ (by omega)]
      exact h1.2.2.2 x x0 x1
    · by_cases c : p = i.toNat
      · rw [c, hQ, wI_wsI, if_pos ⟨rfl, rfl⟩]
        omega
      · rw [ne _ (fun e => c (q3 p i.toNat hp (by omega) (by rw [hQ]; omega)))]
        exact h3 p hp (by omega)
/-- the day in the order q is as late for both -/
theorem bo_AB {g : Int → Int} {n : Nat} {q : List Nat} (hq : pOk n q = true) (hg : g 1 = n) (hn : n ≤ 5) {u v : sm_W} (hu : tI u 34 n) (lu : LC g (vL u 35)) (zu : zE n u q) (hv : mGd0 v) (cv : mCh v) (lv : LC g (wI v 155)) (yv : yE n (wI v 171) q) : xDl (xRun 34 (tPr 34 n u)) 34 = mDl (mRun (mDo v)) := by
  obtain ⟨q1, q2, q3, q4⟩ := pOk_s hq
  have n1 : wI v 155 1 = n := lv.2.1.trans hg
  have hP : mDoP v := ⟨by rw [n1]; omega, fun k k0 k1 => by
    rw [n1] at k1 ⊢
    have := yv.2 k.toNat (by omega)
    rw [show ((k.toNat : Nat) : Int) = k by omega] at this
    have := q2 k.toNat (by omega)
    omega⟩
  have hD := (tSt_i hu (by omega)).1.1
  have hG := (mDo_gd hv hP).1
  obtain ⟨m1, m2, m3⟩ := mDo_at hq hg yv lv
  have hC : mCh (mDo v) := mCh_of cv (fun a h1 _ _ _ => m2 a h1)
  have hf := tPr_fr (n : Int) (by omega) u
  obtain ⟨R, h1, h2⟩ := day_eq (d := 34) hD hG hC (lEq_pr hq hg (LC_vL (fun a a0 a1 => hf.outA (fun i v hs => by omega)) lu) m1 (fun p hp => by
    rw [(vL_s (tPr 34 n u) (34 + 1) (by omega : (0 : Int) ≤ ((q.getD p 0 : Nat) : Int))).2.2.2.2]
    exact tPr_at hq zu p hp) m3)
  rw [an_Dl h1, bQ_Dl h2]
