/-! ANSWERS: meetings -/
theorem sumI_cnt {m : Int} (m0 : 0 ≤ m) {n : Int} (hn : m ≤ n) : sumI (fun j => if j < m then 1 else 0) n = m := by
  have key := itI_ind (f := fun (j : Int) (r : Int) => r + (if j < m then 1 else 0)) (a := (0 : Int)) (fun i r => r = if i < m then i else m) n (by
    by_cases c : (0 : Int) < m
    · rw [if_pos c]
    · rw [if_neg c]; omega) (fun i r i0 i1 k => by
    rw [k]
    by_cases c : i < m
    · rw [if_pos c, if_pos c]
      split <;> omega
    · rw [if_neg c, if_neg c, if_neg (by omega)]
      omega) n (by omega) (Int.le_refl _)
  rw [if_neg (by omega)] at key
  exact key
theorem sumI_ins {f g : Int → Int} {q : Int → Int} {m e : Int} (m0 : 0 ≤ m) (h1 : ∀ j, 0 ≤ j → j < m → g j = f j) (h2 : g m = e) {N : Int} (hN : m ≤ N) (h3 : ∀ j, m ≤ j → j < N → g (j + 1) = f j) : sumI (fun j => q (g j)) (N + 1) = sumI (fun j => q (f j)) N + q e := by
  have key : ∀ k : Nat, m + k ≤ N → sumI (fun j => q (g j)) (m + k + 1) = sumI (fun j => q (f j)) (m + k) + q e := by
    intro k
    induction k with
    | zero =>
      intro _
      rw [show m + ((0 : Nat) : Int) = m by omega, sumI_s _ m0, h2, sumI_cgI (f := fun j => q (g j)) (g := fun j => q (f j)) m0 (fun j j0 j1 => by rw [h1 j j0 j1])]
    | succ k ih =>
      intro hk
      rw [show m + ((k + 1 : Nat) : Int) = m + k + 1 by omega, sumI_s _ (show 0 ≤ m + k + 1 by omega), ih (by omega), sumI_s (fun j => q (f j)) (show 0 ≤ m + (k : Int) by omega), h3 (m + k) (by omega) (by omega)]
      omega
  have := key (N - m).toNat (by omega)
  rw [show m + (((N - m).toNat : Nat) : Int) = N by omega] at this
  exact this
theorem mInL_at (row : Int) : ∀ (n : Nat) (w : sm_W), ∃ m : Int, 0 ≤ m ∧ m ≤ n ∧ (∀ j, m ≤ j → j < n → row < wI w 79 j) ∧ (m = 0 ∨ wI w 79 (m - 1) ≤ row) ∧ (∀ j, j < m → wI (mInL n w row) 79 j = wI w 79 j) ∧ wI (mInL n w row) 79 m = row ∧ (∀ j, m ≤ j → j < n → wI (mInL n w row) 79 (j + 1) = wI w 79 j) ∧ ∀ j, (n : Int) < j → wI (mInL n w row) 79 j = wI w 79 j := by
  intro n
  induction n with
  | zero =>
    intro w
    have e : mInL 0 w row = wsI w 79 0 row := rfl
    rw [e]
    refine ⟨0, Int.le_refl _, Int.le_refl _, fun j h0 h1 => by omega, Or.inl rfl, fun j hj => ?_, ?_, fun j h0 h1 => by omega, fun j hj => ?_⟩
    · rw [wI_wsI, if_neg (by omega)]
    · rw [wI_wsI, if_pos ⟨rfl, rfl⟩]
    · rw [wI_wsI, if_neg (by omega)]
  | succ n ih =>
    intro w
    rw [mInL_s]
    by_cases c : row < wI w 79 n
    · rw [if_pos c]
      obtain ⟨m, m0, m1, g1, g2, g3, g4, g5, g6⟩ := ih (wsI w 79 ((n + 1 : Nat) : Int) (wI w 79 n))
      have hw : ∀ j, j < (n : Int) + 1 → wI (wsI w 79 ((n + 1 : Nat) : Int) (wI w 79 n)) 79 j = wI w 79 j := fun j hj => by rw [wI_wsI, if_neg (by omega)]
      have hw1 : wI (wsI w 79 ((n + 1 : Nat) : Int) (wI w 79 n)) 79 ((n : Int) + 1) = wI w 79 n := by rw [wI_wsI, if_pos ⟨rfl, by omega⟩]
      refine ⟨m, m0, by omega, fun j h0 h1 => ?_, ?_, fun j hj => ?_, g4, fun j h0 h1 => ?_, fun j hj => ?_⟩
      · by_cases e : j = n
        · rw [e]; exact c
        · have := g1 j h0 (by omega)
          rw [hw j (by omega)] at this
          exact this
      · rcases g2 with g2 | g2
        · exact Or.inl g2
        · right
          rw [hw _ (by omega)] at g2
          exact g2
      · rw [g3 j hj, hw j (by omega)]
      · by_cases e : j = n
        · rw [e, g6 _ (by omega), hw1]
        · rw [g5 j h0 (by omega), hw j (by omega)]
      · rw [g6 j (by omega), wI_wsI, if_neg (by omega)]
    · rw [if_neg c]
      refine ⟨((n + 1 : Nat) : Int), by omega, Int.le_refl _, fun j h0 h1 => by omega, Or.inr ?_, fun j hj => ?_, ?_, fun j h0 h1 => by omega, fun j hj => ?_⟩
      · rw [show ((n + 1 : Nat) : Int) - 1 = n by omega]
        omega
      · rw [wI_wsI, if_neg (by omega)]
      · rw [wI_wsI, if_pos ⟨rfl, rfl⟩]
      · rw [wI_wsI, if_neg (by omega)]
/-- a meeting's row -/
def rwk (R : sm_W) (k : Int) : Int := wI R 166 k * 512 + wI R 167 k * 64 + k
def rIn (R : sm_W) (r k : Int) : Int := if 0 ≤ wI R 166 k then (if rwk R k < r then 1 else 0) else 0
/-- the rows of the class hold the reference's meetings of the pairs below k -/
def mJ (u R : sm_W) (k : Int) : Prop := (0 ≤ wI u 78 1 ∧ wI u 78 1 ≤ k) ∧ (∀ i j, 0 ≤ i → i < j → j < wI u 78 1 → wI u 79 i < wI u 79 j) ∧ (∀ j, 0 ≤ j → j < wI u 78 1 → ∃ l, 0 ≤ l ∧ l < k ∧ 0 ≤ wI R 166 l ∧ rwk R l = wI u 79 j) ∧ (∀ l, 0 ≤ l → l < k → 0 ≤ wI R 166 l → ∃ j, 0 ≤ j ∧ j < wI u 78 1 ∧ wI u 79 j = rwk R l) ∧ (∀ r, sumI (fun j => if wI u 79 j < r then 1 else 0) (wI u 78 1) = sumI (rIn R r) k) ∧ wI u 78 1 = mMtn R k
theorem mMtn_s (R : sm_W) {k : Int} (h : 0 ≤ k) : mMtn R (k + 1) = if wI R 166 k < 0 then mMtn R k else mMtn R k + 1 := itI_s _ _ h
theorem mJ_skip {u R : sm_W} {k : Int} (k0 : 0 ≤ k) (h : mJ u R k) (hn : wI R 166 k < 0) : mJ u R (k + 1) := by
  obtain ⟨h1, h2, h3, h4, h5, h6⟩ := h
  refine ⟨by omega, h2, fun j j0 j1 => ?_, fun l l0 l1 hl => ?_, fun r => ?_, ?_⟩
  · obtain ⟨l, l0, l1, l2, l3⟩ := h3 j j0 j1
    exact ⟨l, l0, by omega, l2, l3⟩
  · by_cases e : l = k
    · rw [e] at hl; omega
    · exact h4 l l0 (by omega) hl
  · rw [sumI_s _ k0, h5 r]
    unfold rIn
    rw [if_neg (show ¬ 0 ≤ wI R 166 k by omega)]
    omega
  · rw [mMtn_s R k0, if_pos hn]
    exact h6
theorem mJ_skips {u R : sm_W} {k m : Int} (k0 : 0 ≤ k) (hm : k ≤ m) (h : mJ u R k) (hn : ∀ l, k ≤ l → l < m → wI R 166 l < 0) : mJ u R m := by
  have key : ∀ i : Nat, k + i ≤ m → mJ u R (k + i) := by
    intro i
    induction i with
    | zero => intro _; rw [show k + ((0 : Nat) : Int) = k by omega]; exact h
    | succ i ih =>
      intro hi
      rw [show k + ((i + 1 : Nat) : Int) = k + i + 1 by omega]
      exact mJ_skip (by omega) (ih (by omega)) (hn _ (by omega) (by omega))
  have := key (m - k).toNat (by omega)
  rw [show k + (((m - k).toNat : Nat) : Int) = m by omega] at this
  exact this
theorem mJ_ins {u R : sm_W} {k : Int} (k0 : 0 ≤ k) (k1 : k < 64) (h : mJ u R k) (hy : 0 ≤ wI R 166 k) (hb : ∀ l, 0 ≤ l → l < 64 → 0 ≤ wI R 166 l → 0 ≤ wI R 167 l ∧ wI R 167 l < 8) : mJ (mIns u (rwk R k)) R (k + 1) := by
  obtain ⟨h1, h2, h3, h4, h5, h6⟩ := h
  -- the row is a new one
  have hnew : ∀ j, 0 ≤ j → j < wI u 78 1 → wI u 79 j ≠ rwk R k := fun j j0 j1 he => by
    obtain ⟨l, l0, l1, l2, l3⟩ := h3 j j0 j1
    have b1 := hb l l0 (by omega) l2
    have b2 := hb k k0 k1 hy
    rw [he] at l3
    unfold rwk at l3
    omega
  obtain ⟨m, m0, m1, g1, g2, g3, g4, g5, g6⟩ := mInL_at (rwk R k) (wI u 78 1).toNat u
  have hN : (((wI u 78 1).toNat : Nat) : Int) = wI u 78 1 := Int.toNat_of_nonneg h1.1
  rw [hN] at m1 g1 g5 g6
  have e : mIns u (rwk R k) = mInF (mInL (wI u 78 1).toNat u (rwk R k)) (wI u 78 1 + 1) := by unfold mIns; rw [if_neg (by omega)]
  have e78 : wI (mIns u (rwk R k)) 78 1 = wI u 78 1 + 1 := by rw [e]; unfold mInF; rw [wI_wsI, if_pos ⟨rfl, rfl⟩]
  have e79 : wI (mIns u (rwk R k)) 79 = wI (mInL (wI u 78 1).toNat u (rwk R k)) 79 := by rw [e]; unfold mInF; exact wIf_ne (by omega)
  unfold mJ
  rw [e78, e79]
  generalize mInL (wI u 78 1).toNat u (rwk R k) = v at *
  have lo : ∀ j, 0 ≤ j → j < m → wI u 79 j < rwk R k := fun j j0 j1 => by
    rcases g2 with g2 | g2
    · omega
    · have hne := hnew (m - 1) (by omega) (by omega)
      by_cases q : j = m - 1
      · rw [q]; omega
      · have := h2 j (m - 1) j0 (by omega) (by omega)
        omega
  refine ⟨by omega, fun i j i0 ij j1 => ?_, fun j j0 j1 => ?_, fun l l0 l1 hl => ?_, fun r => ?_, ?_⟩
  · by_cases c1 : j < m
    · rw [g3 i (by omega), g3 j c1]
      exact h2 i j i0 ij (by omega)
    · by_cases c2 : j = m
      · rw [c2, g4, g3 i (by omega)]
        exact lo i i0 (by omega)
      · have gj := g5 (j - 1) (by omega) (by omega)
        rw [show j - 1 + 1 = j by omega] at gj
        rw [gj]
        by_cases c3 : i < m
        · rw [g3 i c3]
          exact h2 i (j - 1) i0 (by omega) (by omega)
        · by_cases c4 : i = m
          · rw [c4, g4]
            exact g1 (j - 1) (by omega) (by omega)
          · have gi := g5 (i - 1) (by omega) (by omega)
            rw [show i - 1 + 1 = i by omega] at gi
            rw [gi]
            exact h2 (i - 1) (j - 1) (by omega) (by omega) (by omega)
  · by_cases c1 : j < m
    · obtain ⟨l, l0, l1, l2, l3⟩ := h3 j j0 (by omega)
      exact ⟨l, l0, by omega, l2, by rw [g3 j c1]; exact l3⟩
    · by_cases c2 : j = m
      · exact ⟨k, k0, by omega, hy, by rw [c2, g4]⟩
      · have gj := g5 (j - 1) (by omega) (by omega)
        rw [show j - 1 + 1 = j by omega] at gj
        obtain ⟨l, l0, l1, l2, l3⟩ := h3 (j - 1) (by omega) (by omega)
        exact ⟨l, l0, by omega, l2, by rw [gj]; exact l3⟩
  · by_cases q : l = k
    · exact ⟨m, m0, by omega, by rw [g4, q]⟩
    · obtain ⟨j, j0, j1, j2⟩ := h4 l l0 (by omega) hl
      by_cases c1 : j < m
      · exact ⟨j, j0, by omega, by rw [g3 j c1]; exact j2⟩
      · exact ⟨j + 1, by omega, by omega, by rw [g5 j (by omega) j1]; exact j2⟩
  · have := sumI_ins (f := wI u 79) (g := wI v 79) (q := fun y => if y < r then 1 else 0) (e := rwk R k) m0 (fun j _ j1 => g3 j j1) g4 m1 g5
    rw [this, h5 r, sumI_s _ k0]
    unfold rIn
    rw [if_pos hy]
  · rw [mMtn_s R k0, if_neg (by omega), h6]
/-- two meet but once -/
theorem bK_u {A R : sm_W} {d : Nat} (h : rEq A d R) {x y p q : Int} (hP : bPr R x y) (p0 : 0 ≤ p) (p1 : p < 8) (q0 : 0 ≤ q) (q1 : q < 8) (hp : bK R x y p) (hq : bK R x y q) : p = q := by
  have x0 : 0 ≤ x := hP.1.1
  have x1 : x < wI R 155 1 := by have := hP.1; omega
  have y0 : 0 ≤ y := by have := hP.1; omega
  have y1 : y < wI R 155 1 := hP.1.2.2
  -- of the one that comes to p first: it leaves p ahead of its coming to q, the other one the other way round
  have key : ∀ x y, 0 ≤ x → x < wI R 155 1 → 0 ≤ y → y < wI R 155 1 → (mWay (wI R 155) x = 1 ∧ mWay (wI R 155) y = -1) → ∀ p q, 0 ≤ p → p < 8 → 0 ≤ q → q < 8 → bOt R x p → bOt R y p → bTh R x p (bMm R x y p) → bOt R x q → bOt R y q → bTh R y q (bMm R x y q) → ¬ p < q := fun x y x0 x1 y0 y1 hw p q p0 p1 q0 q1 a1 a2 a3 a4 a5 a6 hlt => by
    have hx := rEq_X h x0 x1
    have hy := rEq_X h y0 y1
    have kx := (hx.1.2.2 p p0 p1).1.mp a1.1
    have ky := (hy.1.2.2 q q0 q1).1.mp a5.1
    rw [mWay_kW, mWay_kW] at hw
    have kx2 : kP (bBe R x) (bEn R x) p < kP (bBe R x) (bEn R x) q := by unfold kW kP at *; split <;> split at hw <;> omega
    have ky2 : kP (bBe R y) (bEn R y) q < kP (bBe R y) (bEn R y) p := by unfold kW kP at *; split <;> split at hw <;> omega
    have ox := fin_ord h x0 x1 p0 p1 q0 q1 kx2 (by omega) a4.1
    have oy := fin_ord h y0 y1 q0 q1 p0 p1 ky2 (by omega) a2.1
    unfold bTh bMm at *
    split at a3 <;> split at a6 <;> omega
  have hw := hP.2
  have wx := mWay_cs (wI R 155) x
  have wy := mWay_cs (wI R 155) y
  have sm : ∀ p, bMm R y x p = bMm R x y p := fun p => by unfold bMm; split <;> split <;> omega
  apply Classical.byContradiction
  intro hne
  rcases wx with wx | wx
  · have wy : mWay (wI R 155) y = -1 := by omega
    have k1 := key x y x0 x1 y0 y1 ⟨wx, wy⟩ p q p0 p1 q0 q1 hp.1 hp.2.1 hp.2.2.1 hq.1 hq.2.1 hq.2.2.2
    have k2 := key x y x0 x1 y0 y1 ⟨wx, wy⟩ q p q0 q1 p0 p1 hq.1 hq.2.1 hq.2.2.1 hp.1 hp.2.1 hp.2.2.2
    omega
  · have wy : mWay (wI R 155) y = 1 := by omega
    have k1 := key y x y0 y1 x0 x1 ⟨wy, wx⟩ p q p0 p1 q0 q1 hp.2.1 hp.1 (by rw [sm]; exact hp.2.2.2) hq.2.1 hq.1 (by rw [sm]; exact hq.2.2.1)
    have k2 := key y x y0 y1 x0 x1 ⟨wy, wx⟩ q p q0 q1 p0 p1 hq.2.1 hq.1 (by rw [sm]; exact hq.2.2.2) hp.2.1 hp.1 (by rw [sm]; exact hp.2.2.1)
    omega
