/-! STEPS OF A RUN: the best order -/
theorem st_bestOrder {a b : sm_W} (h : Rel a b) (k : Int) : (if 0 ≤ k ∧ k ≤ wI a 2 7 then (if 5 < wI a 2 7 then -5 else cBoA (tAll 34 (cT a)) k) else -2) = (if 0 ≤ k ∧ k ≤ wI b 155 1 then (if 5 < wI b 155 1 then -5 else mBoA b k (mBo b (mOrds (wI b 155 1) (wI b 155 1)))) else -2) ∧ Rel (if 0 ≤ k ∧ k ≤ wI a 2 7 then (if 5 < wI a 2 7 then a else tAll 34 (cT a)) else a) (if 0 ≤ k ∧ k ≤ wI b 155 1 then (if 5 < wI b 155 1 then b else mBack (mBo b (mOrds (wI b 155 1) (wI b 155 1))).1) else b) := by
  sorry
