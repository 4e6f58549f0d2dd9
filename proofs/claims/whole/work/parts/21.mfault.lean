/-! THE REFERENCE: an order, the fault, and what is carried out -/
theorem tSh_st {w : sm_W} (h : tOK w) : tOK (tSh w) ∧ wI w 154 25 ≤ wI (tSh w) 154 25 ∧ wI (tSh w) 154 27 = wI w 154 27 := by
  have a1 := tOne_st h 0 55
  have a2 := tSign_st (s := 62) a1.1 (by decide)
  have a3 := tOne_st a2.1 1 55
  have a4 := tSign_st (s := 64) a3.1 (by decide)
  have a5 := tNum_st a4.1 2
  have e5 : tNum (tSign (tOne (tSign (tOne w 0 55) 62) 1 55) 64) 2 = tSh5 w := rfl
  rw [e5] at a5
  have a8 := tShP_st a5.1
  have a9 := tShC_st a8.1
  exact ⟨a9.1, by unfold tSh; omega, by unfold tSh; omega⟩
/-- once wrong, always wrong -/
theorem tSign_w {w : sm_W} {s : Int} (h : wI w 154 26 = 1) : wI (tSign w s) 154 26 = 1 ∧ wI (tSign w s) 154 25 = wI w 154 25 := by
  unfold tSign
  rw [if_neg (by omega)]
  exact ⟨rfl, rfl⟩
theorem tOne_w {w : sm_W} {n s : Int} (h : wI w 154 26 = 1) : wI (tOne w n s) 154 26 = 1 ∧ wI (tOne w n s) 154 25 = wI w 154 25 := by
  unfold tOne
  rw [if_neg (by omega)]
  exact ⟨rfl, rfl⟩
theorem tNum_w {w : sm_W} {n : Int} (h : wI w 154 26 = 1) : wI (tNum w n) 154 26 = 1 ∧ wI (tNum w n) 154 25 = wI w 154 25 := by
  unfold tNum
  rw [if_neg (by omega)]
  exact ⟨rfl, rfl⟩
theorem tSh_w {w : sm_W} (h : wI w 154 26 = 1) : wI (tSh w) 154 26 = 1 ∧ wI (tSh w) 154 25 = wI w 154 25 := by
  have a1 := tOne_w (n := 0) (s := 55) h
  have a2 := tSign_w (s := 62) a1.1
  have a3 := tOne_w (n := 1) (s := 55) a2.1
  have a4 := tSign_w (s := 64) a3.1
  have a5 := tNum_w (n := 2) a4.1
  have e5 : tNum (tSign (tOne (tSign (tOne w 0 55) 62) 1 55) 64) 2 = tSh5 w := rfl
  rw [e5] at a5
  have a7 : wI (tShP (tSh5 w)) 154 26 = 1 ∧ wI (tShP (tSh5 w)) 154 25 = wI (tSh5 w) 154 25 := by
    unfold tShP
    rw [if_neg (by omega)]
    exact ⟨a5.1, rfl⟩
  unfold tSh tShC
  rw [if_neg (by omega)]
  omega
/-- the body of an order behind its letter -/
def tBody (w : sm_W) (c : Int) : sm_W := if c = 115 then tSh w else (if c = 108 then tNum (tSign (tOne w 0 55) 43) 1 else (if c = 116 then tNum (tSign (tOne w 0 55) 61) 1 else (if c = 114 then tNum (tSign (tOne w 0 54) 61) 1 else (if c = 112 then tOne (tSign (tOne w 0 55) 61) 1 57 else (if c = 120 then tOne w 0 55 else wsI (wsI w 154 25 (wI w 154 25 - 1)) 154 26 1)))))
def tOrd0 (w : sm_W) : sm_W := tBody (wsI w 154 25 (wI w 154 25 + 1)) (tNext w)
def tOrdE (c : Int) (w : sm_W) : sm_W := if wI w 154 26 = 0 then wsI (wsI w 174 (wI w 154 27) c) 154 27 (wI w 154 27 + 1) else w
def tOrd (w : sm_W) : sm_W := tOrdE (tNext w) (tOrd0 w)
theorem tBody_st {w : sm_W} (h : tOK w) (c : Int) (h0 : 0 < wI w 154 25) : tOK (tBody w c) ∧ wI w 154 25 - 1 ≤ wI (tBody w c) 154 25 ∧ wI (tBody w c) 154 27 = wI w 154 27 ∧ (wI (tBody w c) 154 26 = 0 → wI w 154 25 + 1 ≤ wI (tBody w c) 154 25) := by
  have hw := h.2.2.2.1
  have key : ∀ u : sm_W, tOK u → wI w 154 25 ≤ wI u 154 25 → wI u 154 27 = wI w 154 27 → (wI u 154 26 = 0 → wI w 154 25 + 1 ≤ wI u 154 25) → tOK u ∧ wI w 154 25 - 1 ≤ wI u 154 25 ∧ wI u 154 27 = wI w 154 27 ∧ (wI u 154 26 = 0 → wI w 154 25 + 1 ≤ wI u 154 25) := fun u a b c d => ⟨a, by omega, c, d⟩
  have one : ∀ hi : Int, ∀ s : Int, 0 < s → tOK (tSign (tOne w 0 hi) s) ∧ wI w 154 25 ≤ wI (tSign (tOne w 0 hi) s) 154 25 ∧ wI (tSign (tOne w 0 hi) s) 154 27 = wI w 154 27 ∧ (wI (tSign (tOne w 0 hi) s) 154 26 = 1 ∨ wI w 154 25 + 1 ≤ wI (tSign (tOne w 0 hi) s) 154 25) := by
    intro hi s hs
    have a1 := tOne_st h 0 hi
    have a2 := tSign_st a1.1 hs
    refine ⟨a2.1, by omega, by omega, ?_⟩
    rcases a1.1.2.2.2.1 with e | e
    · right
      have := a1.2.2.2 e
      omega
    · exact Or.inl (tSign_w e).1
  have two : ∀ hi s : Int, 0 < s → ∀ n : Int, tOK (tNum (tSign (tOne w 0 hi) s) n) ∧ wI w 154 25 - 1 ≤ wI (tNum (tSign (tOne w 0 hi) s) n) 154 25 ∧ wI (tNum (tSign (tOne w 0 hi) s) n) 154 27 = wI w 154 27 ∧ (wI (tNum (tSign (tOne w 0 hi) s) n) 154 26 = 0 → wI w 154 25 + 1 ≤ wI (tNum (tSign (tOne w 0 hi) s) n) 154 25) := by
    intro hi s hs n
    obtain ⟨b1, b2, b3, b4⟩ := one hi s hs
    have b5 := tNum_st b1 n
    refine key _ b5.1 (by omega) (by omega) (fun e => ?_)
    rcases b4 with b4 | b4
    · have := (tNum_w (n := n) b4).1
      omega
    · omega
  unfold tBody
  split
  · have a := tSh_st h
    refine key _ a.1 a.2.1 a.2.2 (fun e => ?_)
    have a1 := tOne_st h 0 55
    have a2 := tSign_st (s := 62) a1.1 (by decide)
    have a3 := tOne_st a2.1 1 55
    have a4 := tSign_st (s := 64) a3.1 (by decide)
    have a5 := tNum_st a4.1 2
    have e5 : tNum (tSign (tOne (tSign (tOne w 0 55) 62) 1 55) 64) 2 = tSh5 w := rfl
    rw [e5] at a5
    have a8 := tShP_st a5.1
    have a9 := tShC_st a8.1
    have e9 : tShC (tShP (tSh5 w)) = tSh w := rfl
    rw [e9] at a9
    rcases a1.1.2.2.2.1 with e1 | e1
    · have := a1.2.2.2 e1
      omega
    · exfalso
      have b2 := tSign_w (s := 62) e1
      have b3 := tOne_w (n := 1) (s := 55) b2.1
      have b4 := tSign_w (s := 64) b3.1
      have b5 := tNum_w (n := 2) b4.1
      rw [e5] at b5
      have b7 : wI (tShP (tSh5 w)) 154 26 = 1 := by
        unfold tShP
        rw [if_neg (by omega)]
        exact b5.1
      have b9 : wI (tSh w) 154 26 = 1 := by
        unfold tSh tShC
        rw [if_neg (by omega)]
        exact b7
      omega
  · split
    · exact two 55 43 (by decide) 1
    · split
      · exact two 55 61 (by decide) 1
      · split
        · exact two 54 61 (by decide) 1
        · split
          · obtain ⟨b1, b2, b3, b4⟩ := one 55 61 (by decide)
            have b5 := tOne_st b1 1 57
            refine key _ b5.1 (by omega) (by omega) (fun e => ?_)
            have := b5.2.2.2 e
            omega
          · split
            · have a1 := tOne_st h 0 55
              refine key _ a1.1 a1.2.1 a1.2.2.1 (fun e => ?_)
              have := a1.2.2.2 e
              omega
            · exact ⟨tOK_26 (tOK_25 h (by have := h.2.2.1; omega)) (Or.inr rfl), Int.le_refl _, rfl, fun e => absurd (show (1 : Int) = 0 from e) (by decide)⟩
