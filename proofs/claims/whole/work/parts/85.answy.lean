/-! ANSWERS: why -/
theorem an_Ra {A R : sm_W} {d : Nat} (h : rEq A d R) {x t S : Int} (x0 : 0 ≤ x) (x1 : x < wI R 155 1) (s0 : 0 ≤ S) (s1 : S < 7) : (xRaL A d x S t (wI R 155 1)).getD 3 = itI (fun y r => if mPlace R y t = 2 * S + 1 then (if mWay (wI R 155) y = mWay (wI R 155) x then 2 else 1) else r) (3 : Int) (wI R 155 1) := by
  have hm := rEq_m h
  have key : ∀ k : Nat, (k : Int) ≤ wI R 155 1 → (xRaL A d x S t k = none ∧ itI (fun y r => if mPlace R y t = 2 * S + 1 then (if mWay (wI R 155) y = mWay (wI R 155) x then (2 : Int) else 1) else r) (3 : Int) k = 3 ∧ ∀ y : Int, 0 ≤ y → y < k → ¬ mPlace R y t = 2 * S + 1) ∨ (∃ y : Int, 0 ≤ y ∧ y < k ∧ mPlace R y t = 2 * S + 1 ∧ xRaL A d x S t k = some (bFor R x y) ∧ itI (fun y r => if mPlace R y t = 2 * S + 1 then (if mWay (wI R 155) y = mWay (wI R 155) x then (2 : Int) else 1) else r) (3 : Int) k = bFor R x y) := by
    intro k
    induction k with
    | zero => exact fun _ => Or.inl ⟨rfl, rfl, fun y y0 y1 => by omega⟩
    | succ k ih =>
      intro hk
      have e : ((k + 1 : Nat) : Int) = (k : Int) + 1 := by omega
      have e1 : xRaL A d x S t ((k : Int) + 1) = xRa1 A d x S t k (xRaL A d x S t k) := itI_s _ _ (by omega)
      have hon := an_On h (y := k) (S := S) (t := t) (by omega) (by omega) s0 s1
      rw [e, e1, itI_s _ _ (show (0 : Int) ≤ k by omega)]
      unfold xRa1
      rcases ih (by omega) with ⟨h1, h2, h3⟩ | ⟨y, y0, y1, yp, h1, h2⟩
      · rw [h1, h2, if_pos rfl]
        by_cases c : mPlace R k t = 2 * S + 1
        · have c2 : ¬ xMn A d k S t (t + 1) ≤ 0 := by have := hon.2.mpr (hon.1.mp c); omega
          rw [if_neg c2, if_pos c, an_For h x0 x1 (by omega) (by omega)]
          refine Or.inr ⟨k, by omega, by omega, c, rfl, ?_⟩
          unfold bFor
          by_cases q : mWay (wI R 155) k = mWay (wI R 155) x
          · rw [if_pos q, if_pos q.symm]
          · rw [if_neg q, if_neg (fun z => q z.symm)]
        · have c2 : xMn A d k S t (t + 1) ≤ 0 := by
            apply Classical.byContradiction
            intro q
            exact c (hon.1.mpr (hon.2.mp (by omega)))
          rw [if_pos c2, if_neg c]
          refine Or.inl ⟨rfl, rfl, fun y y0 y1 => ?_⟩
          by_cases q : y = k
          · rw [q]; exact c
          · exact h3 y y0 (by omega)
      · rw [h1, h2, if_neg (by simp)]
        have hne : ¬ mPlace R k t = 2 * S + 1 := fun c => by
          have o1 := (an_On h (y := y) (S := S) (t := t) y0 (by omega) s0 s1).1.mp yp
          have o2 := hon.1.mp c
          have := h.2.1.2.1 y k y0 (by omega) (by omega) (by omega) (by omega) S s0 s1 o1.1 o2.1
          omega
        rw [if_neg hne]
        exact Or.inr ⟨y, y0, by omega, yp, rfl, rfl⟩
  have := key (wI R 155 1).toNat (by omega)
  rw [Int.toNat_of_nonneg hm.1] at this
  rcases this with ⟨h1, h2, _⟩ | ⟨y, _, _, _, h1, h2⟩
  · rw [h1, h2]; rfl
  · rw [h1, h2]; rfl
theorem an_why {A R : sm_W} {d : Nat} (h : rEq A d R) {x t : Int} (x0 : 0 ≤ x) (x1 : x < wI R 155 1) (t0 : 0 ≤ t) : xRa A d x t = (if t ≤ wI R 154 17 then mReasonIn R x t else 0) := by
  have hst := stat_P h (t := t) x0 x1
  have hq := rEq_q h x0 x1
  have hl := rEq_L h x0 x1
  have hx := rEq_X h x0 x1
  have rs := kP_rng hq.1.1 hq.1.2 hq.2.1.1 hq.2.1.2 hst.1.1 hst.1.2
  have h3 : wI A d 3 = wI R 154 17 := h.1.2.2.1
  unfold xRa
  rw [h3]
  by_cases c0 : t ≤ wI R 154 17
  · rw [if_neg (by omega), if_pos c0, an_Pl h x0 x1]
    unfold mReasonIn
    have e9 : ∀ s, wI R 164 (8 * x + s) = wI R 164 (8 * x + s) := fun _ => rfl
    by_cases c1 : mLeftB R x (mStat R x t) t = 0
    · have eP : mPlace R x t = 2 * mStat R x t := by unfold mPlace; rw [if_pos c1]
      rw [eP, if_neg (show ¬ (2 * mStat R x t) % 2 = 1 by omega), show 2 * mStat R x t / 2 = mStat R x t by omega, hl.2.1]
      by_cases c2 : mStat R x t = bEn R x
      · rw [if_pos c2, if_pos (show mStat R x t = wI R 155 (17 + 5 * x + 1) from c2)]
      · rw [if_neg c2, if_neg (show ¬ mStat R x t = wI R 155 (17 + 5 * x + 1) from c2)]
        have hs : bStd R x (mStat R x t) ≠ 0 := by
          unfold bStd
          rcases hst.2.1 with k | k
          · rw [if_pos k]; decide
          · by_cases q : mStat R x t = bBe R x
            · rw [if_pos q]; decide
            · rw [if_neg q, if_neg (by omega), if_neg c2]; decide
        have hr := (rEq_W h x x0 x1).2.2.2.2 _ rs.1 rs.2
        unfold bReq at hr
        rw [if_neg hs] at hr
        have hge := an_ge h x0 x1 rs.1 rs.2 hs
        have hrd0 : 0 ≤ bRdy R x (mStat R x t) := by
          have hv := vOK_sh h.1.2.1.1.2 x0 x1
          unfold bRdy
          split
          · omega
          · next q =>
            rcases hst.2.1 with k | k
            · exact absurd k q
            · omega
        rw [an_Rdy h x0 x1 rs.1 rs.2]
        have hsf := an_Sf h x0 x1 rs.1 rs.2 hs
        by_cases c3 : 0 ≤ bV R x (mStat R x t) ∨ bRdy R x (mStat R x t) ≤ wI R 154 17
        · rw [if_pos c3] at hr
          rw [hr, if_neg (show ¬ bRdy R x (mStat R x t) < 0 by omega)]
          by_cases c4 : t < bRdy R x (mStat R x t)
          · rw [if_pos c4, if_pos c4]
          · rw [if_neg c4, if_neg c4, if_pos c1, hsf.1, rEq_n h, an_Ra h x0 x1 hsf.2.1 hsf.2.2]
            rfl
        · rw [if_neg c3] at hr
          rw [hr, if_pos (show t < bRdy R x (mStat R x t) by omega), if_pos (show (-6 : Int) < 0 by decide)]
    · have eP : mPlace R x t = 2 * sFrom (mStat R x t) (mWay (wI R 155) x) + 1 := by unfold mPlace; rw [if_neg c1]
      rw [eP, if_pos (by omega)]
      rw [if_neg c1]
      split
      · rfl
      · split
        · rfl
        · split <;> rfl
  · rw [if_pos (by omega), if_neg c0]
