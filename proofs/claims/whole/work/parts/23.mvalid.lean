/-! THE REFERENCE: each change leaves a line in order; the orders of a text carried out -/
theorem vOK_cell {w : sm_W} (h : vOK (wI w 155)) {c x : Int} (hc : (c = 0 ∧ 0 ≤ x ∧ x ≤ 2) ∨ (2 ≤ c ∧ c < 10 ∧ 1 ≤ x ∧ x ≤ 4) ∨ (10 ≤ c ∧ c < 17 ∧ 1 ≤ x ∧ x ≤ 30)) : vOK (wI (wsI w 155 c x) 155) := by
  unfold vOK at *
  simp only [wI_wsI, true_and]
  obtain ⟨a1, a2, a3, a4, a5⟩ := h
  refine ⟨by split <;> omega, by rw [if_neg (by omega)]; omega, fun k k0 k1 => ?_, fun k k0 k1 => ?_, fun y y0 y1 => ?_⟩
  · have := a3 k k0 k1
    split <;> omega
  · have := a4 k k0 k1
    split <;> omega
  · rw [if_neg (show ¬ (1 : Int) = c by omega)] at y1
    have := a5 y y0 y1
    rw [if_neg (by omega), if_neg (by omega), if_neg (by omega), if_neg (by omega), if_neg (by omega)]
    exact this
theorem vOK_sh2 {w : sm_W} (h : vOK (wI w 155)) {x v : Int} (x0 : 0 ≤ x) (hv : 0 ≤ v ∧ v ≤ 300) : vOK (wI (wsI w 155 (17 + 5 * x + 2) v) 155) := by
  unfold vOK at *
  simp only [wI_wsI, true_and]
  obtain ⟨a1, a2, a3, a4, a5⟩ := h
  refine ⟨by rw [if_neg (by omega)]; exact a1, by rw [if_neg (by omega)]; exact a2, fun k k0 k1 => by rw [if_neg (by omega)]; exact a3 k k0 k1, fun k k0 k1 => by rw [if_neg (by omega)]; exact a4 k k0 k1, fun y y0 y1 => ?_⟩
  rw [if_neg (show ¬ (1 : Int) = 17 + 5 * x + 2 by omega)] at y1
  have := a5 y y0 y1
  rw [if_neg (show ¬ 17 + 5 * y = 17 + 5 * x + 2 by omega), if_neg (show ¬ 17 + 5 * y + 1 = 17 + 5 * x + 2 by omega), if_neg (show ¬ 17 + 5 * y + 3 = 17 + 5 * x + 2 by omega), if_neg (show ¬ 17 + 5 * y + 4 = 17 + 5 * x + 2 by omega)]
  split <;> omega
theorem vOK_sh4 {w : sm_W} (h : vOK (wI w 155)) {x v : Int} (x0 : 0 ≤ x) (hv : 0 ≤ v ∧ v ≤ 9) : vOK (wI (wsI w 155 (17 + 5 * x + 4) v) 155) := by
  unfold vOK at *
  simp only [wI_wsI, true_and]
  obtain ⟨a1, a2, a3, a4, a5⟩ := h
  refine ⟨by rw [if_neg (by omega)]; exact a1, by rw [if_neg (by omega)]; exact a2, fun k k0 k1 => by rw [if_neg (by omega)]; exact a3 k k0 k1, fun k k0 k1 => by rw [if_neg (by omega)]; exact a4 k k0 k1, fun y y0 y1 => ?_⟩
  rw [if_neg (show ¬ (1 : Int) = 17 + 5 * x + 4 by omega)] at y1
  have := a5 y y0 y1
  rw [if_neg (show ¬ 17 + 5 * y = 17 + 5 * x + 4 by omega), if_neg (show ¬ 17 + 5 * y + 1 = 17 + 5 * x + 4 by omega), if_neg (show ¬ 17 + 5 * y + 3 = 17 + 5 * x + 4 by omega), if_neg (show ¬ 17 + 5 * y + 2 = 17 + 5 * x + 4 by omega)]
  split <;> omega
theorem mShOk_0 {a b c d e : Int} (h : ¬ mShOk a b c d e < 0) : (0 ≤ a ∧ a ≤ 7) ∧ (0 ≤ b ∧ b ≤ 7) ∧ a ≠ b ∧ (0 ≤ c ∧ c ≤ 300) ∧ (0 ≤ d ∧ d ≤ 20) ∧ (0 ≤ e ∧ e ≤ 9) := by
  unfold mShOk at h
  by_cases h1 : 0 ≤ a ∧ a ≤ 7 ∧ 0 ≤ b ∧ b ≤ 7
  · rw [if_pos h1] at h
    by_cases h2 : a = b
    · rw [if_pos h2] at h
      omega
    · rw [if_neg h2] at h
      by_cases h3 : (0 ≤ c ∧ c ≤ 300) ∧ (0 ≤ d ∧ d ≤ 20) ∧ (0 ≤ e ∧ e ≤ 9)
      · omega
      · rw [if_neg h3] at h
        omega
  · rw [if_neg h1] at h
    omega
theorem mNew_lo (w : sm_W) (a b c d e : Int) {j : Int} (h1 : j ≠ 1) (h : j < 17 + 5 * wI w 155 1) : wI (mNewSh w a b c d e) 155 j = wI w 155 j := by
  unfold mNewSh
  rw [wI_wsI, if_neg (by omega), wI_wsI, if_neg (by omega), wI_wsI, if_neg (by omega), wI_wsI, if_neg (by omega), wI_wsI, if_neg (by omega), wI_wsI, if_neg (by omega)]
theorem mNew_1 (w : sm_W) (a b c d e : Int) : wI (mNewSh w a b c d e) 155 1 = wI w 155 1 + 1 := by
  unfold mNewSh
  rw [wI_wsI, if_pos ⟨rfl, rfl⟩]
theorem mNew_at {w : sm_W} (h : 0 ≤ wI w 155 1) (a b c d e : Int) : wI (mNewSh w a b c d e) 155 (17 + 5 * wI w 155 1) = a ∧ wI (mNewSh w a b c d e) 155 (17 + 5 * wI w 155 1 + 1) = b ∧ wI (mNewSh w a b c d e) 155 (17 + 5 * wI w 155 1 + 2) = c ∧ wI (mNewSh w a b c d e) 155 (17 + 5 * wI w 155 1 + 3) = d ∧ wI (mNewSh w a b c d e) 155 (17 + 5 * wI w 155 1 + 4) = e := by
  unfold mNewSh
  generalize wI w 155 1 = n at *
  refine ⟨?_, ?_, ?_, ?_, ?_⟩
  · rw [wI_wsI, if_neg (by omega), wI_wsI, if_neg (by omega), wI_wsI, if_neg (by omega), wI_wsI, if_neg (by omega), wI_wsI, if_neg (by omega), wI_wsI, if_pos ⟨rfl, rfl⟩]
  · rw [wI_wsI, if_neg (by omega), wI_wsI, if_neg (by omega), wI_wsI, if_neg (by omega), wI_wsI, if_neg (by omega), wI_wsI, if_pos ⟨rfl, rfl⟩]
  · rw [wI_wsI, if_neg (by omega), wI_wsI, if_neg (by omega), wI_wsI, if_neg (by omega), wI_wsI, if_pos ⟨rfl, rfl⟩]
  · rw [wI_wsI, if_neg (by omega), wI_wsI, if_neg (by omega), wI_wsI, if_pos ⟨rfl, rfl⟩]
  · rw [wI_wsI, if_neg (by omega), wI_wsI, if_pos ⟨rfl, rfl⟩]
theorem vOK_new {w : sm_W} (h : vOK (wI w 155)) {a b c d e : Int} (h8 : ¬ wI w 155 1 = 8) (hs : ¬ mShOk a b c d e < 0) : vOK (wI (mNewSh w a b c d e) 155) := by
  have hq := mShOk_0 hs
  have hm := vOK_many h
  have hlo := fun j => mNew_lo w a b c d e (j := j)
  have h1 := mNew_1 w a b c d e
  have hat := mNew_at hm.1 a b c d e
  obtain ⟨a1, a2, a3, a4, a5⟩ := h
  refine ⟨?_, ?_, fun k k0 k1 => ?_, fun k k0 k1 => ?_, fun y y0 y1 => ?_⟩
  · rw [hlo 0 (by omega) (by omega)]
    exact a1
  · rw [h1]
    omega
  · rw [hlo _ (by omega) (by omega)]
    exact a3 k k0 k1
  · rw [hlo _ (by omega) (by omega)]
    exact a4 k k0 k1
  · rw [h1] at y1
    by_cases e1 : y = wI w 155 1
    · rw [e1, hat.1, hat.2.1, hat.2.2.1, hat.2.2.2.1, hat.2.2.2.2]
      omega
    · rw [hlo (17 + 5 * y) (by omega) (by omega), hlo (17 + 5 * y + 1) (by omega) (by omega), hlo (17 + 5 * y + 2) (by omega) (by omega), hlo (17 + 5 * y + 3) (by omega) (by omega), hlo (17 + 5 * y + 4) (by omega) (by omega)]
      exact a5 y y0 (by omega)
theorem mRm_at {w : sm_W} {x b : Int} (x0 : 0 ≤ x) (x1 : x < wI w 155 1) (j : Int) : wI (mRm w x b) 155 j = if 17 + 5 * x ≤ j ∧ j < 17 + 5 * (wI w 155 1 - 1) then wI w 155 (j + 5) else (if j = 1 then wI w 155 1 - 1 else wI w 155 j) := by
  have key := itI_ind (f := mRm1 x) (a := wsI (mKf w b) 155 1 (wI w 155 1 - 1)) (fun i r => ∀ j, wI r 155 j = if 17 + 5 * x ≤ j ∧ j < 17 + 5 * x + i then wI w 155 (j + 5) else (if j = 1 then wI w 155 1 - 1 else wI w 155 j)) (5 * (wI w 155 1 - 1) - 5 * x) (fun j => by
    rw [if_neg (by omega), wI_wsI, mKf_at]
    simp only [true_and]) (fun i r i0 i1 hr j => by
    unfold mRm1
    rw [wI_wsI, hr j, hr (17 + 5 * x + i + 5)]
    simp only [true_and]
    by_cases e : j = 17 + 5 * x + i
    · rw [if_pos e, if_neg (by omega), if_neg (by omega), if_pos (by omega), e]
    · rw [if_neg e]
      by_cases e2 : 17 + 5 * x ≤ j ∧ j < 17 + 5 * x + i
      · rw [if_pos e2, if_pos (by omega)]
      · rw [if_neg e2, if_neg (show ¬ (17 + 5 * x ≤ j ∧ j < 17 + 5 * x + (i + 1)) by omega)]) (5 * (wI w 155 1 - 1) - 5 * x) (by omega) (Int.le_refl _) j
  have e : 17 + 5 * x + (5 * (wI w 155 1 - 1) - 5 * x) = 17 + 5 * (wI w 155 1 - 1) := by omega
  rw [e] at key
  exact key
theorem vOK_rm {w : sm_W} (h : vOK (wI w 155)) {x b : Int} (x0 : 0 ≤ x) (x1 : x < wI w 155 1) : vOK (wI (mRm w x b) 155) := by
  have hk := fun j => mRm_at (b := b) x0 x1 j
  have hm := vOK_many h
  have h1 : wI (mRm w x b) 155 1 = wI w 155 1 - 1 := by rw [hk, if_neg (by omega), if_pos rfl]
  obtain ⟨a1, a2, a3, a4, a5⟩ := h
  refine ⟨?_, ?_, fun k k0 k1 => ?_, fun k k0 k1 => ?_, fun y y0 y1 => ?_⟩
  · rw [hk, if_neg (by omega), if_neg (by omega)]
    exact a1
  · rw [h1]
    omega
  · rw [hk, if_neg (by omega), if_neg (by omega)]
    exact a3 k k0 k1
  · rw [hk, if_neg (by omega), if_neg (by omega)]
    exact a4 k k0 k1
  · rw [h1] at y1
    by_cases e : y < x
    · have := a5 y y0 (by omega)
      rw [hk (17 + 5 * y), hk (17 + 5 * y + 1), hk (17 + 5 * y + 2), hk (17 + 5 * y + 3), hk (17 + 5 * y + 4)]
      repeat' rw [if_neg (by omega)]
      exact this
    · have := a5 (y + 1) (by omega) (by omega)
      rw [hk (17 + 5 * y), hk (17 + 5 * y + 1), hk (17 + 5 * y + 2), hk (17 + 5 * y + 3), hk (17 + 5 * y + 4), if_pos (by omega), if_pos (by omega), if_pos (by omega), if_pos (by omega), if_pos (by omega), show 17 + 5 * y + 5 = 17 + 5 * (y + 1) by omega, show 17 + 5 * y + 1 + 5 = 17 + 5 * (y + 1) + 1 by omega, show 17 + 5 * y + 2 + 5 = 17 + 5 * (y + 1) + 2 by omega, show 17 + 5 * y + 3 + 5 = 17 + 5 * (y + 1) + 3 by omega, show 17 + 5 * y + 4 + 5 = 17 + 5 * (y + 1) + 4 by omega]
      exact this

theorem mKf_0 (w : sm_W) : mKf w 0 = w := rfl
theorem mLateE_0 {w : sm_W} {x v : Int} (h : ¬ mLateE w x v < 0) : 0 ≤ x ∧ x < wI w 155 1 ∧ 1 ≤ v ∧ v ≤ 300 ∧ wI w 155 (17 + 5 * x + 2) + v ≤ 300 := by
  unfold mLateE at h
  grind
theorem mRm_keep {w : sm_W} {x b : Int} (hx : 0 ≤ x) (x1 : x < wI w 155 1) : (∀ a, a ≠ 155 → wI (mRm w x b) a = wI (mKf w b) a) ∧ (sT w → sT (mRm w x b)) := by
  refine itI_ind (f := mRm1 x) (fun _ r => (∀ a, a ≠ 155 → wI r a = wI (mKf w b) a) ∧ (sT w → sT r)) (5 * (wI w 155 1 - 1) - 5 * x) ⟨fun a h => wIf_ne h, fun h => sT_wsI ((mKf_keep b).2 h)⟩ (fun i r _ _ hr => ⟨fun a h => by unfold mRm1; rw [wIf_ne h, hr.1 a h], hr.2⟩) _ (by omega) (Int.le_refl _)
/-- an order changes the line alone, and leaves it in order; one that fails changes nothing -/
theorem cW_st {w : sm_W} (hO : mOK w) (k : Int) : mOK (cW w k) ∧ (∀ a, a ≠ 155 → wI (cW w k) a = wI w a) ∧ (cAns w k < 0 → cW w k = w) := by
  have hT := hO.1
  have hv := hO.2
  have hm := vOK_many hv
  have rf : mOK w ∧ (∀ a, a ≠ 155 → wI w a = wI w a) := ⟨hO, fun _ _ => rfl⟩
  have st : ∀ c x : Int, vOK (wI (wsI w 155 c x) 155) → mOK (wsI (mKf w 0) 155 c x) ∧ (∀ a, a ≠ 155 → wI (wsI (mKf w 0) 155 c x) a = wI w a) := fun c x h => ⟨⟨sT_wsI hT, h⟩, fun a ha => wIf_ne ha⟩
  unfold cW cAns
  split
  · split
    · exact ⟨rf.1, rf.2, fun _ => rfl⟩
    · next h =>
      split
      · exact ⟨rf.1, rf.2, fun _ => rfl⟩
      · next h8 =>
        refine ⟨⟨hT, vOK_new hv h8 h⟩, fun a ha => ?_, fun e => by omega⟩
        unfold mNewSh
        rw [wIf_ne ha, wIf_ne ha, wIf_ne ha, wIf_ne ha, wIf_ne ha, wIf_ne ha]
        rfl
  · split
    · split
      · exact ⟨rf.1, rf.2, fun _ => rfl⟩
      · next h =>
        have hq := mLateE_0 h
        have hs := vOK_sh hv hq.1 hq.2.1
        have := st (17 + 5 * wI w 175 (5 * k) + 2) _ (vOK_sh2 hv hq.1 (v := wI w 155 (17 + 5 * wI w 175 (5 * k) + 2) + wI w 175 (5 * k + 1)) (by omega))
        exact ⟨this.1, this.2, fun e => by omega⟩
    · split
      · split
        · next h =>
          split
          · next h2 =>
            have h5 := st (2 + wI w 175 (5 * k)) _ (vOK_cell hv (c := 2 + wI w 175 (5 * k)) (x := wI w 175 (5 * k + 1)) (by omega))
            have := vOK_tr hv h.1 (by omega)
            exact ⟨h5.1, h5.2, fun e => by omega⟩
          · exact ⟨rf.1, rf.2, fun _ => rfl⟩
        · exact ⟨rf.1, rf.2, fun _ => rfl⟩
      · split
        · split
          · next h =>
            split
            · next h2 =>
              have h5 := st (10 + wI w 175 (5 * k)) _ (vOK_cell hv (c := 10 + wI w 175 (5 * k)) (x := wI w 175 (5 * k + 1)) (by omega))
              have := vOK_ru hv h.1 (by omega)
              exact ⟨h5.1, h5.2, fun e => by omega⟩
            · exact ⟨rf.1, rf.2, fun _ => rfl⟩
          · exact ⟨rf.1, rf.2, fun _ => rfl⟩
        · split
          · split
            · next h =>
              split
              · next h2 =>
                have h5 := st (17 + 5 * wI w 175 (5 * k) + 4) _ (vOK_sh4 hv h.1 (v := wI w 175 (5 * k + 1)) h2)
                have := vOK_sh hv h.1 h.2
                exact ⟨h5.1, h5.2, fun e => by omega⟩
              · exact ⟨rf.1, rf.2, fun _ => rfl⟩
            · exact ⟨rf.1, rf.2, fun _ => rfl⟩
          · split
            · next h =>
              have hk := mRm_keep (b := 0) h.1 h.2
              exact ⟨⟨hk.2 hT, vOK_rm hv h.1 h.2⟩, hk.1, fun e => by omega⟩
            · exact ⟨rf.1, rf.2, fun _ => rfl⟩
def cLp : Nat → sm_W → Int → sm_W × Int
  | 0, w, k => (w, k)
  | n + 1, w, k => if k < wI w 154 27 then (if cAns w k < 0 then (w, k) else cLp n (cW w k) (k + 1)) else (w, k)
theorem cLp_s (n : Nat) (w : sm_W) (k : Int) : cLp (n + 1) w k = if k < wI w 154 27 then (if cAns w k < 0 then (w, k) else cLp n (cW w k) (k + 1)) else (w, k) := rfl
def cOut (w : sm_W) : sm_W × Int := cLp 40 (mKeep (tFault w)) 0
theorem tFl_st : ∀ (n : Nat) (w : sm_W), tOK w → (wI w 154 26 = 0 → tGo w) → tOK (tFl n w) ∧ tSame w (tFl n w) ∧ (wI (tFl n w) 154 26 = 0 → wI (tFl n w) 154 27 ≤ 27)
  | 0, w, h, hg => ⟨h, tSame.rf w, fun e => ((hg e).2 e).2⟩
  | n + 1, w, h, hg => by
    rw [tFl_s]
    split
    · next c =>
      obtain ⟨s1, s2, s3, s4⟩ := tGo_sign (hg c.1) c.1 c.2
      split
      · next c2 =>
        have q := s2 c2
        have o1 := tOrd_st s1 (by omega) (by omega)
        have := tFl_st n (tOrd (tSign w 59)) o1.1 (fun e => by
          rcases s3 c2 with r | r
          · exact r.1
          · omega)
        exact ⟨this.1, ((tSign_same w 59).tr (tOrd_same _)).tr this.2.1, this.2.2⟩
      · next c2 =>
        have := tFl_st n (tSign w 59) s1 (fun e => absurd e c2)
        exact ⟨this.1, (tSign_same w 59).tr this.2.1, this.2.2⟩
    · exact ⟨h, tSame.rf w, fun e => ((hg e).2 e).2⟩
theorem tFault_st {w : sm_W} (hO : tOK (tF0 w)) : tOK (tFault w) ∧ tSame w (tFault w) ∧ (wI (tFault w) 154 26 = 0 → wI (tFault w) 154 27 ≤ 27) := by
  have z25 : wI (tF0 w) 154 25 = 0 := rfl
  have z27 : wI (tF0 w) 154 27 = 0 := rfl
  have a0 := tOrd_st hO (by omega) (by omega)
  have := tFl_st 90 (tOrd (tF0 w)) a0.1 (fun e => ⟨a0.1, fun _ => by have := a0.2.1 e; omega⟩)
  have s0 : tSame w (tF0 w) := ((tSame_154 w (Or.inl rfl)).tr (tSame_154 _ (Or.inr (Or.inl rfl)))).tr (tSame_154 _ (Or.inr (Or.inr rfl)))
  exact ⟨this.1, (s0.tr (tOrd_same _)).tr this.2.1, this.2.2⟩
theorem mKeep_154 {w : sm_W} (hH : mH w) : mH (mKeep w) ∧ (∀ k, k ≠ 2 → k ≠ 3 → wI (mKeep w) 154 k = wI w 154 k) := by
  obtain ⟨k1, k2, k3⟩ := mKp0_keep w
  obtain ⟨k3, k4⟩ := k3 hH
  obtain ⟨j1, j2⟩ := mKpL ((wI (mKp0 w) 154 2 + wI (mKp0 w) 154 3) % 6) (mKp0 w) 57 (by decide)
  have j3 := j1 154 (by decide)
  have e0 : ∀ k, k ≠ 2 → k ≠ 3 → wI (mKp0 w) 154 k = wI w 154 k := by
    intro k h2 h3
    unfold mKp0
    split
    · rw [wI_wsI, if_neg (by omega), wI_wsI, if_neg (by omega)]
    · rfl
  unfold mKeep
  generalize itI (mKp1 ((wI (mKp0 w) 154 2 + wI (mKp0 w) 154 3) % 6)) (mKp0 w) 57 = u at j3 ⊢
  unfold mH at *
  refine ⟨?_, fun k h2 h3 => ?_⟩
  · rw [wI_wsI, wI_wsI, if_neg (by omega), if_pos ⟨rfl, rfl⟩, j3]
    omega
  · rw [wI_wsI, if_neg (by omega), j3, e0 k h2 h3]
def p_X8_carryOut : List sm_V → sm_W → Prop
  | [.inr (.inl m)], w => m = 154 ∧ mOK w ∧ mH w ∧ tOK (tF0 w)
  | _, _ => False
def f_X8_carryOut : sm_F
  | [.inr (.inl m)], w => (some (.inl (if wI (tFault w) 154 26 = 1 then -3 else (cOut w).2)), (if wI (tFault w) 154 26 = 1 then tFault w else wsI (cOut w).1 154 24 0))
  | _, w => (none, w)
def tb_X8_carryOut : List (Nat × List sm_O) := [(0, [oA 0, oCv 8 30 p_X8_fault f_X8_fault 0 0 1, oLt0 10, oK (-3), oIr]),
  (10, [oA 0, oCv 8 30 p_X8_keep f_X8_keep 0 0 1, oK 0, oIs 1, oGo 16]),
  (16, [oI 1, oA 0, oGi 8 30 27, oGe 38, oA 0, oI 1, oCv 8 30 p_X8_carry f_X8_carry 0 0 2, oLt0 38, oInc 1 1, oGo 16]),
  (38, [oA 0, oK 0, oPi 8 30 24, oI 1, oIr])]
set_option maxRecDepth 100000 in
theorem sb_X8_carryOut_0 (l : Launch) : sm_SndB l RX8 "carryOut" cX8_carryOut 2 1 5 0 [oA 0, oCv 8 30 p_X8_fault f_X8_fault 0 0 1, oLt0 10, oK (-3), oIr] := sb_cons (sd_aload_n (by decide +kernel : decode cX8_carryOut 0 = .ok (.aload_n 0, 1)) rfl) (sb_cons (sd_callv (n := 0) (met_X8_fault l) (by decide) (by decide) wm_1024 wm_1055 wm_10 ⟨by decide +kernel, by decide +kernel, by decide +kernel⟩ kl_8 wm_1022 wm_1023 (by decide +kernel : decode cX8_carryOut 1 = .ok (.invokevirtual 298, 3))) (sb_cons (sd_lt0 (by decide +kernel : decode cX8_carryOut 4 = .ok (.ifCond .lt 6, 3)) (by decide)) (sb_cons (sd_bipush (by decide +kernel : decode cX8_carryOut 7 = .ok (.bipush (-3), 2)) ⟨by decide, by decide⟩ (by decide)) (sb_cons (sd_ireturn (x := 0) rfl (by decide +kernel : decode cX8_carryOut 9 = .ok (.ireturn, 1))) sb_nil))))
set_option maxRecDepth 100000 in
theorem sb_X8_carryOut_10 (l : Launch) : sm_SndB l RX8 "carryOut" cX8_carryOut 2 1 5 10 [oA 0, oCv 8 30 p_X8_keep f_X8_keep 0 0 1, oK 0, oIs 1, oGo 16] := sb_cons (sd_aload_n (by decide +kernel : decode cX8_carryOut 10 = .ok (.aload_n 0, 1)) rfl) (sb_cons (sd_callv (n := 0) (met_X8_keep l) (by decide) (by decide) wm_714 wm_712 wm_10 ⟨by decide +kernel, by decide +kernel, by decide +kernel⟩ kl_8 wm_713 wm_1104 (by decide +kernel : decode cX8_carryOut 11 = .ok (.invokevirtual 89, 3))) (sb_cons (sd_iconst (by decide +kernel : decode cX8_carryOut 14 = .ok (.iconst 0, 1)) ⟨by decide, by decide⟩) (sb_cons (sd_istore_n (by decide +kernel : decode cX8_carryOut 15 = .ok (.istore_n 1, 1)) rfl) (sb_cons (sd_fall (x := 0)) sb_nil))))
set_option maxRecDepth 100000 in
theorem sb_X8_carryOut_16 (l : Launch) : sm_SndB l RX8 "carryOut" cX8_carryOut 2 1 5 16 [oI 1, oA 0, oGi 8 30 27, oGe 38, oA 0, oI 1, oCv 8 30 p_X8_carry f_X8_carry 0 0 2, oLt0 38, oInc 1 1, oGo 16] := sb_cons (sd_iload_n (by decide +kernel : decode cX8_carryOut 16 = .ok (.iload_n 1, 1)) rfl) (sb_cons (sd_aload_n (by decide +kernel : decode cX8_carryOut 17 = .ok (.aload_n 0, 1)) rfl) (sb_cons (sd_geti (k := 27) kl_8 (by decide) rfl wm_700 (by decide +kernel : decode cX8_carryOut 18 = .ok (.getfield 279, 3))) (sb_cons (sd_ge (by decide +kernel : decode cX8_carryOut 21 = .ok (.if_icmp .ge 17, 3)) (by decide)) (sb_cons (sd_aload_n (by decide +kernel : decode cX8_carryOut 24 = .ok (.aload_n 0, 1)) rfl) (sb_cons (sd_iload_n (by decide +kernel : decode cX8_carryOut 25 = .ok (.iload_n 1, 1)) rfl) (sb_cons (sd_callv (n := 1) (met_X8_carry l) (by decide) (by decide) wm_1058 wm_1056 wm_10 ⟨by decide +kernel, by decide +kernel, by decide +kernel⟩ kl_8 wm_1057 wm_1160 (by decide +kernel : decode cX8_carryOut 26 = .ok (.invokevirtual 301, 3))) (sb_cons (sd_lt0 (by decide +kernel : decode cX8_carryOut 29 = .ok (.ifCond .lt 9, 3)) (by decide)) (sb_cons (sd_iinc (by decide +kernel : decode cX8_carryOut 32 = .ok (.iinc 1 1, 3))) (sb_cons (sd_goto (x := 0) (by decide +kernel : decode cX8_carryOut 35 = .ok (.goto (-19), 3)) (by decide)) sb_nil)))))))))
set_option maxRecDepth 100000 in
theorem sb_X8_carryOut_38 (l : Launch) : sm_SndB l RX8 "carryOut" cX8_carryOut 2 1 5 38 [oA 0, oK 0, oPi 8 30 24, oI 1, oIr] := sb_cons (sd_aload_n (by decide +kernel : decode cX8_carryOut 38 = .ok (.aload_n 0, 1)) rfl) (sb_cons (sd_iconst (by decide +kernel : decode cX8_carryOut 39 = .ok (.iconst 0, 1)) ⟨by decide, by decide⟩) (sb_cons (sd_puti (k := 24) kl_8 (by decide) rfl (Or.inl rfl) wm_697 (by decide +kernel : decode cX8_carryOut 40 = .ok (.putfield 220, 3))) (sb_cons (sd_iload_n (by decide +kernel : decode cX8_carryOut 43 = .ok (.iload_n 1, 1)) rfl) (sb_cons (sd_ireturn (x := 0) rfl (by decide +kernel : decode cX8_carryOut 44 = .ok (.ireturn, 1))) sb_nil))))
theorem sn_X8_carryOut (l : Launch) : sm_SndT l RX8 "carryOut" cX8_carryOut 2 1 5 tb_X8_carryOut := st_cons (sb_X8_carryOut_0 l) (st_cons (sb_X8_carryOut_10 l) (st_cons (sb_X8_carryOut_16 l) (st_cons (sb_X8_carryOut_38 l) (st_nil))))
set_option maxRecDepth 100000 in
set_option maxHeartbeats 4000000 in
theorem ok_X8_carryOut : sm_Ok tb_X8_carryOut 2 0 0 p_X8_carryOut f_X8_carryOut := by
  intro as w hp ha hw
  match as, hp with
  | [.inr (.inl m)], hp =>
  refine ⟨Nat.le_of_ble_eq_true rfl, fun Z hZ => ?_⟩
  obtain ⟨rfl, hO, hH, hX⟩ := hp
  obtain ⟨f1, f2, f3⟩ := tFault_st hX
  have hT := hO.1
  have hFO : mOK (tFault w) := ⟨f1.1, by rw [f2.1 155 (by decide) (by decide) (by decide)]; exact hO.2⟩
  have hFH : mH (tFault w) := by unfold mH at *; rw [f2.2.1 2 (by decide) (by decide) (by decide), f2.2.1 3 (by decide) (by decide) (by decide)]; exact hH
  have h25 := f1.2.2.1
  by_cases c : wI (tFault w) 154 26 = 1
  · skip
    refine hZ (fun u => Nat.beq u 16) 14 0 _ _ _ _ _ ?_
    simp only [sm_run, sm_blk, sm_get, sm_ent, sm_ents, sm_wds, sm_wd, sm_nl, sm_pop, sm_back, sm_cases, oK, oLK, oL, oI, oA, oJ, oIs, oAs, oJs, oInc, oAdd, oSub, oMul, oDiv, oRem, oNeg, oAnd, oAndB, oOr, oShl, oI2c, oI2l, oL2i, oLand, oLor, oLshl, oLshr, oLushr, oLcmp, oDup, oDup2, oPop, oGo, oFg, oEq, oNe, oLt, oGe, oGt, oLe, oEq0, oNe0, oLt0, oGe0, oGt0, oLe0, oSw, oGi, oGr, oPi, oPz, oPr, oLen, oIl, oZl, oCl, oRl, oIst, oZst, oCst, oRst, oCopy, oNew, oNa, oNa2, oObj, oCs, oCv, oCi, oIr, oZr, oVr, Nat.beq, List.getElem?_cons_zero, List.getElem?_cons_succ, List.set_cons_zero, List.set_cons_succ, List.length_cons, List.length_nil, List.nil_append, List.cons_append, List.append_nil, List.replicate_succ, List.replicate_zero, Nat.reduceAdd, Nat.reduceSub, Nat.reduceLT, Nat.reduceLeDiff, Nat.reduceBEq, true_and, and_true, Nat.zero_add, Nat.add_zero, Nat.le_refl, Option.some.injEq, exists_eq_left', true_or, or_true, or_false, false_or, reduceCtorEq, Prod.mk.injEq, Sum.inl.injEq, and_self, false_and, and_false, not_true_eq_false, not_false_eq_true, false_implies, true_implies, sm_r, Int.add_zero, Int.zero_add, wI_wsI, wS_wsI, wR_wsI, wI_wCp, wS_wCp, wR_wCp, Nat.reduceEqDiff, reduceIte, sT_iff, sT_iffC, wIf_ne, ne_eq, Bool.false_or, Bool.true_or, Bool.or_false, Bool.or_true, Bool.or_self, tb_X8_carryOut, p_X8_carry, p_X8_fault, p_X8_keep, f_X8_carry, f_X8_fault, f_X8_keep, p_X8_carryOut, f_X8_carryOut, sS_154 hT, hX, if_pos c]
    repeat' (first | exact True.intro | with_reducible assumption | with_reducible refine And.intro ?_ ?_ | intro _)
    all_goals first
      | omega
      | assumption
      | rfl
      | (split <;> omega)
      | (have k9 := ih (by omega)
         (repeat' split at k9) <;> first | exact k9 | omega)
      | (have k9 := ih2 (by omega)
         (repeat' split at k9) <;> first | exact k9 | omega)
      | exact he (by omega)
      | (congr 1; omega)
      | (rw [if_pos (by omega)] at he; exact he)
      | exact hD1 (by omega)
      | exact hD2 (by omega)
      | grind
      | skip
  · have c' : wI (tFault w) 154 26 = 0 := by have := f1.2.2.2.1; omega
    have hr := f3 c'
    have hr0 := f1.2.2.2.2.1
    obtain ⟨g1, g2⟩ := mKeep_154 hFH
    have g3 := mKeep_keep (w := tFault w)
    have hKO : mOK (mKeep (tFault w)) := ⟨g3.2 f1.1, by rw [g3.1 155 (by decide) (by decide)]; exact hFO.2⟩
    have g27 := g2 27 (by decide) (by decide)
    have hl := sm_loopM (S := Nat × sm_W × Int) Z 16 (fun s => s.1) (fun s => mOK s.2.1 ∧ mH s.2.1 ∧ wI s.2.1 154 27 = wI (tFault w) 154 27 ∧ 0 ≤ s.2.2 ∧ s.2.2 ≤ wI (tFault w) 154 27 ∧ 28 ≤ s.2.2 + s.1 ∧ cLp s.1 s.2.1 s.2.2 = cOut w) (fun s => [some (.inr (.inl 154)), some (.inl s.2.2)]) (fun s => s.2.1) 0 0 (fun s hI ih => by
      obtain ⟨n, u, k⟩ := s
      dsimp only at hI ih ⊢
      obtain ⟨hU, hUH, h27, k0, k1, hn, he⟩ := hI
      have hT := hU.1
      cases n with
      | zero => omega
      | succ n =>
        rw [cLp_s] at he
        obtain ⟨q1, q2, q3⟩ := cW_st hU k
        have q27 := congrFun (q2 154 (by decide)) 27
        have qH : mH (cW u k) := by unfold mH at *; rw [q2 154 (by decide)]; exact hUH
        have qS : wS (cW u k) 154 = (8, 30) := sS_154 q1.1
        by_cases c1 : k < wI u 154 27
        · rw [if_pos c1] at he
          by_cases c2 : cAns u k < 0
          · rw [if_pos c2] at he
            have he1 : (cOut w).1 = u := by rw [← he]
            have he2 : (cOut w).2 = k := by rw [← he]
            have hcw := q3 c2
            clear ih
            refine hZ (fun u => Nat.beq u 16) 14 16 _ _ _ _ _ ?_
            simp only [sm_run, sm_blk, sm_get, sm_ent, sm_ents, sm_wds, sm_wd, sm_nl, sm_pop, sm_back, sm_cases, oK, oLK, oL, oI, oA, oJ, oIs, oAs, oJs, oInc, oAdd, oSub, oMul, oDiv, oRem, oNeg, oAnd, oAndB, oOr, oShl, oI2c, oI2l, oL2i, oLand, oLor, oLshl, oLshr, oLushr, oLcmp, oDup, oDup2, oPop, oGo, oFg, oEq, oNe, oLt, oGe, oGt, oLe, oEq0, oNe0, oLt0, oGe0, oGt0, oLe0, oSw, oGi, oGr, oPi, oPz, oPr, oLen, oIl, oZl, oCl, oRl, oIst, oZst, oCst, oRst, oCopy, oNew, oNa, oNa2, oObj, oCs, oCv, oCi, oIr, oZr, oVr, Nat.beq, List.getElem?_cons_zero, List.getElem?_cons_succ, List.set_cons_zero, List.set_cons_succ, List.length_cons, List.length_nil, List.nil_append, List.cons_append, List.append_nil, List.replicate_succ, List.replicate_zero, Nat.reduceAdd, Nat.reduceSub, Nat.reduceLT, Nat.reduceLeDiff, Nat.reduceBEq, true_and, and_true, Nat.zero_add, Nat.add_zero, Nat.le_refl, Option.some.injEq, exists_eq_left', true_or, or_true, or_false, false_or, reduceCtorEq, Prod.mk.injEq, Sum.inl.injEq, and_self, false_and, and_false, not_true_eq_false, not_false_eq_true, false_implies, true_implies, sm_r, Int.add_zero, Int.zero_add, wI_wsI, wS_wsI, wR_wsI, wI_wCp, wS_wCp, wR_wCp, Nat.reduceEqDiff, reduceIte, sT_iff, sT_iffC, wIf_ne, ne_eq, Bool.false_or, Bool.true_or, Bool.or_false, Bool.or_true, Bool.or_self, tb_X8_carryOut, p_X8_carry, p_X8_fault, p_X8_keep, f_X8_carry, f_X8_fault, f_X8_keep, p_X8_carryOut, f_X8_carryOut, sS_154 hT, hU, hUH, hcw, he1, he2, if_neg c]
            repeat' (first | exact True.intro | with_reducible assumption | with_reducible refine And.intro ?_ ?_ | intro _)
            all_goals first
              | omega
              | assumption
              | rfl
              | (split <;> omega)
              | (have k9 := ih (by omega)
                 (repeat' split at k9) <;> first | exact k9 | omega)
              | (have k9 := ih2 (by omega)
                 (repeat' split at k9) <;> first | exact k9 | omega)
              | exact he (by omega)
              | (congr 1; omega)
              | (rw [if_pos (by omega)] at he; exact he)
              | exact hD1 (by omega)
              | exact hD2 (by omega)
              | grind
              | skip
          · rw [if_neg c2] at he
            have ih := ih (n, cW u k, k + 1) ⟨q1, qH, by rw [← h27]; exact q27, by dsimp only; omega, by dsimp only; omega, by dsimp only; omega, he⟩ (Nat.lt_succ_self n)
            clear he
            refine hZ (fun u => Nat.beq u 16) 14 16 _ _ _ _ _ ?_
            simp only [sm_run, sm_blk, sm_get, sm_ent, sm_ents, sm_wds, sm_wd, sm_nl, sm_pop, sm_back, sm_cases, oK, oLK, oL, oI, oA, oJ, oIs, oAs, oJs, oInc, oAdd, oSub, oMul, oDiv, oRem, oNeg, oAnd, oAndB, oOr, oShl, oI2c, oI2l, oL2i, oLand, oLor, oLshl, oLshr, oLushr, oLcmp, oDup, oDup2, oPop, oGo, oFg, oEq, oNe, oLt, oGe, oGt, oLe, oEq0, oNe0, oLt0, oGe0, oGt0, oLe0, oSw, oGi, oGr, oPi, oPz, oPr, oLen, oIl, oZl, oCl, oRl, oIst, oZst, oCst, oRst, oCopy, oNew, oNa, oNa2, oObj, oCs, oCv, oCi, oIr, oZr, oVr, Nat.beq, List.getElem?_cons_zero, List.getElem?_cons_succ, List.set_cons_zero, List.set_cons_succ, List.length_cons, List.length_nil, List.nil_append, List.cons_append, List.append_nil, List.replicate_succ, List.replicate_zero, Nat.reduceAdd, Nat.reduceSub, Nat.reduceLT, Nat.reduceLeDiff, Nat.reduceBEq, true_and, and_true, Nat.zero_add, Nat.add_zero, Nat.le_refl, Option.some.injEq, exists_eq_left', true_or, or_true, or_false, false_or, reduceCtorEq, Prod.mk.injEq, Sum.inl.injEq, and_self, false_and, and_false, not_true_eq_false, not_false_eq_true, false_implies, true_implies, sm_r, Int.add_zero, Int.zero_add, wI_wsI, wS_wsI, wR_wsI, wI_wCp, wS_wCp, wR_wCp, Nat.reduceEqDiff, reduceIte, sT_iff, sT_iffC, wIf_ne, ne_eq, Bool.false_or, Bool.true_or, Bool.or_false, Bool.or_true, Bool.or_self, tb_X8_carryOut, p_X8_carry, p_X8_fault, p_X8_keep, f_X8_carry, f_X8_fault, f_X8_keep, p_X8_carryOut, f_X8_carryOut, sS_154 hT, hU, hUH, qS]
            repeat' (first | exact True.intro | with_reducible assumption | with_reducible refine And.intro ?_ ?_ | intro _)
            all_goals first
              | omega
              | assumption
              | rfl
              | (split <;> omega)
              | (have k9 := ih (by omega)
                 (repeat' split at k9) <;> first | exact k9 | omega)
              | (have k9 := ih2 (by omega)
                 (repeat' split at k9) <;> first | exact k9 | omega)
              | exact he (by omega)
              | (congr 1; omega)
              | (rw [if_pos (by omega)] at he; exact he)
              | exact hD1 (by omega)
              | exact hD2 (by omega)
              | grind
              | skip
        · rw [if_neg c1] at he
          have he1 : (cOut w).1 = u := by rw [← he]
          have he2 : (cOut w).2 = k := by rw [← he]
          clear ih
          refine hZ (fun u => Nat.beq u 16) 14 16 _ _ _ _ _ ?_
          simp only [sm_run, sm_blk, sm_get, sm_ent, sm_ents, sm_wds, sm_wd, sm_nl, sm_pop, sm_back, sm_cases, oK, oLK, oL, oI, oA, oJ, oIs, oAs, oJs, oInc, oAdd, oSub, oMul, oDiv, oRem, oNeg, oAnd, oAndB, oOr, oShl, oI2c, oI2l, oL2i, oLand, oLor, oLshl, oLshr, oLushr, oLcmp, oDup, oDup2, oPop, oGo, oFg, oEq, oNe, oLt, oGe, oGt, oLe, oEq0, oNe0, oLt0, oGe0, oGt0, oLe0, oSw, oGi, oGr, oPi, oPz, oPr, oLen, oIl, oZl, oCl, oRl, oIst, oZst, oCst, oRst, oCopy, oNew, oNa, oNa2, oObj, oCs, oCv, oCi, oIr, oZr, oVr, Nat.beq, List.getElem?_cons_zero, List.getElem?_cons_succ, List.set_cons_zero, List.set_cons_succ, List.length_cons, List.length_nil, List.nil_append, List.cons_append, List.append_nil, List.replicate_succ, List.replicate_zero, Nat.reduceAdd, Nat.reduceSub, Nat.reduceLT, Nat.reduceLeDiff, Nat.reduceBEq, true_and, and_true, Nat.zero_add, Nat.add_zero, Nat.le_refl, Option.some.injEq, exists_eq_left', true_or, or_true, or_false, false_or, reduceCtorEq, Prod.mk.injEq, Sum.inl.injEq, and_self, false_and, and_false, not_true_eq_false, not_false_eq_true, false_implies, true_implies, sm_r, Int.add_zero, Int.zero_add, wI_wsI, wS_wsI, wR_wsI, wI_wCp, wS_wCp, wR_wCp, Nat.reduceEqDiff, reduceIte, sT_iff, sT_iffC, wIf_ne, ne_eq, Bool.false_or, Bool.true_or, Bool.or_false, Bool.or_true, Bool.or_self, tb_X8_carryOut, p_X8_carry, p_X8_fault, p_X8_keep, f_X8_carry, f_X8_fault, f_X8_keep, p_X8_carryOut, f_X8_carryOut, sS_154 hT, hU, hUH, he1, he2, if_neg c]
          repeat' (first | exact True.intro | with_reducible assumption | with_reducible refine And.intro ?_ ?_ | intro _)
          all_goals first
            | omega
            | assumption
            | rfl
            | (split <;> omega)
            | (have k9 := ih (by omega)
               (repeat' split at k9) <;> first | exact k9 | omega)
            | (have k9 := ih2 (by omega)
               (repeat' split at k9) <;> first | exact k9 | omega)
            | exact he (by omega)
            | (congr 1; omega)
            | (rw [if_pos (by omega)] at he; exact he)
            | exact hD1 (by omega)
            | exact hD2 (by omega)
            | grind
            | skip
      )
    have h9 := hl (40, mKeep (tFault w), 0) ⟨hKO, g1, g27, Int.le_refl _, hr0.1, (show (28 : Int) ≤ 0 + ((40 : Nat) : Int) by decide), rfl⟩
    refine hZ (fun u => Nat.beq u 16) 14 0 _ _ _ _ _ ?_
    simp only [sm_run, sm_blk, sm_get, sm_ent, sm_ents, sm_wds, sm_wd, sm_nl, sm_pop, sm_back, sm_cases, oK, oLK, oL, oI, oA, oJ, oIs, oAs, oJs, oInc, oAdd, oSub, oMul, oDiv, oRem, oNeg, oAnd, oAndB, oOr, oShl, oI2c, oI2l, oL2i, oLand, oLor, oLshl, oLshr, oLushr, oLcmp, oDup, oDup2, oPop, oGo, oFg, oEq, oNe, oLt, oGe, oGt, oLe, oEq0, oNe0, oLt0, oGe0, oGt0, oLe0, oSw, oGi, oGr, oPi, oPz, oPr, oLen, oIl, oZl, oCl, oRl, oIst, oZst, oCst, oRst, oCopy, oNew, oNa, oNa2, oObj, oCs, oCv, oCi, oIr, oZr, oVr, Nat.beq, List.getElem?_cons_zero, List.getElem?_cons_succ, List.set_cons_zero, List.set_cons_succ, List.length_cons, List.length_nil, List.nil_append, List.cons_append, List.append_nil, List.replicate_succ, List.replicate_zero, Nat.reduceAdd, Nat.reduceSub, Nat.reduceLT, Nat.reduceLeDiff, Nat.reduceBEq, true_and, and_true, Nat.zero_add, Nat.add_zero, Nat.le_refl, Option.some.injEq, exists_eq_left', true_or, or_true, or_false, false_or, reduceCtorEq, Prod.mk.injEq, Sum.inl.injEq, and_self, false_and, and_false, not_true_eq_false, not_false_eq_true, false_implies, true_implies, sm_r, Int.add_zero, Int.zero_add, wI_wsI, wS_wsI, wR_wsI, wI_wCp, wS_wCp, wR_wCp, Nat.reduceEqDiff, reduceIte, sT_iff, sT_iffC, wIf_ne, ne_eq, Bool.false_or, Bool.true_or, Bool.or_false, Bool.or_true, Bool.or_self, tb_X8_carryOut, p_X8_carry, p_X8_fault, p_X8_keep, f_X8_carry, f_X8_fault, f_X8_keep, p_X8_carryOut, f_X8_carryOut, sS_154 hT, sS_154 f1.1, f1.1, hX, hFH, if_neg c]
    repeat' (first | exact True.intro | with_reducible assumption | with_reducible refine And.intro ?_ ?_ | intro _)
    all_goals first
      | omega
      | assumption
      | rfl
      | (split <;> omega)
      | (have k9 := ih (by omega)
         (repeat' split at k9) <;> first | exact k9 | omega)
      | (have k9 := ih2 (by omega)
         (repeat' split at k9) <;> first | exact k9 | omega)
      | exact he (by omega)
      | (congr 1; omega)
      | (rw [if_pos (by omega)] at he; exact he)
      | exact hD1 (by omega)
      | exact hD2 (by omega)
      | skip

theorem met_X8_carryOut (l : Launch) : sm_Met l yX8_carryOut cX8_carryOut 2 (some .int) 5 0 0 p_X8_carryOut f_X8_carryOut := sm_met 1 (Or.inr (Or.inl ⟨rfl, rfl⟩)) (by decide +kernel) (sn_X8_carryOut l) ok_X8_carryOut