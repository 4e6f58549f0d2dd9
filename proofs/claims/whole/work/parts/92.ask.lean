/-! STEPS OF A RUN: what is asked -/
theorem Rel_of {a u b z : sm_W} (h : Rel a b) (hc : cAg a u) (hr : rKp b z) : Rel u z := hr.rel (hc.rel h)
theorem gW_ag {a : sm_W} {x n : Int} (h : cOK a) (x0 : 0 ≤ x) (x1 : x < wI a 2 7) (n0 : 0 ≤ n) (n1 : n ≤ 8) : cAg a (gW (xRun 1 a) 1 x n) := by
  have hD := cOK_d h
  have k := xRun_ok hD
  have e : wI (xRun 1 a) (1 + 1) 7 = wI a 2 7 := by rw [sDy_l0 (xRun_fr hD).1]
  have g := (gW_inv k.1 k.2 x0 (by rw [e]; exact x1) n n0 n1).1
  exact (xRun_ag hD).tr (cAg_fr g k.1.1.2.1 (fun x i v hs => by unfold sWt at hs; omega))
theorem mGa_ag {a : sm_W} (h : cOK a) : cAg a (mGa (xRun 1 a) 1) := by
  have hD := cOK_d h
  have k := xRun_ok hD
  have hn := dOK_n k.1.1
  have g := (mGaL_inv k.1 (wI (xRun 1 a) (1 + 1) 7) hn.1 (Int.le_refl _)).1
  exact (xRun_ag hD).tr (cAg_fr g k.1.1.2.1 (fun x i v hs => by unfold sMt at hs; omega))
theorem Rel_kp {a b : sm_W} (h : Rel a b) : rKp b (mRun b) := mRun_kp h.2.1.1 h.2.1.2.1
theorem Rel_ag {a b : sm_W} (h : Rel a b) : cAg a (xRun 1 a) := xRun_ag (cOK_d h.1.1)
theorem Rel_rf {a b : sm_W} (h : Rel a b) : cAg a a := cAg.rf h.1.1.1.1
theorem Rel_rr {a b : sm_W} (h : Rel a b) : rKp b b := rKp.rf h.2.1
theorem st_of {a b : sm_W} (h : Rel a b) (x k : Int) : cOfA a x k = (if 0 ≤ x ∧ x < wI b 155 1 then (if 0 ≤ k ∧ k ≤ 4 then wI b 155 (17 + 5 * x + k) else qOf (mRun b) x k) else -1) ∧ Rel (cOfW a x k) (if 0 ≤ x ∧ x < wI b 155 1 then (if 0 ≤ k ∧ k ≤ 4 then b else mRun b) else b) := by
  have hn := Rel_n h
  have hm := vOK_many h.2.1.1.1.2
  constructor
  · unfold cOfA
    rw [hn]
    by_cases c : 0 ≤ x ∧ x < wI b 155 1
    · rw [if_pos c, if_pos c]
      obtain ⟨R, h1, h2, h3⟩ := Rel_day h
      have eR := bQ_n h2
      have e155 : wI (mRun b) 155 1 = wI b 155 1 := by rw [(mRun_st h.2.1.1).2]
      have x1 : x < wI R 155 1 := by rw [← eR, e155]; exact c.2
      have hq := vOK_sh h2.2.2 c.1 x1
      unfold qOf
      by_cases k0 : k < 0
      · rw [if_pos k0, if_neg (by omega), if_neg (by omega), if_neg (by omega), if_neg (by omega), if_neg (by omega), if_neg (by omega), if_neg (by omega)]
      · rw [if_neg k0]
        by_cases k12 : 12 < k
        · rw [if_pos k12, if_neg (by omega), if_neg (by omega), if_neg (by omega), if_neg (by omega), if_neg (by omega), if_neg (by omega), if_neg (by omega)]
        · rw [if_neg k12]
          by_cases k5 : k ≤ 5
          · rw [if_pos k5]
            by_cases k4 : k ≤ 4
            · rw [if_pos k4, if_pos (show 0 ≤ k ∧ k ≤ 4 by omega)]
              exact h.2.2.1 _ (by omega) (by omega)
            · rw [if_neg k4, if_neg (show ¬ (0 ≤ k ∧ k ≤ 4) by omega), if_pos (show k = 5 by omega)]
              have e1 := h.2.2.1 (17 + 5 * x) (by omega) (by omega)
              have e2 : wI a 5 x = vL a 2 (17 + 5 * x) := (vL_s a 2 c.1).1.symm
              rw [e2, e1, (mRun_st h.2.1.1).2]
              have hv := vOK_sh h.2.1.1.1.2 c.1 c.2
              exact vTime_cg (fun k k0 k1 => h.2.2.1 _ (by omega) (by omega)) (h.2.2.1 _ (by omega) (by omega)) (h.2.2.1 _ (by omega) (by omega)) hv.2.1.1 hv.2.1.2 hv.1.1 hv.1.2
          · rw [if_neg k5, if_neg (show ¬ (0 ≤ k ∧ k ≤ 4) by omega), if_neg (show ¬ k = 5 by omega)]
            by_cases k6 : k = 6
            · rw [if_pos k6, if_pos k6, an_End h1 c.1 x1, bQ_End h2 c.1 x1]
            · rw [if_neg k6, if_neg k6]
              by_cases k7 : k = 7
              · rw [if_pos k7, if_pos k7, an_Dly h1 c.1 x1, bQ_Dly h2 c.1 x1]
              · rw [if_neg k7, if_neg k7]
                have g := an_gW (Or.inl rfl) h1 c.1 x1
                have e9 := h2.1.1 169 (by decide) (by decide)
                by_cases k8 : k = 8
                · rw [if_pos k8, if_pos k8]
                  unfold cTot mWtd
                  rw [g.1 1 (Or.inl rfl), g.1 2 (Or.inr (Or.inl rfl)), g.1 3 (Or.inr (Or.inr rfl)), e9]
                · rw [if_neg k8, if_neg k8]
                  by_cases kk : k = 12
                  · rw [if_pos kk, if_neg (show ¬ (k = 9 ∨ k = 10 ∨ k = 11) by omega), if_pos kk, an_Mb (Or.inl rfl) h1 c.1 x1, bQ_Blm h2]
                  · rw [if_neg kk, if_pos (show k = 9 ∨ k = 10 ∨ k = 11 by omega), g.1 (k - 8) (by omega), e9]
    · rw [if_neg c, if_neg c]
  · refine Rel_of h ?_ ?_
    · unfold cOfW
      by_cases c : 0 ≤ x ∧ x < wI a 2 7
      · rw [if_pos c]
        have := Rel_ag h
        have := Rel_rf h
        have := gW_ag (n := 8) h.1.1 c.1 c.2 (by decide) (by decide)
        repeat' split
        all_goals assumption
      · rw [if_neg c]
        exact Rel_rf h
    · have := Rel_kp h
      have := Rel_rr h
      repeat' split
      all_goals assumption
theorem st_count {a b : sm_W} (h : Rel a b) (k : Int) : cCt a k = (if k = 0 then wI b 155 1 else (if k = 1 then wI b 155 0 else (if k = 2 then wI b 154 24 else (if k = 3 then wI b 154 3 else (if 4 ≤ k ∧ k ≤ 18 then wI b 155 (k - 2) else -2))))) := by
  have hn := Rel_n h
  have h0 : wI a 2 8 = wI b 155 0 := h.2.2.1 0 (by decide) (by decide)
  unfold cCt
  rw [hn, h0, h.2.2.2.2.2.1, h.2.2.2.1.1]
  by_cases k0 : k < 0
  · rw [if_pos k0, if_neg (by omega), if_neg (by omega), if_neg (by omega), if_neg (by omega), if_neg (by omega)]
  · rw [if_neg k0]
    by_cases k18 : 18 < k
    · rw [if_pos k18, if_neg (by omega), if_neg (by omega), if_neg (by omega), if_neg (by omega), if_neg (by omega)]
    · rw [if_neg k18]
      by_cases c0 : k = 0
      · rw [if_pos c0, if_pos c0]
      · rw [if_neg c0, if_neg c0]
        by_cases c1 : k = 1
        · rw [if_pos c1, if_pos c1]
        · rw [if_neg c1, if_neg c1]
          by_cases c2 : k = 2
          · rw [if_pos c2, if_pos c2]
          · rw [if_neg c2, if_neg c2]
            by_cases c3 : k = 3
            · rw [if_pos c3, if_pos c3]
            · rw [if_neg c3, if_neg c3, if_pos (show 4 ≤ k ∧ k ≤ 18 by omega), ← h.2.2.1 (k - 2) (by omega) (by omega)]
              by_cases c4 : k < 12
              · have := vL_t a 2 (k := k - 4) (by omega) (by omega)
                rw [if_pos c4, show k - 2 = 2 + (k - 4) by omega, this]
              · have := vL_r a 2 (k := k - 12) (by omega) (by omega)
                rw [if_neg c4, show k - 2 = 10 + (k - 12) by omega, this]
theorem st_day {a b : sm_W} (h : Rel a b) (k : Int) : cDyA a k = qDay (mRun b) k ∧ Rel (cDyW a k) (mRun b) := by
  obtain ⟨R, h1, h2, h3⟩ := Rel_day h
  have eN : wI (xRun 1 a) 2 7 = wI R 155 1 := rEq_n h1
  constructor
  · unfold cDyA qDay
    by_cases k0 : k < 0
    · rw [if_pos k0, if_neg (by omega), if_neg (by omega), if_neg (by omega), if_neg (by omega), if_neg (by omega), if_neg (by omega)]
    · rw [if_neg k0]
      by_cases k5 : 5 < k
      · rw [if_pos k5, if_neg (by omega), if_neg (by omega), if_neg (by omega), if_neg (by omega), if_neg (by omega), if_neg (by omega)]
      · rw [if_neg k5]
        by_cases c0 : k = 0
        · rw [if_pos c0, if_pos c0, h1.1.2.2.1, h2.1.2.1]
        · rw [if_neg c0, if_neg c0]
          by_cases c1 : k = 1
          · rw [if_pos c1, if_pos c1, an_Dl h1, bQ_Dl h2]
          · rw [if_neg c1, if_neg c1]
            by_cases c2 : k = 2
            · rw [if_pos c2, if_pos c2, h1.1.2.2.2.1, h2.1.2.2]
            · rw [if_neg c2, if_neg c2]
              by_cases c3 : k = 3
              · rw [if_pos c3, if_pos c3, an_meets h1, bQ_Mtn h2]
              · rw [if_neg c3, if_neg c3]
                by_cases c4 : k = 4
                · rw [if_pos c4, if_pos c4, eN, an_Wm h1, bQ_Aw h2]
                · rw [if_neg c4, if_neg c4, if_pos (show k = 5 by omega), eN, an_Gd h1, bQ_Gd h2]
  · refine Rel_of h ?_ (Rel_kp h)
    have := Rel_ag h
    have := Rel_rf h
    have := mGa_ag h.1.1
    unfold cDyW
    repeat' split
    all_goals assumption
theorem st_at {a b : sm_W} (h : Rel a b) (x t : Int) : (if 0 ≤ x ∧ x < wI a 2 7 then (if 0 ≤ t ∧ t ≤ 9999 then xPl (xRun 1 a) 1 x t else -2) else -1) = (if 0 ≤ x ∧ x < wI b 155 1 then (if 0 ≤ t ∧ t ≤ 9999 then mPlace (mRun b) x t else -2) else -1) ∧ Rel (if 0 ≤ x ∧ x < wI a 2 7 then (if 0 ≤ t ∧ t ≤ 9999 then xRun 1 a else a) else a) (if 0 ≤ x ∧ x < wI b 155 1 then (if 0 ≤ t ∧ t ≤ 9999 then mRun b else b) else b) := by
  obtain ⟨R, h1, h2, h3⟩ := Rel_day h
  rw [Rel_n h]
  have eR := bQ_n h2
  have e155 : wI (mRun b) 155 1 = wI b 155 1 := by rw [(mRun_st h.2.1.1).2]
  by_cases c : 0 ≤ x ∧ x < wI b 155 1
  · rw [if_pos c, if_pos c, if_pos c, if_pos c]
    have x1 : x < wI R 155 1 := by rw [← eR, e155]; exact c.2
    by_cases ct : 0 ≤ t ∧ t ≤ 9999
    · rw [if_pos ct, if_pos ct, if_pos ct, if_pos ct]
      exact ⟨by rw [an_Pl h1 c.1 x1, bQ_Pl h2 c.1 x1], h3⟩
    · rw [if_neg ct, if_neg ct, if_neg ct, if_neg ct]
      exact ⟨rfl, h⟩
  · rw [if_neg c, if_neg c, if_neg c, if_neg c]
    exact ⟨rfl, h⟩
theorem st_why {a b : sm_W} (h : Rel a b) (x t : Int) : (if 0 ≤ x ∧ x < wI a 2 7 then (if 0 ≤ t ∧ t ≤ 9999 then xRa (xRun 1 a) 1 x t else -2) else -1) = (if 0 ≤ x ∧ x < wI b 155 1 then (if 0 ≤ t ∧ t ≤ 9999 then (if t ≤ wI (mRun b) 154 17 then mReasonIn (mRun b) x t else 0) else -2) else -1) ∧ Rel (if 0 ≤ x ∧ x < wI a 2 7 then (if 0 ≤ t ∧ t ≤ 9999 then xRun 1 a else a) else a) (if 0 ≤ x ∧ x < wI b 155 1 then (if 0 ≤ t ∧ t ≤ 9999 then mRun b else b) else b) := by
  obtain ⟨R, h1, h2, h3⟩ := Rel_day h
  rw [Rel_n h]
  have eR := bQ_n h2
  have e155 : wI (mRun b) 155 1 = wI b 155 1 := by rw [(mRun_st h.2.1.1).2]
  by_cases c : 0 ≤ x ∧ x < wI b 155 1
  · rw [if_pos c, if_pos c, if_pos c, if_pos c]
    have x1 : x < wI R 155 1 := by rw [← eR, e155]; exact c.2
    by_cases ct : 0 ≤ t ∧ t ≤ 9999
    · rw [if_pos ct, if_pos ct, if_pos ct, if_pos ct]
      exact ⟨by rw [an_why h1 c.1 x1 ct.1, bQ_Ri h2 c.1 x1, h2.1.2.1], h3⟩
    · rw [if_neg ct, if_neg ct, if_neg ct, if_neg ct]
      exact ⟨rfl, h⟩
  · rw [if_neg c, if_neg c, if_neg c, if_neg c]
    exact ⟨rfl, h⟩
theorem st_when {a b : sm_W} (h : Rel a b) (x s k : Int) : (if 0 ≤ x ∧ x < wI a 2 7 ∧ 0 ≤ s ∧ s < 8 then (if k = 0 then wI (xRun 1 a) (dC 1 x) s else (if k = 1 then wI (xRun 1 a) (dV 1 x) s else -2)) else -1) = (if (0 ≤ x ∧ x < wI b 155 1) ∧ 0 ≤ s ∧ s ≤ 7 then (if 0 ≤ k ∧ k ≤ 1 then (if k = 0 then wI (mRun b) 163 (8 * x + s) else wI (mRun b) 165 (8 * x + s)) else -2) else -1) ∧ Rel (if 0 ≤ x ∧ x < wI a 2 7 ∧ 0 ≤ s ∧ s < 8 then (if k = 0 then xRun 1 a else (if k = 1 then xRun 1 a else a)) else a) (if (0 ≤ x ∧ x < wI b 155 1) ∧ 0 ≤ s ∧ s ≤ 7 then (if 0 ≤ k ∧ k ≤ 1 then mRun b else b) else b) := by
  obtain ⟨R, h1, h2, h3⟩ := Rel_day h
  rw [Rel_n h]
  have eR := bQ_n h2
  have e155 : wI (mRun b) 155 1 = wI b 155 1 := by rw [(mRun_st h.2.1.1).2]
  by_cases c : 0 ≤ x ∧ x < wI b 155 1 ∧ 0 ≤ s ∧ s < 8
  · have c' : (0 ≤ x ∧ x < wI b 155 1) ∧ 0 ≤ s ∧ s ≤ 7 := by omega
    rw [if_pos c, if_pos c', if_pos c, if_pos c']
    have x1 : x < wI R 155 1 := by rw [← eR, e155]; exact c.2.1
    have g := rEq_C h1 c.1 x1 c.2.2.1 c.2.2.2
    by_cases c0 : k = 0
    · rw [if_pos c0, if_pos (by omega), if_pos c0, if_pos c0, if_pos (by omega)]
      exact ⟨by rw [g.1, h2.1.1 163 (by decide) (by decide)]; rfl, h3⟩
    · rw [if_neg c0]
      by_cases c1 : k = 1
      · rw [if_pos c1, if_pos (by omega), if_neg c0, if_neg c0, if_pos c1, if_pos (by omega)]
        exact ⟨by rw [g.2, h2.1.1 165 (by decide) (by decide)]; rfl, h3⟩
      · rw [if_neg c1, if_neg (by omega), if_neg c0, if_neg c1, if_neg (by omega)]
        exact ⟨rfl, h⟩
  · have c' : ¬ ((0 ≤ x ∧ x < wI b 155 1) ∧ 0 ≤ s ∧ s ≤ 7) := by omega
    rw [if_neg c, if_neg c', if_neg c, if_neg c']
    exact ⟨rfl, h⟩
theorem st_meeting {a b : sm_W} (h : Rel a b) (n c : Int) : cMt (mGa (xRun 1 a) 1) n c = (qMt (mRun b) n c 64).getD (-1) ∧ Rel (mGa (xRun 1 a) 1) (mRun b) := by
  obtain ⟨R, h1, h2, h3⟩ := Rel_day h
  exact ⟨by rw [an_meeting h1, bQ_Mt h2], Rel_of h (mGa_ag h.1.1) (Rel_kp h)⟩
