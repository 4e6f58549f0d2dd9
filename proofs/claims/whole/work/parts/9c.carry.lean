/-! STEPS OF A RUN: carryOut -/
theorem st_carry {a b : sm_W} (h : Rel a b) : (if (kF 80 (kF0 a)).2 = -6 then (cCo a).2 else -3) = (if wI (tFault b) 154 26 = 1 then -3 else (cOut b).2) ∧ Rel (if (kF 80 (kF0 a)).2 = -6 then hKp (wsI (cCo a).1 83 0 0) 67 else (kF 80 (kF0 a)).1) (if wI (tFault b) 154 26 = 1 then tFault b else wsI (cOut b).1 154 24 0) := by
  have hf := st_flt h
  have tf := tFault_st h.2.1.2.2.2.1
  by_cases c : wI (tFault b) 154 26 = 1
  · rw [if_pos c] at hf
    have h25 := tf.1.2.2.1
    have hne : ¬ (kF 80 (kF0 a)).2 = -6 := by rw [hf]; omega
    rw [if_neg hne, if_pos c, if_neg hne, if_pos c]
    exact ⟨rfl, Rel_of h (kF_ag h) (tFault_kp h)⟩
  · rw [if_neg c] at hf
    rw [if_pos hf, if_neg c, if_pos hf, if_neg c]
    have c0 : wI (tFault b) 154 26 = 0 := by have := tf.1.2.2.2.1; omega
    have h1 : Rel (kF 80 (kF0 a)).1 (tFault b) := Rel_of h (kF_ag h) (tFault_kp h)
    have h1b : Rel (kF 80 (kF0 a)).1 b := (kF_ag h).rel h
    have eCo : cCo a = kOb 80 (kF0 (cB (kF 80 (kF0 a)).1)) 0 := rfl
    generalize (kF 80 (kF0 a)).1 = a1 at *
    have hB := cB_in h1.1.1
    have h2b : Rel (cB a1) b := (cB_ag h1.1.1).rel h1b
    have h2 : Rel (cB a1) (tFault b) := (cB_ag h1.1.1).rel h1
    have a83 : wI (kF0 (cB a1)) 83 2 = 0 := by unfold kF0; rw [wI_wsI, if_pos ⟨rfl, rfl⟩]
    have v0 : vL (kF0 (cB a1)) 2 = vL (cB a1) 2 := vL_of8 (fun k hk => by unfold kF0; exact wIf_ne (by omega))
    have hl0 : lOK (kF0 (cB a1)) 2 := ⟨h2.1.2.2.1, is2, by rw [v0]; exact h2.1.1.1.2.2⟩
    have e26 : wI (tF0 b) 154 26 = 0 := by unfold tF0; simp only [wI_wsI]; simp
    have e25 : wI (tF0 b) 154 25 = 0 := by unfold tF0; simp only [wI_wsI]; simp
    have e24 : wI (tF0 b) 154 24 = wI b 154 24 := by unfold tF0; simp only [wI_wsI]; simp
    have t := (tOK_F0.mp h.2.1.2.2.2.1).2.1
    have hK := mKeep_keep (w := tFault b)
    have hH := h1.2.1.2.2.1
    have k154 := (mKeep_154 hH).2
    have hq : mOK (mKeep (tFault b)) := ⟨hK.2 tf.1.1, by rw [hK.1 155 (by decide) (by decide)]; exact h1.2.1.1.1.2⟩
    have eF : tFl 90 (tOrd (tF0 b)) = tFault b := rfl
    have ob := obey 80 90 40 (kF0 (cB a1)) (tF0 b) (mKeep (tFault b)) 0 (sy_0 h2b) e26 (by omega) (by omega) (by omega) (by rw [eF]; exact c0) (by omega) hl0 hq (by
      rw [v0, hK.1 155 (by decide) (by decide)]
      exact h2.2.2.1) (by rw [eF]; exact k154 27 (by decide) (by decide)) (by rw [eF]; exact hK.1 174 (by decide) (by decide)) (by rw [eF]; exact hK.1 175 (by decide) (by decide)) (by rw [eF]; have := tf.2.2 c0; omega) (Int.le_refl _)
    rw [← eCo] at ob
    have eOut : cOut b = cLp 40 (mKeep (tFault b)) 0 := rfl
    rw [← eOut] at ob
    refine ⟨ob.1, ?_⟩
    have all := kOb_all 80 (kF0 (cB a1)) 0 h2.1.2.2 (by rw [a83]; decide) hl0 (Int.le_refl _)
    rw [← eCo] at all
    obtain ⟨f1, f2, f3, f4⟩ := all
    have u1 : ∀ x, ¬ (2 ≤ x ∧ x ≤ 9) → x ≠ 83 → x ≠ 85 → wI (wsI (cCo a).1 83 0 0) x = wI (cB a1) x := fun x h1 h2 h3 => by
      rw [wIf_ne h2, f1.outA (fun i v hs => by
        rcases hs with hs | hs
        · unfold sRd at hs; omega
        · unfold sLn at hs; omega)]
      unfold kF0
      exact wIf_ne h2
    have vu : vL (wsI (cCo a).1 83 0 0) 2 = vL (cCo a).1 2 := vL_of8 (fun k hk => wIf_ne (by omega))
    have z1 : ∀ x, x ≠ 155 → x ≠ 154 → wI (wsI (cOut b).1 154 24 0) x = wI (mKeep (tFault b)) x := fun x h1 h2 => by rw [wIf_ne h2, ob.2.2.2 x h1]
    have hz : sT (wsI (cOut b).1 154 24 0) := sT_wsI ob.2.2.1.1
    have hTu : sT (wsI (cCo a).1 83 0 0) := sT_wsI f2.1
    have t2 := tOK_F0.mp h1.2.1.2.2.2.1
    refine Rel_chg h1 hTu u1 (fun i => ?_) ⟨hTu, is2, by rw [vu]; exact f3.2.2⟩ hz (fun x h1 h2 _ => z1 x h1 h2) (fun k h1 h2 h3 h4 => by rw [wI_wsI, if_neg (fun q => h1 q.2), ob.2.2.2 154 (by decide)]) ?_ ?_ (tOK_F0.mpr ⟨hz, ?_, ?_⟩) ⟨?_, fun i i0 i1 => ?_⟩
    · have e1 : wR (wsI (cCo a).1 83 0 0) 87 i = wR (cCo a).1 87 i := rfl
      rw [e1, f1.R]
      rfl
    · rw [vu, wIf_ne (by decide)]
      exact ob.2.1
    · obtain ⟨k1, k2, k3, k4⟩ := f2
      refine ⟨sT_wsI hTu, ?_, ?_, fun k => ?_⟩
      · unfold kF0
        rw [wI_wsI, if_neg (by omega), wI_wsI, if_pos ⟨rfl, rfl⟩]
        omega
      · unfold kF0
        rw [wI_wsI, if_pos ⟨rfl, rfl⟩]
        omega
      · have e1 : wI (kF0 (wsI (cCo a).1 83 0 0)) 84 k = wI (cCo a).1 84 k := by unfold kF0; rw [wIf_ne (by decide), wIf_ne (by decide)]
        rw [e1]
        exact k4 k
    · rw [wI_wsI, if_pos ⟨rfl, rfl⟩]; omega
    · rw [z1 173 (by decide) (by decide), hK.1 173 (by decide) (by decide)]
      exact t2.2.2
    · rw [wI_wsI, if_pos ⟨rfl, rfl⟩, wI_wsI, if_pos ⟨rfl, rfl⟩]
    · rw [wI_wsI, if_pos ⟨rfl, rfl⟩] at i1
      omega
