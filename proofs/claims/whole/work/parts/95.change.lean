/-! STEPS OF A RUN: changes -/
theorem cB_ag {a : sm_W} (h : cOK a) : cAg a (cB a) := by
  have k := cB_in h
  exact ⟨k.1, fun x hx => k.2.2.2.2.1 x (by omega), by rw [k.2.2.2.2.1 83 (by omega)], fun i => rfl⟩
theorem kOK_83 {a u : sm_W} (h : kOK (kF0 a)) (hT : sT u) (h83 : wI u 83 0 = wI a 83 0) (h84 : wI u 84 = wI a 84) : kOK (kF0 u) := by
  obtain ⟨k1, k2, k3, k4⟩ := h
  have e1 : ∀ w : sm_W, wI (kF0 w) 83 0 = wI w 83 0 := fun w => by unfold kF0; rw [wI_wsI, if_neg (by omega)]
  have e2 : ∀ w : sm_W, wI (kF0 w) 83 2 = 0 := fun w => by unfold kF0; rw [wI_wsI, if_pos ⟨rfl, rfl⟩]
  have e3 : ∀ w : sm_W, wI (kF0 w) 84 = wI w 84 := fun w => by unfold kF0; exact wIf_ne (by omega)
  rw [e1] at k2
  rw [e3] at k4
  exact ⟨hT, by rw [e1, h83]; exact k2, by rw [e2]; omega, by rw [e3, h84]; exact k4⟩
theorem Rel_ch1 {a b u z : sm_W} (h : Rel a b) (hu : sFr (sLn 2) (cB a) u) (hz : sFr (fun x _ _ => x = 155) (mKeep b) z) (hv : vOK (wI z 155)) (he : eq57 (vL u 2) (wI z 155)) : Rel (hKp u 67) z := by
  have hB := cB_in h.1.1
  have hTu := sFr_sT hu hB.1
  have hK := mKeep_keep (w := b)
  have hTz := sFr_sT hz (hK.2 h.2.1.1.1.1)
  have oz : ∀ x, x ≠ 155 → wI z x = wI (mKeep b) x := fun x hx => hz.outA (fun i v hs => hx hs)
  have ou : ∀ x, ¬ (2 ≤ x ∧ x ≤ 9) → wI u x = wI (cB a) x := fun x hx => hu.outA (fun i v hs => hx (by unfold sLn at hs; omega))
  have k154 := (mKeep_154 h.2.1.2.2.1).2
  have z24 : wI z 154 24 = wI b 154 24 := by rw [oz 154 (by decide), k154 24 (by decide) (by decide)]
  have z173 : wI z 173 = wI b 173 := by rw [oz 173 (by decide), hK.1 173 (by decide) (by decide)]
  have u83 : wI u 83 = wI a 83 := by rw [ou 83 (by omega), hB.2.2.2.2.1 83 (by omega)]
  have u84 : wI u 84 = wI a 84 := by rw [ou 84 (by omega), hB.2.2.2.2.1 84 (by omega)]
  have t := tOK_F0.mp h.2.1.2.2.2.1
  refine Rel_chg h hTu (fun x h1 _ _ => ou x h1) (fun i => by rw [hu.R]; rfl) ⟨hTu, is2, vOK_57 he hv⟩ hTz (fun x h1 h2 _ => oz x h1) (fun k _ _ _ _ => by rw [oz 154 (by decide)]) he (kOK_83 h.1.2.2 hTu (by rw [u83]) u84) (tOK_F0.mpr ⟨hTz, by rw [z24]; exact t.2.1, by rw [z173]; exact t.2.2⟩) ?_
  rw [u83, u84, z24, z173]
  exact h.2.2.2.2.2
theorem mKf_1 (b : sm_W) : mKf b 1 = mKeep b := by unfold mKf; exact if_neg (by decide)
theorem e155 (b : sm_W) : wI (mKeep b) 155 = wI b 155 := mKeep_keep.1 155 (by decide) (by decide)
theorem vB (a : sm_W) (h : cOK a) : vL (cB a) 2 = vL a 2 := (cB_in h).2.2.2.1
theorem fr1 (S : Nat → Int → Int → Prop) (w : sm_W) {x : Nat} {i v : Int} (h : S x i v) : sFr S w (wsI w x i v) := (sFr.refl w).st h
/-- one cell of the line -/
theorem Rel_cell {a b : sm_W} (h : Rel a b) {x : Nat} {i c v : Int} (hx : sLn 2 x i v) (hU : vL (wsI (cB a) x i v) 2 = updI (vL (cB a) 2) c v) (hv : vOK (wI (wsI (mKeep b) 155 c v) 155)) : Rel (hKp (wsI (cB a) x i v) 67) (wsI (mKeep b) 155 c v) := by
  refine Rel_ch1 h (fr1 _ _ hx) (fr1 _ _ rfl) hv ?_
  rw [hU, vB a h.1.1, wI_updI, e155]
  exact h.2.2.1.up c v
theorem st_first {a b : sm_W} (h : Rel a b) (v : Int) : (if 0 ≤ v ∧ v ≤ 2 then wI a 2 8 else -2) = (if 0 ≤ v ∧ v ≤ 2 then wI b 155 0 else -2) ∧ Rel (if 0 ≤ v ∧ v ≤ 2 then hKp (wsI (cB a) 2 8 v) 67 else cB a) (if 0 ≤ v ∧ v ≤ 2 then wsI (mKeep b) 155 0 v else b) := by
  have h0 : wI a 2 8 = wI b 155 0 := h.2.2.1 0 (by decide) (by decide)
  rw [h0]
  refine ⟨rfl, ?_⟩
  by_cases c : 0 ≤ v ∧ v ≤ 2
  · rw [if_pos c, if_pos c]
    exact Rel_cell h (by unfold sLn; omega) (vL_u8 (cB a) 2 v) (vOK_cell (by rw [e155]; exact h.2.1.1.1.2) (Or.inl ⟨rfl, c.1, c.2⟩))
  · rw [if_neg c, if_neg c]
    exact Rel_of h (cB_ag h.1.1) (Rel_rr h)
theorem st_tracks {a b : sm_W} (h : Rel a b) (s v : Int) : (if 0 ≤ s ∧ s ≤ 7 then (if 1 ≤ v ∧ v ≤ 4 then wI a 3 s else -2) else -1) = (if 0 ≤ s ∧ s ≤ 7 then (if 1 ≤ v ∧ v ≤ 4 then wI b 155 (2 + s) else -2) else -1) ∧ Rel (if 0 ≤ s ∧ s ≤ 7 then (if 1 ≤ v ∧ v ≤ 4 then hKp (wsI (cB a) 3 s v) 67 else cB a) else cB a) (if 0 ≤ s ∧ s ≤ 7 then (if 1 ≤ v ∧ v ≤ 4 then wsI (mKf b 1) 155 (2 + s) v else b) else b) := by
  rw [mKf_1]
  by_cases c : 0 ≤ s ∧ s ≤ 7
  · rw [if_pos c, if_pos c, if_pos c, if_pos c]
    have e : wI a 3 s = wI b 155 (2 + s) := by
      rw [← h.2.2.1 (2 + s) (by omega) (by omega)]
      exact (vL_t a 2 c.1 (by omega)).symm
    rw [e]
    refine ⟨rfl, ?_⟩
    by_cases c2 : 1 ≤ v ∧ v ≤ 4
    · rw [if_pos c2, if_pos c2]
      exact Rel_cell h (by unfold sLn; omega) (vL_u1 (cB a) 2 v c.1 (by omega)) (vOK_cell (by rw [e155]; exact h.2.1.1.1.2) (Or.inr (Or.inl (by omega))))
    · rw [if_neg c2, if_neg c2]
      exact Rel_of h (cB_ag h.1.1) (Rel_rr h)
  · rw [if_neg c, if_neg c, if_neg c, if_neg c]
    exact ⟨rfl, Rel_of h (cB_ag h.1.1) (Rel_rr h)⟩
theorem st_running {a b : sm_W} (h : Rel a b) (s v : Int) : (if 0 ≤ s ∧ s ≤ 6 then (if 1 ≤ v ∧ v ≤ 30 then wI a 4 s else -2) else -1) = (if 0 ≤ s ∧ s ≤ 6 then (if 1 ≤ v ∧ v ≤ 30 then wI b 155 (10 + s) else -2) else -1) ∧ Rel (if 0 ≤ s ∧ s ≤ 6 then (if 1 ≤ v ∧ v ≤ 30 then hKp (wsI (cB a) 4 s v) 67 else cB a) else cB a) (if 0 ≤ s ∧ s ≤ 6 then (if 1 ≤ v ∧ v ≤ 30 then wsI (mKf b 1) 155 (10 + s) v else b) else b) := by
  rw [mKf_1]
  by_cases c : 0 ≤ s ∧ s ≤ 6
  · rw [if_pos c, if_pos c, if_pos c, if_pos c]
    have e : wI a 4 s = wI b 155 (10 + s) := by
      rw [← h.2.2.1 (10 + s) (by omega) (by omega)]
      exact (vL_r a 2 c.1 (by omega)).symm
    rw [e]
    refine ⟨rfl, ?_⟩
    by_cases c2 : 1 ≤ v ∧ v ≤ 30
    · rw [if_pos c2, if_pos c2]
      exact Rel_cell h (by unfold sLn; omega) (vL_u2 (cB a) 2 v c.1 (by omega)) (vOK_cell (by rw [e155]; exact h.2.1.1.1.2) (Or.inr (Or.inr (by omega))))
    · rw [if_neg c2, if_neg c2]
      exact Rel_of h (cB_ag h.1.1) (Rel_rr h)
  · rw [if_neg c, if_neg c, if_neg c, if_neg c]
    exact ⟨rfl, Rel_of h (cB_ag h.1.1) (Rel_rr h)⟩
theorem Rel_v {a b : sm_W} (h : Rel a b) {x k : Int} (x0 : 0 ≤ x) (x1 : x < wI b 155 1) : wI a 5 x = wI b 155 (17 + 5 * x) ∧ wI a 6 x = wI b 155 (17 + 5 * x + 1) ∧ wI a 7 x = wI b 155 (17 + 5 * x + 2) ∧ wI a 8 x = wI b 155 (17 + 5 * x + 3) ∧ wI a 9 x = wI b 155 (17 + 5 * x + 4) := by
  have hm := vOK_many h.2.1.1.1.2
  have s := vL_s a 2 x0
  exact ⟨s.1.symm.trans (h.2.2.1 _ (by omega) (by omega)), s.2.1.symm.trans (h.2.2.1 _ (by omega) (by omega)), s.2.2.1.symm.trans (h.2.2.1 _ (by omega) (by omega)), s.2.2.2.1.symm.trans (h.2.2.1 _ (by omega) (by omega)), s.2.2.2.2.symm.trans (h.2.2.1 _ (by omega) (by omega))⟩
theorem Rel_LE {a b : sm_W} (h : Rel a b) (x v : Int) : lLateE a 2 x v = mLateE b x v := by
  unfold lLateE mLateE
  rw [Rel_n h]
  by_cases c : 0 ≤ x ∧ x < wI b 155 1
  · rw [(Rel_v (k := 0) h c.1 c.2).2.2.1]
  · rw [if_neg c, if_neg c]
theorem st_late {a b : sm_W} (h : Rel a b) (x v : Int) : cLt a x v = (if mLateE b x v < 0 then mLateE b x v else wI b 155 (17 + 5 * x + 2) + v) ∧ Rel (if cLt a x v < 0 then cB a else hKp (wsI (cB a) 7 x (wI a 7 x + v)) 67) (if mLateE b x v < 0 then b else wsI (mKf b 1) 155 (17 + 5 * x + 2) (wI b 155 (17 + 5 * x + 2) + v)) := by
  rw [mKf_1]
  have e1 : cLt a x v = (if mLateE b x v < 0 then mLateE b x v else wI b 155 (17 + 5 * x + 2) + v) := by
    unfold cLt
    rw [Rel_LE h]
    by_cases c : mLateE b x v < 0
    · rw [if_pos c, if_pos c]
    · have c0 := mLateE_0 c
      rw [if_neg c, if_neg c, (Rel_v (k := 0) h c0.1 c0.2.1).2.2.1]
  refine ⟨e1, ?_⟩
  rw [e1]
  by_cases c : mLateE b x v < 0
  · rw [if_pos c, if_pos c, if_pos c]
    exact Rel_of h (cB_ag h.1.1) (Rel_rr h)
  · have c0 := mLateE_0 c
    have hq := vOK_sh h.2.1.1.1.2 c0.1 c0.2.1
    rw [if_neg c, if_neg c, if_neg (by omega), (Rel_v (k := 0) h c0.1 c0.2.1).2.2.1]
    exact Rel_cell h (by unfold sLn; omega) (vL_u5 (cB a) 2 _ c0.1) (vOK_sh2 (by rw [e155]; exact h.2.1.1.1.2) c0.1 (by omega))
theorem st_prefer {a b : sm_W} (h : Rel a b) (x v : Int) : (if 0 ≤ x ∧ x < wI a 2 7 then (if 0 ≤ v ∧ v ≤ 9 then wI a 9 x else -2) else -1) = (if 0 ≤ x ∧ x < wI b 155 1 then (if 0 ≤ v ∧ v ≤ 9 then wI b 155 (17 + 5 * x + 4) else -2) else -1) ∧ Rel (if 0 ≤ x ∧ x < wI a 2 7 then (if 0 ≤ v ∧ v ≤ 9 then hKp (wsI (cB a) 9 x v) 67 else cB a) else cB a) (if 0 ≤ x ∧ x < wI b 155 1 then (if 0 ≤ v ∧ v ≤ 9 then wsI (mKf b 1) 155 (17 + 5 * x + 4) v else b) else b) := by
  rw [mKf_1, Rel_n h]
  by_cases c : 0 ≤ x ∧ x < wI b 155 1
  · rw [if_pos c, if_pos c, if_pos c, if_pos c, (Rel_v (k := 0) h c.1 c.2).2.2.2.2]
    refine ⟨rfl, ?_⟩
    by_cases c2 : 0 ≤ v ∧ v ≤ 9
    · rw [if_pos c2, if_pos c2]
      exact Rel_cell h (by unfold sLn; omega) (vL_u7 (cB a) 2 v c.1) (vOK_sh4 (by rw [e155]; exact h.2.1.1.1.2) c.1 c2)
    · rw [if_neg c2, if_neg c2]
      exact Rel_of h (cB_ag h.1.1) (Rel_rr h)
  · rw [if_neg c, if_neg c, if_neg c, if_neg c]
    exact ⟨rfl, Rel_of h (cB_ag h.1.1) (Rel_rr h)⟩
theorem mNew_up (w : sm_W) (p q c d e : Int) : wI (mNewSh w p q c d e) 155 = updI (updI (updI (updI (updI (updI (wI w 155) (17 + 5 * wI w 155 1) p) (17 + 5 * wI w 155 1 + 1) q) (17 + 5 * wI w 155 1 + 2) c) (17 + 5 * wI w 155 1 + 3) d) (17 + 5 * wI w 155 1 + 4) e) 1 (wI w 155 1 + 1) := by
  unfold mNewSh
  simp only [wI_updI]
theorem mNew_57 {w u : sm_W} (h : eq57 (wI w 155) (wI u 155)) (p q c d e : Int) : eq57 (wI (mNewSh w p q c d e) 155) (wI (mNewSh u p q c d e) 155) := by
  rw [mNew_up, mNew_up, h 1 (by decide) (by decide)]
  exact ((((((h.up _ _).up _ _).up _ _).up _ _).up _ _).up _ _)
theorem mNew_fr (w : sm_W) (p q c d e : Int) : sFr (fun x _ _ => x = 155) w (mNewSh w p q c d e) := ((((((sFr.refl w).st rfl).st rfl).st rfl).st rfl).st rfl).st rfl
theorem st_shuttle {a b : sm_W} (h : Rel a b) (p q c d e : Int) : cAd a p q c d e = (if mShOk p q c d e < 0 then mShOk p q c d e else (if wI b 155 1 = 8 then -4 else wI b 155 1)) ∧ Rel (if cAd a p q c d e < 0 then cB a else hKp (lNewSh 2 (cB a) p q c d e) 67) (if mShOk p q c d e < 0 then b else (if wI b 155 1 = 8 then b else mNewSh (mKf b 1) p q c d e)) := by
  have hm := vOK_many h.2.1.1.1.2
  rw [mKf_1]
  have e1 : cAd a p q c d e = (if mShOk p q c d e < 0 then mShOk p q c d e else (if wI b 155 1 = 8 then -4 else wI b 155 1)) := by
    unfold cAd
    rw [Rel_n h]
  refine ⟨e1, ?_⟩
  rw [e1]
  by_cases c1 : mShOk p q c d e < 0
  · rw [if_pos c1, if_pos c1, if_pos c1]
    exact Rel_of h (cB_ag h.1.1) (Rel_rr h)
  · rw [if_neg c1, if_neg c1]
    by_cases c2 : wI b 155 1 = 8
    · rw [if_pos c2, if_pos c2, if_pos (by decide)]
      exact Rel_of h (cB_ag h.1.1) (Rel_rr h)
    · rw [if_neg c2, if_neg c2, if_neg (by omega)]
      have hB := cB_in h.1.1
      have n2 : wI (cB a) 2 7 = wI a 2 7 := congrFun hB.2.2.2.1 1
      refine Rel_ch1 h (lNewSh_fr 2 (cB a) p q c d e) (mNew_fr _ _ _ _ _ _) (vOK_new (by rw [e155]; exact h.2.1.1.1.2) (by rw [e155]; exact c2) c1) ?_
      rw [vL_new (cB a) 2 (by rw [n2, Rel_n h]; exact hm.1)]
      refine mNew_57 ?_ p q c d e
      show eq57 (vL (cB a) 2) _
      rw [hB.2.2.2.1, e155]
      exact h.2.2.1
theorem mRm_57 {w u : sm_W} {x k : Int} (h : eq57 (wI w 155) (wI u 155)) (hv : vOK (wI u 155)) (x0 : 0 ≤ x) (x1 : x < wI u 155 1) : eq57 (wI (mRm w x k) 155) (wI (mRm u x k) 155) := fun j j0 j1 => by
  have hm := vOK_many hv
  have e1 := h 1 (by decide) (by decide)
  rw [mRm_at x0 (by rw [e1]; exact x1), mRm_at x0 x1, e1]
  by_cases c : 17 + 5 * x ≤ j ∧ j < 17 + 5 * (wI u 155 1 - 1)
  · rw [if_pos c, if_pos c]
    exact h _ (by omega) (by omega)
  · rw [if_neg c, if_neg c]
    by_cases c2 : j = 1
    · rw [if_pos c2, if_pos c2]
    · rw [if_neg c2, if_neg c2]
      exact h j j0 j1
theorem st_remove {a b : sm_W} (h : Rel a b) (x : Int) : (if 0 ≤ x ∧ x < wI a 2 7 then wI a 2 7 - 1 else -1) = (if 0 ≤ x ∧ x < wI b 155 1 then wI b 155 1 - 1 else -1) ∧ Rel (if 0 ≤ x ∧ x < wI a 2 7 then hKp (lRm 2 (cB a) x) 67 else cB a) (if 0 ≤ x ∧ x < wI b 155 1 then mRm b x 1 else b) := by
  have hm := vOK_many h.2.1.1.1.2
  rw [Rel_n h]
  refine ⟨rfl, ?_⟩
  by_cases c : 0 ≤ x ∧ x < wI b 155 1
  · rw [if_pos c, if_pos c]
    have hB := cB_in h.1.1
    have n2 : wI (cB a) 2 7 = wI b 155 1 := (congrFun hB.2.2.2.1 1).trans (Rel_n h)
    have hz : sFr (fun x _ _ => x = 155) (mKeep b) (mRm b x 1) := by
      unfold mRm
      rw [mKf_1]
      exact (fr1 (fun x _ _ => x = 155) (mKeep b) rfl).trans (sFr.it (f := mRm1 x) _ (by omega) (fun i r _ _ _ => (sFr.refl r).st rfl))
    refine Rel_ch1 h (lRm_fr 2 (cB a) (by rw [n2]; omega)) hz (vOK_rm h.2.1.1.1.2 c.1 c.2) ?_
    refine (vL_rm c.1 (by rw [n2]; exact c.2) 1).tr (mRm_57 ?_ h.2.1.1.1.2 c.1 c.2)
    show eq57 (vL (cB a) 2) _
    rw [hB.2.2.2.1]
    exact h.2.2.1
  · rw [if_neg c, if_neg c]
    exact Rel_of h (cB_ag h.1.1) (Rel_rr h)
