/-! THE LAW: what a call leaves as it is -/
def fC (w u : sm_W) : Prop := sT u ∧ (∀ x, 154 ≤ x → wI u x = wI w x) ∧ wS u 1000 = wS w 1000
def fM (w u : sm_W) : Prop := sT u ∧ (∀ x, (x < 154 ∨ 176 ≤ x) → wI u x = wI w x) ∧ (∀ i, wR u 87 i = wR w 87 i) ∧ wS u 1000 = wS w 1000
theorem fC.rf {w : sm_W} (h : sT w) : fC w w := ⟨h, fun _ _ => rfl, rfl⟩
theorem fC.tr {w u z : sm_W} (h : fC w u) (k : fC u z) : fC w z := ⟨k.1, fun x hx => (k.2.1 x hx).trans (h.2.1 x hx), k.2.2.trans h.2.2⟩
theorem fC_fr {S : Nat → Int → Int → Prop} {w u : sm_W} (h : sFr S w u) (hT : sT w) (hS : ∀ a i v, S a i v → a < 154) : fC w u := ⟨sFr_sT h hT, fun x hx => h.outA (fun i v hs => by have := hS x i v hs; omega), h.S 1000⟩
theorem fM.rf {w : sm_W} (h : sT w) : fM w w := ⟨h, fun _ _ => rfl, fun _ => rfl, rfl⟩
theorem fM.tr {w u z : sm_W} (h : fM w u) (k : fM u z) : fM w z := ⟨k.1, fun x hx => (k.2.1 x hx).trans (h.2.1 x hx), fun i => (k.2.2.1 i).trans (h.2.2.1 i), k.2.2.2.trans h.2.2.2⟩
def sMm (a : Nat) (_ _ : Int) : Prop := 154 ≤ a ∧ a < 176
theorem fM_fr {S : Nat → Int → Int → Prop} {w u : sm_W} (h : sFr S w u) (hT : sT w) (hS : ∀ a i v, S a i v → 154 ≤ a ∧ a < 176) : fM w u := ⟨sFr_sT h hT, fun x hx => h.outA (fun i v hs => by have := hS x i v hs; omega), fun i => by rw [h.R], h.S 1000⟩
/-- the reference's half in a world after a call of the class -/
theorem Rel_c {w u : sm_W} (h : Rel w w) (hc : fC w u) : Rel w u := by
  have e := hc.2.1
  have k : rKp w u := ⟨mGd0_c h.2.1.1 hc.1 (by rw [e 155 (by decide)]; exact h.2.1.1.1.2) (by rw [e 154 (by decide)]) (fun x h0 h1 => e x (by omega)), mCh_c h.2.1.2.1 (by rw [e 154 (by decide)]) (by rw [e 154 (by decide)]) (by rw [e 154 (by decide)]) (fun x h0 h1 => e x (by omega)), by rw [e 155 (by decide)]; exact eq57.rf _, by rw [e 154 (by decide)]; exact ⟨rfl, rfl, rfl⟩, fun x hx => e x (by omega)⟩
  exact k.rel h
theorem Rel_m {u z : sm_W} (h : Rel u z) (hm : fM u z) : Rel z z := by
  have k : cAg u z := ⟨hm.1, fun x hx => hm.2.1 x (by omega), by rw [hm.2.1 83 (by omega)], hm.2.2.1⟩
  exact k.rel h
-- the class
theorem fC_st {w u : sm_W} {x : Nat} {i v : Int} (h : fC w u) (hx : x < 154) : fC w (wsI u x i v) := ⟨sT_wsI h.1, fun y hy => by rw [wIf_ne (by omega)]; exact h.2.1 y hy, h.2.2⟩
theorem fC_run {w : sm_W} {d : Nat} (h : dOK w d) : fC w (xRun d w) := fC_fr (xRun_fr h).1 h.2.1 (fun a i v hs => by
  unfold sDy at hs
  rcases h.1 with q | q <;> subst q <;> omega)
theorem fC_cB {w : sm_W} (h : cOK w) : fC w (cB w) := fC_fr (cpL_fr 67 2 w) h.1.1 (fun a i v hs => by unfold sLn at hs; omega)
theorem fC_cT {w : sm_W} (h : lOK w 2) : fC w (cT w) := fC_fr (cpL_fr 35 2 w) h.1 (fun a i v hs => by unfold sLn at hs; omega)
theorem hKp_S {u : sm_W} (h : sT u) : wS (hKp u 67) 1000 = wS u 1000 := by
  have e : wS (hKp u 67) 1000 = wS (hK0 u) 1000 := by
    unfold hKp
    show wS (cpL (hLn (hK0 u) (wI (hK0 u) 86 0)) 67 (hK0 u)) 1000 = _
    exact (cpL_fr _ _ _).S 1000
  rw [e]
  unfold hK0
  split
  · exact (hDr_in h).2.2.2.2.2 1000
  · rfl
theorem fC_keep {a w u : sm_W} (h : Rel a a) (hw : fC a w) (hu : sFr (sLn 2) w u) (h86 : wI w 86 = wI a 86) (hR : ∀ i, wR w 87 i = wR a 87 i) : fC a (hKp u 67) := by
  have hT := sFr_sT hu hw.1
  have u86 : wI u 86 = wI a 86 := by rw [hu.outA (a := 86) (fun i v hs => by unfold sLn at hs; omega), h86]
  have hlu : ∀ i, hLn u i = hLn a i := fun i => by unfold hLn; rw [hu.R, hR]
  have g := hKp_in hT (by rw [u86]; exact h.1.1.2) (fun i j i0 i1 j0 j1 hne => by rw [hlu, hlu]; exact h.1.2.1 i j i0 i1 j0 j1 hne)
  refine ⟨g.1, fun x hx => ?_, ?_⟩
  · rw [g.2.1 x (by omega) (by omega), hu.outA (fun i v hs => by unfold sLn at hs; omega)]
    exact hw.2.1 x hx
  · rw [hKp_S hT, hu.S 1000]
    exact hw.2.2
theorem fC_k1 {a u : sm_W} (h : Rel a a) (hu : sFr (sLn 2) (cB a) u) : fC a (hKp u 67) := by
  have hB := cB_in h.1.1
  exact fC_keep h (fC_cB h.1.1) hu (hB.2.2.1) (fun i => rfl)
-- the reference
theorem mKeep_f (b : sm_W) : sFr sMm b (mKeep b) := by
  unfold mKeep
  have h0 : sFr sMm b (mKp0 b) := by
    unfold mKp0
    split
    · exact ((sFr.refl b).st (by unfold sMm; omega)).st (by unfold sMm; omega)
    · exact sFr.refl b
  exact (h0.trans (sFr.it (f := mKp1 _) 57 (by decide) (fun i r _ _ _ => (sFr.refl r).st (by unfold sMm; omega)))).st (by unfold sMm; omega)
theorem fM_ls {b u z : sm_W} (h : sT b) (h1 : sFr sMm b u) (h2 : sFr (fun x _ _ => x = 155) u z) : fM b z := fM_fr (h1.trans (h2.mono (fun a i v hs => by unfold sMm; omega))) h (fun a i v hs => by unfold sMm at hs; omega)
theorem fM_run {b : sm_W} (h : mGd0 b) : fM b (mRun b) := fM_fr (mRun_fr h) h.1.1 (fun a i v hs => by unfold sRun at hs; omega)
theorem mBack_f (b : sm_W) : sFr sMm b (mBack b) := sFr.it (f := mCpA 159 155) 57 (by decide) (fun i r _ _ _ => (sFr.refl r).st (by unfold sMm; omega))
theorem mAs0_f (b : sm_W) : sFr sMm b (mAs0 b) := sFr.it (f := mCpA 155 159) 57 (by decide) (fun i r _ _ _ => (sFr.refl r).st (by unfold sMm; omega))
theorem sMm_b : ∀ (a : Nat) (i v : Int), sMm a i v → 154 ≤ a ∧ a < 176 := fun a i v hs => hs
theorem fM_try {b y : sm_W} (hb : mGd0 b) (hy : sFr sMm b y) (hG : mGd0 y) : fM b (mBack (mRun y)) := ((fM_fr hy hb.1.1 sMm_b).tr (fM_run hG)).tr (fM_fr (mBack_f _) (mRun_st hG).1.1.1 sMm_b)
