/-! THE CLASS: what a day writes down -/
def xRc (u : sm_W) (d : Nat) (c : Int) : Prop := ∀ x, 0 ≤ x → x < wI u (d + 1) 7 → ∀ s, 0 ≤ s → s < 8 → (-6 ≤ wI u (dC d x) s ∧ wI u (dC d x) s ≤ c) ∧ (-6 ≤ wI u (dV d x) s ∧ wI u (dV d x) s ≤ c) ∧ (0 ≤ wI u (dC d x) s → (wI u (d + 1 + 3) x < wI u (d + 1 + 4) x → wI u (d + 1 + 3) x ≤ s ∧ s ≤ wI u (d + 1 + 4) x) ∧ (wI u (d + 1 + 4) x ≤ wI u (d + 1 + 3) x → wI u (d + 1 + 4) x ≤ s ∧ s ≤ wI u (d + 1 + 3) x))
theorem xRc_fr {w u : sm_W} {d : Nat} {c e : Int} (h : xRc w d c) (hc : c ≤ e) (hf : sFr (sDy d) w u) (hn : wI w (d + 1) 7 ≤ 8) (hC : ∀ x s, 0 ≤ x → x < wI w (d + 1) 7 → 0 ≤ s → s < 8 → wI u (dC d x) s = wI w (dC d x) s ∨ ((0 ≤ wI u (dC d x) s ∧ wI u (dC d x) s ≤ e) ∧ (wI w (d + 1 + 3) x < wI w (d + 1 + 4) x → wI w (d + 1 + 3) x ≤ s ∧ s ≤ wI w (d + 1 + 4) x) ∧ (wI w (d + 1 + 4) x ≤ wI w (d + 1 + 3) x → wI w (d + 1 + 4) x ≤ s ∧ s ≤ wI w (d + 1 + 3) x))) (hV : ∀ x s, 0 ≤ x → x < wI w (d + 1) 7 → 0 ≤ s → s < 8 → wI u (dV d x) s = wI w (dV d x) s ∨ (0 ≤ wI u (dV d x) s ∧ wI u (dV d x) s ≤ e)) : xRc u d e := by
  intro x x0 x1 s s0 s1
  rw [sDy_l0 hf] at x1
  rw [sDy_l hf (k := 3) (by omega), sDy_l hf (k := 4) (by omega)]
  have h1 := h x x0 x1 s s0 s1
  refine ⟨?_, ?_, fun h2 => ?_⟩
  · rcases hC x s x0 x1 s0 s1 with e1 | e1
    · rw [e1]; omega
    · omega
  · rcases hV x s x0 x1 s0 s1 with e1 | e1
    · rw [e1]; omega
    · omega
  · rcases hC x s x0 x1 s0 s1 with e1 | e1
    · rw [e1] at h2; exact h1.2.2 h2
    · exact e1.2
theorem xRc_cm1 {d : Nat} {t c : Int} {w : sm_W} {x : Int} (hX : xDay w d) (x0 : 0 ≤ x) (x1 : x < wI w (d + 1) 7) (h : xRc w d c) (t0 : 0 ≤ t) (hc : t ≤ c) : xRc (xCm1 d t x w) d c := by
  have hn := dOK_n hX.1
  by_cases k : wI w (d + 28) x = 0 ∨ wI w (d + 29) x ≠ t
  · rw [xCm1_no k]; exact h
  · have c1 : ¬ wI w (d + 28) x = 0 := fun h => k (Or.inl h)
    have c2 : wI w (d + 29) x = t := Classical.byContradiction fun h => k (Or.inr h)
    have hi := xCm1_in x0 (show x < 8 by omega) c1 c2
    have hs := hX.2 x x0 x1
    unfold xSh at hs
    have hne : wI w (d + 27) x ≠ wI w (d + 1 + 4) x := hs.2.2.2.2 (by omega)
    have hw := lWay (w := w) (a := d + 1) x0
    refine xRc_fr h (Int.le_refl c) (xCm1_fr d t w x0 (by omega)) hn.2 (fun y s y0 y1 s0 s1 => ?_) (fun y s y0 y1 s0 s1 => Or.inl ?_)
    · rw [hi.2.2.2.2.2.2.1 y s y0 (by omega)]
      by_cases e : y = x ∧ s = wI w (d + 27) x + mWay (vL w (d + 1)) x
      · rw [if_pos e]
        obtain ⟨rfl, rfl⟩ := e
        exact Or.inr ⟨⟨t0, hc⟩, by omega, by omega⟩
      · rw [if_neg e]; exact Or.inl rfl
    · rw [hi.2.2.2.2.2.2.2.1 y y0 (by omega)]
theorem xRc_lv1 {d : Nat} {t c : Int} {w : sm_W} {x : Int} (hX : xDay w d) (x0 : 0 ≤ x) (x1 : x < wI w (d + 1) 7) (h : xRc w d c) (t0 : 0 ≤ t) (hc : t ≤ c) : xRc (xLv1 w d x t) d c := by
  have hn := dOK_n hX.1
  have hi := xLv1_in (w := w) (d := d) (t := t) x0 (show x < 8 by omega)
  refine xRc_fr h (Int.le_refl c) (xLv1_fr w d x t x0 (by omega)) hn.2 (fun y s y0 y1 s0 s1 => Or.inl ?_) (fun y s y0 y1 s0 s1 => ?_)
  · rw [hi.2.2.2.2.2.2.2.1 y y0 (by omega)]
  · rw [hi.2.2.2.2.2.2.1 y s y0 (by omega)]
    by_cases e : y = x ∧ s = wI w (d + 27) x
    · rw [if_pos e]; exact Or.inr ⟨t0, hc⟩
    · rw [if_neg e]; exact Or.inl rfl
theorem xRc_LL {d : Nat} {t c e : Int} (t0 : 0 ≤ t) (hc : t ≤ c) (he : t + 30 ≤ e) : ∀ (n : Nat) (w : sm_W) (b : Int), xDay w d → xDu w d e → xHb w d b → xRc w d c → xRc (xLL n w d t) d c
  | 0, w, b, hX, _, _, h => h
  | n + 1, w, b, hX, hd, hh, h => by
    have hn := dOK_n hX.1
    have hi := xFirst_in w d t (wI w (d + 1) 7) hn.1
    rw [xLL_s]
    split
    · exact h
    · next h9 =>
      rcases hi with hi | ⟨h0, h1, h2⟩
      · omega
      · have hb := xLv1_b hX h0 h1 h2 hd he hh
        exact xRc_LL t0 hc he n _ (b + 1) (xLv1_day hX h0 h1 h2) hb.1 hb.2 (xRc_lv1 hX h0 h1 h t0 hc)
theorem xRc_M1 {d : Nat} {t c e b : Int} {w : sm_W} (hX : xDay w d) (hd : xDu w d e) (he : t + 30 ≤ e) (hh : xHb w d b) (h : xRc w d c) (t0 : 0 ≤ t) (hc : t ≤ c) : xRc (xM1 d w t) d c := by
  have hn := dOK_n hX.1
  obtain ⟨x3, d3, h3, -⟩ := xM1_inv (t := t) hX hd he hh
  have f0 : sFr (sDy d) w (wsI w d 3 t) := (sFr.refl w).st (by unfold sDy; omega)
  have r3 : xRc (wsI w d 3 t) d c := xRc_fr h (Int.le_refl c) f0 hn.2 (fun y s y0 y1 s0 s1 => Or.inl (by rw [wIf_ne (by unfold dC; omega)])) (fun y s y0 y1 s0 s1 => Or.inl (by rw [wIf_ne (by unfold dV; omega)]))
  have e7 : wI (wsI w d 3 t) (d + 1) 7 = wI w (d + 1) 7 := by rw [wIf_ne (show ¬ d + 1 = d by omega)]
  have key := itI_ind (f := xCm1 d t) (a := wsI w d 3 t) (fun i r => xRc r d c ∧ xDay r d ∧ wI r (d + 1) 7 = wI w (d + 1) 7) (wI w (d + 1) 7) ⟨r3, x3, e7⟩ (fun i r i0 i1 hr => ⟨xRc_cm1 hr.2.1 i0 (by rw [hr.2.2]; exact i1) hr.1 t0 hc, xCm1_day hr.2.1 i0 (by rw [hr.2.2]; exact i1), by rw [sDy_l0 (xCm1_fr d t r i0 (by omega))]; exact hr.2.2⟩) (wI w (d + 1) 7) hn.1 (Int.le_refl _)
  exact key.1
theorem xLoop_rc {d : Nat} : ∀ (n : Nat) (u : sm_W) (t k : Int), xI u d t k → 0 ≤ k → xRc u d (300 + 30 * k) → (0 ≤ wI u d 3 ∧ wI u d 3 ≤ 300 + 30 * k) → xRc (xLoop n d u t) d (300 + 30 * (k + n)) ∧ (0 ≤ wI (xLoop n d u t) d 3 ∧ wI (xLoop n d u t) d 3 ≤ 300 + 30 * (k + n))
  | 0, u, t, k, h, _, hr, hl => by rw [show k + ((0 : Nat) : Int) = k by omega]; exact ⟨hr, hl⟩
  | n + 1, u, t, k, h, k0, hr, hl => by
    rw [xLoop_s]
    have hn := dOK_n h.1.1
    split
    · refine ⟨fun x x0 x1 s s0 s1 => ?_, by omega⟩
      have := hr x x0 x1 s s0 s1
      exact ⟨by omega, by omega, this.2.2⟩
    · next c =>
      have h1 := xI_next h c k0
      obtain ⟨hX, hd, hh, ht⟩ := h
      have hd' : xDu u d (300 + 30 * (k + 1)) := fun y y0 y1 => by have := hd y y0 y1; omega
      have hr' : xRc u d (300 + 30 * (k + 1)) := fun x x0 x1 s s0 s1 => by
        have := hr x x0 x1 s s0 s1
        exact ⟨by omega, by omega, this.2.2⟩
      have m1 := xM1_inv (t := t) (c := 300 + 30 * (k + 1)) hX hd' (by omega) hh
      have r1 := xRc_M1 (t := t) hX hd' (by omega) hh hr' (by omega) (by omega)
      have r2 := xRc_LL (t := t) (d := d) (by omega) (c := 300 + 30 * (k + 1)) (e := 300 + 30 * (k + 1)) (by omega) (by omega) 8 (xM1 d u t) (8 * k) m1.2.2.2.1 m1.2.2.2.2.2.1 m1.2.2.2.2.2.2 r1
      have l3 : wI (xM2 d u t) d 3 = t := by
        have a1 : ∀ n : Nat, ∀ w : sm_W, xDay w d → xDu w d (300 + 30 * (k + 1)) → ∀ b, xHb w d b → wI (xLL n w d t) d 3 = wI w d 3 := by
          intro n
          induction n with
          | zero => exact fun w _ _ _ _ => rfl
          | succ n ih =>
            intro w hX hd b hh
            have hn := dOK_n hX.1
            have hi := xFirst_in w d t (wI w (d + 1) 7) hn.1
            rw [xLL_s]
            split
            · rfl
            · next h9 =>
              rcases hi with hi | ⟨h0, h1, h2⟩
              · omega
              · have hb := xLv1_b hX h0 h1 h2 hd (show t + 30 ≤ 300 + 30 * (k + 1) by omega) hh
                rw [ih _ (xLv1_day hX h0 h1 h2) hb.1 _ hb.2, (xLv1_in h0 (by omega)).2.2.2.2.2.2.2.2]
        have a2 : wI (xM1 d u t) d 3 = t := by
          have key := itI_ind (f := xCm1 d t) (a := wsI u d 3 t) (fun i r => wI r d 3 = t ∧ xDay r d ∧ wI r (d + 1) 7 = wI u (d + 1) 7) (wI u (d + 1) 7) ⟨by rw [wI_wsI, if_pos ⟨rfl, rfl⟩], m1.1, by rw [wIf_ne (show ¬ d + 1 = d by omega)]⟩ (fun i r i0 i1 hr => ⟨?_, xCm1_day hr.2.1 i0 (by rw [hr.2.2]; exact i1), by rw [sDy_l0 (xCm1_fr d t r i0 (by omega))]; exact hr.2.2⟩) (wI u (d + 1) 7) hn.1 (Int.le_refl _)
          · exact key.1
          · by_cases kk : wI r (d + 28) i = 0 ∨ wI r (d + 29) i ≠ t
            · rw [xCm1_no kk]; exact hr.1
            · have c1 : ¬ wI r (d + 28) i = 0 := fun h => kk (Or.inl h)
              have c2 : wI r (d + 29) i = t := Classical.byContradiction fun h => kk (Or.inr h)
              rw [(xCm1_in i0 (by omega) c1 c2).2.2.2.2.2.2.2.2]
              exact hr.1
        exact (a1 8 _ m1.2.2.2.1 m1.2.2.2.2.2.1 _ m1.2.2.2.2.2.2).trans a2
      have h2 := xLoop_rc n _ _ (k + 1) h1.1 (by omega) r2 (by rw [l3]; omega)
      rw [show k + ((n + 1 : Nat) : Int) = k + 1 + n by omega]
      exact h2
/-- a day that was run may be asked -/
theorem xRun_ok {d : Nat} {w : sm_W} (hD : dOK w d) : xOK (xRun d w) d ∧ xWy (xRun d w) d := by
  have hn := dOK_n hD
  have h0 := xOut0_inv hD
  obtain ⟨f, hx, -, -⟩ := xOut_in hD
  have l0 : wI (xOut0 d w) d 3 = 0 := by
    unfold xOut0
    rw [wI_wsI, if_pos ⟨rfl, rfl⟩]
  have r0 : xRc (xOut0 d w) d (300 + 30 * 0) := fun x x0 x1 s s0 s1 => by
    rw [sDy_l0 h0.2] at x1
    have := (hx x x0 x1).2.2.2.2 s s0 s1
    have e1 : wI (xOut0 d w) (dC d x) = wI (xOut d w) (dC d x) := wIf_ne (by unfold dC; omega)
    have e2 : wI (xOut0 d w) (dV d x) = wI (xOut d w) (dV d x) := wIf_ne (by unfold dV; omega)
    rw [e1, e2, this.1, this.2]
    exact ⟨by omega, by omega, fun h => by omega⟩
  have h := xLoop_rc 1000 _ _ 0 h0.1 (Int.le_refl _) r0 (by rw [l0]; omega)
  have hf := xRun_fr hD
  have hDr := sDy_ok hf.1 hD
  have o : ∀ a, a ≠ d → wI (xRun d w) a = wI (xLoop 1000 d (xOut0 d w) 0) a := fun a h => wIf_ne h
  have o3 : wI (xRun d w) d 3 = wI (xLoop 1000 d (xOut0 d w) 0) d 3 := by
    show wI (wsI _ d 4 _) d 3 = _
    rw [wI_wsI, if_neg (by omega)]
  generalize xLoop 1000 d (xOut0 d w) 0 = u at *
  generalize xRun d w = v at *
  refine ⟨⟨hDr, fun x x0 x1 s s0 s1 => ?_, ?_⟩, fun x x0 x1 s s0 s1 h2 => ?_⟩
  · rw [o _ (by omega)] at x1
    rw [o _ (by unfold dC; omega), o _ (by unfold dV; omega)]
    have := h.1 x x0 x1 s s0 s1
    omega
  · rw [o3]; omega
  · rw [o _ (by omega)] at x1
    rw [o _ (by unfold dC; omega)] at h2
    rw [o _ (by omega), o _ (by omega)]
    exact (h.1 x x0 x1 s s0 s1).2.2 h2
