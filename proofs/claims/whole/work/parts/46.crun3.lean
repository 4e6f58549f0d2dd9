/-! THE CLASS: run -/
theorem xDay_keep {w u : sm_W} {d : Nat} (hX : xDay w d) (hf : sFr (sDy d) w u) (h27 : wI u (d + 27) = wI w (d + 27)) (h28 : wI u (d + 28) = wI w (d + 28)) : xDay u d := by
  refine ⟨sDy_ok hf hX.1, fun y y0 y1 => ?_⟩
  rw [sDy_l0 hf] at y1
  have h := hX.2 y y0 y1
  unfold xSh at h ⊢
  rw [h27, h28, sDy_l hf (k := 3) (by omega), sDy_l hf (k := 4) (by omega)]
  exact h
def xM1 (d : Nat) (w : sm_W) (t : Int) : sm_W := xCome d (wsI w d 3 t) t (wI w (d + 1) 7)
def xM2 (d : Nat) (w : sm_W) (t : Int) : sm_W := xLL 8 (xM1 d w t) d t
def xLoop : Nat → Nat → sm_W → Int → sm_W
  | 0, _, w, _ => w
  | k + 1, d, w, t => if t < 0 then w else xLoop k d (xM2 d w t) (xNext (xM2 d w t) d t (wI (xM2 d w t) (d + 1) 7))
theorem xLoop_s (k d : Nat) (w : sm_W) (t : Int) : xLoop (k + 1) d w t = if t < 0 then w else xLoop k d (xM2 d w t) (xNext (xM2 d w t) d t (wI (xM2 d w t) (d + 1) 7)) := rfl
def xOut0 (d : Nat) (w : sm_W) : sm_W := wsI (xOut d w) d 3 0
def xFin (d : Nat) (u : sm_W) : sm_W := wsI u d 4 (xLeft u d (wI u (d + 1) 7))
def xRun (d : Nat) (w : sm_W) : sm_W := xFin d (xLoop 1000 d (xOut0 d w) 0)
/-- what holds ahead of an event -/
def xI (u : sm_W) (d : Nat) (t k : Int) : Prop := xDay u d ∧ xDu u d (300 + 30 * k) ∧ xHb u d (8 * k) ∧ (t < 0 ∨ (0 ≤ t ∧ t ≤ 300 + 30 * k))
theorem xNext_in (w : sm_W) (d : Nat) (t n : Int) (hn : 0 ≤ n) : xNext w d t n = -6 ∨ ∃ x, 0 ≤ x ∧ x < n ∧ wI w (d + 27) x ≠ wI w (d + 1 + 4) x ∧ t < wI w (d + 29) x ∧ xNext w d t n = wI w (d + 29) x := by
  refine itI_ind (fun i r => r = -6 ∨ ∃ x, 0 ≤ x ∧ x < i ∧ wI w (d + 27) x ≠ wI w (d + 1 + 4) x ∧ t < wI w (d + 29) x ∧ r = wI w (d + 29) x) n (Or.inl rfl) (fun i r h0 h1 h => ?_) n hn (Int.le_refl _)
  have hk : r = -6 ∨ ∃ x, 0 ≤ x ∧ x < i + 1 ∧ wI w (d + 27) x ≠ wI w (d + 1 + 4) x ∧ t < wI w (d + 29) x ∧ r = wI w (d + 29) x := by
    rcases h with h | ⟨x, x0, x1, h⟩
    · exact Or.inl h
    · exact Or.inr ⟨x, x0, by omega, h⟩
  unfold xNe1
  split
  · exact hk
  · next c1 =>
    split
    · exact hk
    · next c2 =>
      split
      · exact Or.inr ⟨i, h0, by omega, c1, by omega, rfl⟩
      · split
        · exact Or.inr ⟨i, h0, by omega, c1, by omega, rfl⟩
        · exact hk
theorem xM1_inv {d : Nat} {w : sm_W} {t c e : Int} (hX : xDay w d) (hd : xDu w d c) (hc : t + 30 ≤ c) (hh : xHb w d e) : xDay (wsI w d 3 t) d ∧ xDu (wsI w d 3 t) d c ∧ xHb (wsI w d 3 t) d e ∧ xDay (xM1 d w t) d ∧ sFr (sDy d) w (xM1 d w t) ∧ xDu (xM1 d w t) d c ∧ xHb (xM1 d w t) d e := by
  have hn := dOK_n hX.1
  have f0 : sFr (sDy d) w (wsI w d 3 t) := (sFr.refl w).st (by unfold sDy; omega)
  have x0 : xDay (wsI w d 3 t) d := xDay_keep hX f0 (wIf_ne (by omega)) (wIf_ne (by omega))
  have d0 : xDu (wsI w d 3 t) d c := fun y y0 y1 => by
    rw [wIf_ne (by omega)] at y1 ⊢
    exact hd y y0 y1
  have h0 : xHb (wsI w d 3 t) d e := fun i i0 i1 => by
    rw [wIf_ne (by omega)]
    exact hh i i0 i1
  have h := xCome_inv x0 d0 hc h0 (wI w (d + 1) 7) hn.1 (by rw [wIf_ne (show ¬ d + 1 = d by omega)]; exact Int.le_refl _)
  exact ⟨x0, d0, h0, h.1, f0.trans h.2.1, h.2.2.1, h.2.2.2⟩
theorem xI_next {u : sm_W} {d : Nat} {t k : Int} (h : xI u d t k) (t0 : ¬ t < 0) (k0 : 0 ≤ k) : xI (xM2 d u t) d (xNext (xM2 d u t) d t (wI (xM2 d u t) (d + 1) 7)) (k + 1) ∧ sFr (sDy d) u (xM2 d u t) := by
  obtain ⟨hX, hd, hh, ht⟩ := h
  have hd' : xDu u d (300 + 30 * (k + 1)) := fun y y0 y1 => by have := hd y y0 y1; omega
  have h1 := xM1_inv (t := t) (c := 300 + 30 * (k + 1)) hX hd' (by omega) hh
  have h2 := xLL_inv (d := d) (t := t) (c := 300 + 30 * (k + 1)) (by omega) 8 (xM1 d u t) (8 * k) h1.2.2.2.1 h1.2.2.2.2.2.1 h1.2.2.2.2.2.2
  have e2 : xLL 8 (xM1 d u t) d t = xM2 d u t := rfl
  rw [e2] at h2
  refine ⟨⟨h2.1, h2.2.2.1, fun i i0 i1 => by have := h2.2.2.2 i i0 i1; omega, ?_⟩, h1.2.2.2.2.1.trans h2.2.1⟩
  have hn := dOK_n h2.1.1
  rcases xNext_in (xM2 d u t) d t (wI (xM2 d u t) (d + 1) 7) hn.1 with e | ⟨x, x0, x1, -, x3, e⟩
  · rw [e]; exact Or.inl (by decide)
  · rw [e]
    have := h2.2.2.1 x x0 x1
    omega
theorem xLoop_fr {d : Nat} : ∀ (n : Nat) (u : sm_W) (t k : Int), xI u d t k → 0 ≤ k → sFr (sDy d) u (xLoop n d u t) ∧ xDay (xLoop n d u t) d
  | 0, u, t, k, h, _ => ⟨sFr.refl u, h.1⟩
  | n + 1, u, t, k, h, k0 => by
    rw [xLoop_s]
    split
    · exact ⟨sFr.refl u, h.1⟩
    · next c =>
      have h1 := xI_next h c k0
      have h2 := xLoop_fr n _ _ (k + 1) h1.1 (by omega)
      exact ⟨h1.2.trans h2.1, h2.2⟩
/-- a day that has just begun -/
theorem xOut_in {d : Nat} {w : sm_W} (hD : dOK w d) : sFr (sDy d) w (xOut d w) ∧ (∀ x, 0 ≤ x → x < wI w (d + 1) 7 → wI (xOut d w) (d + 27) x = wI w (d + 1 + 3) x ∧ wI (xOut d w) (d + 28) x = 0 ∧ wI (xOut d w) (d + 29) x = wI w (d + 1 + 5) x ∧ wI (xOut d w) (d + 30) x = xUrg w d x (wI w (d + 1 + 3) x) (wI w (d + 1 + 5) x) ∧ ∀ s, 0 ≤ s → s < 8 → wI (xOut d w) (dC d x) s = -6 ∧ wI (xOut d w) (dV d x) s = -6) ∧ (∀ s, 0 ≤ s → s < 7 → wI (xOut d w) (d + 31) s = 0) ∧ (∀ s, 0 ≤ s → s < 8 → wI (xOut d w) (d + 32) s = 0) := by
  have hn := dOK_n hD
  have f2 := xO2_fr d w
  have e31 : ∀ n : Int, 0 ≤ n → ∀ s, 0 ≤ s → s < n → wI (itI (xO1 d) w n) (d + 31) s = 0 := fun n n0 => by
    refine itI_ind (f := xO1 d) (fun i r => ∀ s, 0 ≤ s → s < i → wI r (d + 31) s = 0) n (fun s h1 h2 => by omega) (fun i r i0 i1 hr s h1 h2 => ?_) n n0 (Int.le_refl _)
    unfold xO1
    rw [wI_wsI]
    by_cases c : s = i
    · rw [if_pos ⟨rfl, c⟩]
    · rw [if_neg (fun h => c h.2)]
      exact hr s h1 (by omega)
  have g31 : ∀ s, 0 ≤ s → s < 7 → wI (xO2 d w) (d + 31) s = 0 := fun s h0 h1 => by
    unfold xO2
    rw [fi8_I _ _ (by omega)]
    exact e31 7 (by decide) s h0 h1
  have g32 : ∀ s, 0 ≤ s → s < 8 → wI (xO2 d w) (d + 32) s = 0 := fun s h0 h1 => by
    unfold xO2
    rw [(fiW_in _ _ _ _ (by omega)).2.1, if_pos ⟨rfl, h0, by omega⟩]
  have key := itI_ind (f := xO3 d) (a := xO2 d w) (fun i r => sFr (sDy d) w r ∧ (∀ x, 0 ≤ x → x < i → wI r (d + 27) x = wI w (d + 1 + 3) x ∧ wI r (d + 28) x = 0 ∧ wI r (d + 29) x = wI w (d + 1 + 5) x ∧ wI r (d + 30) x = xUrg w d x (wI w (d + 1 + 3) x) (wI w (d + 1 + 5) x) ∧ ∀ s, 0 ≤ s → s < 8 → wI r (dC d x) s = -6 ∧ wI r (dV d x) s = -6) ∧ (∀ s, 0 ≤ s → s < 7 → wI r (d + 31) s = 0) ∧ (∀ s, 0 ≤ s → s < 8 → wI r (d + 32) s = 0)) (wI w (d + 1) 7) ⟨f2, fun x h0 h1 => by omega, g31, g32⟩ (fun i r i0 i1 hr => by
    have h := xO3_in d r i0 (show i < 8 by omega)
    have hv : ∀ x p q, xUrg r d x p q = xUrg w d x p q := fun x p q => by unfold xUrg; rw [sDy_v hr.1, sDy_l0 hr.1]
    refine ⟨hr.1.trans (xO3_fr d r i0 (by omega)), fun x h0 h1 => ?_, fun s h0 h1 => by rw [h.2.2.2.2.1]; exact hr.2.2.1 s h0 h1, fun s h0 h1 => by rw [h.2.2.2.2.2.1]; exact hr.2.2.2 s h0 h1⟩
    rw [h.1, h.2.1, h.2.2.1, h.2.2.2.1]
    by_cases c : x = i
    · subst c
      rw [if_pos rfl, if_pos rfl, if_pos rfl, if_pos rfl, sDy_l hr.1 (k := 3) (by omega), sDy_l hr.1 (k := 5) (by omega), hv]
      refine ⟨rfl, rfl, rfl, rfl, fun s z0 z1 => ?_⟩
      have := h.2.2.2.2.2.2.1 x s h0 (by omega) z0 z1
      rw [if_pos rfl, if_pos rfl] at this
      exact this
    · have q := hr.2.1 x h0 (by omega)
      rw [if_neg c, if_neg c, if_neg c, if_neg c]
      refine ⟨q.1, q.2.1, q.2.2.1, q.2.2.2.1, fun s z0 z1 => ?_⟩
      have := h.2.2.2.2.2.2.1 x s h0 (by omega) z0 z1
      rw [if_neg c, if_neg c] at this
      rw [this.1, this.2]
      exact q.2.2.2.2 s z0 z1) (wI w (d + 1) 7) hn.1 (Int.le_refl _)
  exact key
theorem xOut0_inv {d : Nat} {w : sm_W} (hD : dOK w d) : xI (xOut0 d w) d 0 0 ∧ sFr (sDy d) w (xOut0 d w) := by
  have hn := dOK_n hD
  obtain ⟨f, hx, h31, h32⟩ := xOut_in hD
  have f0 : sFr (sDy d) w (xOut0 d w) := f.st (by unfold sDy; omega)
  have o : ∀ a, a ≠ d → wI (xOut0 d w) a = wI (xOut d w) a := fun a h => wIf_ne h
  refine ⟨⟨⟨sDy_ok f0 hD, fun x x0 x1 => ?_⟩, fun x x0 x1 => ?_, fun i i0 i1 => ?_, Or.inr ⟨Int.le_refl _, by omega⟩⟩, f0⟩
  · rw [sDy_l0 f0] at x1
    have q := hx x x0 x1
    have hq := lOK_s hD.2 x0 x1
    unfold xSh
    rw [o _ (by omega), o _ (by omega), q.1, q.2.1, sDy_l f0 (k := 3) (by omega), sDy_l f0 (k := 4) (by omega)]
    omega
  · rw [sDy_l0 f0] at x1
    have q := hx x x0 x1
    have hq := lOK_s hD.2 x0 x1
    rw [o _ (by omega), q.2.2.1]
    omega
  · rw [o _ (by omega), h32 i i0 i1]
    omega
theorem xRun_fr {d : Nat} {w : sm_W} (hD : dOK w d) : sFr (sDy d) w (xRun d w) ∧ xDay (xLoop 1000 d (xOut0 d w) 0) d := by
  have h := xOut0_inv hD
  have h2 := xLoop_fr 1000 _ _ _ h.1 (Int.le_refl _)
  exact ⟨(h.2.trans h2.1).st (by unfold sDy; omega), h2.2⟩
def p_X0_run : List sm_V → sm_W → Prop
  | [.inr (.inl d)], w => dOK w d
  | _, _ => False
def f_X0_run : sm_F
  | [.inr (.inl d)], w => (none, xRun d w)
  | _, w => (none, w)
def tb_X0_run : List (Nat × List sm_O) := [(0, [oA 0, oCv 0 11 p_X0_putOutside f_X0_putOutside 0 0 1, oA 0, oK 0, oPi 0 11 3, oK 0, oIs 1, oK 0, oIs 2, oGo 13]),
  (13, [oI 2, oK 1000, oGe 51, oI 1, oLt0 51, oA 0, oI 1, oPi 0 11 3, oA 0, oI 1, oCv 0 11 p_X0_comeIn f_X0_comeIn 0 0 2, oA 0, oI 1, oCv 0 11 p_X0_letLeave f_X0_letLeave 0 0 2, oA 0, oI 1, oCv 0 11 p_X0_nextEvent f_X0_nextEvent 0 0 2, oIs 1, oInc 2 1, oGo 13]),
  (51, [oA 0, oA 0, oCv 0 11 p_X0_notAtEnd f_X0_notAtEnd 0 0 1, oPi 0 11 4, oVr])]
set_option maxRecDepth 100000 in
theorem sb_X0_run_0 (l : Launch) : sm_SndB l RX0 "run" cX0_run 3 0 5 0 [oA 0, oCv 0 11 p_X0_putOutside f_X0_putOutside 0 0 1, oA 0, oK 0, oPi 0 11 3, oK 0, oIs 1, oK 0, oIs 2, oGo 13] := sb_cons (sd_aload_n (by decide +kernel : decode cX0_run 0 = .ok (.aload_n 0, 1)) rfl) (sb_cons (sd_callv (n := 0) (met_X0_putOutside l) (by decide) (by decide) wm_291 wm_289 wm_2 ⟨by decide +kernel, by decide +kernel, by decide +kernel⟩ kl_0 wm_290 wm_1079 (by decide +kernel : decode cX0_run 1 = .ok (.invokevirtual 46, 3))) (sb_cons (sd_aload_n (by decide +kernel : decode cX0_run 4 = .ok (.aload_n 0, 1)) rfl) (sb_cons (sd_iconst (by decide +kernel : decode cX0_run 5 = .ok (.iconst 0, 1)) ⟨by decide, by decide⟩) (sb_cons (sd_puti (k := 3) kl_0 (by decide) rfl (Or.inl rfl) wm_79 (by decide +kernel : decode cX0_run 6 = .ok (.putfield 49, 3))) (sb_cons (sd_iconst (by decide +kernel : decode cX0_run 9 = .ok (.iconst 0, 1)) ⟨by decide, by decide⟩) (sb_cons (sd_istore_n (by decide +kernel : decode cX0_run 10 = .ok (.istore_n 1, 1)) rfl) (sb_cons (sd_iconst (by decide +kernel : decode cX0_run 11 = .ok (.iconst 0, 1)) ⟨by decide, by decide⟩) (sb_cons (sd_istore_n (by decide +kernel : decode cX0_run 12 = .ok (.istore_n 2, 1)) rfl) (sb_cons (sd_fall (x := 0)) sb_nil)))))))))
set_option maxRecDepth 100000 in
theorem sb_X0_run_13 (l : Launch) : sm_SndB l RX0 "run" cX0_run 3 0 5 13 [oI 2, oK 1000, oGe 51, oI 1, oLt0 51, oA 0, oI 1, oPi 0 11 3, oA 0, oI 1, oCv 0 11 p_X0_comeIn f_X0_comeIn 0 0 2, oA 0, oI 1, oCv 0 11 p_X0_letLeave f_X0_letLeave 0 0 2, oA 0, oI 1, oCv 0 11 p_X0_nextEvent f_X0_nextEvent 0 0 2, oIs 1, oInc 2 1, oGo 13] := sb_cons (sd_iload_n (by decide +kernel : decode cX0_run 13 = .ok (.iload_n 2, 1)) rfl) (sb_cons (sd_sipush (by decide +kernel : decode cX0_run 14 = .ok (.sipush 1000, 3)) ⟨by decide, by decide⟩ (by decide)) (sb_cons (sd_ge (by decide +kernel : decode cX0_run 17 = .ok (.if_icmp .ge 34, 3)) (by decide)) (sb_cons (sd_iload_n (by decide +kernel : decode cX0_run 20 = .ok (.iload_n 1, 1)) rfl) (sb_cons (sd_lt0 (by decide +kernel : decode cX0_run 21 = .ok (.ifCond .lt 30, 3)) (by decide)) (sb_cons (sd_aload_n (by decide +kernel : decode cX0_run 24 = .ok (.aload_n 0, 1)) rfl) (sb_cons (sd_iload_n (by decide +kernel : decode cX0_run 25 = .ok (.iload_n 1, 1)) rfl) (sb_cons (sd_puti (k := 3) kl_0 (by decide) rfl (Or.inl rfl) wm_79 (by decide +kernel : decode cX0_run 26 = .ok (.putfield 49, 3))) (sb_cons (sd_aload_n (by decide +kernel : decode cX0_run 29 = .ok (.aload_n 0, 1)) rfl) (sb_cons (sd_iload_n (by decide +kernel : decode cX0_run 30 = .ok (.iload_n 1, 1)) rfl) (sb_cons (sd_callv (n := 1) (met_X0_comeIn l) (by decide) (by decide) wm_301 wm_299 wm_2 ⟨by decide +kernel, by decide +kernel, by decide +kernel⟩ kl_0 wm_300 wm_1081 (by decide +kernel : decode cX0_run 31 = .ok (.invokevirtual 53, 3))) (sb_cons (sd_aload_n (by decide +kernel : decode cX0_run 34 = .ok (.aload_n 0, 1)) rfl) (sb_cons (sd_iload_n (by decide +kernel : decode cX0_run 35 = .ok (.iload_n 1, 1)) rfl) (sb_cons (sd_callv (n := 1) (met_X0_letLeave l) (by decide) (by decide) wm_320 wm_318 wm_2 ⟨by decide +kernel, by decide +kernel, by decide +kernel⟩ kl_0 wm_319 wm_1082 (by decide +kernel : decode cX0_run 36 = .ok (.invokevirtual 57, 3))) (sb_cons (sd_aload_n (by decide +kernel : decode cX0_run 39 = .ok (.aload_n 0, 1)) rfl) (sb_cons (sd_iload_n (by decide +kernel : decode cX0_run 40 = .ok (.iload_n 1, 1)) rfl) (sb_cons (sd_callv (n := 1) (met_X0_nextEvent l) (by decide) (by decide) wm_344 wm_342 wm_2 ⟨by decide +kernel, by decide +kernel, by decide +kernel⟩ kl_0 wm_343 wm_1088 (by decide +kernel : decode cX0_run 41 = .ok (.invokevirtual 60, 3))) (sb_cons (sd_istore_n (by decide +kernel : decode cX0_run 44 = .ok (.istore_n 1, 1)) rfl) (sb_cons (sd_iinc (by decide +kernel : decode cX0_run 45 = .ok (.iinc 2 1, 3))) (sb_cons (sd_goto (x := 0) (by decide +kernel : decode cX0_run 48 = .ok (.goto (-35), 3)) (by decide)) sb_nil)))))))))))))))))))
set_option maxRecDepth 100000 in
theorem sb_X0_run_51 (l : Launch) : sm_SndB l RX0 "run" cX0_run 3 0 5 51 [oA 0, oA 0, oCv 0 11 p_X0_notAtEnd f_X0_notAtEnd 0 0 1, oPi 0 11 4, oVr] := sb_cons (sd_aload_n (by decide +kernel : decode cX0_run 51 = .ok (.aload_n 0, 1)) rfl) (sb_cons (sd_aload_n (by decide +kernel : decode cX0_run 52 = .ok (.aload_n 0, 1)) rfl) (sb_cons (sd_callv (n := 0) (met_X0_notAtEnd l) (by decide) (by decide) wm_348 wm_346 wm_2 ⟨by decide +kernel, by decide +kernel, by decide +kernel⟩ kl_0 wm_347 wm_1089 (by decide +kernel : decode cX0_run 53 = .ok (.invokevirtual 64, 3))) (sb_cons (sd_puti (k := 4) kl_0 (by decide) rfl (Or.inl rfl) wm_81 (by decide +kernel : decode cX0_run 56 = .ok (.putfield 68, 3))) (sb_cons (sd_return (x := 0) rfl (by decide +kernel : decode cX0_run 59 = .ok (.return_, 1))) sb_nil))))
theorem sn_X0_run (l : Launch) : sm_SndT l RX0 "run" cX0_run 3 0 5 tb_X0_run := st_cons (sb_X0_run_0 l) (st_cons (sb_X0_run_13 l) (st_cons (sb_X0_run_51 l) (st_nil)))
set_option maxRecDepth 100000 in
set_option maxHeartbeats 4000000 in
theorem ok_X0_run : sm_Ok tb_X0_run 3 0 0 p_X0_run f_X0_run := by
  intro as w hp ha hw
  match as, hp with
  | [.inr (.inl d)], hp =>
  refine ⟨Nat.le_of_ble_eq_true rfl, fun Z hZ => ?_⟩
  have hD := hp
  have h0 := xOut0_inv hD
  have h00 := (xOut_in hD).1
  have hDo := sDy_ok h00 hD
  obtain ⟨d0, d9, d18, d27, d28, d29, d30, d31, d32, s0, s1, s2, s5, s6, s7, s8, s9, s10⟩ := dS hD.2.1 hD.1
  have o0 := (dS hDo.2.1 hD.1).1
  have hF : xFin d (xLoop 1000 d (xOut0 d w) 0) = xRun d w := rfl
  generalize hG : xLoop 1000 d (xOut0 d w) 0 = G at *
  generalize hE : xRun d w = E at *
  have hl := sm_loopM (S := Nat × sm_W × Int) Z 13 (fun s => s.1) (fun s => s.1 ≤ 1000 ∧ xI s.2.1 d s.2.2 (1000 - s.1) ∧ xLoop s.1 d s.2.1 s.2.2 = G) (fun s => [some (.inr (.inl d)), some (.inl s.2.2), some (.inl (1000 - s.1))]) (fun s => s.2.1) 0 0 (fun s hI ih => by
    obtain ⟨n, u, t⟩ := s
    dsimp only at hI ih ⊢
    obtain ⟨hn8, hU, he⟩ := hI
    have hD := hU.1.1
    obtain ⟨d0, d9, d18, d27, d28, d29, d30, d31, d32, s0, s1, s2, s5, s6, s7, s8, s9, s10⟩ := dS hD.2.1 hD.1
    have h51 : u = G → Z 51 [some (.inr (.inl d)), some (.inl t), some (.inl (1000 - n))] [] u 0 0 := fun h => by
      subst h
      unfold xFin at hF
      refine hZ (fun u => Nat.beq u 13) 14 51 _ _ _ _ _ ?_
      simp only [sm_run, sm_blk, sm_get, sm_ent, sm_ents, sm_wds, sm_wd, sm_nl, sm_pop, sm_back, sm_cases, oK, oLK, oL, oI, oA, oJ, oIs, oAs, oJs, oInc, oAdd, oSub, oMul, oDiv, oRem, oNeg, oAnd, oAndB, oOr, oShl, oI2c, oI2l, oL2i, oLand, oLor, oLshl, oLshr, oLushr, oLcmp, oDup, oDup2, oPop, oGo, oFg, oEq, oNe, oLt, oGe, oGt, oLe, oEq0, oNe0, oLt0, oGe0, oGt0, oLe0, oSw, oGi, oGr, oPi, oPz, oPr, oLen, oIl, oZl, oCl, oRl, oIst, oZst, oCst, oRst, oCopy, oNew, oNa, oNa2, oObj, oCs, oCv, oCi, oIr, oZr, oVr, Nat.beq, List.getElem?_cons_zero, List.getElem?_cons_succ, List.set_cons_zero, List.set_cons_succ, List.length_cons, List.length_nil, List.nil_append, List.cons_append, List.append_nil, List.replicate_succ, List.replicate_zero, Nat.reduceAdd, Nat.reduceSub, Nat.reduceLT, Nat.reduceLeDiff, Nat.reduceBEq, true_and, and_true, Nat.zero_add, Nat.add_zero, Nat.le_refl, Option.some.injEq, exists_eq_left', true_or, or_true, or_false, false_or, reduceCtorEq, Prod.mk.injEq, Sum.inl.injEq, and_self, false_and, and_false, not_true_eq_false, not_false_eq_true, false_implies, true_implies, sm_r, Int.add_zero, Int.zero_add, wI_wsI, wS_wsI, wR_wsI, wI_wCp, wS_wCp, wR_wCp, Nat.reduceEqDiff, reduceIte, sT_iff, sT_iffC, wIf_ne, ne_eq, Bool.false_or, Bool.true_or, Bool.or_false, Bool.or_true, Bool.or_self, Nat.left_eq_add, Nat.add_eq_left, Nat.add_left_inj, oMax, oMin, oAbs, tb_X0_run, p_X0_comeIn, p_X0_letLeave, p_X0_nextEvent, p_X0_notAtEnd, p_X0_putOutside, f_X0_comeIn, f_X0_letLeave, f_X0_nextEvent, f_X0_notAtEnd, f_X0_putOutside, p_X0_run, f_X0_run, d0, hD, hE]
      repeat' (first | exact True.intro | with_reducible assumption | with_reducible refine And.intro ?_ ?_ | intro _)
      all_goals first
        | omega
        | assumption
        | rfl
        | (split <;> omega)
        | (have k9 := ih (by omega)
           (repeat' split at k9) <;> first | exact k9 | omega)
        | (have k9 := ih2 (by omega)
           (repeat' split at k9) <;> first | exact k9 | omega)
        | exact he (by omega)
        | ((with_reducible congr 1) <;> omega)
        | (rw [if_pos (by omega)] at he; exact he)
        | exact hD1 (by omega)
        | exact hD2 (by omega)
        | grind
        | skip
    cases n with
    | zero =>
      have he : u = G := he
      have h51 := h51 he
      clear ih hF
      refine hZ (fun u => Nat.beq u 13 || Nat.beq u 51) 14 13 _ _ _ _ _ ?_
      simp only [sm_run, sm_blk, sm_get, sm_ent, sm_ents, sm_wds, sm_wd, sm_nl, sm_pop, sm_back, sm_cases, oK, oLK, oL, oI, oA, oJ, oIs, oAs, oJs, oInc, oAdd, oSub, oMul, oDiv, oRem, oNeg, oAnd, oAndB, oOr, oShl, oI2c, oI2l, oL2i, oLand, oLor, oLshl, oLshr, oLushr, oLcmp, oDup, oDup2, oPop, oGo, oFg, oEq, oNe, oLt, oGe, oGt, oLe, oEq0, oNe0, oLt0, oGe0, oGt0, oLe0, oSw, oGi, oGr, oPi, oPz, oPr, oLen, oIl, oZl, oCl, oRl, oIst, oZst, oCst, oRst, oCopy, oNew, oNa, oNa2, oObj, oCs, oCv, oCi, oIr, oZr, oVr, Nat.beq, List.getElem?_cons_zero, List.getElem?_cons_succ, List.set_cons_zero, List.set_cons_succ, List.length_cons, List.length_nil, List.nil_append, List.cons_append, List.append_nil, List.replicate_succ, List.replicate_zero, Nat.reduceAdd, Nat.reduceSub, Nat.reduceLT, Nat.reduceLeDiff, Nat.reduceBEq, true_and, and_true, Nat.zero_add, Nat.add_zero, Nat.le_refl, Option.some.injEq, exists_eq_left', true_or, or_true, or_false, false_or, reduceCtorEq, Prod.mk.injEq, Sum.inl.injEq, and_self, false_and, and_false, not_true_eq_false, not_false_eq_true, false_implies, true_implies, sm_r, Int.add_zero, Int.zero_add, wI_wsI, wS_wsI, wR_wsI, wI_wCp, wS_wCp, wR_wCp, Nat.reduceEqDiff, reduceIte, sT_iff, sT_iffC, wIf_ne, ne_eq, Bool.false_or, Bool.true_or, Bool.or_false, Bool.or_true, Bool.or_self, Nat.left_eq_add, Nat.add_eq_left, Nat.add_left_inj, oMax, oMin, oAbs, tb_X0_run, p_X0_comeIn, p_X0_letLeave, p_X0_nextEvent, p_X0_notAtEnd, p_X0_putOutside, f_X0_comeIn, f_X0_letLeave, f_X0_nextEvent, f_X0_notAtEnd, f_X0_putOutside, p_X0_run, f_X0_run]
      repeat' (first | exact True.intro | with_reducible assumption | with_reducible refine And.intro ?_ ?_ | intro _)
      all_goals first
        | omega
        | assumption
        | rfl
        | (split <;> omega)
        | (have k9 := ih (by omega)
           (repeat' split at k9) <;> first | exact k9 | omega)
        | (have k9 := ih2 (by omega)
           (repeat' split at k9) <;> first | exact k9 | omega)
        | exact he (by omega)
        | ((with_reducible congr 1) <;> omega)
        | (rw [if_pos (by omega)] at he; exact he)
        | exact hD1 (by omega)
        | exact hD2 (by omega)
        | skip
    | succ n =>
      rw [xLoop_s] at he
      by_cases c : t < 0
      · rw [if_pos c] at he
        have h51 := h51 he
        clear ih hF
        refine hZ (fun u => Nat.beq u 13 || Nat.beq u 51) 14 13 _ _ _ _ _ ?_
        simp only [sm_run, sm_blk, sm_get, sm_ent, sm_ents, sm_wds, sm_wd, sm_nl, sm_pop, sm_back, sm_cases, oK, oLK, oL, oI, oA, oJ, oIs, oAs, oJs, oInc, oAdd, oSub, oMul, oDiv, oRem, oNeg, oAnd, oAndB, oOr, oShl, oI2c, oI2l, oL2i, oLand, oLor, oLshl, oLshr, oLushr, oLcmp, oDup, oDup2, oPop, oGo, oFg, oEq, oNe, oLt, oGe, oGt, oLe, oEq0, oNe0, oLt0, oGe0, oGt0, oLe0, oSw, oGi, oGr, oPi, oPz, oPr, oLen, oIl, oZl, oCl, oRl, oIst, oZst, oCst, oRst, oCopy, oNew, oNa, oNa2, oObj, oCs, oCv, oCi, oIr, oZr, oVr, Nat.beq, List.getElem?_cons_zero, List.getElem?_cons_succ, List.set_cons_zero, List.set_cons_succ, List.length_cons, List.length_nil, List.nil_append, List.cons_append, List.append_nil, List.replicate_succ, List.replicate_zero, Nat.reduceAdd, Nat.reduceSub, Nat.reduceLT, Nat.reduceLeDiff, Nat.reduceBEq, true_and, and_true, Nat.zero_add, Nat.add_zero, Nat.le_refl, Option.some.injEq, exists_eq_left', true_or, or_true, or_false, false_or, reduceCtorEq, Prod.mk.injEq, Sum.inl.injEq, and_self, false_and, and_false, not_true_eq_false, not_false_eq_true, false_implies, true_implies, sm_r, Int.add_zero, Int.zero_add, wI_wsI, wS_wsI, wR_wsI, wI_wCp, wS_wCp, wR_wCp, Nat.reduceEqDiff, reduceIte, sT_iff, sT_iffC, wIf_ne, ne_eq, Bool.false_or, Bool.true_or, Bool.or_false, Bool.or_true, Bool.or_self, Nat.left_eq_add, Nat.add_eq_left, Nat.add_left_inj, oMax, oMin, oAbs, tb_X0_run, p_X0_comeIn, p_X0_letLeave, p_X0_nextEvent, p_X0_notAtEnd, p_X0_putOutside, f_X0_comeIn, f_X0_letLeave, f_X0_nextEvent, f_X0_notAtEnd, f_X0_putOutside, p_X0_run, f_X0_run]
        repeat' (first | exact True.intro | with_reducible assumption | with_reducible refine And.intro ?_ ?_ | intro _)
        all_goals first
          | omega
          | assumption
          | rfl
          | (split <;> omega)
          | (have k9 := ih (by omega)
             (repeat' split at k9) <;> first | exact k9 | omega)
          | (have k9 := ih2 (by omega)
             (repeat' split at k9) <;> first | exact k9 | omega)
          | exact he (by omega)
          | ((with_reducible congr 1) <;> omega)
          | (rw [if_pos (by omega)] at he; exact he)
          | exact hD1 (by omega)
          | exact hD2 (by omega)
          | skip
      · rw [if_neg c] at he
        clear h51 hF
        have h1 := xI_next hU c (show (0 : Int) ≤ 1000 - ((n + 1 : Nat) : Int) by omega)
        rw [show (1000 : Int) - ((n + 1 : Nat) : Int) + 1 = 1000 - (n : Int) by omega] at h1
        have ih := ih (n, xM2 d u t, xNext (xM2 d u t) d t (wI (xM2 d u t) (d + 1) 7)) ⟨by omega, h1.1, he⟩ (Nat.lt_succ_self n)
        dsimp only at ih
        obtain ⟨hX, hd, hh, ht⟩ := hU
        have ht0 : 0 ≤ t ∧ t ≤ 40000 := by omega
        have hd' : xDu u d 1000000 := fun y y0 y1 => by have := hd y y0 y1; omega
        have hh' : xHb u d 900000 := fun i i0 i1 => by have := hh i i0 i1; omega
        have hm := xM1_inv (t := t) (c := 1000000) hX hd' (by omega) hh'
        have hh6 : xHb (wsI u d 3 t) d 1000000 := fun i i0 i1 => by have := hm.2.2.1 i i0 i1; omega
        have eM1 : xCome d (wsI u d 3 t) t (wI u (d + 1) 7) = xM1 d u t := rfl
        have eM2 : xLL 8 (xM1 d u t) d t = xM2 d u t := rfl
        have q1 := (dS hm.2.2.2.1.1.2.1 hD.1).1
        have q2 := (dS h1.1.1.1.2.1 hD.1).1
        have hcast : (1000 : Int) - ((n + 1 : Nat) : Int) + 1 = 1000 - (n : Int) := by omega
        have hm0 := hm.1
        have hm1 := hm.2.1
        have hm3 := hm.2.2.2.1
        have hm5 := hm.2.2.2.2.2.1
        have hm6 := hm.2.2.2.2.2.2
        have hDD := h1.1.1.1
        clear he hm h1 hh hd hd' hh'
        generalize xM1 d u t = u1 at *
        generalize xM2 d u t = u2 at *
        refine hZ (fun u => Nat.beq u 13 || Nat.beq u 51) 14 13 _ _ _ _ _ ?_
        simp only [sm_run, sm_blk, sm_get, sm_ent, sm_ents, sm_wds, sm_wd, sm_nl, sm_pop, sm_back, sm_cases, oK, oLK, oL, oI, oA, oJ, oIs, oAs, oJs, oInc, oAdd, oSub, oMul, oDiv, oRem, oNeg, oAnd, oAndB, oOr, oShl, oI2c, oI2l, oL2i, oLand, oLor, oLshl, oLshr, oLushr, oLcmp, oDup, oDup2, oPop, oGo, oFg, oEq, oNe, oLt, oGe, oGt, oLe, oEq0, oNe0, oLt0, oGe0, oGt0, oLe0, oSw, oGi, oGr, oPi, oPz, oPr, oLen, oIl, oZl, oCl, oRl, oIst, oZst, oCst, oRst, oCopy, oNew, oNa, oNa2, oObj, oCs, oCv, oCi, oIr, oZr, oVr, Nat.beq, List.getElem?_cons_zero, List.getElem?_cons_succ, List.set_cons_zero, List.set_cons_succ, List.length_cons, List.length_nil, List.nil_append, List.cons_append, List.append_nil, List.replicate_succ, List.replicate_zero, Nat.reduceAdd, Nat.reduceSub, Nat.reduceLT, Nat.reduceLeDiff, Nat.reduceBEq, true_and, and_true, Nat.zero_add, Nat.add_zero, Nat.le_refl, Option.some.injEq, exists_eq_left', true_or, or_true, or_false, false_or, reduceCtorEq, Prod.mk.injEq, Sum.inl.injEq, and_self, false_and, and_false, not_true_eq_false, not_false_eq_true, false_implies, true_implies, sm_r, Int.add_zero, Int.zero_add, wI_wsI, wS_wsI, wR_wsI, wI_wCp, wS_wCp, wR_wCp, Nat.reduceEqDiff, reduceIte, sT_iff, sT_iffC, wIf_ne, ne_eq, Bool.false_or, Bool.true_or, Bool.or_false, Bool.or_true, Bool.or_self, Nat.left_eq_add, Nat.add_eq_left, Nat.add_left_inj, oMax, oMin, oAbs, tb_X0_run, p_X0_comeIn, p_X0_letLeave, p_X0_nextEvent, p_X0_notAtEnd, p_X0_putOutside, f_X0_comeIn, f_X0_letLeave, f_X0_nextEvent, f_X0_notAtEnd, f_X0_putOutside, p_X0_run, f_X0_run, d0, hD, eM1, eM2, q1, q2, hm0, hm1, hm3, hm5, hm6, hh6, hDD, hcast]
        repeat' (first | exact True.intro | with_reducible assumption | with_reducible refine And.intro ?_ ?_ | intro _)
        all_goals first
          | omega
          | assumption
          | rfl
          | (split <;> omega)
          | (have k9 := ih (by omega)
             (repeat' split at k9) <;> first | exact k9 | omega)
          | (have k9 := ih2 (by omega)
             (repeat' split at k9) <;> first | exact k9 | omega)
          | exact he (by omega)
          | ((with_reducible congr 1) <;> omega)
          | (rw [if_pos (by omega)] at he; exact he)
          | exact hD1 (by omega)
          | exact hD2 (by omega)
          | grind
          | skip
    )
  have h9 := hl (1000, xOut0 d w, 0) ⟨Nat.le_refl _, h0.1, hG⟩
  have h9 : Z 13 [some (.inr (.inl d)), some (.inl 0), some (.inl 0)] [] (xOut0 d w) 0 0 := h9
  unfold xOut0 at h9
  refine hZ (fun u => Nat.beq u 13) 14 0 _ _ _ _ _ ?_
  simp only [sm_run, sm_blk, sm_get, sm_ent, sm_ents, sm_wds, sm_wd, sm_nl, sm_pop, sm_back, sm_cases, oK, oLK, oL, oI, oA, oJ, oIs, oAs, oJs, oInc, oAdd, oSub, oMul, oDiv, oRem, oNeg, oAnd, oAndB, oOr, oShl, oI2c, oI2l, oL2i, oLand, oLor, oLshl, oLshr, oLushr, oLcmp, oDup, oDup2, oPop, oGo, oFg, oEq, oNe, oLt, oGe, oGt, oLe, oEq0, oNe0, oLt0, oGe0, oGt0, oLe0, oSw, oGi, oGr, oPi, oPz, oPr, oLen, oIl, oZl, oCl, oRl, oIst, oZst, oCst, oRst, oCopy, oNew, oNa, oNa2, oObj, oCs, oCv, oCi, oIr, oZr, oVr, Nat.beq, List.getElem?_cons_zero, List.getElem?_cons_succ, List.set_cons_zero, List.set_cons_succ, List.length_cons, List.length_nil, List.nil_append, List.cons_append, List.append_nil, List.replicate_succ, List.replicate_zero, Nat.reduceAdd, Nat.reduceSub, Nat.reduceLT, Nat.reduceLeDiff, Nat.reduceBEq, true_and, and_true, Nat.zero_add, Nat.add_zero, Nat.le_refl, Option.some.injEq, exists_eq_left', true_or, or_true, or_false, false_or, reduceCtorEq, Prod.mk.injEq, Sum.inl.injEq, and_self, false_and, and_false, not_true_eq_false, not_false_eq_true, false_implies, true_implies, sm_r, Int.add_zero, Int.zero_add, wI_wsI, wS_wsI, wR_wsI, wI_wCp, wS_wCp, wR_wCp, Nat.reduceEqDiff, reduceIte, sT_iff, sT_iffC, wIf_ne, ne_eq, Bool.false_or, Bool.true_or, Bool.or_false, Bool.or_true, Bool.or_self, Nat.left_eq_add, Nat.add_eq_left, Nat.add_left_inj, oMax, oMin, oAbs, tb_X0_run, p_X0_comeIn, p_X0_letLeave, p_X0_nextEvent, p_X0_notAtEnd, p_X0_putOutside, f_X0_comeIn, f_X0_letLeave, f_X0_nextEvent, f_X0_notAtEnd, f_X0_putOutside, p_X0_run, f_X0_run, d0, o0, hD]
  repeat' (first | exact True.intro | with_reducible assumption | with_reducible refine And.intro ?_ ?_ | intro _)
  all_goals first
    | omega
    | assumption
    | rfl
    | (split <;> omega)
    | (have k9 := ih (by omega)
       (repeat' split at k9) <;> first | exact k9 | omega)
    | (have k9 := ih2 (by omega)
       (repeat' split at k9) <;> first | exact k9 | omega)
    | exact he (by omega)
    | ((with_reducible congr 1) <;> omega)
    | (rw [if_pos (by omega)] at he; exact he)
    | exact hD1 (by omega)
    | exact hD2 (by omega)
    | skip

theorem met_X0_run (l : Launch) : sm_Met l yX0_run cX0_run 3 none 5 0 0 p_X0_run f_X0_run := sm_met 0 (Or.inl ⟨rfl, rfl⟩) (by decide +kernel) (sn_X0_run l) ok_X0_run