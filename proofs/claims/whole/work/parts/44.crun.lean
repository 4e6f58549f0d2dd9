/-! THE CLASS: a day is run -/
def xCm1 (d : Nat) (t x : Int) (w : sm_W) : sm_W := if wI w (d + 28) x = 0 then w else (if wI w (d + 29) x = t then xStand d x (wI w (d + 27) x + mWay (vL w (d + 1)) x) (t + wI w (d + 1 + 6) x) (wsI (wsI w (d + 31) (sFrom (wI w (d + 27) x) (mWay (vL w (d + 1)) x)) 0) (dC d x) (wI w (d + 27) x + mWay (vL w (d + 1)) x) t) else w)
theorem xCm1_fr (d : Nat) (t : Int) (w : sm_W) {x : Int} (x0 : 0 ≤ x) (x1 : x < 8) : sFr (sDy d) w (xCm1 d t x w) := by
  unfold xCm1
  split
  · exact sFr.refl w
  · split
    · exact (((sFr.refl w).st (by unfold sDy; omega)).st (by unfold sDy dC; omega)).trans (xStand_fr _ _ _ _ _)
    · exact sFr.refl w
/-- who comes into a station -/
theorem xCm1_in {d : Nat} {t : Int} {w : sm_W} {x : Int} (x0 : 0 ≤ x) (x1 : x < 8) (h : ¬ wI w (d + 28) x = 0) (ht : wI w (d + 29) x = t) : (∀ y, wI (xCm1 d t x w) (d + 27) y = if y = x then wI w (d + 27) x + mWay (vL w (d + 1)) x else wI w (d + 27) y) ∧ (∀ y, wI (xCm1 d t x w) (d + 28) y = if y = x then 0 else wI w (d + 28) y) ∧ (∀ y, wI (xCm1 d t x w) (d + 29) y = if y = x then t + wI w (d + 1 + 6) x else wI w (d + 29) y) ∧ (∀ y, wI (xCm1 d t x w) (d + 30) y = if y = x then xUrg w d x (wI w (d + 27) x + mWay (vL w (d + 1)) x) (t + wI w (d + 1 + 6) x) else wI w (d + 30) y) ∧ (∀ s, wI (xCm1 d t x w) (d + 31) s = if s = sFrom (wI w (d + 27) x) (mWay (vL w (d + 1)) x) then 0 else wI w (d + 31) s) ∧ wI (xCm1 d t x w) (d + 32) = wI w (d + 32) ∧ (∀ y s, 0 ≤ y → y < 8 → wI (xCm1 d t x w) (dC d y) s = if y = x ∧ s = wI w (d + 27) x + mWay (vL w (d + 1)) x then t else wI w (dC d y) s) ∧ (∀ y, 0 ≤ y → y < 8 → wI (xCm1 d t x w) (dV d y) = wI w (dV d y)) ∧ wI (xCm1 d t x w) d = wI w d := by
  obtain ⟨u, hu⟩ : ∃ u, u = wsI (wsI w (d + 31) (sFrom (wI w (d + 27) x) (mWay (vL w (d + 1)) x)) 0) (dC d x) (wI w (d + 27) x + mWay (vL w (d + 1)) x) t := ⟨_, rfl⟩
  have e : xCm1 d t x w = xStand d x (wI w (d + 27) x + mWay (vL w (d + 1)) x) (t + wI w (d + 1 + 6) x) u := by
    unfold xCm1
    rw [if_neg h, if_pos ht, hu]
  have hs := xStand_in d x (wI w (d + 27) x + mWay (vL w (d + 1)) x) (t + wI w (d + 1 + 6) x) u
  have hU : xUrg u d x (wI w (d + 27) x + mWay (vL w (d + 1)) x) (t + wI w (d + 1 + 6) x) = xUrg w d x (wI w (d + 27) x + mWay (vL w (d + 1)) x) (t + wI w (d + 1 + 6) x) := by
    unfold xUrg
    rw [hu, vLd_C, vLd_31, wIf_ne (show ¬ d + 1 = dC d x by unfold dC; omega), wIf_ne (show ¬ d + 1 = d + 31 by omega)]
  have ou : ∀ a, a ≠ d + 31 → a ≠ dC d x → wI u a = wI w a := fun a h1 h2 => by rw [hu, wIf_ne h2, wIf_ne h1]
  have u31 : ∀ s, wI u (d + 31) s = if s = sFrom (wI w (d + 27) x) (mWay (vL w (d + 1)) x) then 0 else wI w (d + 31) s := fun s => by
    rw [hu, wIf_ne (show ¬ d + 31 = dC d x by unfold dC; omega), wI_wsI]
    simp only [true_and]
  have uC : ∀ y s, 0 ≤ y → y < 8 → wI u (dC d y) s = if y = x ∧ s = wI w (d + 27) x + mWay (vL w (d + 1)) x then t else wI w (dC d y) s := fun y s y0 y1 => by
    rw [hu, wI_wsI, wIf_ne (show ¬ dC d y = d + 31 by unfold dC; omega)]
    have e : (dC d y = dC d x) = (y = x) := by unfold dC; exact propext ⟨fun h => by omega, fun h => by rw [h]⟩
    simp only [e]
  rw [e]
  obtain ⟨s1, s2, s3, s4, s5⟩ := hs
  refine ⟨fun y => ?_, fun y => ?_, fun y => ?_, fun y => ?_, fun s => ?_, ?_, fun y s y0 y1 => ?_, fun y y0 y1 => ?_, ?_⟩
  · rw [s1, ou _ (by omega) (by unfold dC; omega)]
  · rw [s2, ou _ (by omega) (by unfold dC; omega)]
  · rw [s3, ou _ (by omega) (by unfold dC; omega)]
  · rw [s4, ou _ (by omega) (by unfold dC; omega), hU]
  · rw [s5 _ (by omega), u31]
  · rw [s5 _ (by omega), ou _ (by omega) (by unfold dC; omega)]
  · rw [s5 _ (by unfold dC; omega), uC y s y0 y1]
  · rw [s5 _ (by unfold dV; omega), ou _ (by unfold dV; omega) (by unfold dC dV; omega)]
  · rw [s5 _ (by omega), ou _ (by omega) (by unfold dC; omega)]
theorem xCm1_no {d : Nat} {t : Int} {w : sm_W} {x : Int} (h : wI w (d + 28) x = 0 ∨ wI w (d + 29) x ≠ t) : xCm1 d t x w = w := by
  unfold xCm1
  rcases h with h | h
  · rw [if_pos h]
  · rw [if_neg h, ite_self]
theorem xDay_fr {w u : sm_W} {d : Nat} (hX : xDay w d) (hf : sFr (sDy d) w u) {x : Int} (x0 : 0 ≤ x) (x1 : x < wI w (d + 1) 7) (ho : ∀ y, y ≠ x → wI u (d + 27) y = wI w (d + 27) y ∧ wI u (d + 28) y = wI w (d + 28) y) (hx : xSh u d x) : xDay u d := by
  refine ⟨sDy_ok hf hX.1, fun y y0 y1 => ?_⟩
  rw [sDy_l0 hf] at y1
  by_cases c : y = x
  · rw [c]; exact hx
  · have h := hX.2 y y0 y1
    unfold xSh at h ⊢
    rw [(ho y c).1, (ho y c).2, sDy_l hf (k := 3) (by omega), sDy_l hf (k := 4) (by omega)]
    exact h
theorem xCm1_day {d : Nat} {t : Int} {w : sm_W} {x : Int} (hX : xDay w d) (x0 : 0 ≤ x) (x1 : x < wI w (d + 1) 7) : xDay (xCm1 d t x w) d := by
  have hn := dOK_n hX.1
  by_cases c : wI w (d + 28) x = 0 ∨ wI w (d + 29) x ≠ t
  · rw [xCm1_no c]; exact hX
  · have c1 : ¬ wI w (d + 28) x = 0 := fun h => c (Or.inl h)
    have c2 : wI w (d + 29) x = t := Classical.byContradiction fun h => c (Or.inr h)
    have h := xCm1_in x0 (show x < 8 by omega) c1 c2
    have hf := xCm1_fr d t w x0 (show x < 8 by omega)
    have hs := hX.2 x x0 x1
    unfold xSh at hs
    have hne : wI w (d + 27) x ≠ wI w (d + 1 + 4) x := hs.2.2.2.2 (by omega)
    have hb := (xSh_b hX x0 x1 hne).2
    have hw := lWay (w := w) (a := d + 1) x0
    refine xDay_fr hX hf x0 x1 (fun y hy => ⟨by rw [h.1, if_neg hy], by rw [h.2.1, if_neg hy]⟩) ?_
    unfold xSh
    rw [h.1, h.2.1, if_pos rfl, if_pos rfl, sDy_l hf (k := 3) (by omega), sDy_l hf (k := 4) (by omega)]
    omega
/-- nobody is due later -/
def xDu (w : sm_W) (d : Nat) (c : Int) : Prop := ∀ x, 0 ≤ x → x < wI w (d + 1) 7 → wI w (d + 29) x ≤ c
theorem xCm1_b {d : Nat} {t c e : Int} {w : sm_W} {x : Int} (hX : xDay w d) (x0 : 0 ≤ x) (x1 : x < wI w (d + 1) 7) (hd : xDu w d c) (hc : t + 30 ≤ c) (hh : xHb w d e) : xDu (xCm1 d t x w) d c ∧ xHb (xCm1 d t x w) d e := by
  have hn := dOK_n hX.1
  by_cases k : wI w (d + 28) x = 0 ∨ wI w (d + 29) x ≠ t
  · rw [xCm1_no k]; exact ⟨hd, hh⟩
  · have c1 : ¬ wI w (d + 28) x = 0 := fun h => k (Or.inl h)
    have c2 : wI w (d + 29) x = t := Classical.byContradiction fun h => k (Or.inr h)
    have h := xCm1_in x0 (show x < 8 by omega) c1 c2
    have hf := xCm1_fr d t w x0 (show x < 8 by omega)
    have hq := lOK_s hX.1.2 x0 x1
    refine ⟨fun y y0 y1 => ?_, fun i i0 i1 => ?_⟩
    · rw [sDy_l0 hf] at y1
      rw [h.2.2.1]
      split
      · omega
      · exact hd y y0 y1
    · rw [h.2.2.2.2.2.1]
      exact hh i i0 i1
def xCome (d : Nat) (w : sm_W) (t : Int) : Int → sm_W := itI (xCm1 d t) w
theorem xCome_inv {d : Nat} {w : sm_W} {t c e : Int} (hX : xDay w d) (hd : xDu w d c) (hc : t + 30 ≤ c) (hh : xHb w d e) (n : Int) (n0 : 0 ≤ n) (n1 : n ≤ wI w (d + 1) 7) : xDay (xCome d w t n) d ∧ sFr (sDy d) w (xCome d w t n) ∧ xDu (xCome d w t n) d c ∧ xHb (xCome d w t n) d e := by
  have hn := dOK_n hX.1
  refine itI_ind (f := xCm1 d t) (fun _ r => xDay r d ∧ sFr (sDy d) w r ∧ xDu r d c ∧ xHb r d e) n ⟨hX, sFr.refl w, hd, hh⟩ (fun i r i0 i1 hr => ?_) n n0 (Int.le_refl _)
  have h1 : i < wI r (d + 1) 7 := by rw [sDy_l0 hr.2.1]; omega
  have hb := xCm1_b hr.1 i0 h1 hr.2.2.1 hc hr.2.2.2
  exact ⟨xCm1_day hr.1 i0 h1, hr.2.1.trans (xCm1_fr d t r i0 (by omega)), hb.1, hb.2⟩
def p_X0_comeIn : List sm_V → sm_W → Prop
  | [.inr (.inl d), .inl t], w => xDay w d ∧ 0 ≤ t ∧ t ≤ 900000 ∧ xDu w d 1000000 ∧ xHb w d 1000000
  | _, _ => False
def f_X0_comeIn : sm_F
  | [.inr (.inl d), .inl t], w => (none, xCome d w t (wI w (d + 1) 7))
  | _, w => (none, w)
def tb_X0_comeIn : List (Nat × List sm_O) := [(0, [oK 0, oIs 2, oFg 3, oGo 2]),
  (2, [oI 2, oA 0, oGr 0 11 0, oGi 2 9 7, oGe 99, oA 0, oGr 0 11 6, oI 2, oZl, oEq0 93, oA 0, oGr 0 11 7, oI 2, oIl, oI 1, oNe 93, oA 0, oGr 0 11 0, oI 2, oA 0, oGr 0 11 5, oI 2, oIl, oCv 2 9 p_X2_nextStation f_X2_nextStation 0 0 3, oIs 3, oA 0, oGr 0 11 9, oA 0, oGr 0 11 0, oI 2, oA 0, oGr 0 11 5, oI 2, oIl, oCv 2 9 p_X2_stretchAhead f_X2_stretchAhead 0 0 3, oK 0, oZst, oA 0, oGr 0 11 1, oI 2, oRl, oI 3, oI 1, oIst, oA 0, oI 2, oI 3, oI 1, oA 0, oGr 0 11 0, oGr 2 9 5, oI 2, oIl, oAdd, oCv 0 11 p_X0_stand f_X0_stand 0 0 4, oGo 93]),
  (93, [oInc 2 1, oFg 3, oGo 2]),
  (99, [oVr])]
set_option maxRecDepth 100000 in
theorem sb_X0_comeIn_0 (l : Launch) : sm_SndB l RX0 "comeIn" cX0_comeIn 4 0 3 0 [oK 0, oIs 2, oFg 3, oGo 2] := sb_cons (sd_iconst (by decide +kernel : decode cX0_comeIn 0 = .ok (.iconst 0, 1)) ⟨by decide, by decide⟩) (sb_cons (sd_istore_n (by decide +kernel : decode cX0_comeIn 1 = .ok (.istore_n 2, 1)) rfl) (sb_cons (sd_fg) (sb_cons (sd_fall (x := 0)) sb_nil)))
set_option maxRecDepth 100000 in
theorem sb_X0_comeIn_2 (l : Launch) : sm_SndB l RX0 "comeIn" cX0_comeIn 4 0 3 2 [oI 2, oA 0, oGr 0 11 0, oGi 2 9 7, oGe 99, oA 0, oGr 0 11 6, oI 2, oZl, oEq0 93, oA 0, oGr 0 11 7, oI 2, oIl, oI 1, oNe 93, oA 0, oGr 0 11 0, oI 2, oA 0, oGr 0 11 5, oI 2, oIl, oCv 2 9 p_X2_nextStation f_X2_nextStation 0 0 3, oIs 3, oA 0, oGr 0 11 9, oA 0, oGr 0 11 0, oI 2, oA 0, oGr 0 11 5, oI 2, oIl, oCv 2 9 p_X2_stretchAhead f_X2_stretchAhead 0 0 3, oK 0, oZst, oA 0, oGr 0 11 1, oI 2, oRl, oI 3, oI 1, oIst, oA 0, oI 2, oI 3, oI 1, oA 0, oGr 0 11 0, oGr 2 9 5, oI 2, oIl, oAdd, oCv 0 11 p_X0_stand f_X0_stand 0 0 4, oGo 93] := sb_cons (sd_iload_n (by decide +kernel : decode cX0_comeIn 2 = .ok (.iload_n 2, 1)) rfl) (sb_cons (sd_aload_n (by decide +kernel : decode cX0_comeIn 3 = .ok (.aload_n 0, 1)) rfl) (sb_cons (sd_getr (k := 0) kl_0 (by decide) rfl wm_68 (by decide +kernel : decode cX0_comeIn 4 = .ok (.getfield 12, 3))) (sb_cons (sd_geti (k := 7) kl_2 (by decide) rfl wm_59 (by decide +kernel : decode cX0_comeIn 7 = .ok (.getfield 77, 3))) (sb_cons (sd_ge (by decide +kernel : decode cX0_comeIn 10 = .ok (.if_icmp .ge 89, 3)) (by decide)) (sb_cons (sd_aload_n (by decide +kernel : decode cX0_comeIn 13 = .ok (.aload_n 0, 1)) rfl) (sb_cons (sd_getr (k := 6) kl_0 (by decide) rfl wm_84 (by decide +kernel : decode cX0_comeIn 14 = .ok (.getfield 30, 3))) (sb_cons (sd_iload_n (by decide +kernel : decode cX0_comeIn 17 = .ok (.iload_n 2, 1)) rfl) (sb_cons (sd_baload (by decide +kernel : decode cX0_comeIn 18 = .ok (.baload, 1))) (sb_cons (sd_eq0 (by decide +kernel : decode cX0_comeIn 19 = .ok (.ifCond .eq 74, 3)) (by decide)) (sb_cons (sd_aload_n (by decide +kernel : decode cX0_comeIn 22 = .ok (.aload_n 0, 1)) rfl) (sb_cons (sd_getr (k := 7) kl_0 (by decide) rfl wm_85 (by decide +kernel : decode cX0_comeIn 23 = .ok (.getfield 34, 3))) (sb_cons (sd_iload_n (by decide +kernel : decode cX0_comeIn 26 = .ok (.iload_n 2, 1)) rfl) (sb_cons (sd_iaload (by decide +kernel : decode cX0_comeIn 27 = .ok (.iaload, 1))) (sb_cons (sd_iload_n (by decide +kernel : decode cX0_comeIn 28 = .ok (.iload_n 1, 1)) rfl) (sb_cons (sd_ne (by decide +kernel : decode cX0_comeIn 29 = .ok (.if_icmp .ne 64, 3)) (by decide)) (sb_cons (sd_aload_n (by decide +kernel : decode cX0_comeIn 32 = .ok (.aload_n 0, 1)) rfl) (sb_cons (sd_getr (k := 0) kl_0 (by decide) rfl wm_68 (by decide +kernel : decode cX0_comeIn 33 = .ok (.getfield 12, 3))) (sb_cons (sd_iload_n (by decide +kernel : decode cX0_comeIn 36 = .ok (.iload_n 2, 1)) rfl) (sb_cons (sd_aload_n (by decide +kernel : decode cX0_comeIn 37 = .ok (.aload_n 0, 1)) rfl) (sb_cons (sd_getr (k := 5) kl_0 (by decide) rfl wm_83 (by decide +kernel : decode cX0_comeIn 38 = .ok (.getfield 26, 3))) (sb_cons (sd_iload_n (by decide +kernel : decode cX0_comeIn 41 = .ok (.iload_n 2, 1)) rfl) (sb_cons (sd_iaload (by decide +kernel : decode cX0_comeIn 42 = .ok (.iaload, 1))) (sb_cons (sd_callv (n := 2) (met_X2_nextStation l) (by decide) (by decide) wm_306 wm_303 wm_3 ⟨by decide +kernel, by decide +kernel, by decide +kernel⟩ kl_2 wm_304 wm_305 (by decide +kernel : decode cX0_comeIn 43 = .ok (.invokevirtual 100, 3))) (sb_cons (sd_istore_n (by decide +kernel : decode cX0_comeIn 46 = .ok (.istore_n 3, 1)) rfl) (sb_cons (sd_aload_n (by decide +kernel : decode cX0_comeIn 47 = .ok (.aload_n 0, 1)) rfl) (sb_cons (sd_getr (k := 9) kl_0 (by decide) rfl wm_87 (by decide +kernel : decode cX0_comeIn 48 = .ok (.getfield 40, 3))) (sb_cons (sd_aload_n (by decide +kernel : decode cX0_comeIn 51 = .ok (.aload_n 0, 1)) rfl) (sb_cons (sd_getr (k := 0) kl_0 (by decide) rfl wm_68 (by decide +kernel : decode cX0_comeIn 52 = .ok (.getfield 12, 3))) (sb_cons (sd_iload_n (by decide +kernel : decode cX0_comeIn 55 = .ok (.iload_n 2, 1)) rfl) (sb_cons (sd_aload_n (by decide +kernel : decode cX0_comeIn 56 = .ok (.aload_n 0, 1)) rfl) (sb_cons (sd_getr (k := 5) kl_0 (by decide) rfl wm_83 (by decide +kernel : decode cX0_comeIn 57 = .ok (.getfield 26, 3))) (sb_cons (sd_iload_n (by decide +kernel : decode cX0_comeIn 60 = .ok (.iload_n 2, 1)) rfl) (sb_cons (sd_iaload (by decide +kernel : decode cX0_comeIn 61 = .ok (.iaload, 1))) (sb_cons (sd_callv (n := 2) (met_X2_stretchAhead l) (by decide) (by decide) wm_316 wm_313 wm_3 ⟨by decide +kernel, by decide +kernel, by decide +kernel⟩ kl_2 wm_314 wm_315 (by decide +kernel : decode cX0_comeIn 62 = .ok (.invokevirtual 103, 3))) (sb_cons (sd_iconst (by decide +kernel : decode cX0_comeIn 65 = .ok (.iconst 0, 1)) ⟨by decide, by decide⟩) (sb_cons (sd_bastore (by decide +kernel : decode cX0_comeIn 66 = .ok (.bastore, 1))) (sb_cons (sd_aload_n (by decide +kernel : decode cX0_comeIn 67 = .ok (.aload_n 0, 1)) rfl) (sb_cons (sd_getr (k := 1) kl_0 (by decide) rfl wm_73 (by decide +kernel : decode cX0_comeIn 68 = .ok (.getfield 20, 3))) (sb_cons (sd_iload_n (by decide +kernel : decode cX0_comeIn 71 = .ok (.iload_n 2, 1)) rfl) (sb_cons (sd_aaload (by decide +kernel : decode cX0_comeIn 72 = .ok (.aaload, 1))) (sb_cons (sd_iload_n (by decide +kernel : decode cX0_comeIn 73 = .ok (.iload_n 3, 1)) rfl) (sb_cons (sd_iload_n (by decide +kernel : decode cX0_comeIn 74 = .ok (.iload_n 1, 1)) rfl) (sb_cons (sd_iastore (by decide +kernel : decode cX0_comeIn 75 = .ok (.iastore, 1))) (sb_cons (sd_aload_n (by decide +kernel : decode cX0_comeIn 76 = .ok (.aload_n 0, 1)) rfl) (sb_cons (sd_iload_n (by decide +kernel : decode cX0_comeIn 77 = .ok (.iload_n 2, 1)) rfl) (sb_cons (sd_iload_n (by decide +kernel : decode cX0_comeIn 78 = .ok (.iload_n 3, 1)) rfl) (sb_cons (sd_iload_n (by decide +kernel : decode cX0_comeIn 79 = .ok (.iload_n 1, 1)) rfl) (sb_cons (sd_aload_n (by decide +kernel : decode cX0_comeIn 80 = .ok (.aload_n 0, 1)) rfl) (sb_cons (sd_getr (k := 0) kl_0 (by decide) rfl wm_68 (by decide +kernel : decode cX0_comeIn 81 = .ok (.getfield 12, 3))) (sb_cons (sd_getr (k := 5) kl_2 (by decide) rfl wm_52 (by decide +kernel : decode cX0_comeIn 84 = .ok (.getfield 106, 3))) (sb_cons (sd_iload_n (by decide +kernel : decode cX0_comeIn 87 = .ok (.iload_n 2, 1)) rfl) (sb_cons (sd_iaload (by decide +kernel : decode cX0_comeIn 88 = .ok (.iaload, 1))) (sb_cons (sd_iadd (by decide +kernel : decode cX0_comeIn 89 = .ok (.iadd, 1))) (sb_cons (sd_callv (n := 3) (met_X0_stand l) (by decide) (by decide) wm_296 wm_294 wm_2 ⟨by decide +kernel, by decide +kernel, by decide +kernel⟩ kl_0 wm_295 wm_1080 (by decide +kernel : decode cX0_comeIn 90 = .ok (.invokevirtual 86, 3))) (sb_cons (sd_fall (x := 0)) sb_nil)))))))))))))))))))))))))))))))))))))))))))))))))))))))
set_option maxRecDepth 100000 in
theorem sb_X0_comeIn_93 (l : Launch) : sm_SndB l RX0 "comeIn" cX0_comeIn 4 0 3 93 [oInc 2 1, oFg 3, oGo 2] := sb_cons (sd_iinc (by decide +kernel : decode cX0_comeIn 93 = .ok (.iinc 2 1, 3))) (sb_cons (sd_fg) (sb_cons (sd_goto (x := 0) (by decide +kernel : decode cX0_comeIn 96 = .ok (.goto (-94), 3)) (by decide)) sb_nil))
set_option maxRecDepth 100000 in
theorem sb_X0_comeIn_99 (l : Launch) : sm_SndB l RX0 "comeIn" cX0_comeIn 4 0 3 99 [oVr] := sb_cons (sd_return (x := 0) rfl (by decide +kernel : decode cX0_comeIn 99 = .ok (.return_, 1))) sb_nil
theorem sn_X0_comeIn (l : Launch) : sm_SndT l RX0 "comeIn" cX0_comeIn 4 0 3 tb_X0_comeIn := st_cons (sb_X0_comeIn_0 l) (st_cons (sb_X0_comeIn_2 l) (st_cons (sb_X0_comeIn_93 l) (st_cons (sb_X0_comeIn_99 l) (st_nil))))
set_option maxRecDepth 100000 in
set_option maxHeartbeats 4000000 in
theorem ok_X0_comeIn : sm_Ok tb_X0_comeIn 4 0 0 p_X0_comeIn f_X0_comeIn := by
  intro as w hp ha hw
  match as, hp with
  | [.inr (.inl d), .inl t], hp =>
  refine ⟨Nat.le_of_ble_eq_true rfl, fun Z hZ => ?_⟩
  obtain ⟨hX, t0, t1, hd, hh⟩ := hp
  have hn := dOK_n hX.1
  have hl := sm_loopI Z 2 0 (wI w (d + 1) 7) (fun i => [some (.inr (.inl d)), some (.inl t), some (.inl i), none]) (fun i => xCome d w t i) 0 0 hn.1 (fun i h0 h1 ih => by
    have hI := xCome_inv (t := t) (c := 1000000) hX hd (by omega) hh i h0 h1
    have hu : xCome d w t (i + 1) = xCm1 d t i (xCome d w t i) := itI_s _ _ h0
    rw [hu] at ih
    have he : i = wI w (d + 1) 7 → xCome d w t i = xCome d w t (wI w (d + 1) 7) := fun e => by rw [← e]
    generalize hE : xCome d w t (wI w (d + 1) 7) = E at *
    generalize xCome d w t i = u at *
    obtain ⟨hU, hf, -, -⟩ := hI
    have hnu : wI u (d + 1) 7 = wI w (d + 1) 7 := by rw [sDy_l0 hf]
    have hD := hU.1
    obtain ⟨d0, d9, d18, d27, d28, d29, d30, d31, d32, s0, s1, s2, s5, s6, s7, s8, s9, s10⟩ := dS hD.2.1 hD.1
    obtain ⟨l0, l1, l2, l3, l4, l5, l6, l7, r0, r1, r2, r3, r4, r5, r6⟩ := lS hD.2.1 (dL hD.1)
    have hT := hD.2.1
    have hL := hD.2.2.1
    by_cases e : i = wI w (d + 1) 7
    · have he := he e
      subst he
      clear ih
      refine hZ (fun u => Nat.beq u 2) 14 2 _ _ _ _ _ ?_
      simp only [sm_run, sm_blk, sm_get, sm_ent, sm_ents, sm_wds, sm_wd, sm_nl, sm_pop, sm_back, sm_cases, oK, oLK, oL, oI, oA, oJ, oIs, oAs, oJs, oInc, oAdd, oSub, oMul, oDiv, oRem, oNeg, oAnd, oAndB, oOr, oShl, oI2c, oI2l, oL2i, oLand, oLor, oLshl, oLshr, oLushr, oLcmp, oDup, oDup2, oPop, oGo, oFg, oEq, oNe, oLt, oGe, oGt, oLe, oEq0, oNe0, oLt0, oGe0, oGt0, oLe0, oSw, oGi, oGr, oPi, oPz, oPr, oLen, oIl, oZl, oCl, oRl, oIst, oZst, oCst, oRst, oCopy, oNew, oNa, oNa2, oObj, oCs, oCv, oCi, oIr, oZr, oVr, Nat.beq, List.getElem?_cons_zero, List.getElem?_cons_succ, List.set_cons_zero, List.set_cons_succ, List.length_cons, List.length_nil, List.nil_append, List.cons_append, List.append_nil, List.replicate_succ, List.replicate_zero, Nat.reduceAdd, Nat.reduceSub, Nat.reduceLT, Nat.reduceLeDiff, Nat.reduceBEq, true_and, and_true, Nat.zero_add, Nat.add_zero, Nat.le_refl, Option.some.injEq, exists_eq_left', true_or, or_true, or_false, false_or, reduceCtorEq, Prod.mk.injEq, Sum.inl.injEq, and_self, false_and, and_false, not_true_eq_false, not_false_eq_true, false_implies, true_implies, sm_r, Int.add_zero, Int.zero_add, wI_wsI, wS_wsI, wR_wsI, wI_wCp, wS_wCp, wR_wCp, Nat.reduceEqDiff, reduceIte, sT_iff, sT_iffC, wIf_ne, ne_eq, Bool.false_or, Bool.true_or, Bool.or_false, Bool.or_true, Bool.or_self, Nat.left_eq_add, Nat.add_eq_left, Nat.add_left_inj, oMax, oMin, oAbs, tb_X0_comeIn, p_X0_stand, p_X2_nextStation, p_X2_stretchAhead, f_X0_stand, f_X2_nextStation, f_X2_stretchAhead, p_X0_comeIn, f_X0_comeIn, d0, s0, l0, hnu, hE]
      repeat' (first | exact True.intro | with_reducible assumption | with_reducible refine And.intro ?_ ?_ | intro _)
      all_goals first
        | omega
        | assumption
        | rfl
        | (split <;> omega)
        | (have k9 := ih (by omega)
           (repeat' split at k9) <;> first | exact k9 | omega)
        | (have k9 := ih2 (by omega)
           (repeat' split at k9) <;> first | exact k9 | omega)
        | exact he (by omega)
        | ((with_reducible congr 1) <;> omega)
        | (rw [if_pos (by omega)] at he; exact he)
        | exact hD1 (by omega)
        | exact hD2 (by omega)
        | grind
        | skip
    · have hlt : i < wI w (d + 1) 7 := by omega
      have ih := ih hlt
      clear he hE
      have hs := hU.2 i h0 (by omega)
      by_cases c1 : wI u (d + 28) i = 0
      · rw [xCm1_no (Or.inl c1)] at ih
        refine hZ (fun u => Nat.beq u 2) 14 2 _ _ _ _ _ ?_
        simp only [sm_run, sm_blk, sm_get, sm_ent, sm_ents, sm_wds, sm_wd, sm_nl, sm_pop, sm_back, sm_cases, oK, oLK, oL, oI, oA, oJ, oIs, oAs, oJs, oInc, oAdd, oSub, oMul, oDiv, oRem, oNeg, oAnd, oAndB, oOr, oShl, oI2c, oI2l, oL2i, oLand, oLor, oLshl, oLshr, oLushr, oLcmp, oDup, oDup2, oPop, oGo, oFg, oEq, oNe, oLt, oGe, oGt, oLe, oEq0, oNe0, oLt0, oGe0, oGt0, oLe0, oSw, oGi, oGr, oPi, oPz, oPr, oLen, oIl, oZl, oCl, oRl, oIst, oZst, oCst, oRst, oCopy, oNew, oNa, oNa2, oObj, oCs, oCv, oCi, oIr, oZr, oVr, Nat.beq, List.getElem?_cons_zero, List.getElem?_cons_succ, List.set_cons_zero, List.set_cons_succ, List.length_cons, List.length_nil, List.nil_append, List.cons_append, List.append_nil, List.replicate_succ, List.replicate_zero, Nat.reduceAdd, Nat.reduceSub, Nat.reduceLT, Nat.reduceLeDiff, Nat.reduceBEq, true_and, and_true, Nat.zero_add, Nat.add_zero, Nat.le_refl, Option.some.injEq, exists_eq_left', true_or, or_true, or_false, false_or, reduceCtorEq, Prod.mk.injEq, Sum.inl.injEq, and_self, false_and, and_false, not_true_eq_false, not_false_eq_true, false_implies, true_implies, sm_r, Int.add_zero, Int.zero_add, wI_wsI, wS_wsI, wR_wsI, wI_wCp, wS_wCp, wR_wCp, Nat.reduceEqDiff, reduceIte, sT_iff, sT_iffC, wIf_ne, ne_eq, Bool.false_or, Bool.true_or, Bool.or_false, Bool.or_true, Bool.or_self, Nat.left_eq_add, Nat.add_eq_left, Nat.add_left_inj, oMax, oMin, oAbs, tb_X0_comeIn, p_X0_stand, p_X2_nextStation, p_X2_stretchAhead, f_X0_stand, f_X2_nextStation, f_X2_stretchAhead, p_X0_comeIn, f_X0_comeIn, d0, s0, l0, hnu, s6, d28, s7, d29, c1]
        repeat' (first | exact True.intro | with_reducible assumption | with_reducible refine And.intro ?_ ?_ | intro _)
        all_goals first
          | omega
          | assumption
          | rfl
          | (split <;> omega)
          | (have k9 := ih (by omega)
             (repeat' split at k9) <;> first | exact k9 | omega)
          | (have k9 := ih2 (by omega)
             (repeat' split at k9) <;> first | exact k9 | omega)
          | exact he (by omega)
          | ((with_reducible congr 1) <;> omega)
          | (rw [if_pos (by omega)] at he; exact he)
          | exact hD1 (by omega)
          | exact hD2 (by omega)
          | grind
          | skip
      · by_cases c2 : wI u (d + 29) i = t
        · have hne : wI u (d + 27) i ≠ wI u (d + 1 + 4) i := hs.2.2.2.2 (by have := hs.2.1; omega)
          have hb := xSh_b hU h0 (by omega) hne
          have hq := lOK_s hD.2 h0 (show i < wI u (d + 1) 7 by omega)
          have h27 := hs.1
          obtain ⟨c9, -, cC, -⟩ := dRC hT hD.1 h0 (show i < 8 by omega)
          have e1 : xCm1 d t i u = xStand d i (wI u (d + 27) i + mWay (vL u (d + 1)) i) (t + wI u (d + 1 + 6) i) (wsI (wsI u (d + 31) (sFrom (wI u (d + 27) i) (mWay (vL u (d + 1)) i)) 0) (dC d i) (wI u (d + 27) i + mWay (vL u (d + 1)) i) t) := by
            unfold xCm1
            rw [if_neg c1, if_pos c2]
          rw [e1] at ih
          have c6 : (d + 1 + 6 = dC d i) = False := dC_ne (k := 7) h0 (show i < 8 by omega) (by omega)
          have c1' : (d + 1 = dC d i) = False := dC_ne (k := 1) h0 (show i < 8 by omega) (by omega)
          have hOK : ∀ a b c, dOK (wsI (wsI u (d + 31) a b) (dC d i) c t) d := fun a b c => ⟨hD.1, by rw [lOd_C, lOd_31]; exact hD.2⟩
          generalize hSe : sFrom (wI u (d + 27) i) (mWay (vL u (d + 1)) i) = S at *
          generalize hPe : wI u (d + 27) i + mWay (vL u (d + 1)) i = P at *
          refine hZ (fun u => Nat.beq u 2) 14 2 _ _ _ _ _ ?_
          simp only [sm_run, sm_blk, sm_get, sm_ent, sm_ents, sm_wds, sm_wd, sm_nl, sm_pop, sm_back, sm_cases, oK, oLK, oL, oI, oA, oJ, oIs, oAs, oJs, oInc, oAdd, oSub, oMul, oDiv, oRem, oNeg, oAnd, oAndB, oOr, oShl, oI2c, oI2l, oL2i, oLand, oLor, oLshl, oLshr, oLushr, oLcmp, oDup, oDup2, oPop, oGo, oFg, oEq, oNe, oLt, oGe, oGt, oLe, oEq0, oNe0, oLt0, oGe0, oGt0, oLe0, oSw, oGi, oGr, oPi, oPz, oPr, oLen, oIl, oZl, oCl, oRl, oIst, oZst, oCst, oRst, oCopy, oNew, oNa, oNa2, oObj, oCs, oCv, oCi, oIr, oZr, oVr, Nat.beq, List.getElem?_cons_zero, List.getElem?_cons_succ, List.set_cons_zero, List.set_cons_succ, List.length_cons, List.length_nil, List.nil_append, List.cons_append, List.append_nil, List.replicate_succ, List.replicate_zero, Nat.reduceAdd, Nat.reduceSub, Nat.reduceLT, Nat.reduceLeDiff, Nat.reduceBEq, true_and, and_true, Nat.zero_add, Nat.add_zero, Nat.le_refl, Option.some.injEq, exists_eq_left', true_or, or_true, or_false, false_or, reduceCtorEq, Prod.mk.injEq, Sum.inl.injEq, and_self, false_and, and_false, not_true_eq_false, not_false_eq_true, false_implies, true_implies, sm_r, Int.add_zero, Int.zero_add, wI_wsI, wS_wsI, wR_wsI, wI_wCp, wS_wCp, wR_wCp, Nat.reduceEqDiff, reduceIte, sT_iff, sT_iffC, wIf_ne, ne_eq, Bool.false_or, Bool.true_or, Bool.or_false, Bool.or_true, Bool.or_self, Nat.left_eq_add, Nat.add_eq_left, Nat.add_left_inj, oMax, oMin, oAbs, tb_X0_comeIn, p_X0_stand, p_X2_nextStation, p_X2_stretchAhead, f_X0_stand, f_X2_nextStation, f_X2_stretchAhead, p_X0_comeIn, f_X0_comeIn, d0, s0, l0, hnu, s5, d27, s6, d28, s7, d29, s9, d31, s1, d9, c9, cC, r5, l6, hT, hL, hSe, hPe, c6, c1', hOK]
          repeat' (first | exact True.intro | with_reducible assumption | with_reducible refine And.intro ?_ ?_ | intro _)
          all_goals first
            | omega
            | assumption
            | rfl
            | (split <;> omega)
            | (have k9 := ih (by omega)
               (repeat' split at k9) <;> first | exact k9 | omega)
            | (have k9 := ih2 (by omega)
               (repeat' split at k9) <;> first | exact k9 | omega)
            | exact he (by omega)
            | ((with_reducible congr 1) <;> omega)
            | (rw [if_pos (by omega)] at he; exact he)
            | exact hD1 (by omega)
            | exact hD2 (by omega)
            | grind
            | skip
        · rw [xCm1_no (Or.inr c2)] at ih
          refine hZ (fun u => Nat.beq u 2) 14 2 _ _ _ _ _ ?_
          simp only [sm_run, sm_blk, sm_get, sm_ent, sm_ents, sm_wds, sm_wd, sm_nl, sm_pop, sm_back, sm_cases, oK, oLK, oL, oI, oA, oJ, oIs, oAs, oJs, oInc, oAdd, oSub, oMul, oDiv, oRem, oNeg, oAnd, oAndB, oOr, oShl, oI2c, oI2l, oL2i, oLand, oLor, oLshl, oLshr, oLushr, oLcmp, oDup, oDup2, oPop, oGo, oFg, oEq, oNe, oLt, oGe, oGt, oLe, oEq0, oNe0, oLt0, oGe0, oGt0, oLe0, oSw, oGi, oGr, oPi, oPz, oPr, oLen, oIl, oZl, oCl, oRl, oIst, oZst, oCst, oRst, oCopy, oNew, oNa, oNa2, oObj, oCs, oCv, oCi, oIr, oZr, oVr, Nat.beq, List.getElem?_cons_zero, List.getElem?_cons_succ, List.set_cons_zero, List.set_cons_succ, List.length_cons, List.length_nil, List.nil_append, List.cons_append, List.append_nil, List.replicate_succ, List.replicate_zero, Nat.reduceAdd, Nat.reduceSub, Nat.reduceLT, Nat.reduceLeDiff, Nat.reduceBEq, true_and, and_true, Nat.zero_add, Nat.add_zero, Nat.le_refl, Option.some.injEq, exists_eq_left', true_or, or_true, or_false, false_or, reduceCtorEq, Prod.mk.injEq, Sum.inl.injEq, and_self, false_and, and_false, not_true_eq_false, not_false_eq_true, false_implies, true_implies, sm_r, Int.add_zero, Int.zero_add, wI_wsI, wS_wsI, wR_wsI, wI_wCp, wS_wCp, wR_wCp, Nat.reduceEqDiff, reduceIte, sT_iff, sT_iffC, wIf_ne, ne_eq, Bool.false_or, Bool.true_or, Bool.or_false, Bool.or_true, Bool.or_self, Nat.left_eq_add, Nat.add_eq_left, Nat.add_left_inj, oMax, oMin, oAbs, tb_X0_comeIn, p_X0_stand, p_X2_nextStation, p_X2_stretchAhead, f_X0_stand, f_X2_nextStation, f_X2_stretchAhead, p_X0_comeIn, f_X0_comeIn, d0, s0, l0, hnu, s6, d28, s7, d29]
          repeat' (first | exact True.intro | with_reducible assumption | with_reducible refine And.intro ?_ ?_ | intro _)
          all_goals first
            | omega
            | assumption
            | rfl
            | (split <;> omega)
            | (have k9 := ih (by omega)
               (repeat' split at k9) <;> first | exact k9 | omega)
            | (have k9 := ih2 (by omega)
               (repeat' split at k9) <;> first | exact k9 | omega)
            | exact he (by omega)
            | ((with_reducible congr 1) <;> omega)
            | (rw [if_pos (by omega)] at he; exact he)
            | exact hD1 (by omega)
            | exact hD2 (by omega)
            | grind
            | skip
    )
  refine hZ (fun u => Nat.beq u 2) 14 0 _ _ _ _ _ ?_
  simp only [sm_run, sm_blk, sm_get, sm_ent, sm_ents, sm_wds, sm_wd, sm_nl, sm_pop, sm_back, sm_cases, oK, oLK, oL, oI, oA, oJ, oIs, oAs, oJs, oInc, oAdd, oSub, oMul, oDiv, oRem, oNeg, oAnd, oAndB, oOr, oShl, oI2c, oI2l, oL2i, oLand, oLor, oLshl, oLshr, oLushr, oLcmp, oDup, oDup2, oPop, oGo, oFg, oEq, oNe, oLt, oGe, oGt, oLe, oEq0, oNe0, oLt0, oGe0, oGt0, oLe0, oSw, oGi, oGr, oPi, oPz, oPr, oLen, oIl, oZl, oCl, oRl, oIst, oZst, oCst, oRst, oCopy, oNew, oNa, oNa2, oObj, oCs, oCv, oCi, oIr, oZr, oVr, Nat.beq, List.getElem?_cons_zero, List.getElem?_cons_succ, List.set_cons_zero, List.set_cons_succ, List.length_cons, List.length_nil, List.nil_append, List.cons_append, List.append_nil, List.replicate_succ, List.replicate_zero, Nat.reduceAdd, Nat.reduceSub, Nat.reduceLT, Nat.reduceLeDiff, Nat.reduceBEq, true_and, and_true, Nat.zero_add, Nat.add_zero, Nat.le_refl, Option.some.injEq, exists_eq_left', true_or, or_true, or_false, false_or, reduceCtorEq, Prod.mk.injEq, Sum.inl.injEq, and_self, false_and, and_false, not_true_eq_false, not_false_eq_true, false_implies, true_implies, sm_r, Int.add_zero, Int.zero_add, wI_wsI, wS_wsI, wR_wsI, wI_wCp, wS_wCp, wR_wCp, Nat.reduceEqDiff, reduceIte, sT_iff, sT_iffC, wIf_ne, ne_eq, Bool.false_or, Bool.true_or, Bool.or_false, Bool.or_true, Bool.or_self, Nat.left_eq_add, Nat.add_eq_left, Nat.add_left_inj, oMax, oMin, oAbs, tb_X0_comeIn, p_X0_stand, p_X2_nextStation, p_X2_stretchAhead, f_X0_stand, f_X2_nextStation, f_X2_stretchAhead, p_X0_comeIn, f_X0_comeIn]
  repeat' (first | exact True.intro | with_reducible assumption | with_reducible refine And.intro ?_ ?_ | intro _)
  all_goals first
    | omega
    | assumption
    | rfl
    | (split <;> omega)
    | (have k9 := ih (by omega)
       (repeat' split at k9) <;> first | exact k9 | omega)
    | (have k9 := ih2 (by omega)
       (repeat' split at k9) <;> first | exact k9 | omega)
    | exact he (by omega)
    | ((with_reducible congr 1) <;> omega)
    | (rw [if_pos (by omega)] at he; exact he)
    | exact hD1 (by omega)
    | exact hD2 (by omega)
    | skip

theorem met_X0_comeIn (l : Launch) : sm_Met l yX0_comeIn cX0_comeIn 4 none 3 0 0 p_X0_comeIn f_X0_comeIn := sm_met 0 (Or.inl ⟨rfl, rfl⟩) (by decide +kernel) (sn_X0_comeIn l) ok_X0_comeIn