/-! THE CLASS: waits -/
/-- the cells of a day are the same -/
def dSm (d : Nat) (w u : sm_W) : Prop := ∀ a, d ≤ a → a ≤ d + 32 → wI u a = wI w a
theorem dSm_v {d : Nat} {w u : sm_W} (h : dSm d w u) : vL u (d + 1) = vL w (d + 1) := vL_cong (fun k hk => h _ (by omega) (by omega))
theorem dSm_ok {d : Nat} {w u : sm_W} (h : dSm d w u) (hT : sT u) (hD : dOK w d) : dOK u d := ⟨hD.1, hT, hD.2.2.1, by rw [dSm_v h]; exact hD.2.2.2⟩
theorem dSm_C {d : Nat} {w u : sm_W} (h : dSm d w u) {x : Int} (x1 : x < 8) : wI u (dC d x) = wI w (dC d x) := h _ (by unfold dC; omega) (by unfold dC; omega)
theorem dSm_V {d : Nat} {w u : sm_W} (h : dSm d w u) {x : Int} (x1 : x < 8) : wI u (dV d x) = wI w (dV d x) := h _ (by unfold dV; omega) (by unfold dV; omega)
theorem dSm_x {d : Nat} {w u : sm_W} (h : dSm d w u) (hT : sT u) (hX : xOK w d) : xOK u d := by
  have hn := dOK_n hX.1
  have e1 : wI u (d + 1) = wI w (d + 1) := h _ (by omega) (by omega)
  refine ⟨dSm_ok h hT hX.1, fun x x0 x1 s s0 s1 => ?_, ?_⟩
  · rw [e1] at x1
    rw [dSm_C h (by omega), dSm_V h (by omega)]
    exact hX.2.1 x x0 x1 s s0 s1
  · rw [h d (by omega) (by omega)]
    exact hX.2.2
theorem dSm_Mn {d : Nat} {w u : sm_W} (h : dSm d w u) {y : Int} (y1 : y < 8) (s fr ah : Int) : xMn u d y s fr ah = xMn w d y s fr ah := by
  unfold xMn
  rw [dSm_v h, dSm_V h y1, h (d + 1 + 2) (by omega) (by omega)]
theorem dSm_For {d : Nat} {w u : sm_W} (h : dSm d w u) (x y : Int) : xFor u d x y = xFor w d x y := by
  unfold xFor
  rw [dSm_v h]
theorem dSm_Was {d : Nat} {w u : sm_W} (h : dSm d w u) {x : Int} (x1 : x < 8) (p : Int) : xWas u d x p = xWas w d x p := by
  unfold xWas
  rw [dSm_C h x1, h (d + 1 + 4) (by omega) (by omega)]
theorem dSm_Std {d : Nat} {w u : sm_W} (h : dSm d w u) {x : Int} (x1 : x < 8) (p : Int) : xStd u d x p = xStd w d x p := by
  unfold xStd
  rw [dSm_Was h x1, h (d + 1 + 3) (by omega) (by omega)]
theorem dSm_Rdy {d : Nat} {w u : sm_W} (h : dSm d w u) {x : Int} (x1 : x < 8) (p : Int) : xRdy u d x p = xRdy w d x p := by
  unfold xRdy
  rw [dSm_C h x1, h (d + 1 + 3) (by omega) (by omega), h (d + 1 + 5) (by omega) (by omega), h (d + 1 + 6) (by omega) (by omega)]
theorem dSm_Gone {d : Nat} {w u : sm_W} (h : dSm d w u) {x : Int} (x1 : x < 8) (p : Int) : xGone u d x p = xGone w d x p := by
  unfold xGone
  rw [dSm_V h x1, h d (by omega) (by omega)]
theorem dSm_fr {S : Nat → Int → Int → Prop} {d : Nat} {w u : sm_W} (h : sFr S w u) (hS : ∀ a i v, S a i v → a < d ∨ d + 32 < a) : dSm d w u := fun a h0 h1 => h.outA (fun i v hs => by have := hS a i v hs; omega)
/-- the cells of the waits -/
def sWt (a : Nat) (_ _ : Int) : Prop := a = 76 ∨ a = 77
theorem sWt_d {d : Nat} (hd : sm_isD d) : ∀ a i v, sWt a i v → a < d ∨ d + 32 < a := fun a i v h => by
  unfold sWt at h
  unfold sm_isD at hd
  omega
/-- the sums are below a bound -/
def wBd (w : sm_W) (c : Int) : Prop := ∀ i, (-c ≤ wI w 76 i ∧ wI w 76 i ≤ c) ∧ (-c ≤ wI w 77 i ∧ wI w 77 i ≤ c)
def wBd8 (w : sm_W) (c : Int) : Prop := ∀ i, 0 ≤ i → i < 8 → (i < 4 → -c ≤ wI w 76 i ∧ wI w 76 i ≤ c) ∧ (-c ≤ wI w 77 i ∧ wI w 77 i ≤ c)
def gA1 (w : sm_W) (d : Nat) (x s fr ah y : Int) (r : sm_W × Int) : sm_W × Int := (wsI (wsI r.1 76 (xFor w d x y) (wI r.1 76 (xFor w d x y) + xMn w d y s fr ah)) 77 y (wI r.1 77 y + xMn w d y s fr ah), r.2 - xMn w d y s fr ah)
def gAr (w : sm_W) (d : Nat) (x s fr ah : Int) : Int → sm_W × Int := itI (gA1 w d x s fr ah) (w, ah - fr)
def gAF (r : sm_W × Int) : sm_W := wsI r.1 76 3 (wI r.1 76 3 + r.2)
def gAt (w : sm_W) (d : Nat) (x p : Int) : sm_W := gAF (gAr w d x (sFrom p (mWay (vL w (d + 1)) x)) (xRdy w d x p) (xGone w d x p) (wI w (d + 1) 7))
theorem xFor_12 (w : sm_W) (d : Nat) (x y : Int) : xFor w d x y = 1 ∨ xFor w d x y = 2 := by
  unfold xFor
  split
  · exact Or.inr rfl
  · exact Or.inl rfl
theorem gAr_inv {w : sm_W} {d : Nat} {x s fr ah c : Int} (hX : xOK w d) (s0 : 0 ≤ s) (s1 : s < 7) (hb : wBd8 w c) (n : Int) (n0 : 0 ≤ n) (n1 : n ≤ wI w (d + 1) 7) : sFr sWt w (gAr w d x s fr ah n).1 ∧ wBd8 (gAr w d x s fr ah n).1 (c + 30 * n) ∧ ah - fr - 30 * n ≤ (gAr w d x s fr ah n).2 ∧ (gAr w d x s fr ah n).2 ≤ ah - fr := by
  refine itI_ind (f := gA1 w d x s fr ah) (fun i r => sFr sWt w r.1 ∧ wBd8 r.1 (c + 30 * i) ∧ ah - fr - 30 * i ≤ r.2 ∧ r.2 ≤ ah - fr) n ⟨sFr.refl w, fun i i0 i1 => by have := hb i i0 i1; dsimp only; omega, by dsimp only; omega, by dsimp only; omega⟩ (fun i r i0 i1 hr => ?_) n n0 (Int.le_refl _)
  have hm := xMn_b hX (fr := fr) (ah := ah) i0 (show i < wI w (d + 1) 7 by omega) s0 s1
  have hf := xFor_12 w d x i
  unfold gA1
  dsimp only
  generalize xMn w d i s fr ah = m at *
  generalize xFor w d x i = k at *
  refine ⟨(hr.1.st (Or.inl rfl)).st (Or.inr rfl), fun j j0 j1 => ?_, by omega, by omega⟩
  have h1 := hr.2.1 j j0 j1
  have h2 := hr.2.1 k (by omega) (by omega)
  have h3 := hr.2.1 i i0 (by have := dOK_n hX.1; omega)
  simp only [wI_wsI, Nat.reduceEqDiff, false_and, true_and, if_false]
  refine ⟨fun h4 => ?_, ?_⟩
  · split <;> omega
  · split <;> omega
def p_X6_gatherAt : List sm_V → sm_W → Prop
  | [.inr (.inl o), .inr (.inl d), .inl x, .inl p], w => o = 75 ∧ xOK w d ∧ 0 ≤ x ∧ x < wI w (d + 1) 7 ∧ 0 ≤ p ∧ p < 8 ∧ 0 ≤ sFrom p (mWay (vL w (d + 1)) x) ∧ sFrom p (mWay (vL w (d + 1)) x) < 7 ∧ wBd8 w 10000000
  | _, _ => False
def f_X6_gatherAt : sm_F
  | [.inr (.inl o), .inr (.inl d), .inl x, .inl p], w => (none, gAt w d x p)
  | _, w => (none, w)
def tb_X6_gatherAt : List (Nat × List sm_O) := [(0, [oA 1, oI 2, oI 3, oCv 0 11 p_X0_readyAt f_X0_readyAt 0 0 3, oIs 4, oA 1, oI 2, oI 3, oCv 0 11 p_X0_goneFrom f_X0_goneFrom 0 0 3, oIs 5, oA 1, oGr 0 11 0, oI 2, oI 3, oCv 2 9 p_X2_stretchAhead f_X2_stretchAhead 0 0 3, oIs 6, oI 5, oI 4, oSub, oIs 7, oK 0, oIs 8, oFg 3, oFg 9, oGo 37]),
  (37, [oI 8, oA 1, oGr 0 11 0, oGi 2 9 7, oGe 105, oA 1, oI 8, oI 6, oI 4, oI 5, oCv 0 11 p_X0_minutesOn f_X0_minutesOn 0 0 5, oIs 9, oA 0, oGr 6 2 0, oA 1, oI 2, oI 8, oCv 0 11 p_X0_reasonFor f_X0_reasonFor 0 0 3, oDup2, oIl, oI 9, oAdd, oIst, oA 0, oGr 6 2 1, oI 8, oDup2, oIl, oI 9, oAdd, oIst, oI 7, oI 9, oSub, oIs 7, oInc 8 1, oFg 3, oFg 9, oGo 37]),
  (105, [oA 0, oGr 6 2 0, oK 3, oDup2, oIl, oI 7, oAdd, oIst, oVr])]
set_option maxRecDepth 100000 in
theorem sb_X6_gatherAt_0 (l : Launch) : sm_SndB l RX6 "gatherAt" cX6_gatherAt 10 0 2 0 [oA 1, oI 2, oI 3, oCv 0 11 p_X0_readyAt f_X0_readyAt 0 0 3, oIs 4, oA 1, oI 2, oI 3, oCv 0 11 p_X0_goneFrom f_X0_goneFrom 0 0 3, oIs 5, oA 1, oGr 0 11 0, oI 2, oI 3, oCv 2 9 p_X2_stretchAhead f_X2_stretchAhead 0 0 3, oIs 6, oI 5, oI 4, oSub, oIs 7, oK 0, oIs 8, oFg 3, oFg 9, oGo 37] := sb_cons (sd_aload_n (by decide +kernel : decode cX6_gatherAt 0 = .ok (.aload_n 1, 1)) rfl) (sb_cons (sd_iload_n (by decide +kernel : decode cX6_gatherAt 1 = .ok (.iload_n 2, 1)) rfl) (sb_cons (sd_iload_n (by decide +kernel : decode cX6_gatherAt 2 = .ok (.iload_n 3, 1)) rfl) (sb_cons (sd_callv (n := 2) (met_X0_readyAt l) (by decide) (by decide) wm_384 wm_381 wm_2 ⟨by decide +kernel, by decide +kernel, by decide +kernel⟩ kl_0 wm_382 wm_383 (by decide +kernel : decode cX6_gatherAt 3 = .ok (.invokevirtual 34, 3))) (sb_cons (sd_istore (by decide +kernel : decode cX6_gatherAt 6 = .ok (.istore 4, 2))) (sb_cons (sd_aload_n (by decide +kernel : decode cX6_gatherAt 8 = .ok (.aload_n 1, 1)) rfl) (sb_cons (sd_iload_n (by decide +kernel : decode cX6_gatherAt 9 = .ok (.iload_n 2, 1)) rfl) (sb_cons (sd_iload_n (by decide +kernel : decode cX6_gatherAt 10 = .ok (.iload_n 3, 1)) rfl) (sb_cons (sd_callv (n := 2) (met_X0_goneFrom l) (by decide) (by decide) wm_389 wm_386 wm_2 ⟨by decide +kernel, by decide +kernel, by decide +kernel⟩ kl_0 wm_387 wm_388 (by decide +kernel : decode cX6_gatherAt 11 = .ok (.invokevirtual 38, 3))) (sb_cons (sd_istore (by decide +kernel : decode cX6_gatherAt 14 = .ok (.istore 5, 2))) (sb_cons (sd_aload_n (by decide +kernel : decode cX6_gatherAt 16 = .ok (.aload_n 1, 1)) rfl) (sb_cons (sd_getr (k := 0) kl_0 (by decide) rfl wm_72 (by decide +kernel : decode cX6_gatherAt 17 = .ok (.getfield 41, 3))) (sb_cons (sd_iload_n (by decide +kernel : decode cX6_gatherAt 20 = .ok (.iload_n 2, 1)) rfl) (sb_cons (sd_iload_n (by decide +kernel : decode cX6_gatherAt 21 = .ok (.iload_n 3, 1)) rfl) (sb_cons (sd_callv (n := 2) (met_X2_stretchAhead l) (by decide) (by decide) wm_316 wm_391 wm_3 ⟨by decide +kernel, by decide +kernel, by decide +kernel⟩ kl_2 wm_314 wm_315 (by decide +kernel : decode cX6_gatherAt 22 = .ok (.invokevirtual 45, 3))) (sb_cons (sd_istore (by decide +kernel : decode cX6_gatherAt 25 = .ok (.istore 6, 2))) (sb_cons (sd_iload (by decide +kernel : decode cX6_gatherAt 27 = .ok (.iload 5, 2))) (sb_cons (sd_iload (by decide +kernel : decode cX6_gatherAt 29 = .ok (.iload 4, 2))) (sb_cons (sd_isub (by decide +kernel : decode cX6_gatherAt 31 = .ok (.isub, 1))) (sb_cons (sd_istore (by decide +kernel : decode cX6_gatherAt 32 = .ok (.istore 7, 2))) (sb_cons (sd_iconst (by decide +kernel : decode cX6_gatherAt 34 = .ok (.iconst 0, 1)) ⟨by decide, by decide⟩) (sb_cons (sd_istore (by decide +kernel : decode cX6_gatherAt 35 = .ok (.istore 8, 2))) (sb_cons (sd_fg) (sb_cons (sd_fg) (sb_cons (sd_fall (x := 0)) sb_nil))))))))))))))))))))))))
set_option maxRecDepth 100000 in
theorem sb_X6_gatherAt_37 (l : Launch) : sm_SndB l RX6 "gatherAt" cX6_gatherAt 10 0 2 37 [oI 8, oA 1, oGr 0 11 0, oGi 2 9 7, oGe 105, oA 1, oI 8, oI 6, oI 4, oI 5, oCv 0 11 p_X0_minutesOn f_X0_minutesOn 0 0 5, oIs 9, oA 0, oGr 6 2 0, oA 1, oI 2, oI 8, oCv 0 11 p_X0_reasonFor f_X0_reasonFor 0 0 3, oDup2, oIl, oI 9, oAdd, oIst, oA 0, oGr 6 2 1, oI 8, oDup2, oIl, oI 9, oAdd, oIst, oI 7, oI 9, oSub, oIs 7, oInc 8 1, oFg 3, oFg 9, oGo 37] := sb_cons (sd_iload (by decide +kernel : decode cX6_gatherAt 37 = .ok (.iload 8, 2))) (sb_cons (sd_aload_n (by decide +kernel : decode cX6_gatherAt 39 = .ok (.aload_n 1, 1)) rfl) (sb_cons (sd_getr (k := 0) kl_0 (by decide) rfl wm_72 (by decide +kernel : decode cX6_gatherAt 40 = .ok (.getfield 41, 3))) (sb_cons (sd_geti (k := 7) kl_2 (by decide) rfl wm_60 (by decide +kernel : decode cX6_gatherAt 43 = .ok (.getfield 50, 3))) (sb_cons (sd_ge (by decide +kernel : decode cX6_gatherAt 46 = .ok (.if_icmp .ge 59, 3)) (by decide)) (sb_cons (sd_aload_n (by decide +kernel : decode cX6_gatherAt 49 = .ok (.aload_n 1, 1)) rfl) (sb_cons (sd_iload (by decide +kernel : decode cX6_gatherAt 50 = .ok (.iload 8, 2))) (sb_cons (sd_iload (by decide +kernel : decode cX6_gatherAt 52 = .ok (.iload 6, 2))) (sb_cons (sd_iload (by decide +kernel : decode cX6_gatherAt 54 = .ok (.iload 4, 2))) (sb_cons (sd_iload (by decide +kernel : decode cX6_gatherAt 56 = .ok (.iload 5, 2))) (sb_cons (sd_callv (n := 4) (met_X0_minutesOn l) (by decide) (by decide) wm_395 wm_392 wm_2 ⟨by decide +kernel, by decide +kernel, by decide +kernel⟩ kl_0 wm_393 wm_394 (by decide +kernel : decode cX6_gatherAt 58 = .ok (.invokevirtual 54, 3))) (sb_cons (sd_istore (by decide +kernel : decode cX6_gatherAt 61 = .ok (.istore 9, 2))) (sb_cons (sd_aload_n (by decide +kernel : decode cX6_gatherAt 63 = .ok (.aload_n 0, 1)) rfl) (sb_cons (sd_getr (k := 0) kl_6 (by decide) rfl wm_98 (by decide +kernel : decode cX6_gatherAt 64 = .ok (.getfield 9, 3))) (sb_cons (sd_aload_n (by decide +kernel : decode cX6_gatherAt 67 = .ok (.aload_n 1, 1)) rfl) (sb_cons (sd_iload_n (by decide +kernel : decode cX6_gatherAt 68 = .ok (.iload_n 2, 1)) rfl) (sb_cons (sd_iload (by decide +kernel : decode cX6_gatherAt 69 = .ok (.iload 8, 2))) (sb_cons (sd_callv (n := 2) (met_X0_reasonFor l) (by decide) (by decide) wm_403 wm_400 wm_2 ⟨by decide +kernel, by decide +kernel, by decide +kernel⟩ kl_0 wm_401 wm_402 (by decide +kernel : decode cX6_gatherAt 71 = .ok (.invokevirtual 58, 3))) (sb_cons (sd_dup2 (by decide +kernel : decode cX6_gatherAt 74 = .ok (.dup2, 1))) (sb_cons (sd_iaload (by decide +kernel : decode cX6_gatherAt 75 = .ok (.iaload, 1))) (sb_cons (sd_iload (by decide +kernel : decode cX6_gatherAt 76 = .ok (.iload 9, 2))) (sb_cons (sd_iadd (by decide +kernel : decode cX6_gatherAt 78 = .ok (.iadd, 1))) (sb_cons (sd_iastore (by decide +kernel : decode cX6_gatherAt 79 = .ok (.iastore, 1))) (sb_cons (sd_aload_n (by decide +kernel : decode cX6_gatherAt 80 = .ok (.aload_n 0, 1)) rfl) (sb_cons (sd_getr (k := 1) kl_6 (by decide) rfl wm_99 (by decide +kernel : decode cX6_gatherAt 81 = .ok (.getfield 15, 3))) (sb_cons (sd_iload (by decide +kernel : decode cX6_gatherAt 84 = .ok (.iload 8, 2))) (sb_cons (sd_dup2 (by decide +kernel : decode cX6_gatherAt 86 = .ok (.dup2, 1))) (sb_cons (sd_iaload (by decide +kernel : decode cX6_gatherAt 87 = .ok (.iaload, 1))) (sb_cons (sd_iload (by decide +kernel : decode cX6_gatherAt 88 = .ok (.iload 9, 2))) (sb_cons (sd_iadd (by decide +kernel : decode cX6_gatherAt 90 = .ok (.iadd, 1))) (sb_cons (sd_iastore (by decide +kernel : decode cX6_gatherAt 91 = .ok (.iastore, 1))) (sb_cons (sd_iload (by decide +kernel : decode cX6_gatherAt 92 = .ok (.iload 7, 2))) (sb_cons (sd_iload (by decide +kernel : decode cX6_gatherAt 94 = .ok (.iload 9, 2))) (sb_cons (sd_isub (by decide +kernel : decode cX6_gatherAt 96 = .ok (.isub, 1))) (sb_cons (sd_istore (by decide +kernel : decode cX6_gatherAt 97 = .ok (.istore 7, 2))) (sb_cons (sd_iinc (by decide +kernel : decode cX6_gatherAt 99 = .ok (.iinc 8 1, 3))) (sb_cons (sd_fg) (sb_cons (sd_fg) (sb_cons (sd_goto (x := 0) (by decide +kernel : decode cX6_gatherAt 102 = .ok (.goto (-65), 3)) (by decide)) sb_nil))))))))))))))))))))))))))))))))))))))
set_option maxRecDepth 100000 in
theorem sb_X6_gatherAt_105 (l : Launch) : sm_SndB l RX6 "gatherAt" cX6_gatherAt 10 0 2 105 [oA 0, oGr 6 2 0, oK 3, oDup2, oIl, oI 7, oAdd, oIst, oVr] := sb_cons (sd_aload_n (by decide +kernel : decode cX6_gatherAt 105 = .ok (.aload_n 0, 1)) rfl) (sb_cons (sd_getr (k := 0) kl_6 (by decide) rfl wm_98 (by decide +kernel : decode cX6_gatherAt 106 = .ok (.getfield 9, 3))) (sb_cons (sd_iconst (by decide +kernel : decode cX6_gatherAt 109 = .ok (.iconst 3, 1)) ⟨by decide, by decide⟩) (sb_cons (sd_dup2 (by decide +kernel : decode cX6_gatherAt 110 = .ok (.dup2, 1))) (sb_cons (sd_iaload (by decide +kernel : decode cX6_gatherAt 111 = .ok (.iaload, 1))) (sb_cons (sd_iload (by decide +kernel : decode cX6_gatherAt 112 = .ok (.iload 7, 2))) (sb_cons (sd_iadd (by decide +kernel : decode cX6_gatherAt 114 = .ok (.iadd, 1))) (sb_cons (sd_iastore (by decide +kernel : decode cX6_gatherAt 115 = .ok (.iastore, 1))) (sb_cons (sd_return (x := 0) rfl (by decide +kernel : decode cX6_gatherAt 116 = .ok (.return_, 1))) sb_nil))))))))
theorem sn_X6_gatherAt (l : Launch) : sm_SndT l RX6 "gatherAt" cX6_gatherAt 10 0 2 tb_X6_gatherAt := st_cons (sb_X6_gatherAt_0 l) (st_cons (sb_X6_gatherAt_37 l) (st_cons (sb_X6_gatherAt_105 l) (st_nil)))
set_option maxRecDepth 100000 in
set_option maxHeartbeats 4000000 in
theorem ok_X6_gatherAt : sm_Ok tb_X6_gatherAt 10 0 0 p_X6_gatherAt f_X6_gatherAt := by
  intro as w hp ha hw
  match as, hp with
  | [.inr (.inl o), .inr (.inl d), .inl x, .inl p], hp =>
  refine ⟨Nat.le_of_ble_eq_true rfl, fun Z hZ => ?_⟩
  obtain ⟨rfl, hX, x0, x1, p0, p1, z0, z1, hb⟩ := hp
  have hD := hX.1
  have hT := hD.2.1
  have hn := dOK_n hD
  obtain ⟨d0, d9, d18, d27, d28, d29, d30, d31, d32, s0, s1, s2, s5, s6, s7, s8, s9, s10⟩ := dS hD.2.1 hD.1
  obtain ⟨l0, l1, l2, l3, l4, l5, l6, l7, r0, r1, r2, r3, r4, r5, r6⟩ := lS hD.2.1 (dL hD.1)
  have hL := hD.2.2.1
  have b1 := xRdy_b hX x0 x1 p0 p1
  have b2 := xGone_b hX x0 x1 p0 p1
  have key : gAt w d x p = gAF (gAr w d x (sFrom p (mWay (vL w (d + 1)) x)) (xRdy w d x p) (xGone w d x p) (wI w (d + 1) 7)) := rfl
  generalize hE : gAt w d x p = E at *
  generalize hse : sFrom p (mWay (vL w (d + 1)) x) = s at *
  generalize hfe : xRdy w d x p = fr at *
  generalize hae : xGone w d x p = ah at *
  have hl := sm_loopI Z 37 0 (wI w (d + 1) 7) (fun i => [some (.inr (.inl 75)), some (.inr (.inl d)), some (.inl x), none, some (.inl fr), some (.inl ah), some (.inl s), some (.inl (gAr w d x s fr ah i).2), some (.inl i), none]) (fun i => (gAr w d x s fr ah i).1) 0 0 hn.1 (fun i h0 h1 ih => by
    have hI := gAr_inv (x := x) (fr := fr) (ah := ah) hX z0 z1 hb i h0 h1
    have hu : gAr w d x s fr ah (i + 1) = gA1 w d x s fr ah i (gAr w d x s fr ah i) := itI_s _ _ h0
    have he : i = wI w (d + 1) 7 → gAF (gAr w d x s fr ah i) = E := fun e => by rw [key, e]
    rw [hu] at ih
    generalize gAr w d x s fr ah i = r at *
    obtain ⟨u, q⟩ := r
    unfold gA1 at ih
    dsimp only at *
    obtain ⟨hf, hbd, q0, q1⟩ := hI
    have hTu := sFr_sT hf hT
    have hS := dSm_fr hf (sWt_d hD.1)
    have hXu := dSm_x hS hTu hX
    have hDu := hXu.1
    have e7 : wI u (d + 1) 7 = wI w (d + 1) 7 := by rw [hS _ (by omega) (by omega)]
    have hMn := dSm_Mn hS (y := i)
    have hFor := dSm_For hS x i
    obtain ⟨d0, d9, d18, d27, d28, d29, d30, d31, d32, s0, s1, s2, s5, s6, s7, s8, s9, s10⟩ := dS hTu hD.1
    obtain ⟨l0, l1, l2, l3, l4, l5, l6, l7, r0, r1, r2, r3, r4, r5, r6⟩ := lS hTu (dL hD.1)
    have f12 := xFor_12 w d x i
    by_cases e : i = wI w (d + 1) 7
    · have he := he e
      unfold gAF at he
      dsimp only at he
      have b3 := (hbd 3 (by decide) (by decide)).1 (by decide)
      clear ih
      refine hZ (fun u => Nat.beq u 37) 14 37 _ _ _ _ _ ?_
      simp only [sm_run, sm_blk, sm_get, sm_ent, sm_ents, sm_wds, sm_wd, sm_nl, sm_pop, sm_back, sm_cases, oK, oLK, oL, oI, oA, oJ, oIs, oAs, oJs, oInc, oAdd, oSub, oMul, oDiv, oRem, oNeg, oAnd, oAndB, oOr, oShl, oI2c, oI2l, oL2i, oLand, oLor, oLshl, oLshr, oLushr, oLcmp, oDup, oDup2, oPop, oGo, oFg, oEq, oNe, oLt, oGe, oGt, oLe, oEq0, oNe0, oLt0, oGe0, oGt0, oLe0, oSw, oGi, oGr, oPi, oPz, oPr, oLen, oIl, oZl, oCl, oRl, oIst, oZst, oCst, oRst, oCopy, oNew, oNa, oNa2, oObj, oCs, oCv, oCi, oIr, oZr, oVr, Nat.beq, List.getElem?_cons_zero, List.getElem?_cons_succ, List.set_cons_zero, List.set_cons_succ, List.length_cons, List.length_nil, List.nil_append, List.cons_append, List.append_nil, List.replicate_succ, List.replicate_zero, Nat.reduceAdd, Nat.reduceSub, Nat.reduceLT, Nat.reduceLeDiff, Nat.reduceBEq, true_and, and_true, Nat.zero_add, Nat.add_zero, Nat.le_refl, Option.some.injEq, exists_eq_left', true_or, or_true, or_false, false_or, reduceCtorEq, Prod.mk.injEq, Sum.inl.injEq, and_self, false_and, and_false, not_true_eq_false, not_false_eq_true, false_implies, true_implies, sm_r, Int.add_zero, Int.zero_add, wI_wsI, wS_wsI, wR_wsI, wI_wCp, wS_wCp, wR_wCp, Nat.reduceEqDiff, reduceIte, sT_iff, sT_iffC, wIf_ne, ne_eq, Bool.false_or, Bool.true_or, Bool.or_false, Bool.or_true, Bool.or_self, Nat.left_eq_add, Nat.add_eq_left, Nat.add_left_inj, oMax, oMin, oAbs, tb_X6_gatherAt, p_X0_goneFrom, p_X0_minutesOn, p_X0_readyAt, p_X0_reasonFor, p_X2_stretchAhead, f_X0_goneFrom, f_X0_minutesOn, f_X0_readyAt, f_X0_reasonFor, f_X2_stretchAhead, p_X6_gatherAt, f_X6_gatherAt, d0, s0, l0, e7, sS_75 hTu, sR_75_0 hTu, sS_76 hTu, hE]
      repeat' (first | exact True.intro | with_reducible assumption | with_reducible refine And.intro ?_ ?_ | intro _)
      all_goals first
        | omega
        | assumption
        | rfl
        | (split <;> omega)
        | (have k9 := ih (by omega)
           (repeat' split at k9) <;> first | exact k9 | omega)
        | (have k9 := ih2 (by omega)
           (repeat' split at k9) <;> first | exact k9 | omega)
        | exact he (by omega)
        | ((with_reducible congr 1) <;> omega)
        | (rw [if_pos (by omega)] at he; exact he)
        | exact hD1 (by omega)
        | exact hD2 (by omega)
        | grind
        | skip
    · have hlt : i < wI w (d + 1) 7 := by omega
      have ih := ih hlt
      have hMn := hMn (by omega) s fr ah
      have hm := xMn_b hX (fr := fr) (ah := ah) h0 hlt z0 z1
      clear he
      generalize xMn w d i s fr ah = m at *
      generalize xFor w d x i = k at *
      have b3 := (hbd k (by omega) (by omega)).1 (by omega)
      have b4 := (hbd i (by omega) (by omega)).2
      refine hZ (fun u => Nat.beq u 37) 14 37 _ _ _ _ _ ?_
      simp only [sm_run, sm_blk, sm_get, sm_ent, sm_ents, sm_wds, sm_wd, sm_nl, sm_pop, sm_back, sm_cases, oK, oLK, oL, oI, oA, oJ, oIs, oAs, oJs, oInc, oAdd, oSub, oMul, oDiv, oRem, oNeg, oAnd, oAndB, oOr, oShl, oI2c, oI2l, oL2i, oLand, oLor, oLshl, oLshr, oLushr, oLcmp, oDup, oDup2, oPop, oGo, oFg, oEq, oNe, oLt, oGe, oGt, oLe, oEq0, oNe0, oLt0, oGe0, oGt0, oLe0, oSw, oGi, oGr, oPi, oPz, oPr, oLen, oIl, oZl, oCl, oRl, oIst, oZst, oCst, oRst, oCopy, oNew, oNa, oNa2, oObj, oCs, oCv, oCi, oIr, oZr, oVr, Nat.beq, List.getElem?_cons_zero, List.getElem?_cons_succ, List.set_cons_zero, List.set_cons_succ, List.length_cons, List.length_nil, List.nil_append, List.cons_append, List.append_nil, List.replicate_succ, List.replicate_zero, Nat.reduceAdd, Nat.reduceSub, Nat.reduceLT, Nat.reduceLeDiff, Nat.reduceBEq, true_and, and_true, Nat.zero_add, Nat.add_zero, Nat.le_refl, Option.some.injEq, exists_eq_left', true_or, or_true, or_false, false_or, reduceCtorEq, Prod.mk.injEq, Sum.inl.injEq, and_self, false_and, and_false, not_true_eq_false, not_false_eq_true, false_implies, true_implies, sm_r, Int.add_zero, Int.zero_add, wI_wsI, wS_wsI, wR_wsI, wI_wCp, wS_wCp, wR_wCp, Nat.reduceEqDiff, reduceIte, sT_iff, sT_iffC, wIf_ne, ne_eq, Bool.false_or, Bool.true_or, Bool.or_false, Bool.or_true, Bool.or_self, Nat.left_eq_add, Nat.add_eq_left, Nat.add_left_inj, oMax, oMin, oAbs, tb_X6_gatherAt, p_X0_goneFrom, p_X0_minutesOn, p_X0_readyAt, p_X0_reasonFor, p_X2_stretchAhead, f_X0_goneFrom, f_X0_minutesOn, f_X0_readyAt, f_X0_reasonFor, f_X2_stretchAhead, p_X6_gatherAt, f_X6_gatherAt, d0, s0, l0, e7, hXu, hDu, hMn, hFor, sS_75 hTu, sR_75_0 hTu, sS_76 hTu, sR_75_1 hTu, sS_77 hTu]
      repeat' (first | exact True.intro | with_reducible assumption | with_reducible refine And.intro ?_ ?_ | intro _)
      all_goals first
        | omega
        | assumption
        | rfl
        | (split <;> omega)
        | (have k9 := ih (by omega)
           (repeat' split at k9) <;> first | exact k9 | omega)
        | (have k9 := ih2 (by omega)
           (repeat' split at k9) <;> first | exact k9 | omega)
        | exact he (by omega)
        | ((with_reducible congr 1) <;> omega)
        | (rw [if_pos (by omega)] at he; exact he)
        | exact hD1 (by omega)
        | exact hD2 (by omega)
        | grind
        | skip
    )
  have e0 : gAr w d x s fr ah 0 = (w, ah - fr) := rfl
  rw [e0] at hl
  dsimp only at hl
  refine hZ (fun u => Nat.beq u 37) 14 0 _ _ _ _ _ ?_
  simp only [sm_run, sm_blk, sm_get, sm_ent, sm_ents, sm_wds, sm_wd, sm_nl, sm_pop, sm_back, sm_cases, oK, oLK, oL, oI, oA, oJ, oIs, oAs, oJs, oInc, oAdd, oSub, oMul, oDiv, oRem, oNeg, oAnd, oAndB, oOr, oShl, oI2c, oI2l, oL2i, oLand, oLor, oLshl, oLshr, oLushr, oLcmp, oDup, oDup2, oPop, oGo, oFg, oEq, oNe, oLt, oGe, oGt, oLe, oEq0, oNe0, oLt0, oGe0, oGt0, oLe0, oSw, oGi, oGr, oPi, oPz, oPr, oLen, oIl, oZl, oCl, oRl, oIst, oZst, oCst, oRst, oCopy, oNew, oNa, oNa2, oObj, oCs, oCv, oCi, oIr, oZr, oVr, Nat.beq, List.getElem?_cons_zero, List.getElem?_cons_succ, List.set_cons_zero, List.set_cons_succ, List.length_cons, List.length_nil, List.nil_append, List.cons_append, List.append_nil, List.replicate_succ, List.replicate_zero, Nat.reduceAdd, Nat.reduceSub, Nat.reduceLT, Nat.reduceLeDiff, Nat.reduceBEq, true_and, and_true, Nat.zero_add, Nat.add_zero, Nat.le_refl, Option.some.injEq, exists_eq_left', true_or, or_true, or_false, false_or, reduceCtorEq, Prod.mk.injEq, Sum.inl.injEq, and_self, false_and, and_false, not_true_eq_false, not_false_eq_true, false_implies, true_implies, sm_r, Int.add_zero, Int.zero_add, wI_wsI, wS_wsI, wR_wsI, wI_wCp, wS_wCp, wR_wCp, Nat.reduceEqDiff, reduceIte, sT_iff, sT_iffC, wIf_ne, ne_eq, Bool.false_or, Bool.true_or, Bool.or_false, Bool.or_true, Bool.or_self, Nat.left_eq_add, Nat.add_eq_left, Nat.add_left_inj, oMax, oMin, oAbs, tb_X6_gatherAt, p_X0_goneFrom, p_X0_minutesOn, p_X0_readyAt, p_X0_reasonFor, p_X2_stretchAhead, f_X0_goneFrom, f_X0_minutesOn, f_X0_readyAt, f_X0_reasonFor, f_X2_stretchAhead, p_X6_gatherAt, f_X6_gatherAt, d0, hX, hse, hfe, hae, s0, l0, hT, hL]
  repeat' (first | exact True.intro | with_reducible assumption | with_reducible refine And.intro ?_ ?_ | intro _)
  all_goals first
    | omega
    | assumption
    | rfl
    | (split <;> omega)
    | (have k9 := ih (by omega)
       (repeat' split at k9) <;> first | exact k9 | omega)
    | (have k9 := ih2 (by omega)
       (repeat' split at k9) <;> first | exact k9 | omega)
    | exact he (by omega)
    | ((with_reducible congr 1) <;> omega)
    | (rw [if_pos (by omega)] at he; exact he)
    | exact hD1 (by omega)
    | exact hD2 (by omega)
    | skip
theorem met_X6_gatherAt (l : Launch) : sm_Met l yX6_gatherAt cX6_gatherAt 10 none 2 0 0 p_X6_gatherAt f_X6_gatherAt := sm_met 0 (Or.inl ⟨rfl, rfl⟩) (by decide +kernel) (sn_X6_gatherAt l) ok_X6_gatherAt
def gW0 (w : sm_W) : sm_W := fiW 77 0 ((8 : Nat) : Int) (fiW 76 0 ((4 : Nat) : Int) w)
def gW1 (w : sm_W) (d : Nat) (x p : Int) (r : sm_W) : sm_W := if xStd w d x p = 0 then r else gAt r d x p
def gW (w : sm_W) (d : Nat) (x : Int) : Int → sm_W := itI (gW1 w d x) (gW0 w)
theorem gAt_fr {w : sm_W} {d : Nat} {x p c : Int} (hX : xOK w d) (x0 : 0 ≤ x) (x1 : x < wI w (d + 1) 7) (p0 : 0 ≤ p) (p1 : p < 8) (z0 : 0 ≤ sFrom p (mWay (vL w (d + 1)) x)) (z1 : sFrom p (mWay (vL w (d + 1)) x) < 7) (hb : wBd8 w c) : sFr sWt w (gAt w d x p) ∧ wBd8 (gAt w d x p) (c + 200000) := by
  have hn := dOK_n hX.1
  have h := gAr_inv (x := x) (fr := xRdy w d x p) (ah := xGone w d x p) hX z0 z1 hb (wI w (d + 1) 7) hn.1 (Int.le_refl _)
  have b1 := xRdy_b hX x0 x1 p0 p1
  have b2 := xGone_b hX x0 x1 p0 p1
  have key : gAt w d x p = gAF (gAr w d x (sFrom p (mWay (vL w (d + 1)) x)) (xRdy w d x p) (xGone w d x p) (wI w (d + 1) 7)) := rfl
  rw [key]
  generalize gAr w d x (sFrom p (mWay (vL w (d + 1)) x)) (xRdy w d x p) (xGone w d x p) (wI w (d + 1) 7) = r at *
  obtain ⟨u, q⟩ := r
  unfold gAF
  dsimp only at *
  refine ⟨h.1.st (Or.inl rfl), fun i i0 i1 => ?_⟩
  have h1 := h.2.1 i i0 i1
  have h3 := (h.2.1 3 (by decide) (by decide)).1 (by decide)
  simp only [wI_wsI, Nat.reduceEqDiff, false_and, true_and, if_false]
  refine ⟨fun h4 => ?_, by omega⟩
  split <;> omega
theorem xStd_sf {w : sm_W} {d : Nat} {x p : Int} (hD : dOK w d) (x0 : 0 ≤ x) (x1 : x < wI w (d + 1) 7) (p0 : 0 ≤ p) (p1 : p < 8) (hw : ∀ s, 0 ≤ s → s < 8 → 0 ≤ wI w (dC d x) s → (wI w (d + 1 + 3) x < wI w (d + 1 + 4) x → wI w (d + 1 + 3) x ≤ s ∧ s ≤ wI w (d + 1 + 4) x) ∧ (wI w (d + 1 + 4) x ≤ wI w (d + 1 + 3) x → wI w (d + 1 + 4) x ≤ s ∧ s ≤ wI w (d + 1 + 3) x)) (h : ¬ xStd w d x p = 0) : 0 ≤ sFrom p (mWay (vL w (d + 1)) x) ∧ sFrom p (mWay (vL w (d + 1)) x) < 7 := by
  have hq := lOK_s hD.2 x0 x1
  have hwy := lWay (w := w) (a := d + 1) x0
  have hsf : (0 < mWay (vL w (d + 1)) x → sFrom p (mWay (vL w (d + 1)) x) = p) ∧ (¬ 0 < mWay (vL w (d + 1)) x → sFrom p (mWay (vL w (d + 1)) x) = p - 1) := ⟨fun h => if_pos h, fun h => if_neg h⟩
  have hw := hw p p0 p1
  unfold xStd xWas at h
  by_cases c : p = wI w (d + 1 + 3) x
  · omega
  · rw [if_neg c] at h
    by_cases c2 : wI w (dC d x) p < 0
    · rw [if_pos c2] at h; omega
    · rw [if_neg c2] at h
      by_cases c3 : p = wI w (d + 1 + 4) x
      · rw [if_pos c3] at h; omega
      · omega
/-- who came somewhere is on his way there -/
def xWy (w : sm_W) (d : Nat) : Prop := ∀ x, 0 ≤ x → x < wI w (d + 1) 7 → ∀ s, 0 ≤ s → s < 8 → 0 ≤ wI w (dC d x) s → (wI w (d + 1 + 3) x < wI w (d + 1 + 4) x → wI w (d + 1 + 3) x ≤ s ∧ s ≤ wI w (d + 1 + 4) x) ∧ (wI w (d + 1 + 4) x ≤ wI w (d + 1 + 3) x → wI w (d + 1 + 4) x ≤ s ∧ s ≤ wI w (d + 1 + 3) x)
theorem gW0_in (w : sm_W) : sFr sWt w (gW0 w) ∧ wBd8 (gW0 w) 0 := by
  refine ⟨(sFr.it (f := fiA 76 0) _ (by omega) (fun i r _ _ _ => (sFr.refl r).st (Or.inl rfl))).trans (sFr.it (f := fiA 77 0) _ (by omega) (fun i r _ _ _ => (sFr.refl r).st (Or.inr rfl))), fun i i0 i1 => ?_⟩
  have h77 : wI (gW0 w) 77 i = 0 := by
    unfold gW0
    rw [(fiW_in 77 0 _ _ (by omega)).2.1, if_pos ⟨rfl, i0, by omega⟩]
  have h76 : i < 4 → wI (gW0 w) 76 i = 0 := fun h => by
    unfold gW0
    rw [(fiW_in 77 0 _ _ (by omega)).2.1, if_neg (by omega), (fiW_in 76 0 _ _ (by omega)).2.1, if_pos ⟨rfl, i0, by omega⟩]
  exact ⟨fun h => by rw [h76 h]; omega, by rw [h77]; omega⟩
theorem gW_inv {w : sm_W} {d : Nat} {x : Int} (hX : xOK w d) (hW : xWy w d) (x0 : 0 ≤ x) (x1 : x < wI w (d + 1) 7) (n : Int) (n0 : 0 ≤ n) (n1 : n ≤ 8) : sFr sWt w (gW w d x n) ∧ wBd8 (gW w d x n) (200000 * n) := by
  have h0 := gW0_in w
  refine itI_ind (f := gW1 w d x) (fun i r => sFr sWt w r ∧ wBd8 r (200000 * i)) n ⟨h0.1, by rw [Int.mul_zero]; exact h0.2⟩ (fun i r i0 i1 hr => ?_) n n0 (Int.le_refl _)
  unfold gW1
  split
  · exact ⟨hr.1, fun j j0 j1 => by have := hr.2 j j0 j1; omega⟩
  · next h =>
    have hTr := sFr_sT hr.1 hX.1.2.1
    have hS := dSm_fr hr.1 (sWt_d hX.1.1)
    have hXr := dSm_x hS hTr hX
    have hz := xStd_sf hX.1 x0 x1 i0 (show i < 8 by omega) (hW x x0 x1) h
    rw [← dSm_v hS] at hz
    have := gAt_fr hXr x0 (by rw [hS _ (by omega) (by omega)]; exact x1) i0 (show i < 8 by omega) hz.1 hz.2 hr.2
    exact ⟨hr.1.trans this.1, fun j j0 j1 => by have := this.2 j j0 j1; omega⟩
def p_X6_gather : List sm_V → sm_W → Prop
  | [.inr (.inl o), .inr (.inl d), .inl x], w => o = 75 ∧ xOK w d ∧ xWy w d ∧ 0 ≤ x ∧ x < wI w (d + 1) 7
  | _, _ => False
def f_X6_gather : sm_F
  | [.inr (.inl o), .inr (.inl d), .inl x], w => (none, gW w d x 8)
  | _, w => (none, w)
def tb_X6_gather : List (Nat × List sm_O) := [(0, [oA 0, oGr 6 2 0, oK 0, oCs p_J7_fill_53178 f_J7_fill_53178 0 0 2, oA 0, oGr 6 2 1, oK 0, oCs p_J7_fill_53178 f_J7_fill_53178 0 0 2, oK 0, oIs 3, oGo 18]),
  (18, [oI 3, oK 8, oGe 46, oA 1, oI 2, oI 3, oCv 0 11 p_X0_stoodAt f_X0_stoodAt 0 0 3, oEq0 40, oA 0, oA 1, oI 2, oI 3, oCv 6 2 p_X6_gatherAt f_X6_gatherAt 0 0 4, oGo 40]),
  (40, [oInc 3 1, oGo 18]),
  (46, [oVr])]
set_option maxRecDepth 100000 in
theorem sb_X6_gather_0 (l : Launch) : sm_SndB l RX6 "gather" cX6_gather 4 0 3 0 [oA 0, oGr 6 2 0, oK 0, oCs p_J7_fill_53178 f_J7_fill_53178 0 0 2, oA 0, oGr 6 2 1, oK 0, oCs p_J7_fill_53178 f_J7_fill_53178 0 0 2, oK 0, oIs 3, oGo 18] := sb_cons (sd_aload_n (by decide +kernel : decode cX6_gather 0 = .ok (.aload_n 0, 1)) rfl) (sb_cons (sd_getr (k := 0) kl_6 (by decide) rfl wm_98 (by decide +kernel : decode cX6_gather 1 = .ok (.getfield 9, 3))) (sb_cons (sd_iconst (by decide +kernel : decode cX6_gather 4 = .ok (.iconst 0, 1)) ⟨by decide, by decide⟩) (sb_cons (sd_calls (n := 2) (met_J7_fill_53178 l) (by decide) (by decide) wm_37 wm_366 wm_4 ⟨by decide +kernel, by decide +kernel, by decide +kernel⟩ wm_36 (by decide +kernel : decode cX6_gather 5 = .ok (.invokestatic 18, 3))) (sb_cons (sd_aload_n (by decide +kernel : decode cX6_gather 8 = .ok (.aload_n 0, 1)) rfl) (sb_cons (sd_getr (k := 1) kl_6 (by decide) rfl wm_99 (by decide +kernel : decode cX6_gather 9 = .ok (.getfield 15, 3))) (sb_cons (sd_iconst (by decide +kernel : decode cX6_gather 12 = .ok (.iconst 0, 1)) ⟨by decide, by decide⟩) (sb_cons (sd_calls (n := 2) (met_J7_fill_53178 l) (by decide) (by decide) wm_37 wm_366 wm_4 ⟨by decide +kernel, by decide +kernel, by decide +kernel⟩ wm_36 (by decide +kernel : decode cX6_gather 13 = .ok (.invokestatic 18, 3))) (sb_cons (sd_iconst (by decide +kernel : decode cX6_gather 16 = .ok (.iconst 0, 1)) ⟨by decide, by decide⟩) (sb_cons (sd_istore_n (by decide +kernel : decode cX6_gather 17 = .ok (.istore_n 3, 1)) rfl) (sb_cons (sd_fall (x := 0)) sb_nil))))))))))
set_option maxRecDepth 100000 in
theorem sb_X6_gather_18 (l : Launch) : sm_SndB l RX6 "gather" cX6_gather 4 0 3 18 [oI 3, oK 8, oGe 46, oA 1, oI 2, oI 3, oCv 0 11 p_X0_stoodAt f_X0_stoodAt 0 0 3, oEq0 40, oA 0, oA 1, oI 2, oI 3, oCv 6 2 p_X6_gatherAt f_X6_gatherAt 0 0 4, oGo 40] := sb_cons (sd_iload_n (by decide +kernel : decode cX6_gather 18 = .ok (.iload_n 3, 1)) rfl) (sb_cons (sd_bipush (by decide +kernel : decode cX6_gather 19 = .ok (.bipush 8, 2)) ⟨by decide, by decide⟩ (by decide)) (sb_cons (sd_ge (by decide +kernel : decode cX6_gather 21 = .ok (.if_icmp .ge 25, 3)) (by decide)) (sb_cons (sd_aload_n (by decide +kernel : decode cX6_gather 24 = .ok (.aload_n 1, 1)) rfl) (sb_cons (sd_iload_n (by decide +kernel : decode cX6_gather 25 = .ok (.iload_n 2, 1)) rfl) (sb_cons (sd_iload_n (by decide +kernel : decode cX6_gather 26 = .ok (.iload_n 3, 1)) rfl) (sb_cons (sd_callv (n := 2) (met_X0_stoodAt l) (by decide) (by decide) wm_370 wm_367 wm_2 ⟨by decide +kernel, by decide +kernel, by decide +kernel⟩ kl_0 wm_368 wm_369 (by decide +kernel : decode cX6_gather 27 = .ok (.invokevirtual 24, 3))) (sb_cons (sd_eq0 (by decide +kernel : decode cX6_gather 30 = .ok (.ifCond .eq 10, 3)) (by decide)) (sb_cons (sd_aload_n (by decide +kernel : decode cX6_gather 33 = .ok (.aload_n 0, 1)) rfl) (sb_cons (sd_aload_n (by decide +kernel : decode cX6_gather 34 = .ok (.aload_n 1, 1)) rfl) (sb_cons (sd_iload_n (by decide +kernel : decode cX6_gather 35 = .ok (.iload_n 2, 1)) rfl) (sb_cons (sd_iload_n (by decide +kernel : decode cX6_gather 36 = .ok (.iload_n 3, 1)) rfl) (sb_cons (sd_callv (n := 3) (met_X6_gatherAt l) (by decide) (by decide) wm_379 wm_377 wm_5 ⟨by decide +kernel, by decide +kernel, by decide +kernel⟩ kl_6 wm_378 wm_1090 (by decide +kernel : decode cX6_gather 37 = .ok (.invokevirtual 30, 3))) (sb_cons (sd_fall (x := 0)) sb_nil)))))))))))))
set_option maxRecDepth 100000 in
theorem sb_X6_gather_40 (l : Launch) : sm_SndB l RX6 "gather" cX6_gather 4 0 3 40 [oInc 3 1, oGo 18] := sb_cons (sd_iinc (by decide +kernel : decode cX6_gather 40 = .ok (.iinc 3 1, 3))) (sb_cons (sd_goto (x := 0) (by decide +kernel : decode cX6_gather 43 = .ok (.goto (-25), 3)) (by decide)) sb_nil)
set_option maxRecDepth 100000 in
theorem sb_X6_gather_46 (l : Launch) : sm_SndB l RX6 "gather" cX6_gather 4 0 3 46 [oVr] := sb_cons (sd_return (x := 0) rfl (by decide +kernel : decode cX6_gather 46 = .ok (.return_, 1))) sb_nil
theorem sn_X6_gather (l : Launch) : sm_SndT l RX6 "gather" cX6_gather 4 0 3 tb_X6_gather := st_cons (sb_X6_gather_0 l) (st_cons (sb_X6_gather_18 l) (st_cons (sb_X6_gather_40 l) (st_cons (sb_X6_gather_46 l) (st_nil))))
set_option maxRecDepth 100000 in
set_option maxHeartbeats 4000000 in
theorem ok_X6_gather : sm_Ok tb_X6_gather 4 0 0 p_X6_gather f_X6_gather := by
  intro as w hp ha hw
  match as, hp with
  | [.inr (.inl o), .inr (.inl d), .inl x], hp =>
  refine ⟨Nat.le_of_ble_eq_true rfl, fun Z hZ => ?_⟩
  obtain ⟨rfl, hX, hW, x0, x1⟩ := hp
  have hD := hX.1
  have hT := hD.2.1
  have hn := dOK_n hD
  generalize hE : gW w d x 8 = E at *
  have hl := sm_loopI Z 18 0 8 (fun i => [some (.inr (.inl 75)), some (.inr (.inl d)), some (.inl x), some (.inl i)]) (fun i => gW w d x i) 0 0 (by decide) (fun i h0 h1 ih => by
    have hI := gW_inv hX hW x0 x1 i h0 h1
    have hu : gW w d x (i + 1) = gW1 w d x i (gW w d x i) := itI_s _ _ h0
    have he : i = 8 → gW w d x i = E := fun e => by rw [← hE, e]
    rw [hu] at ih
    generalize gW w d x i = u at *
    obtain ⟨hf, hbd⟩ := hI
    have hTu := sFr_sT hf hT
    have hS := dSm_fr hf (sWt_d hD.1)
    have hXu := dSm_x hS hTu hX
    have hDu := hXu.1
    have e7 : wI u (d + 1) 7 = wI w (d + 1) 7 := by rw [hS _ (by omega) (by omega)]
    have hSd := dSm_Std hS (show x < 8 by omega) i
    have hvu := dSm_v hS
    obtain ⟨d0, d9, d18, d27, d28, d29, d30, d31, d32, s0, s1, s2, s5, s6, s7, s8, s9, s10⟩ := dS hTu hD.1
    by_cases e : i = 8
    · have he := he e
      clear ih
      refine hZ (fun u => Nat.beq u 18) 14 18 _ _ _ _ _ ?_
      simp only [sm_run, sm_blk, sm_get, sm_ent, sm_ents, sm_wds, sm_wd, sm_nl, sm_pop, sm_back, sm_cases, oK, oLK, oL, oI, oA, oJ, oIs, oAs, oJs, oInc, oAdd, oSub, oMul, oDiv, oRem, oNeg, oAnd, oAndB, oOr, oShl, oI2c, oI2l, oL2i, oLand, oLor, oLshl, oLshr, oLushr, oLcmp, oDup, oDup2, oPop, oGo, oFg, oEq, oNe, oLt, oGe, oGt, oLe, oEq0, oNe0, oLt0, oGe0, oGt0, oLe0, oSw, oGi, oGr, oPi, oPz, oPr, oLen, oIl, oZl, oCl, oRl, oIst, oZst, oCst, oRst, oCopy, oNew, oNa, oNa2, oObj, oCs, oCv, oCi, oIr, oZr, oVr, Nat.beq, List.getElem?_cons_zero, List.getElem?_cons_succ, List.set_cons_zero, List.set_cons_succ, List.length_cons, List.length_nil, List.nil_append, List.cons_append, List.append_nil, List.replicate_succ, List.replicate_zero, Nat.reduceAdd, Nat.reduceSub, Nat.reduceLT, Nat.reduceLeDiff, Nat.reduceBEq, true_and, and_true, Nat.zero_add, Nat.add_zero, Nat.le_refl, Option.some.injEq, exists_eq_left', true_or, or_true, or_false, false_or, reduceCtorEq, Prod.mk.injEq, Sum.inl.injEq, and_self, false_and, and_false, not_true_eq_false, not_false_eq_true, false_implies, true_implies, sm_r, Int.add_zero, Int.zero_add, wI_wsI, wS_wsI, wR_wsI, wI_wCp, wS_wCp, wR_wCp, Nat.reduceEqDiff, reduceIte, sT_iff, sT_iffC, wIf_ne, ne_eq, Bool.false_or, Bool.true_or, Bool.or_false, Bool.or_true, Bool.or_self, Nat.left_eq_add, Nat.add_eq_left, Nat.add_left_inj, oMax, oMin, oAbs, tb_X6_gather, p_J7_fill_53178, p_X0_stoodAt, p_X6_gatherAt, f_J7_fill_53178, f_X0_stoodAt, f_X6_gatherAt, p_X6_gather, f_X6_gather, hE]
      repeat' (first | exact True.intro | with_reducible assumption | with_reducible refine And.intro ?_ ?_ | intro _)
      all_goals first
        | omega
        | assumption
        | rfl
        | (split <;> omega)
        | (have k9 := ih (by omega)
           (repeat' split at k9) <;> first | exact k9 | omega)
        | (have k9 := ih2 (by omega)
           (repeat' split at k9) <;> first | exact k9 | omega)
        | exact he (by omega)
        | ((with_reducible congr 1) <;> omega)
        | (rw [if_pos (by omega)] at he; exact he)
        | exact hD1 (by omega)
        | exact hD2 (by omega)
        | grind
        | skip
    · have ih := ih (by omega)
      clear he
      have h01 := xStd_01 w d x i
      have hz := fun h => xStd_sf hX.1 x0 x1 h0 (show i < 8 by omega) (hW x x0 x1) h
      rw [← hvu] at hz
      have hb8 : wBd8 u 10000000 := fun j j0 j1 => by have := hbd j j0 j1; omega
      unfold gW1 at ih
      by_cases c : xStd w d x i = 0
      · rw [if_pos c] at ih
        rw [c] at hSd
        refine hZ (fun u => Nat.beq u 18) 14 18 _ _ _ _ _ ?_
        simp only [sm_run, sm_blk, sm_get, sm_ent, sm_ents, sm_wds, sm_wd, sm_nl, sm_pop, sm_back, sm_cases, oK, oLK, oL, oI, oA, oJ, oIs, oAs, oJs, oInc, oAdd, oSub, oMul, oDiv, oRem, oNeg, oAnd, oAndB, oOr, oShl, oI2c, oI2l, oL2i, oLand, oLor, oLshl, oLshr, oLushr, oLcmp, oDup, oDup2, oPop, oGo, oFg, oEq, oNe, oLt, oGe, oGt, oLe, oEq0, oNe0, oLt0, oGe0, oGt0, oLe0, oSw, oGi, oGr, oPi, oPz, oPr, oLen, oIl, oZl, oCl, oRl, oIst, oZst, oCst, oRst, oCopy, oNew, oNa, oNa2, oObj, oCs, oCv, oCi, oIr, oZr, oVr, Nat.beq, List.getElem?_cons_zero, List.getElem?_cons_succ, List.set_cons_zero, List.set_cons_succ, List.length_cons, List.length_nil, List.nil_append, List.cons_append, List.append_nil, List.replicate_succ, List.replicate_zero, Nat.reduceAdd, Nat.reduceSub, Nat.reduceLT, Nat.reduceLeDiff, Nat.reduceBEq, true_and, and_true, Nat.zero_add, Nat.add_zero, Nat.le_refl, Option.some.injEq, exists_eq_left', true_or, or_true, or_false, false_or, reduceCtorEq, Prod.mk.injEq, Sum.inl.injEq, and_self, false_and, and_false, not_true_eq_false, not_false_eq_true, false_implies, true_implies, sm_r, Int.add_zero, Int.zero_add, wI_wsI, wS_wsI, wR_wsI, wI_wCp, wS_wCp, wR_wCp, Nat.reduceEqDiff, reduceIte, sT_iff, sT_iffC, wIf_ne, ne_eq, Bool.false_or, Bool.true_or, Bool.or_false, Bool.or_true, Bool.or_self, Nat.left_eq_add, Nat.add_eq_left, Nat.add_left_inj, oMax, oMin, oAbs, tb_X6_gather, p_J7_fill_53178, p_X0_stoodAt, p_X6_gatherAt, f_J7_fill_53178, f_X0_stoodAt, f_X6_gatherAt, p_X6_gather, f_X6_gather, d0, hDu, hSd]
        repeat' (first | exact True.intro | with_reducible assumption | with_reducible refine And.intro ?_ ?_ | intro _)
        all_goals first
          | omega
          | assumption
          | rfl
          | (split <;> omega)
          | (have k9 := ih (by omega)
             (repeat' split at k9) <;> first | exact k9 | omega)
          | (have k9 := ih2 (by omega)
             (repeat' split at k9) <;> first | exact k9 | omega)
          | exact he (by omega)
          | ((with_reducible congr 1) <;> omega)
          | (rw [if_pos (by omega)] at he; exact he)
          | exact hD1 (by omega)
          | exact hD2 (by omega)
          | grind
          | skip
      · rw [if_neg c] at ih
        have hz := hz c
        rw [show xStd w d x i = 1 by omega] at hSd
        refine hZ (fun u => Nat.beq u 18) 14 18 _ _ _ _ _ ?_
        simp only [sm_run, sm_blk, sm_get, sm_ent, sm_ents, sm_wds, sm_wd, sm_nl, sm_pop, sm_back, sm_cases, oK, oLK, oL, oI, oA, oJ, oIs, oAs, oJs, oInc, oAdd, oSub, oMul, oDiv, oRem, oNeg, oAnd, oAndB, oOr, oShl, oI2c, oI2l, oL2i, oLand, oLor, oLshl, oLshr, oLushr, oLcmp, oDup, oDup2, oPop, oGo, oFg, oEq, oNe, oLt, oGe, oGt, oLe, oEq0, oNe0, oLt0, oGe0, oGt0, oLe0, oSw, oGi, oGr, oPi, oPz, oPr, oLen, oIl, oZl, oCl, oRl, oIst, oZst, oCst, oRst, oCopy, oNew, oNa, oNa2, oObj, oCs, oCv, oCi, oIr, oZr, oVr, Nat.beq, List.getElem?_cons_zero, List.getElem?_cons_succ, List.set_cons_zero, List.set_cons_succ, List.length_cons, List.length_nil, List.nil_append, List.cons_append, List.append_nil, List.replicate_succ, List.replicate_zero, Nat.reduceAdd, Nat.reduceSub, Nat.reduceLT, Nat.reduceLeDiff, Nat.reduceBEq, true_and, and_true, Nat.zero_add, Nat.add_zero, Nat.le_refl, Option.some.injEq, exists_eq_left', true_or, or_true, or_false, false_or, reduceCtorEq, Prod.mk.injEq, Sum.inl.injEq, and_self, false_and, and_false, not_true_eq_false, not_false_eq_true, false_implies, true_implies, sm_r, Int.add_zero, Int.zero_add, wI_wsI, wS_wsI, wR_wsI, wI_wCp, wS_wCp, wR_wCp, Nat.reduceEqDiff, reduceIte, sT_iff, sT_iffC, wIf_ne, ne_eq, Bool.false_or, Bool.true_or, Bool.or_false, Bool.or_true, Bool.or_self, Nat.left_eq_add, Nat.add_eq_left, Nat.add_left_inj, oMax, oMin, oAbs, tb_X6_gather, p_J7_fill_53178, p_X0_stoodAt, p_X6_gatherAt, f_J7_fill_53178, f_X0_stoodAt, f_X6_gatherAt, p_X6_gather, f_X6_gather, d0, hDu, hSd, hXu, e7, hb8, sS_75 hTu]
        repeat' (first | exact True.intro | with_reducible assumption | with_reducible refine And.intro ?_ ?_ | intro _)
        all_goals first
          | omega
          | assumption
          | rfl
          | (split <;> omega)
          | (have k9 := ih (by omega)
             (repeat' split at k9) <;> first | exact k9 | omega)
          | (have k9 := ih2 (by omega)
             (repeat' split at k9) <;> first | exact k9 | omega)
          | exact he (by omega)
          | ((with_reducible congr 1) <;> omega)
          | (rw [if_pos (by omega)] at he; exact he)
          | exact hD1 (by omega)
          | exact hD2 (by omega)
          | grind
          | skip
    )
  have e0 : fiW 77 0 ((8 : Nat) : Int) (fiW 76 0 ((4 : Nat) : Int) w) = gW w d x 0 := rfl
  have h4S : ∀ b, wS (fiW 76 0 ((4 : Nat) : Int) w) b = wS w b := (fiW_in 76 0 w _ (by omega)).1
  have h4R : ∀ b j, wR (fiW 76 0 ((4 : Nat) : Int) w) b j = wR w b j := (fiW_in 76 0 w _ (by omega)).2.2.2.2
  refine hZ (fun u => Nat.beq u 18) 14 0 _ _ _ _ _ ?_
  simp only [sm_run, sm_blk, sm_get, sm_ent, sm_ents, sm_wds, sm_wd, sm_nl, sm_pop, sm_back, sm_cases, oK, oLK, oL, oI, oA, oJ, oIs, oAs, oJs, oInc, oAdd, oSub, oMul, oDiv, oRem, oNeg, oAnd, oAndB, oOr, oShl, oI2c, oI2l, oL2i, oLand, oLor, oLshl, oLshr, oLushr, oLcmp, oDup, oDup2, oPop, oGo, oFg, oEq, oNe, oLt, oGe, oGt, oLe, oEq0, oNe0, oLt0, oGe0, oGt0, oLe0, oSw, oGi, oGr, oPi, oPz, oPr, oLen, oIl, oZl, oCl, oRl, oIst, oZst, oCst, oRst, oCopy, oNew, oNa, oNa2, oObj, oCs, oCv, oCi, oIr, oZr, oVr, Nat.beq, List.getElem?_cons_zero, List.getElem?_cons_succ, List.set_cons_zero, List.set_cons_succ, List.length_cons, List.length_nil, List.nil_append, List.cons_append, List.append_nil, List.replicate_succ, List.replicate_zero, Nat.reduceAdd, Nat.reduceSub, Nat.reduceLT, Nat.reduceLeDiff, Nat.reduceBEq, true_and, and_true, Nat.zero_add, Nat.add_zero, Nat.le_refl, Option.some.injEq, exists_eq_left', true_or, or_true, or_false, false_or, reduceCtorEq, Prod.mk.injEq, Sum.inl.injEq, and_self, false_and, and_false, not_true_eq_false, not_false_eq_true, false_implies, true_implies, sm_r, Int.add_zero, Int.zero_add, wI_wsI, wS_wsI, wR_wsI, wI_wCp, wS_wCp, wR_wCp, Nat.reduceEqDiff, reduceIte, sT_iff, sT_iffC, wIf_ne, ne_eq, Bool.false_or, Bool.true_or, Bool.or_false, Bool.or_true, Bool.or_self, Nat.left_eq_add, Nat.add_eq_left, Nat.add_left_inj, oMax, oMin, oAbs, tb_X6_gather, p_J7_fill_53178, p_X0_stoodAt, p_X6_gatherAt, f_J7_fill_53178, f_X0_stoodAt, f_X6_gatherAt, p_X6_gather, f_X6_gather, sS_75 hT, sR_75_0 hT, sS_76 hT, sR_75_1 hT, sS_77 hT, h4S, h4R, e0]
  repeat' (first | exact True.intro | with_reducible assumption | with_reducible refine And.intro ?_ ?_ | intro _)
  all_goals first
    | omega
    | assumption
    | rfl
    | (split <;> omega)
    | (have k9 := ih (by omega)
       (repeat' split at k9) <;> first | exact k9 | omega)
    | (have k9 := ih2 (by omega)
       (repeat' split at k9) <;> first | exact k9 | omega)
    | exact he (by omega)
    | ((with_reducible congr 1) <;> omega)
    | (rw [if_pos (by omega)] at he; exact he)
    | exact hD1 (by omega)
    | exact hD2 (by omega)
    | skip
theorem met_X6_gather (l : Launch) : sm_Met l yX6_gather cX6_gather 4 none 3 0 0 p_X6_gather f_X6_gather := sm_met 0 (Or.inl ⟨rfl, rfl⟩) (by decide +kernel) (sn_X6_gather l) ok_X6_gather
def p_X6_forReason : List sm_V → sm_W → Prop
  | [.inr (.inl o), .inl k], w => o = 75 ∧ sT w ∧ 0 ≤ k ∧ k < 4
  | _, _ => False
def f_X6_forReason : sm_F
  | [.inr (.inl o), .inl k], w => (some (.inl (wI w 76 k)), w)
  | _, w => (none, w)
def tb_X6_forReason : List (Nat × List sm_O) := [(0, [oA 0, oGr 6 2 0, oI 1, oIl, oIr])]
set_option maxRecDepth 100000 in
theorem sb_X6_forReason_0 (l : Launch) : sm_SndB l RX6 "forReason" cX6_forReason 2 1 0 0 [oA 0, oGr 6 2 0, oI 1, oIl, oIr] := sb_cons (sd_aload_n (by decide +kernel : decode cX6_forReason 0 = .ok (.aload_n 0, 1)) rfl) (sb_cons (sd_getr (k := 0) kl_6 (by decide) rfl wm_98 (by decide +kernel : decode cX6_forReason 1 = .ok (.getfield 9, 3))) (sb_cons (sd_iload_n (by decide +kernel : decode cX6_forReason 4 = .ok (.iload_n 1, 1)) rfl) (sb_cons (sd_iaload (by decide +kernel : decode cX6_forReason 5 = .ok (.iaload, 1))) (sb_cons (sd_ireturn (x := 0) rfl (by decide +kernel : decode cX6_forReason 6 = .ok (.ireturn, 1))) sb_nil))))
theorem sn_X6_forReason (l : Launch) : sm_SndT l RX6 "forReason" cX6_forReason 2 1 0 tb_X6_forReason := st_cons (sb_X6_forReason_0 l) (st_nil)
set_option maxRecDepth 100000 in
set_option maxHeartbeats 4000000 in
theorem ok_X6_forReason : sm_Ok tb_X6_forReason 2 0 0 p_X6_forReason f_X6_forReason := by
  intro as w hp ha hw
  match as, hp with
  | [.inr (.inl o), .inl k], hp =>
  refine ⟨Nat.le_of_ble_eq_true rfl, fun Z hZ => ?_⟩
  obtain ⟨rfl, hT, k0, k1⟩ := hp
  refine hZ (fun _ => false) 16 0 _ _ _ _ _ ?_
  simp only [sm_run, sm_blk, sm_get, sm_ent, sm_ents, sm_wds, sm_wd, sm_nl, sm_pop, sm_back, sm_cases, oK, oLK, oL, oI, oA, oJ, oIs, oAs, oJs, oInc, oAdd, oSub, oMul, oDiv, oRem, oNeg, oAnd, oAndB, oOr, oShl, oI2c, oI2l, oL2i, oLand, oLor, oLshl, oLshr, oLushr, oLcmp, oDup, oDup2, oPop, oGo, oFg, oEq, oNe, oLt, oGe, oGt, oLe, oEq0, oNe0, oLt0, oGe0, oGt0, oLe0, oSw, oGi, oGr, oPi, oPz, oPr, oLen, oIl, oZl, oCl, oRl, oIst, oZst, oCst, oRst, oCopy, oNew, oNa, oNa2, oObj, oCs, oCv, oCi, oIr, oZr, oVr, Nat.beq, List.getElem?_cons_zero, List.getElem?_cons_succ, List.set_cons_zero, List.set_cons_succ, List.length_cons, List.length_nil, List.nil_append, List.cons_append, List.append_nil, List.replicate_succ, List.replicate_zero, Nat.reduceAdd, Nat.reduceSub, Nat.reduceLT, Nat.reduceLeDiff, Nat.reduceBEq, true_and, and_true, Nat.zero_add, Nat.add_zero, Nat.le_refl, Option.some.injEq, exists_eq_left', true_or, or_true, or_false, false_or, reduceCtorEq, Prod.mk.injEq, Sum.inl.injEq, and_self, false_and, and_false, not_true_eq_false, not_false_eq_true, false_implies, true_implies, sm_r, Int.add_zero, Int.zero_add, wI_wsI, wS_wsI, wR_wsI, wI_wCp, wS_wCp, wR_wCp, Nat.reduceEqDiff, reduceIte, sT_iff, sT_iffC, wIf_ne, ne_eq, Bool.false_or, Bool.true_or, Bool.or_false, Bool.or_true, Bool.or_self, Nat.left_eq_add, Nat.add_eq_left, Nat.add_left_inj, oMax, oMin, oAbs, tb_X6_forReason, p_X6_forReason, f_X6_forReason, sS_75 hT, sR_75_0 hT, sS_76 hT]
  repeat' (first | exact True.intro | with_reducible assumption | with_reducible refine And.intro ?_ ?_ | intro _)
  all_goals first
    | omega
    | assumption
    | rfl
    | (split <;> omega)
    | skip
theorem met_X6_forReason (l : Launch) : sm_Met l yX6_forReason cX6_forReason 2 (some .int) 0 0 0 p_X6_forReason f_X6_forReason := sm_met 1 (Or.inr (Or.inl ⟨rfl, rfl⟩)) (by decide +kernel) (sn_X6_forReason l) ok_X6_forReason
def p_X6_total : List sm_V → sm_W → Prop
  | [.inr (.inl o)], w => o = 75 ∧ sT w ∧ wBd8 w 10000000
  | _, _ => False
def f_X6_total : sm_F
  | [.inr (.inl o)], w => (some (.inl (wI w 76 1 + wI w 76 2 + wI w 76 3)), w)
  | _, w => (none, w)
def tb_X6_total : List (Nat × List sm_O) := [(0, [oA 0, oGr 6 2 0, oK 1, oIl, oA 0, oGr 6 2 0, oK 2, oIl, oAdd, oA 0, oGr 6 2 0, oK 3, oIl, oAdd, oIr])]
set_option maxRecDepth 100000 in
theorem sb_X6_total_0 (l : Launch) : sm_SndB l RX6 "total" cX6_total 1 1 0 0 [oA 0, oGr 6 2 0, oK 1, oIl, oA 0, oGr 6 2 0, oK 2, oIl, oAdd, oA 0, oGr 6 2 0, oK 3, oIl, oAdd, oIr] := sb_cons (sd_aload_n (by decide +kernel : decode cX6_total 0 = .ok (.aload_n 0, 1)) rfl) (sb_cons (sd_getr (k := 0) kl_6 (by decide) rfl wm_98 (by decide +kernel : decode cX6_total 1 = .ok (.getfield 9, 3))) (sb_cons (sd_iconst (by decide +kernel : decode cX6_total 4 = .ok (.iconst 1, 1)) ⟨by decide, by decide⟩) (sb_cons (sd_iaload (by decide +kernel : decode cX6_total 5 = .ok (.iaload, 1))) (sb_cons (sd_aload_n (by decide +kernel : decode cX6_total 6 = .ok (.aload_n 0, 1)) rfl) (sb_cons (sd_getr (k := 0) kl_6 (by decide) rfl wm_98 (by decide +kernel : decode cX6_total 7 = .ok (.getfield 9, 3))) (sb_cons (sd_iconst (by decide +kernel : decode cX6_total 10 = .ok (.iconst 2, 1)) ⟨by decide, by decide⟩) (sb_cons (sd_iaload (by decide +kernel : decode cX6_total 11 = .ok (.iaload, 1))) (sb_cons (sd_iadd (by decide +kernel : decode cX6_total 12 = .ok (.iadd, 1))) (sb_cons (sd_aload_n (by decide +kernel : decode cX6_total 13 = .ok (.aload_n 0, 1)) rfl) (sb_cons (sd_getr (k := 0) kl_6 (by decide) rfl wm_98 (by decide +kernel : decode cX6_total 14 = .ok (.getfield 9, 3))) (sb_cons (sd_iconst (by decide +kernel : decode cX6_total 17 = .ok (.iconst 3, 1)) ⟨by decide, by decide⟩) (sb_cons (sd_iaload (by decide +kernel : decode cX6_total 18 = .ok (.iaload, 1))) (sb_cons (sd_iadd (by decide +kernel : decode cX6_total 19 = .ok (.iadd, 1))) (sb_cons (sd_ireturn (x := 0) rfl (by decide +kernel : decode cX6_total 20 = .ok (.ireturn, 1))) sb_nil))))))))))))))
theorem sn_X6_total (l : Launch) : sm_SndT l RX6 "total" cX6_total 1 1 0 tb_X6_total := st_cons (sb_X6_total_0 l) (st_nil)
set_option maxRecDepth 100000 in
set_option maxHeartbeats 4000000 in
theorem ok_X6_total : sm_Ok tb_X6_total 1 0 0 p_X6_total f_X6_total := by
  intro as w hp ha hw
  match as, hp with
  | [.inr (.inl o)], hp =>
  refine ⟨Nat.le_of_ble_eq_true rfl, fun Z hZ => ?_⟩
  obtain ⟨rfl, hT, hb⟩ := hp
  have h1 := (hb 1 (by decide) (by decide)).1 (by decide)
  have h2 := (hb 2 (by decide) (by decide)).1 (by decide)
  have h3 := (hb 3 (by decide) (by decide)).1 (by decide)
  refine hZ (fun _ => false) 16 0 _ _ _ _ _ ?_
  simp only [sm_run, sm_blk, sm_get, sm_ent, sm_ents, sm_wds, sm_wd, sm_nl, sm_pop, sm_back, sm_cases, oK, oLK, oL, oI, oA, oJ, oIs, oAs, oJs, oInc, oAdd, oSub, oMul, oDiv, oRem, oNeg, oAnd, oAndB, oOr, oShl, oI2c, oI2l, oL2i, oLand, oLor, oLshl, oLshr, oLushr, oLcmp, oDup, oDup2, oPop, oGo, oFg, oEq, oNe, oLt, oGe, oGt, oLe, oEq0, oNe0, oLt0, oGe0, oGt0, oLe0, oSw, oGi, oGr, oPi, oPz, oPr, oLen, oIl, oZl, oCl, oRl, oIst, oZst, oCst, oRst, oCopy, oNew, oNa, oNa2, oObj, oCs, oCv, oCi, oIr, oZr, oVr, Nat.beq, List.getElem?_cons_zero, List.getElem?_cons_succ, List.set_cons_zero, List.set_cons_succ, List.length_cons, List.length_nil, List.nil_append, List.cons_append, List.append_nil, List.replicate_succ, List.replicate_zero, Nat.reduceAdd, Nat.reduceSub, Nat.reduceLT, Nat.reduceLeDiff, Nat.reduceBEq, true_and, and_true, Nat.zero_add, Nat.add_zero, Nat.le_refl, Option.some.injEq, exists_eq_left', true_or, or_true, or_false, false_or, reduceCtorEq, Prod.mk.injEq, Sum.inl.injEq, and_self, false_and, and_false, not_true_eq_false, not_false_eq_true, false_implies, true_implies, sm_r, Int.add_zero, Int.zero_add, wI_wsI, wS_wsI, wR_wsI, wI_wCp, wS_wCp, wR_wCp, Nat.reduceEqDiff, reduceIte, sT_iff, sT_iffC, wIf_ne, ne_eq, Bool.false_or, Bool.true_or, Bool.or_false, Bool.or_true, Bool.or_self, Nat.left_eq_add, Nat.add_eq_left, Nat.add_left_inj, oMax, oMin, oAbs, tb_X6_total, p_X6_total, f_X6_total, sS_75 hT, sR_75_0 hT, sS_76 hT]
  repeat' (first | exact True.intro | with_reducible assumption | with_reducible refine And.intro ?_ ?_ | intro _)
  all_goals first
    | omega
    | assumption
    | rfl
    | (split <;> omega)
    | skip
theorem met_X6_total (l : Launch) : sm_Met l yX6_total cX6_total 1 (some .int) 0 0 0 p_X6_total f_X6_total := sm_met 1 (Or.inr (Or.inl ⟨rfl, rfl⟩)) (by decide +kernel) (sn_X6_total l) ok_X6_total
def wMb (w : sm_W) : Int → Int := itI (fun y r => if wI w 77 y ≤ 0 then r else (if r < 0 then y else (if wI w 77 y ≤ wI w 77 r then r else y))) (-6)
theorem wMb_in (w : sm_W) (n : Int) (n0 : 0 ≤ n) : wMb w n = -6 ∨ (0 ≤ wMb w n ∧ wMb w n < n) := by
  refine itI_ind (fun i r => r = -6 ∨ (0 ≤ r ∧ r < i)) n (Or.inl rfl) (fun i r i0 i1 hr => ?_) n n0 (Int.le_refl _)
  grind
def p_X6_mostBlamed : List sm_V → sm_W → Prop
  | [.inr (.inl o)], w => o = 75 ∧ sT w
  | _, _ => False
def f_X6_mostBlamed : sm_F
  | [.inr (.inl o)], w => (some (.inl (wMb w 8)), w)
  | _, w => (none, w)
def tb_X6_mostBlamed : List (Nat × List sm_O) := [(0, [oK (-6), oIs 1, oK 0, oIs 2, oGo 5]),
  (5, [oI 2, oK 8, oGe 47, oA 0, oGr 6 2 1, oI 2, oIl, oLe0 41, oI 1, oLt0 39, oA 0, oGr 6 2 1, oI 2, oIl, oA 0, oGr 6 2 1, oI 1, oIl, oLe 41, oGo 39]),
  (39, [oI 2, oIs 1, oGo 41]),
  (41, [oInc 2 1, oGo 5]),
  (47, [oI 1, oIr])]
set_option maxRecDepth 100000 in
theorem sb_X6_mostBlamed_0 (l : Launch) : sm_SndB l RX6 "mostBlamed" cX6_mostBlamed 3 1 0 0 [oK (-6), oIs 1, oK 0, oIs 2, oGo 5] := sb_cons (sd_bipush (by decide +kernel : decode cX6_mostBlamed 0 = .ok (.bipush (-6), 2)) ⟨by decide, by decide⟩ (by decide)) (sb_cons (sd_istore_n (by decide +kernel : decode cX6_mostBlamed 2 = .ok (.istore_n 1, 1)) rfl) (sb_cons (sd_iconst (by decide +kernel : decode cX6_mostBlamed 3 = .ok (.iconst 0, 1)) ⟨by decide, by decide⟩) (sb_cons (sd_istore_n (by decide +kernel : decode cX6_mostBlamed 4 = .ok (.istore_n 2, 1)) rfl) (sb_cons (sd_fall (x := 0)) sb_nil))))
set_option maxRecDepth 100000 in
theorem sb_X6_mostBlamed_5 (l : Launch) : sm_SndB l RX6 "mostBlamed" cX6_mostBlamed 3 1 0 5 [oI 2, oK 8, oGe 47, oA 0, oGr 6 2 1, oI 2, oIl, oLe0 41, oI 1, oLt0 39, oA 0, oGr 6 2 1, oI 2, oIl, oA 0, oGr 6 2 1, oI 1, oIl, oLe 41, oGo 39] := sb_cons (sd_iload_n (by decide +kernel : decode cX6_mostBlamed 5 = .ok (.iload_n 2, 1)) rfl) (sb_cons (sd_bipush (by decide +kernel : decode cX6_mostBlamed 6 = .ok (.bipush 8, 2)) ⟨by decide, by decide⟩ (by decide)) (sb_cons (sd_ge (by decide +kernel : decode cX6_mostBlamed 8 = .ok (.if_icmp .ge 39, 3)) (by decide)) (sb_cons (sd_aload_n (by decide +kernel : decode cX6_mostBlamed 11 = .ok (.aload_n 0, 1)) rfl) (sb_cons (sd_getr (k := 1) kl_6 (by decide) rfl wm_99 (by decide +kernel : decode cX6_mostBlamed 12 = .ok (.getfield 15, 3))) (sb_cons (sd_iload_n (by decide +kernel : decode cX6_mostBlamed 15 = .ok (.iload_n 2, 1)) rfl) (sb_cons (sd_iaload (by decide +kernel : decode cX6_mostBlamed 16 = .ok (.iaload, 1))) (sb_cons (sd_le0 (by decide +kernel : decode cX6_mostBlamed 17 = .ok (.ifCond .le 24, 3)) (by decide)) (sb_cons (sd_iload_n (by decide +kernel : decode cX6_mostBlamed 20 = .ok (.iload_n 1, 1)) rfl) (sb_cons (sd_lt0 (by decide +kernel : decode cX6_mostBlamed 21 = .ok (.ifCond .lt 18, 3)) (by decide)) (sb_cons (sd_aload_n (by decide +kernel : decode cX6_mostBlamed 24 = .ok (.aload_n 0, 1)) rfl) (sb_cons (sd_getr (k := 1) kl_6 (by decide) rfl wm_99 (by decide +kernel : decode cX6_mostBlamed 25 = .ok (.getfield 15, 3))) (sb_cons (sd_iload_n (by decide +kernel : decode cX6_mostBlamed 28 = .ok (.iload_n 2, 1)) rfl) (sb_cons (sd_iaload (by decide +kernel : decode cX6_mostBlamed 29 = .ok (.iaload, 1))) (sb_cons (sd_aload_n (by decide +kernel : decode cX6_mostBlamed 30 = .ok (.aload_n 0, 1)) rfl) (sb_cons (sd_getr (k := 1) kl_6 (by decide) rfl wm_99 (by decide +kernel : decode cX6_mostBlamed 31 = .ok (.getfield 15, 3))) (sb_cons (sd_iload_n (by decide +kernel : decode cX6_mostBlamed 34 = .ok (.iload_n 1, 1)) rfl) (sb_cons (sd_iaload (by decide +kernel : decode cX6_mostBlamed 35 = .ok (.iaload, 1))) (sb_cons (sd_le (by decide +kernel : decode cX6_mostBlamed 36 = .ok (.if_icmp .le 5, 3)) (by decide)) (sb_cons (sd_fall (x := 0)) sb_nil)))))))))))))))))))
set_option maxRecDepth 100000 in
theorem sb_X6_mostBlamed_39 (l : Launch) : sm_SndB l RX6 "mostBlamed" cX6_mostBlamed 3 1 0 39 [oI 2, oIs 1, oGo 41] := sb_cons (sd_iload_n (by decide +kernel : decode cX6_mostBlamed 39 = .ok (.iload_n 2, 1)) rfl) (sb_cons (sd_istore_n (by decide +kernel : decode cX6_mostBlamed 40 = .ok (.istore_n 1, 1)) rfl) (sb_cons (sd_fall (x := 0)) sb_nil))
set_option maxRecDepth 100000 in
theorem sb_X6_mostBlamed_41 (l : Launch) : sm_SndB l RX6 "mostBlamed" cX6_mostBlamed 3 1 0 41 [oInc 2 1, oGo 5] := sb_cons (sd_iinc (by decide +kernel : decode cX6_mostBlamed 41 = .ok (.iinc 2 1, 3))) (sb_cons (sd_goto (x := 0) (by decide +kernel : decode cX6_mostBlamed 44 = .ok (.goto (-39), 3)) (by decide)) sb_nil)
set_option maxRecDepth 100000 in
theorem sb_X6_mostBlamed_47 (l : Launch) : sm_SndB l RX6 "mostBlamed" cX6_mostBlamed 3 1 0 47 [oI 1, oIr] := sb_cons (sd_iload_n (by decide +kernel : decode cX6_mostBlamed 47 = .ok (.iload_n 1, 1)) rfl) (sb_cons (sd_ireturn (x := 0) rfl (by decide +kernel : decode cX6_mostBlamed 48 = .ok (.ireturn, 1))) sb_nil)
theorem sn_X6_mostBlamed (l : Launch) : sm_SndT l RX6 "mostBlamed" cX6_mostBlamed 3 1 0 tb_X6_mostBlamed := st_cons (sb_X6_mostBlamed_0 l) (st_cons (sb_X6_mostBlamed_5 l) (st_cons (sb_X6_mostBlamed_39 l) (st_cons (sb_X6_mostBlamed_41 l) (st_cons (sb_X6_mostBlamed_47 l) (st_nil)))))
set_option maxRecDepth 100000 in
set_option maxHeartbeats 4000000 in
theorem ok_X6_mostBlamed : sm_Ok tb_X6_mostBlamed 3 0 0 p_X6_mostBlamed f_X6_mostBlamed := by
  intro as w hp ha hw
  match as, hp with
  | [.inr (.inl o)], hp =>
  refine ⟨Nat.le_of_ble_eq_true rfl, fun Z hZ => ?_⟩
  obtain ⟨rfl, hT⟩ := hp
  have hl := sm_loopI Z 5 0 8 (fun i => [some (.inr (.inl 75)), some (.inl (wMb w i)), some (.inl i)]) (fun _ => w) 0 0 (by decide) (fun i h0 h1 ih => by
    have hI := wMb_in w i h0
    have hu : wMb w (i + 1) = if wI w 77 i ≤ 0 then wMb w i else (if wMb w i < 0 then i else (if wI w 77 i ≤ wI w 77 (wMb w i) then wMb w i else i)) := itI_s _ _ h0
    have he : i = 8 → wMb w i = wMb w 8 := fun e => by rw [e]
    rw [hu] at ih
    refine hZ (fun u => Nat.beq u 5) 14 5 _ _ _ _ _ ?_
    simp only [sm_run, sm_blk, sm_get, sm_ent, sm_ents, sm_wds, sm_wd, sm_nl, sm_pop, sm_back, sm_cases, oK, oLK, oL, oI, oA, oJ, oIs, oAs, oJs, oInc, oAdd, oSub, oMul, oDiv, oRem, oNeg, oAnd, oAndB, oOr, oShl, oI2c, oI2l, oL2i, oLand, oLor, oLshl, oLshr, oLushr, oLcmp, oDup, oDup2, oPop, oGo, oFg, oEq, oNe, oLt, oGe, oGt, oLe, oEq0, oNe0, oLt0, oGe0, oGt0, oLe0, oSw, oGi, oGr, oPi, oPz, oPr, oLen, oIl, oZl, oCl, oRl, oIst, oZst, oCst, oRst, oCopy, oNew, oNa, oNa2, oObj, oCs, oCv, oCi, oIr, oZr, oVr, Nat.beq, List.getElem?_cons_zero, List.getElem?_cons_succ, List.set_cons_zero, List.set_cons_succ, List.length_cons, List.length_nil, List.nil_append, List.cons_append, List.append_nil, List.replicate_succ, List.replicate_zero, Nat.reduceAdd, Nat.reduceSub, Nat.reduceLT, Nat.reduceLeDiff, Nat.reduceBEq, true_and, and_true, Nat.zero_add, Nat.add_zero, Nat.le_refl, Option.some.injEq, exists_eq_left', true_or, or_true, or_false, false_or, reduceCtorEq, Prod.mk.injEq, Sum.inl.injEq, and_self, false_and, and_false, not_true_eq_false, not_false_eq_true, false_implies, true_implies, sm_r, Int.add_zero, Int.zero_add, wI_wsI, wS_wsI, wR_wsI, wI_wCp, wS_wCp, wR_wCp, Nat.reduceEqDiff, reduceIte, sT_iff, sT_iffC, wIf_ne, ne_eq, Bool.false_or, Bool.true_or, Bool.or_false, Bool.or_true, Bool.or_self, Nat.left_eq_add, Nat.add_eq_left, Nat.add_left_inj, oMax, oMin, oAbs, tb_X6_mostBlamed, p_X6_mostBlamed, f_X6_mostBlamed, sS_75 hT, sR_75_1 hT, sS_77 hT]
    repeat' (first | exact True.intro | with_reducible assumption | with_reducible refine And.intro ?_ ?_ | intro _)
    all_goals first
      | omega
      | assumption
      | rfl
      | (split <;> omega)
      | (have k9 := ih (by omega)
         (repeat' split at k9) <;> first | exact k9 | omega)
      | (have k9 := ih2 (by omega)
         (repeat' split at k9) <;> first | exact k9 | omega)
      | exact he (by omega)
      | ((with_reducible congr 1) <;> omega)
      | (rw [if_pos (by omega)] at he; exact he)
      | exact hD1 (by omega)
      | exact hD2 (by omega)
      | grind
      | skip
    )
  refine hZ (fun u => Nat.beq u 5) 14 0 _ _ _ _ _ ?_
  simp only [sm_run, sm_blk, sm_get, sm_ent, sm_ents, sm_wds, sm_wd, sm_nl, sm_pop, sm_back, sm_cases, oK, oLK, oL, oI, oA, oJ, oIs, oAs, oJs, oInc, oAdd, oSub, oMul, oDiv, oRem, oNeg, oAnd, oAndB, oOr, oShl, oI2c, oI2l, oL2i, oLand, oLor, oLshl, oLshr, oLushr, oLcmp, oDup, oDup2, oPop, oGo, oFg, oEq, oNe, oLt, oGe, oGt, oLe, oEq0, oNe0, oLt0, oGe0, oGt0, oLe0, oSw, oGi, oGr, oPi, oPz, oPr, oLen, oIl, oZl, oCl, oRl, oIst, oZst, oCst, oRst, oCopy, oNew, oNa, oNa2, oObj, oCs, oCv, oCi, oIr, oZr, oVr, Nat.beq, List.getElem?_cons_zero, List.getElem?_cons_succ, List.set_cons_zero, List.set_cons_succ, List.length_cons, List.length_nil, List.nil_append, List.cons_append, List.append_nil, List.replicate_succ, List.replicate_zero, Nat.reduceAdd, Nat.reduceSub, Nat.reduceLT, Nat.reduceLeDiff, Nat.reduceBEq, true_and, and_true, Nat.zero_add, Nat.add_zero, Nat.le_refl, Option.some.injEq, exists_eq_left', true_or, or_true, or_false, false_or, reduceCtorEq, Prod.mk.injEq, Sum.inl.injEq, and_self, false_and, and_false, not_true_eq_false, not_false_eq_true, false_implies, true_implies, sm_r, Int.add_zero, Int.zero_add, wI_wsI, wS_wsI, wR_wsI, wI_wCp, wS_wCp, wR_wCp, Nat.reduceEqDiff, reduceIte, sT_iff, sT_iffC, wIf_ne, ne_eq, Bool.false_or, Bool.true_or, Bool.or_false, Bool.or_true, Bool.or_self, Nat.left_eq_add, Nat.add_eq_left, Nat.add_left_inj, oMax, oMin, oAbs, tb_X6_mostBlamed, p_X6_mostBlamed, f_X6_mostBlamed]
  repeat' (first | exact True.intro | with_reducible assumption | with_reducible refine And.intro ?_ ?_ | intro _)
  all_goals first
    | omega
    | assumption
    | rfl
    | (split <;> omega)
    | (have k9 := ih (by omega)
       (repeat' split at k9) <;> first | exact k9 | omega)
    | (have k9 := ih2 (by omega)
       (repeat' split at k9) <;> first | exact k9 | omega)
    | exact he (by omega)
    | ((with_reducible congr 1) <;> omega)
    | (rw [if_pos (by omega)] at he; exact he)
    | exact hD1 (by omega)
    | exact hD2 (by omega)
    | skip

theorem met_X6_mostBlamed (l : Launch) : sm_Met l yX6_mostBlamed cX6_mostBlamed 3 (some .int) 0 0 0 p_X6_mostBlamed f_X6_mostBlamed := sm_met 1 (Or.inr (Or.inl ⟨rfl, rfl⟩)) (by decide +kernel) (sn_X6_mostBlamed l) ok_X6_mostBlamed