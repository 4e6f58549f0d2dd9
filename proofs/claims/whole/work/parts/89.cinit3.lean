/-! CONSTRUCTORS: the class and the reference -/
def eX1 (w : sm_W) : sm_W := iW (opsDay 1) (wNw w 0 11)
def cC1 (w : sm_W) : sm_W := wsR (wsR (eX1 w) 0 0 1) 0 1 2
def eX2 (w : sm_W) : sm_W := iW (opsDay 34) (wNw (cC1 w) 0 11)
def cC2 (w : sm_W) : sm_W := wsR (wsR (eX2 w) 0 2 34) 0 3 35
def eX3 (w : sm_W) : sm_W := iW (opsLine 67) (wNw (cC2 w) 2 9)
def cC3 (w : sm_W) : sm_W := wsR (eX3 w) 0 4 67
def eX4 (w : sm_W) : sm_W := iW opsX6 (wNw (cC3 w) 6 2)
def cC4 (w : sm_W) : sm_W := wsR (eX4 w) 0 5 75
def eX5 (w : sm_W) : sm_W := iW opsX3 (wNw (cC4 w) 3 2)
def cC5 (w : sm_W) : sm_W := wsR (eX5 w) 0 6 78
def eX6 (w : sm_W) : sm_W := iW opsX4 (wNw (cC5 w) 4 3)
def cC6 (w : sm_W) : sm_W := wsR (eX6 w) 0 7 80
def eX7 (w : sm_W) : sm_W := iW opsX5 (wNw (cC6 w) 5 5)
def cC7 (w : sm_W) : sm_W := wsR (eX7 w) 0 8 83
def eX8 (w : sm_W) : sm_W := iW opsHist (wNw (cC7 w) 1 2)
def cC8 (w : sm_W) : sm_W := wsR (eX8 w) 0 9 86
def cC9 (w : sm_W) : sm_W := wsR (wNw (wsR (wNw (cC8 w) 12 2) 0 10 136) 10 2) 0 11 137
def cCtr (w : sm_W) : sm_W := iW (opsLns 138 136 2) (cC9 w)
theorem wsR_eq {w : sm_W} {a : Nat} {i : Int} {v : Nat} : wR (wsR w a i v) a i = some v := by rw [wR_wsR, if_pos ⟨rfl, rfl⟩]
theorem dyS {w : sm_W} {d x : Nat} (h : x < w.1) : wS (iW (opsDay d) w) x = wS w x := iW_S _ _ h
theorem dyR {w : sm_W} {d : Nat} (hn : w.1 = d + 1) : wR (iW (opsDay d) w) d 0 = some (d + 1) := by
  unfold opsDay opsLine
  simp only [iW, iO, List.cons_append, List.nil_append, wR_wsR, wR_wNw, wR_wNw2, fiW_R, fiW_n, wsR_n, wNw_n, wNw2_n, hn]
  repeat (first | rw [if_neg (by omega)] | rw [if_pos (by omega)])
  rw [if_pos ⟨trivial, trivial⟩]
theorem hist_n (w : sm_W) (hn : w.1 = 87) : (iW opsHist w).1 = 136 := by
  rw [hist_eq]
  have h0 : (hist0 w).1 = 88 := by show w.1 + 1 = 88; omega
  exact (lns_in 88 87 (hist0 w) h0 (by decide) 6).1
theorem hist_S {w : sm_W} {x : Nat} (h : x < w.1) : wS (iW opsHist w) x = wS w x := iW_S _ _ h
theorem st_S {w : sm_W} {ops : List iOp} {kd sz : Nat} {p : Nat × Nat} (h1 : 1 ≤ w.1) (hs : wS w 0 = p) : wS (iW ops (wNw w kd sz)) 0 = p := by
  rw [iW_S _ _ (by rw [wNw_n]; omega), wS_wNw, if_neg (by omega), hs]
theorem st_T {w : sm_W} {ops : List iOp} {kd sz : Nat} : wS (iW ops (wNw w kd sz)) w.1 = (kd, sz) := by
  rw [iW_S _ _ (by rw [wNw_n]; omega), wS_wNw, if_pos rfl]
theorem eX1_in {w : sm_W} (hn : w.1 = 1) (hs : wS w 0 = (7, 12)) : (eX1 w).1 = 34 ∧ wS (eX1 w) 0 = (7, 12) ∧ wR (eX1 w) 1 0 = some 2 ∧ wS (eX1 w) 1 = (0, 11) := by
  have h := And.intro hn hs
  unfold eX1
  generalize w = u at *
  refine ⟨by rw [dy_n, wNw_n, h.1], st_S (by omega) h.2, dyR (by rw [wNw_n, h.1]), ?_⟩
  have := st_T (w := u) (ops := opsDay 1) (kd := 0) (sz := 11)
  rw [h.1] at this
  exact this
theorem cC1_in {w : sm_W} (hn : w.1 = 1) (hs : wS w 0 = (7, 12)) : (cC1 w).1 = 34 ∧ wS (cC1 w) 0 = (7, 12) := by
  have h := eX1_in hn hs
  unfold cC1
  rw [wsR_n, wsR_n, wS_wsR, wS_wsR]
  exact ⟨h.1, h.2.1⟩
theorem eX2_in {w : sm_W} (hn : w.1 = 1) (hs : wS w 0 = (7, 12)) : (eX2 w).1 = 67 ∧ wS (eX2 w) 0 = (7, 12) ∧ wR (eX2 w) 34 0 = some 35 ∧ wS (eX2 w) 34 = (0, 11) := by
  have h := cC1_in hn hs
  unfold eX2
  generalize cC1 w = u at *
  refine ⟨by rw [dy_n, wNw_n, h.1], st_S (by omega) h.2, dyR (by rw [wNw_n, h.1]), ?_⟩
  have := st_T (w := u) (ops := opsDay 34) (kd := 0) (sz := 11)
  rw [h.1] at this
  exact this
theorem cC2_in {w : sm_W} (hn : w.1 = 1) (hs : wS w 0 = (7, 12)) : (cC2 w).1 = 67 ∧ wS (cC2 w) 0 = (7, 12) := by
  have h := eX2_in hn hs
  unfold cC2
  rw [wsR_n, wsR_n, wS_wsR, wS_wsR]
  exact ⟨h.1, h.2.1⟩
theorem eX3_in {w : sm_W} (hn : w.1 = 1) (hs : wS w 0 = (7, 12)) : (eX3 w).1 = 75 ∧ wS (eX3 w) 0 = (7, 12) := by
  have h := cC2_in hn hs
  unfold eX3
  generalize cC2 w = u at *
  refine ⟨by rw [ln_n, wNw_n, h.1], st_S (by omega) h.2⟩
theorem cC3_in {w : sm_W} (hn : w.1 = 1) (hs : wS w 0 = (7, 12)) : (cC3 w).1 = 75 ∧ wS (cC3 w) 0 = (7, 12) := by
  have h := eX3_in hn hs
  unfold cC3
  rw [wsR_n, wS_wsR]
  exact ⟨h.1, h.2⟩
theorem eX4_in {w : sm_W} (hn : w.1 = 1) (hs : wS w 0 = (7, 12)) : (eX4 w).1 = 78 ∧ wS (eX4 w) 0 = (7, 12) := by
  have h := cC3_in hn hs
  unfold eX4
  generalize cC3 w = u at *
  refine ⟨by rw [on_X6, wNw_n, h.1], st_S (by omega) h.2⟩
theorem cC4_in {w : sm_W} (hn : w.1 = 1) (hs : wS w 0 = (7, 12)) : (cC4 w).1 = 78 ∧ wS (cC4 w) 0 = (7, 12) := by
  have h := eX4_in hn hs
  unfold cC4
  rw [wsR_n, wS_wsR]
  exact ⟨h.1, h.2⟩
theorem eX5_in {w : sm_W} (hn : w.1 = 1) (hs : wS w 0 = (7, 12)) : (eX5 w).1 = 80 ∧ wS (eX5 w) 0 = (7, 12) := by
  have h := cC4_in hn hs
  unfold eX5
  generalize cC4 w = u at *
  refine ⟨by rw [on_X3, wNw_n, h.1], st_S (by omega) h.2⟩
theorem cC5_in {w : sm_W} (hn : w.1 = 1) (hs : wS w 0 = (7, 12)) : (cC5 w).1 = 80 ∧ wS (cC5 w) 0 = (7, 12) := by
  have h := eX5_in hn hs
  unfold cC5
  rw [wsR_n, wS_wsR]
  exact ⟨h.1, h.2⟩
theorem eX6_in {w : sm_W} (hn : w.1 = 1) (hs : wS w 0 = (7, 12)) : (eX6 w).1 = 83 ∧ wS (eX6 w) 0 = (7, 12) := by
  have h := cC5_in hn hs
  unfold eX6
  generalize cC5 w = u at *
  refine ⟨by rw [on_X4, wNw_n, h.1], st_S (by omega) h.2⟩
theorem cC6_in {w : sm_W} (hn : w.1 = 1) (hs : wS w 0 = (7, 12)) : (cC6 w).1 = 83 ∧ wS (cC6 w) 0 = (7, 12) := by
  have h := eX6_in hn hs
  unfold cC6
  rw [wsR_n, wS_wsR]
  exact ⟨h.1, h.2⟩
theorem eX7_in {w : sm_W} (hn : w.1 = 1) (hs : wS w 0 = (7, 12)) : (eX7 w).1 = 86 ∧ wS (eX7 w) 0 = (7, 12) := by
  have h := cC6_in hn hs
  unfold eX7
  generalize cC6 w = u at *
  refine ⟨by rw [on_X5, wNw_n, h.1], st_S (by omega) h.2⟩
theorem cC7_in {w : sm_W} (hn : w.1 = 1) (hs : wS w 0 = (7, 12)) : (cC7 w).1 = 86 ∧ wS (cC7 w) 0 = (7, 12) := by
  have h := eX7_in hn hs
  unfold cC7
  rw [wsR_n, wS_wsR]
  exact ⟨h.1, h.2⟩
theorem eX8_in {w : sm_W} (hn : w.1 = 1) (hs : wS w 0 = (7, 12)) : (eX8 w).1 = 136 ∧ wS (eX8 w) 0 = (7, 12) := by
  have h := cC7_in hn hs
  unfold eX8
  generalize cC7 w = u at *
  refine ⟨hist_n _ (by rw [wNw_n, h.1]), st_S (by omega) h.2⟩
theorem cC8_in {w : sm_W} (hn : w.1 = 1) (hs : wS w 0 = (7, 12)) : (cC8 w).1 = 136 ∧ wS (cC8 w) 0 = (7, 12) := by
  have h := eX8_in hn hs
  unfold cC8
  rw [wsR_n, wS_wsR]
  exact ⟨h.1, h.2⟩
theorem cC9_in {w : sm_W} (hn : w.1 = 1) (hs : wS w 0 = (7, 12)) : (cC9 w).1 = 138 ∧ wS (cC9 w) 0 = (7, 12) ∧ wS (cC9 w) 136 = (12, 2) ∧ wR (cC9 w) 0 10 = some 136 := by
  have h8 := cC8_in hn hs
  unfold cC9
  generalize cC8 w = u at *
  refine ⟨?_, ?_, ?_, ?_⟩
  · rw [wsR_n, wNw_n, wsR_n, wNw_n, h8.1]
  · rw [wS_wsR, wS_wNw, if_neg (by rw [wsR_n, wNw_n]; omega), wS_wsR, wS_wNw, if_neg (by omega), h8.2]
  · rw [wS_wsR, wS_wNw, if_neg (by rw [wsR_n, wNw_n]; omega), wS_wsR, wS_wNw, if_pos h8.1.symm]
  · rw [wR_wsR, if_neg (by omega), wR_wNw, if_neg (by rw [wsR_n, wNw_n]; omega), wR_wsR, if_pos ⟨rfl, rfl⟩]
def p_X7_init : List sm_V → sm_W → Prop
  | [.inr (.inl a)], w => a = 0 ∧ w.1 = 1 ∧ wS w 0 = (7, 12)
  | _, _ => False
def f_X7_init : sm_F
  | [.inr (.inl a)], w => (none, cCtr w)
  | _, w => (none, w)
def tb_X7_init : List (Nat × List sm_O) := [(0, [oA 0, oObj, oA 0, oNew 0 11, oDup, oCi p_X0_init f_X0_init 32 255 1, oPr 7 12 0, oA 0, oA 0, oGr 7 12 0, oGr 0 11 0, oPr 7 12 1, oGo 26]),
  (26, [oA 0, oNew 0 11, oDup, oCi p_X0_init f_X0_init 32 255 1, oPr 7 12 2, oA 0, oA 0, oGr 7 12 2, oGr 0 11 0, oPr 7 12 3, oGo 48]),
  (48, [oA 0, oNew 2 9, oDup, oCi p_X2_init f_X2_init 7 55 1, oPr 7 12 4, oGo 59]),
  (59, [oA 0, oNew 6 2, oDup, oCi p_X6_init f_X6_init 2 12 1, oPr 7 12 5, oGo 70]),
  (70, [oA 0, oNew 3 2, oDup, oCi p_X3_init f_X3_init 1 64 1, oPr 7 12 6, oGo 81]),
  (81, [oA 0, oNew 4 3, oDup, oCi p_X4_init f_X4_init 2 10 1, oPr 7 12 7, oGo 92]),
  (92, [oA 0, oNew 5 5, oDup, oCi p_X5_init f_X5_init 2 85 1, oPr 7 12 8, oGo 103]),
  (103, [oA 0, oNew 1 2, oDup, oCi p_X1_init f_X1_init 49 390 1, oPr 7 12 9, oGo 114]),
  (114, [oA 0, oK 2, oNa 12, oPr 7 12 10, oA 0, oK 2, oNa 10, oPr 7 12 11, oK 0, oIs 1, oGo 131]),
  (131, [oI 1, oK 2, oGe 155, oA 0, oGr 7 12 10, oI 1, oNew 2 9, oDup, oCi p_X2_init f_X2_init 7 55 1, oRst, oInc 1 1, oGo 131]),
  (155, [oVr])]
set_option maxRecDepth 100000 in
theorem sb_X7_init_0 (l : Launch) : sm_SndB l RX7 "<init>" cX7_init 2 0 3 0 [oA 0, oObj, oA 0, oNew 0 11, oDup, oCi p_X0_init f_X0_init 32 255 1, oPr 7 12 0, oA 0, oA 0, oGr 7 12 0, oGr 0 11 0, oPr 7 12 1, oGo 26] := sb_cons (sd_aload_n (by decide +kernel : decode cX7_init 0 = .ok (.aload_n 0, 1)) rfl) (sb_cons (sd_obj (by decide) wm_19 wm_20 wm_21 (by decide +kernel : decode cX7_init 1 = .ok (.invokespecial 1, 3))) (sb_cons (sd_aload_n (by decide +kernel : decode cX7_init 4 = .ok (.aload_n 0, 1)) rfl) (sb_cons (sd_new kl_0 wm_22 wm_23 wm_2 (by decide +kernel : decode cX7_init 5 = .ok (.new 7, 3))) (sb_cons (sd_dup (by decide +kernel : decode cX7_init 8 = .ok (.dup, 1))) (sb_cons (sd_calliN (n := 0) (met_X0_init l) (by decide) (by decide) wm_25 (by decide +kernel) wm_2 ⟨by decide +kernel, by decide +kernel, by decide +kernel⟩ rfl wm_24 (by decide +kernel : decode cX7_init 9 = .ok (.invokespecial 9, 3))) (sb_cons (sd_putr (k := 0) kl_7 (by decide) rfl (fun _ => ⟨rfl, rfl⟩) (Or.inr ⟨rfl, rfl⟩) wm_145 (by decide +kernel : decode cX7_init 12 = .ok (.putfield 10, 3))) (sb_cons (sd_aload_n (by decide +kernel : decode cX7_init 15 = .ok (.aload_n 0, 1)) rfl) (sb_cons (sd_aload_n (by decide +kernel : decode cX7_init 16 = .ok (.aload_n 0, 1)) rfl) (sb_cons (sd_getr (k := 0) kl_7 (by decide) rfl wm_145 (by decide +kernel : decode cX7_init 17 = .ok (.getfield 10, 3))) (sb_cons (sd_getr (k := 0) kl_0 (by decide) rfl wm_69 (by decide +kernel : decode cX7_init 20 = .ok (.getfield 16, 3))) (sb_cons (sd_putr (k := 1) kl_7 (by decide) rfl (fun _ => ⟨rfl, rfl⟩) (Or.inr ⟨rfl, rfl⟩) wm_146 (by decide +kernel : decode cX7_init 23 = .ok (.putfield 20, 3))) (sb_cons (sd_fall (x := 0)) sb_nil))))))))))))
set_option maxRecDepth 100000 in
theorem sb_X7_init_26 (l : Launch) : sm_SndB l RX7 "<init>" cX7_init 2 0 3 26 [oA 0, oNew 0 11, oDup, oCi p_X0_init f_X0_init 32 255 1, oPr 7 12 2, oA 0, oA 0, oGr 7 12 2, oGr 0 11 0, oPr 7 12 3, oGo 48] := sb_cons (sd_aload_n (by decide +kernel : decode cX7_init 26 = .ok (.aload_n 0, 1)) rfl) (sb_cons (sd_new kl_0 wm_22 wm_23 wm_2 (by decide +kernel : decode cX7_init 27 = .ok (.new 7, 3))) (sb_cons (sd_dup (by decide +kernel : decode cX7_init 30 = .ok (.dup, 1))) (sb_cons (sd_calliN (n := 0) (met_X0_init l) (by decide) (by decide) wm_25 (by decide +kernel) wm_2 ⟨by decide +kernel, by decide +kernel, by decide +kernel⟩ rfl wm_24 (by decide +kernel : decode cX7_init 31 = .ok (.invokespecial 9, 3))) (sb_cons (sd_putr (k := 2) kl_7 (by decide) rfl (fun _ => ⟨rfl, rfl⟩) (Or.inr ⟨rfl, rfl⟩) wm_147 (by decide +kernel : decode cX7_init 34 = .ok (.putfield 21, 3))) (sb_cons (sd_aload_n (by decide +kernel : decode cX7_init 37 = .ok (.aload_n 0, 1)) rfl) (sb_cons (sd_aload_n (by decide +kernel : decode cX7_init 38 = .ok (.aload_n 0, 1)) rfl) (sb_cons (sd_getr (k := 2) kl_7 (by decide) rfl wm_147 (by decide +kernel : decode cX7_init 39 = .ok (.getfield 21, 3))) (sb_cons (sd_getr (k := 0) kl_0 (by decide) rfl wm_69 (by decide +kernel : decode cX7_init 42 = .ok (.getfield 16, 3))) (sb_cons (sd_putr (k := 3) kl_7 (by decide) rfl (fun _ => ⟨rfl, rfl⟩) (Or.inr ⟨rfl, rfl⟩) wm_148 (by decide +kernel : decode cX7_init 45 = .ok (.putfield 24, 3))) (sb_cons (sd_fall (x := 0)) sb_nil))))))))))
set_option maxRecDepth 100000 in
theorem sb_X7_init_48 (l : Launch) : sm_SndB l RX7 "<init>" cX7_init 2 0 3 48 [oA 0, oNew 2 9, oDup, oCi p_X2_init f_X2_init 7 55 1, oPr 7 12 4, oGo 59] := sb_cons (sd_aload_n (by decide +kernel : decode cX7_init 48 = .ok (.aload_n 0, 1)) rfl) (sb_cons (sd_new kl_2 wm_90 wm_29 wm_3 (by decide +kernel : decode cX7_init 49 = .ok (.new 27, 3))) (sb_cons (sd_dup (by decide +kernel : decode cX7_init 52 = .ok (.dup, 1))) (sb_cons (sd_calli (n := 0) (met_X2_init l) (by decide) (by decide) wm_32 wm_91 wm_3 ⟨by decide +kernel, by decide +kernel, by decide +kernel⟩ rfl wm_31 (by decide +kernel : decode cX7_init 53 = .ok (.invokespecial 29, 3))) (sb_cons (sd_putr (k := 4) kl_7 (by decide) rfl (fun _ => ⟨rfl, rfl⟩) (Or.inr ⟨rfl, rfl⟩) wm_149 (by decide +kernel : decode cX7_init 56 = .ok (.putfield 30, 3))) (sb_cons (sd_fall (x := 0)) sb_nil)))))
set_option maxRecDepth 100000 in
theorem sb_X7_init_59 (l : Launch) : sm_SndB l RX7 "<init>" cX7_init 2 0 3 59 [oA 0, oNew 6 2, oDup, oCi p_X6_init f_X6_init 2 12 1, oPr 7 12 5, oGo 70] := sb_cons (sd_aload_n (by decide +kernel : decode cX7_init 59 = .ok (.aload_n 0, 1)) rfl) (sb_cons (sd_new kl_6 wm_92 wm_93 wm_5 (by decide +kernel : decode cX7_init 60 = .ok (.new 33, 3))) (sb_cons (sd_dup (by decide +kernel : decode cX7_init 63 = .ok (.dup, 1))) (sb_cons (sd_calliN (n := 0) (met_X6_init l) (by decide) (by decide) wm_95 (by decide +kernel) wm_5 ⟨by decide +kernel, by decide +kernel, by decide +kernel⟩ rfl wm_94 (by decide +kernel : decode cX7_init 64 = .ok (.invokespecial 35, 3))) (sb_cons (sd_putr (k := 5) kl_7 (by decide) rfl (fun _ => ⟨rfl, rfl⟩) (Or.inr ⟨rfl, rfl⟩) wm_150 (by decide +kernel : decode cX7_init 67 = .ok (.putfield 36, 3))) (sb_cons (sd_fall (x := 0)) sb_nil)))))
set_option maxRecDepth 100000 in
theorem sb_X7_init_70 (l : Launch) : sm_SndB l RX7 "<init>" cX7_init 2 0 3 70 [oA 0, oNew 3 2, oDup, oCi p_X3_init f_X3_init 1 64 1, oPr 7 12 6, oGo 81] := sb_cons (sd_aload_n (by decide +kernel : decode cX7_init 70 = .ok (.aload_n 0, 1)) rfl) (sb_cons (sd_new kl_3 wm_100 wm_101 wm_6 (by decide +kernel : decode cX7_init 71 = .ok (.new 40, 3))) (sb_cons (sd_dup (by decide +kernel : decode cX7_init 74 = .ok (.dup, 1))) (sb_cons (sd_calliN (n := 0) (met_X3_init l) (by decide) (by decide) wm_103 (by decide +kernel) wm_6 ⟨by decide +kernel, by decide +kernel, by decide +kernel⟩ rfl wm_102 (by decide +kernel : decode cX7_init 75 = .ok (.invokespecial 42, 3))) (sb_cons (sd_putr (k := 6) kl_7 (by decide) rfl (fun _ => ⟨rfl, rfl⟩) (Or.inr ⟨rfl, rfl⟩) wm_151 (by decide +kernel : decode cX7_init 78 = .ok (.putfield 43, 3))) (sb_cons (sd_fall (x := 0)) sb_nil)))))
set_option maxRecDepth 100000 in
theorem sb_X7_init_81 (l : Launch) : sm_SndB l RX7 "<init>" cX7_init 2 0 3 81 [oA 0, oNew 4 3, oDup, oCi p_X4_init f_X4_init 2 10 1, oPr 7 12 7, oGo 92] := sb_cons (sd_aload_n (by decide +kernel : decode cX7_init 81 = .ok (.aload_n 0, 1)) rfl) (sb_cons (sd_new kl_4 wm_109 wm_110 wm_7 (by decide +kernel : decode cX7_init 82 = .ok (.new 47, 3))) (sb_cons (sd_dup (by decide +kernel : decode cX7_init 85 = .ok (.dup, 1))) (sb_cons (sd_calliN (n := 0) (met_X4_init l) (by decide) (by decide) wm_112 (by decide +kernel) wm_7 ⟨by decide +kernel, by decide +kernel, by decide +kernel⟩ rfl wm_111 (by decide +kernel : decode cX7_init 86 = .ok (.invokespecial 49, 3))) (sb_cons (sd_putr (k := 7) kl_7 (by decide) rfl (fun _ => ⟨rfl, rfl⟩) (Or.inr ⟨rfl, rfl⟩) wm_152 (by decide +kernel : decode cX7_init 89 = .ok (.putfield 50, 3))) (sb_cons (sd_fall (x := 0)) sb_nil)))))
set_option maxRecDepth 100000 in
theorem sb_X7_init_92 (l : Launch) : sm_SndB l RX7 "<init>" cX7_init 2 0 3 92 [oA 0, oNew 5 5, oDup, oCi p_X5_init f_X5_init 2 85 1, oPr 7 12 8, oGo 103] := sb_cons (sd_aload_n (by decide +kernel : decode cX7_init 92 = .ok (.aload_n 0, 1)) rfl) (sb_cons (sd_new kl_5 wm_120 wm_121 wm_8 (by decide +kernel : decode cX7_init 93 = .ok (.new 54, 3))) (sb_cons (sd_dup (by decide +kernel : decode cX7_init 96 = .ok (.dup, 1))) (sb_cons (sd_calliN (n := 0) (met_X5_init l) (by decide) (by decide) wm_123 (by decide +kernel) wm_8 ⟨by decide +kernel, by decide +kernel, by decide +kernel⟩ rfl wm_122 (by decide +kernel : decode cX7_init 97 = .ok (.invokespecial 56, 3))) (sb_cons (sd_putr (k := 8) kl_7 (by decide) rfl (fun _ => ⟨rfl, rfl⟩) (Or.inr ⟨rfl, rfl⟩) wm_153 (by decide +kernel : decode cX7_init 100 = .ok (.putfield 57, 3))) (sb_cons (sd_fall (x := 0)) sb_nil)))))
set_option maxRecDepth 100000 in
theorem sb_X7_init_103 (l : Launch) : sm_SndB l RX7 "<init>" cX7_init 2 0 3 103 [oA 0, oNew 1 2, oDup, oCi p_X1_init f_X1_init 49 390 1, oPr 7 12 9, oGo 114] := sb_cons (sd_aload_n (by decide +kernel : decode cX7_init 103 = .ok (.aload_n 0, 1)) rfl) (sb_cons (sd_new kl_1 wm_133 wm_134 wm_9 (by decide +kernel : decode cX7_init 104 = .ok (.new 61, 3))) (sb_cons (sd_dup (by decide +kernel : decode cX7_init 107 = .ok (.dup, 1))) (sb_cons (sd_calli (n := 0) (met_X1_init l) (by decide) (by decide) wm_137 wm_135 wm_9 ⟨by decide +kernel, by decide +kernel, by decide +kernel⟩ rfl wm_136 (by decide +kernel : decode cX7_init 108 = .ok (.invokespecial 63, 3))) (sb_cons (sd_putr (k := 9) kl_7 (by decide) rfl (fun _ => ⟨rfl, rfl⟩) (Or.inr ⟨rfl, rfl⟩) wm_154 (by decide +kernel : decode cX7_init 111 = .ok (.putfield 64, 3))) (sb_cons (sd_fall (x := 0)) sb_nil)))))
set_option maxRecDepth 100000 in
theorem sb_X7_init_114 (l : Launch) : sm_SndB l RX7 "<init>" cX7_init 2 0 3 114 [oA 0, oK 2, oNa 12, oPr 7 12 10, oA 0, oK 2, oNa 10, oPr 7 12 11, oK 0, oIs 1, oGo 131] := sb_cons (sd_aload_n (by decide +kernel : decode cX7_init 114 = .ok (.aload_n 0, 1)) rfl) (sb_cons (sd_iconst (by decide +kernel : decode cX7_init 115 = .ok (.iconst 2, 1)) ⟨by decide, by decide⟩) (sb_cons (sd_anew wm_90 (by decide +kernel : decode cX7_init 116 = .ok (.anewarray 27, 3))) (sb_cons (sd_putr (k := 10) kl_7 (by decide) rfl (fun _ => ⟨rfl, rfl⟩) (Or.inr ⟨rfl, rfl⟩) wm_155 (by decide +kernel : decode cX7_init 119 = .ok (.putfield 68, 3))) (sb_cons (sd_aload_n (by decide +kernel : decode cX7_init 122 = .ok (.aload_n 0, 1)) rfl) (sb_cons (sd_iconst (by decide +kernel : decode cX7_init 123 = .ok (.iconst 2, 1)) ⟨by decide, by decide⟩) (sb_cons (sd_newa_z wm_89 (by decide +kernel : decode cX7_init 124 = .ok (.newarray .boolean, 2))) (sb_cons (sd_putr (k := 11) kl_7 (by decide) rfl (fun _ => ⟨rfl, rfl⟩) (Or.inr ⟨rfl, rfl⟩) wm_156 (by decide +kernel : decode cX7_init 126 = .ok (.putfield 72, 3))) (sb_cons (sd_iconst (by decide +kernel : decode cX7_init 129 = .ok (.iconst 0, 1)) ⟨by decide, by decide⟩) (sb_cons (sd_istore_n (by decide +kernel : decode cX7_init 130 = .ok (.istore_n 1, 1)) rfl) (sb_cons (sd_fall (x := 0)) sb_nil))))))))))
set_option maxRecDepth 100000 in
theorem sb_X7_init_131 (l : Launch) : sm_SndB l RX7 "<init>" cX7_init 2 0 3 131 [oI 1, oK 2, oGe 155, oA 0, oGr 7 12 10, oI 1, oNew 2 9, oDup, oCi p_X2_init f_X2_init 7 55 1, oRst, oInc 1 1, oGo 131] := sb_cons (sd_iload_n (by decide +kernel : decode cX7_init 131 = .ok (.iload_n 1, 1)) rfl) (sb_cons (sd_iconst (by decide +kernel : decode cX7_init 132 = .ok (.iconst 2, 1)) ⟨by decide, by decide⟩) (sb_cons (sd_ge (by decide +kernel : decode cX7_init 133 = .ok (.if_icmp .ge 22, 3)) (by decide)) (sb_cons (sd_aload_n (by decide +kernel : decode cX7_init 136 = .ok (.aload_n 0, 1)) rfl) (sb_cons (sd_getr (k := 10) kl_7 (by decide) rfl wm_155 (by decide +kernel : decode cX7_init 137 = .ok (.getfield 68, 3))) (sb_cons (sd_iload_n (by decide +kernel : decode cX7_init 140 = .ok (.iload_n 1, 1)) rfl) (sb_cons (sd_new kl_2 wm_90 wm_29 wm_3 (by decide +kernel : decode cX7_init 141 = .ok (.new 27, 3))) (sb_cons (sd_dup (by decide +kernel : decode cX7_init 144 = .ok (.dup, 1))) (sb_cons (sd_calli (n := 0) (met_X2_init l) (by decide) (by decide) wm_32 wm_91 wm_3 ⟨by decide +kernel, by decide +kernel, by decide +kernel⟩ rfl wm_31 (by decide +kernel : decode cX7_init 145 = .ok (.invokespecial 29, 3))) (sb_cons (sd_aastore (by decide +kernel : decode cX7_init 148 = .ok (.aastore, 1))) (sb_cons (sd_iinc (by decide +kernel : decode cX7_init 149 = .ok (.iinc 1 1, 3))) (sb_cons (sd_goto (x := 0) (by decide +kernel : decode cX7_init 152 = .ok (.goto (-21), 3)) (by decide)) sb_nil)))))))))))
set_option maxRecDepth 100000 in
theorem sb_X7_init_155 (l : Launch) : sm_SndB l RX7 "<init>" cX7_init 2 0 3 155 [oVr] := sb_cons (sd_return (x := 0) rfl (by decide +kernel : decode cX7_init 155 = .ok (.return_, 1))) sb_nil
theorem sn_X7_init (l : Launch) : sm_SndT l RX7 "<init>" cX7_init 2 0 3 tb_X7_init := st_cons (sb_X7_init_0 l) (st_cons (sb_X7_init_26 l) (st_cons (sb_X7_init_48 l) (st_cons (sb_X7_init_59 l) (st_cons (sb_X7_init_70 l) (st_cons (sb_X7_init_81 l) (st_cons (sb_X7_init_92 l) (st_cons (sb_X7_init_103 l) (st_cons (sb_X7_init_114 l) (st_cons (sb_X7_init_131 l) (st_cons (sb_X7_init_155 l) (st_nil)))))))))))
set_option maxRecDepth 100000 in
set_option maxHeartbeats 4000000 in
theorem ok_X7_init : sm_Ok tb_X7_init 2 153 1303 p_X7_init f_X7_init := by
  intro as w hp ha hw
  match as, hp with
  | [.inr (.inl a)], hp =>
  refine ⟨Nat.le_of_ble_eq_true rfl, fun Z hZ => ?_⟩
  obtain ⟨rfl, hn, hs⟩ := hp
  have hE : cCtr w = iW (opsLns 138 136 2) (cC9 w) := by unfold cCtr; rfl
  obtain ⟨a9, s9, t9, r9⟩ := cC9_in hn hs
  have b1 := eX1_in hn hs
  have b2 := eX2_in hn hs
  have b3 := eX3_in hn hs
  have b4 := eX4_in hn hs
  have b5 := eX5_in hn hs
  have b6 := eX6_in hn hs
  have b7 := eX7_in hn hs
  have b8 := eX8_in hn hs
  have d1 := cC1_in hn hs
  have d2 := cC2_in hn hs
  have d3 := cC3_in hn hs
  have d4 := cC4_in hn hs
  have d5 := cC5_in hn hs
  have d6 := cC6_in hn hs
  have d7 := cC7_in hn hs
  have d8 := cC8_in hn hs
  generalize hEe : cCtr w = E at *
  have main : ∀ n s : Nat, s + n = 2 → Z 131 [some (.inr (.inl 0)), some (.inl (s : Int))] [] (iW (opsLns 138 136 s) (cC9 w)) (137 + 8 * s) (1175 + 64 * s) := by
    intro n
    induction n with
    | zero =>
      intro s hsn
      have hs6 : s = 2 := by omega
      subst hs6
      rw [← hE]
      refine hZ (fun u => Nat.beq u 131) 14 131 _ _ _ _ _ ?_
      simp only [sm_run, sm_blk, sm_get, sm_ent, sm_ents, sm_wds, sm_wd, sm_nl, sm_pop, sm_back, sm_cases, oK, oLK, oL, oI, oA, oJ, oIs, oAs, oJs, oInc, oAdd, oSub, oMul, oDiv, oRem, oNeg, oAnd, oAndB, oOr, oShl, oI2c, oI2l, oL2i, oLand, oLor, oLshl, oLshr, oLushr, oLcmp, oDup, oDup2, oPop, oGo, oFg, oEq, oNe, oLt, oGe, oGt, oLe, oEq0, oNe0, oLt0, oGe0, oGt0, oLe0, oSw, oGi, oGr, oPi, oPz, oPr, oLen, oIl, oZl, oCl, oRl, oIst, oZst, oCst, oRst, oCopy, oNew, oNa, oNa2, oObj, oCs, oCv, oCi, oIr, oZr, oVr, Nat.beq, List.getElem?_cons_zero, List.getElem?_cons_succ, List.set_cons_zero, List.set_cons_succ, List.length_cons, List.length_nil, List.nil_append, List.cons_append, List.append_nil, List.replicate_succ, List.replicate_zero, Nat.reduceAdd, Nat.reduceSub, Nat.reduceLT, Nat.reduceLeDiff, Nat.reduceBEq, true_and, and_true, Nat.zero_add, Nat.add_zero, Nat.le_refl, Option.some.injEq, exists_eq_left', true_or, or_true, or_false, false_or, reduceCtorEq, Prod.mk.injEq, Sum.inl.injEq, and_self, false_and, and_false, not_true_eq_false, not_false_eq_true, false_implies, true_implies, sm_r, Int.add_zero, Int.zero_add, wI_wsI, wS_wsI, wR_wsI, wI_wCp, wS_wCp, wR_wCp, Nat.reduceEqDiff, reduceIte, sT_iff, sT_iffC, wIf_ne, ne_eq, Bool.false_or, Bool.true_or, Bool.or_false, Bool.or_true, Bool.or_self, Nat.left_eq_add, Nat.add_eq_left, Nat.add_left_inj, oMax, oMin, oAbs, tb_X7_init, p_X0_init, p_X1_init, p_X2_init, p_X3_init, p_X4_init, p_X5_init, p_X6_init, f_X0_init, f_X1_init, f_X2_init, f_X3_init, f_X4_init, f_X5_init, f_X6_init, p_X7_init, f_X7_init, hEe]
      repeat' (first | exact True.intro | with_reducible assumption | with_reducible refine And.intro ?_ ?_ | intro _)
      all_goals first
        | omega
        | assumption
        | rfl
        | (split <;> omega)
        | (have k9 := ih (by omega)
           (repeat' split at k9) <;> first | exact k9 | omega)
        | (have k9 := ih2 (by omega)
           (repeat' split at k9) <;> first | exact k9 | omega)
        | exact he (by omega)
        | ((with_reducible congr 1) <;> omega)
        | (rw [if_pos (by omega)] at he; exact he)
        | exact hD1 (by omega)
        | exact hD2 (by omega)
        | grind
        | skip
    | succ n ihn =>
      intro s hsn
      have ih := ihn (s + 1) (by omega)
      clear ihn
      have hin := lns_in 138 136 (cC9 w) a9 (by decide) s
      rw [lns_s, show 137 + 8 * (s + 1) = 137 + 8 * s + 1 + 7 by omega, show 1175 + 64 * (s + 1) = 1175 + 64 * s + 9 + 55 by omega, show ((s + 1 : Nat) : Int) = (s : Int) + 1 by omega] at ih
      have g86 : wS (iW (opsLns 138 136 s) (cC9 w)) 0 = (7, 12) := (hin.2.1 0 (by decide)).trans s9
      have g87 : wS (iW (opsLns 138 136 s) (cC9 w)) 136 = (12, 2) := (hin.2.1 136 (by decide)).trans t9
      have gr : wR (iW (opsLns 138 136 s) (cC9 w)) 0 10 = some 136 := (hin.2.2 0 10 (by decide) (by decide)).trans r9
      have gn := hin.1
      clear hE
      generalize iW (opsLns 138 136 s) (cC9 w) = u at *
      have v1 : (wNw u 2 9).1 = 138 + 8 * s + 1 := by rw [wNw_n, gn]
      have vS : wS (wNw u 2 9) (138 + 8 * s) = (2, 9) := by rw [wS_wNw, if_pos gn.symm]
      have v86 : wS (wNw u 2 9) 0 = (7, 12) := by rw [wS_wNw, if_neg (by omega), g86]
      have v87 : wS (wNw u 2 9) 136 = (12, 2) := by rw [wS_wNw, if_neg (by omega), g87]
      have vr : wR (wNw u 2 9) 0 10 = some 136 := by rw [wR_wNw, if_neg (by omega), gr]
      have x87 : wS (iW (opsLine (138 + 8 * s)) (wNw u 2 9)) 136 = (12, 2) := (lnS (by omega)).trans v87
      have xS : wS (iW (opsLine (138 + 8 * s)) (wNw u 2 9)) (138 + 8 * s) = (2, 9) := (lnS (by omega)).trans vS
      refine hZ (fun u => Nat.beq u 131) 14 131 _ _ _ _ _ ?_
      simp only [sm_run, sm_blk, sm_get, sm_ent, sm_ents, sm_wds, sm_wd, sm_nl, sm_pop, sm_back, sm_cases, oK, oLK, oL, oI, oA, oJ, oIs, oAs, oJs, oInc, oAdd, oSub, oMul, oDiv, oRem, oNeg, oAnd, oAndB, oOr, oShl, oI2c, oI2l, oL2i, oLand, oLor, oLshl, oLshr, oLushr, oLcmp, oDup, oDup2, oPop, oGo, oFg, oEq, oNe, oLt, oGe, oGt, oLe, oEq0, oNe0, oLt0, oGe0, oGt0, oLe0, oSw, oGi, oGr, oPi, oPz, oPr, oLen, oIl, oZl, oCl, oRl, oIst, oZst, oCst, oRst, oCopy, oNew, oNa, oNa2, oObj, oCs, oCv, oCi, oIr, oZr, oVr, Nat.beq, List.getElem?_cons_zero, List.getElem?_cons_succ, List.set_cons_zero, List.set_cons_succ, List.length_cons, List.length_nil, List.nil_append, List.cons_append, List.append_nil, List.replicate_succ, List.replicate_zero, Nat.reduceAdd, Nat.reduceSub, Nat.reduceLT, Nat.reduceLeDiff, Nat.reduceBEq, true_and, and_true, Nat.zero_add, Nat.add_zero, Nat.le_refl, Option.some.injEq, exists_eq_left', true_or, or_true, or_false, false_or, reduceCtorEq, Prod.mk.injEq, Sum.inl.injEq, and_self, false_and, and_false, not_true_eq_false, not_false_eq_true, false_implies, true_implies, sm_r, Int.add_zero, Int.zero_add, wI_wsI, wS_wsI, wR_wsI, wI_wCp, wS_wCp, wR_wCp, Nat.reduceEqDiff, reduceIte, sT_iff, sT_iffC, wIf_ne, ne_eq, Bool.false_or, Bool.true_or, Bool.or_false, Bool.or_true, Bool.or_self, Nat.left_eq_add, Nat.add_eq_left, Nat.add_left_inj, oMax, oMin, oAbs, tb_X7_init, p_X0_init, p_X1_init, p_X2_init, p_X3_init, p_X4_init, p_X5_init, p_X6_init, f_X0_init, f_X1_init, f_X2_init, f_X3_init, f_X4_init, f_X5_init, f_X6_init, p_X7_init, f_X7_init, g86, gr, gn, v1, vS, x87, xS]
      repeat' (first | exact True.intro | with_reducible assumption | with_reducible refine And.intro ?_ ?_ | intro _)
      all_goals first
        | omega
        | assumption
        | rfl
        | (split <;> omega)
        | (have k9 := ih (by omega)
           (repeat' split at k9) <;> first | exact k9 | omega)
        | (have k9 := ih2 (by omega)
           (repeat' split at k9) <;> first | exact k9 | omega)
        | exact he (by omega)
        | ((with_reducible congr 1) <;> omega)
        | (rw [if_pos (by omega)] at he; exact he)
        | exact hD1 (by omega)
        | exact hD2 (by omega)
        | grind
        | skip
  have z9 := main 2 0 rfl
  have z9 : Z 131 [some (.inr (.inl 0)), some (.inl 0)] [] (cC9 w) 137 1175 := z9
  clear main hE
  have z8 : Z 114 [some (.inr (.inl 0)), none] [] (cC8 w) 135 1171 := by
    unfold cC9 at z9
    generalize cC8 w = u at *
    clear hEe
    obtain ⟨u1, uS⟩ := d8
    refine hZ (fun u => Nat.beq u 114 || Nat.beq u 131) 14 114 _ _ _ _ _ ?_
    simp only [sm_run, sm_blk, sm_get, sm_ent, sm_ents, sm_wds, sm_wd, sm_nl, sm_pop, sm_back, sm_cases, oK, oLK, oL, oI, oA, oJ, oIs, oAs, oJs, oInc, oAdd, oSub, oMul, oDiv, oRem, oNeg, oAnd, oAndB, oOr, oShl, oI2c, oI2l, oL2i, oLand, oLor, oLshl, oLshr, oLushr, oLcmp, oDup, oDup2, oPop, oGo, oFg, oEq, oNe, oLt, oGe, oGt, oLe, oEq0, oNe0, oLt0, oGe0, oGt0, oLe0, oSw, oGi, oGr, oPi, oPz, oPr, oLen, oIl, oZl, oCl, oRl, oIst, oZst, oCst, oRst, oCopy, oNew, oNa, oNa2, oObj, oCs, oCv, oCi, oIr, oZr, oVr, Nat.beq, List.getElem?_cons_zero, List.getElem?_cons_succ, List.set_cons_zero, List.set_cons_succ, List.length_cons, List.length_nil, List.nil_append, List.cons_append, List.append_nil, List.replicate_succ, List.replicate_zero, Nat.reduceAdd, Nat.reduceSub, Nat.reduceLT, Nat.reduceLeDiff, Nat.reduceBEq, true_and, and_true, Nat.zero_add, Nat.add_zero, Nat.le_refl, Option.some.injEq, exists_eq_left', true_or, or_true, or_false, false_or, reduceCtorEq, Prod.mk.injEq, Sum.inl.injEq, and_self, false_and, and_false, not_true_eq_false, not_false_eq_true, false_implies, true_implies, sm_r, Int.add_zero, Int.zero_add, wI_wsI, wS_wsI, wR_wsI, wI_wCp, wS_wCp, wR_wCp, Nat.reduceEqDiff, reduceIte, sT_iff, sT_iffC, wIf_ne, ne_eq, Bool.false_or, Bool.true_or, Bool.or_false, Bool.or_true, Bool.or_self, Nat.left_eq_add, Nat.add_eq_left, Nat.add_left_inj, oMax, oMin, oAbs, tb_X7_init, p_X0_init, p_X1_init, p_X2_init, p_X3_init, p_X4_init, p_X5_init, p_X6_init, f_X0_init, f_X1_init, f_X2_init, f_X3_init, f_X4_init, f_X5_init, f_X6_init, p_X7_init, f_X7_init, u1, uS, wsR_n, wNw_n, wS_wNw, wR_wNw, wS_wsR, wR_wsR, Nat.reduceAdd, Int.reduceToNat, Int.reduceEq, Nat.reduceEqDiff]
    repeat' (first | exact True.intro | with_reducible assumption | with_reducible refine And.intro ?_ ?_ | intro _)
    all_goals first
      | omega
      | assumption
      | rfl
      | (split <;> omega)
      | (have k9 := ih (by omega)
         (repeat' split at k9) <;> first | exact k9 | omega)
      | (have k9 := ih2 (by omega)
         (repeat' split at k9) <;> first | exact k9 | omega)
      | exact he (by omega)
      | ((with_reducible congr 1) <;> omega)
      | (rw [if_pos (by omega)] at he; exact he)
      | exact hD1 (by omega)
      | exact hD2 (by omega)
      | skip
  have z7 : Z 103 [some (.inr (.inl 0)), none] [] (cC7 w) 85 779 := by
    unfold cC8 eX8 at z8
    unfold eX8 at b8
    generalize cC7 w = u at *
    clear hEe
    obtain ⟨u1, uS⟩ := d7
    obtain ⟨x1, xS⟩ := b8
    refine hZ (fun u => Nat.beq u 103 || Nat.beq u 114) 14 103 _ _ _ _ _ ?_
    simp only [sm_run, sm_blk, sm_get, sm_ent, sm_ents, sm_wds, sm_wd, sm_nl, sm_pop, sm_back, sm_cases, oK, oLK, oL, oI, oA, oJ, oIs, oAs, oJs, oInc, oAdd, oSub, oMul, oDiv, oRem, oNeg, oAnd, oAndB, oOr, oShl, oI2c, oI2l, oL2i, oLand, oLor, oLshl, oLshr, oLushr, oLcmp, oDup, oDup2, oPop, oGo, oFg, oEq, oNe, oLt, oGe, oGt, oLe, oEq0, oNe0, oLt0, oGe0, oGt0, oLe0, oSw, oGi, oGr, oPi, oPz, oPr, oLen, oIl, oZl, oCl, oRl, oIst, oZst, oCst, oRst, oCopy, oNew, oNa, oNa2, oObj, oCs, oCv, oCi, oIr, oZr, oVr, Nat.beq, List.getElem?_cons_zero, List.getElem?_cons_succ, List.set_cons_zero, List.set_cons_succ, List.length_cons, List.length_nil, List.nil_append, List.cons_append, List.append_nil, List.replicate_succ, List.replicate_zero, Nat.reduceAdd, Nat.reduceSub, Nat.reduceLT, Nat.reduceLeDiff, Nat.reduceBEq, true_and, and_true, Nat.zero_add, Nat.add_zero, Nat.le_refl, Option.some.injEq, exists_eq_left', true_or, or_true, or_false, false_or, reduceCtorEq, Prod.mk.injEq, Sum.inl.injEq, and_self, false_and, and_false, not_true_eq_false, not_false_eq_true, false_implies, true_implies, sm_r, Int.add_zero, Int.zero_add, wI_wsI, wS_wsI, wR_wsI, wI_wCp, wS_wCp, wR_wCp, Nat.reduceEqDiff, reduceIte, sT_iff, sT_iffC, wIf_ne, ne_eq, Bool.false_or, Bool.true_or, Bool.or_false, Bool.or_true, Bool.or_self, Nat.left_eq_add, Nat.add_eq_left, Nat.add_left_inj, oMax, oMin, oAbs, tb_X7_init, p_X0_init, p_X1_init, p_X2_init, p_X3_init, p_X4_init, p_X5_init, p_X6_init, f_X0_init, f_X1_init, f_X2_init, f_X3_init, f_X4_init, f_X5_init, f_X6_init, p_X7_init, f_X7_init, u1, uS, x1, xS, wsR_n, wNw_n, wS_wNw, wR_wNw, wS_wsR, wR_wsR, Nat.reduceAdd, Int.reduceToNat, Int.reduceEq, Nat.reduceEqDiff]
    repeat' (first | exact True.intro | with_reducible assumption | with_reducible refine And.intro ?_ ?_ | intro _)
    all_goals first
      | omega
      | assumption
      | rfl
      | (split <;> omega)
      | (have k9 := ih (by omega)
         (repeat' split at k9) <;> first | exact k9 | omega)
      | (have k9 := ih2 (by omega)
         (repeat' split at k9) <;> first | exact k9 | omega)
      | exact he (by omega)
      | ((with_reducible congr 1) <;> omega)
      | (rw [if_pos (by omega)] at he; exact he)
      | exact hD1 (by omega)
      | exact hD2 (by omega)
      | skip
  have z6 : Z 92 [some (.inr (.inl 0)), none] [] (cC6 w) 82 689 := by
    unfold cC7 eX7 at z7
    unfold eX7 at b7
    generalize cC6 w = u at *
    clear hEe
    obtain ⟨u1, uS⟩ := d6
    obtain ⟨x1, xS⟩ := b7
    refine hZ (fun u => Nat.beq u 92 || Nat.beq u 103) 14 92 _ _ _ _ _ ?_
    simp only [sm_run, sm_blk, sm_get, sm_ent, sm_ents, sm_wds, sm_wd, sm_nl, sm_pop, sm_back, sm_cases, oK, oLK, oL, oI, oA, oJ, oIs, oAs, oJs, oInc, oAdd, oSub, oMul, oDiv, oRem, oNeg, oAnd, oAndB, oOr, oShl, oI2c, oI2l, oL2i, oLand, oLor, oLshl, oLshr, oLushr, oLcmp, oDup, oDup2, oPop, oGo, oFg, oEq, oNe, oLt, oGe, oGt, oLe, oEq0, oNe0, oLt0, oGe0, oGt0, oLe0, oSw, oGi, oGr, oPi, oPz, oPr, oLen, oIl, oZl, oCl, oRl, oIst, oZst, oCst, oRst, oCopy, oNew, oNa, oNa2, oObj, oCs, oCv, oCi, oIr, oZr, oVr, Nat.beq, List.getElem?_cons_zero, List.getElem?_cons_succ, List.set_cons_zero, List.set_cons_succ, List.length_cons, List.length_nil, List.nil_append, List.cons_append, List.append_nil, List.replicate_succ, List.replicate_zero, Nat.reduceAdd, Nat.reduceSub, Nat.reduceLT, Nat.reduceLeDiff, Nat.reduceBEq, true_and, and_true, Nat.zero_add, Nat.add_zero, Nat.le_refl, Option.some.injEq, exists_eq_left', true_or, or_true, or_false, false_or, reduceCtorEq, Prod.mk.injEq, Sum.inl.injEq, and_self, false_and, and_false, not_true_eq_false, not_false_eq_true, false_implies, true_implies, sm_r, Int.add_zero, Int.zero_add, wI_wsI, wS_wsI, wR_wsI, wI_wCp, wS_wCp, wR_wCp, Nat.reduceEqDiff, reduceIte, sT_iff, sT_iffC, wIf_ne, ne_eq, Bool.false_or, Bool.true_or, Bool.or_false, Bool.or_true, Bool.or_self, Nat.left_eq_add, Nat.add_eq_left, Nat.add_left_inj, oMax, oMin, oAbs, tb_X7_init, p_X0_init, p_X1_init, p_X2_init, p_X3_init, p_X4_init, p_X5_init, p_X6_init, f_X0_init, f_X1_init, f_X2_init, f_X3_init, f_X4_init, f_X5_init, f_X6_init, p_X7_init, f_X7_init, u1, uS, x1, xS, wsR_n, wNw_n, wS_wNw, wR_wNw, wS_wsR, wR_wsR, Nat.reduceAdd, Int.reduceToNat, Int.reduceEq, Nat.reduceEqDiff]
    repeat' (first | exact True.intro | with_reducible assumption | with_reducible refine And.intro ?_ ?_ | intro _)
    all_goals first
      | omega
      | assumption
      | rfl
      | (split <;> omega)
      | (have k9 := ih (by omega)
         (repeat' split at k9) <;> first | exact k9 | omega)
      | (have k9 := ih2 (by omega)
         (repeat' split at k9) <;> first | exact k9 | omega)
      | exact he (by omega)
      | ((with_reducible congr 1) <;> omega)
      | (rw [if_pos (by omega)] at he; exact he)
      | exact hD1 (by omega)
      | exact hD2 (by omega)
      | skip
  have z5 : Z 81 [some (.inr (.inl 0)), none] [] (cC5 w) 79 676 := by
    unfold cC6 eX6 at z6
    unfold eX6 at b6
    generalize cC5 w = u at *
    clear hEe
    obtain ⟨u1, uS⟩ := d5
    obtain ⟨x1, xS⟩ := b6
    refine hZ (fun u => Nat.beq u 81 || Nat.beq u 92) 14 81 _ _ _ _ _ ?_
    simp only [sm_run, sm_blk, sm_get, sm_ent, sm_ents, sm_wds, sm_wd, sm_nl, sm_pop, sm_back, sm_cases, oK, oLK, oL, oI, oA, oJ, oIs, oAs, oJs, oInc, oAdd, oSub, oMul, oDiv, oRem, oNeg, oAnd, oAndB, oOr, oShl, oI2c, oI2l, oL2i, oLand, oLor, oLshl, oLshr, oLushr, oLcmp, oDup, oDup2, oPop, oGo, oFg, oEq, oNe, oLt, oGe, oGt, oLe, oEq0, oNe0, oLt0, oGe0, oGt0, oLe0, oSw, oGi, oGr, oPi, oPz, oPr, oLen, oIl, oZl, oCl, oRl, oIst, oZst, oCst, oRst, oCopy, oNew, oNa, oNa2, oObj, oCs, oCv, oCi, oIr, oZr, oVr, Nat.beq, List.getElem?_cons_zero, List.getElem?_cons_succ, List.set_cons_zero, List.set_cons_succ, List.length_cons, List.length_nil, List.nil_append, List.cons_append, List.append_nil, List.replicate_succ, List.replicate_zero, Nat.reduceAdd, Nat.reduceSub, Nat.reduceLT, Nat.reduceLeDiff, Nat.reduceBEq, true_and, and_true, Nat.zero_add, Nat.add_zero, Nat.le_refl, Option.some.injEq, exists_eq_left', true_or, or_true, or_false, false_or, reduceCtorEq, Prod.mk.injEq, Sum.inl.injEq, and_self, false_and, and_false, not_true_eq_false, not_false_eq_true, false_implies, true_implies, sm_r, Int.add_zero, Int.zero_add, wI_wsI, wS_wsI, wR_wsI, wI_wCp, wS_wCp, wR_wCp, Nat.reduceEqDiff, reduceIte, sT_iff, sT_iffC, wIf_ne, ne_eq, Bool.false_or, Bool.true_or, Bool.or_false, Bool.or_true, Bool.or_self, Nat.left_eq_add, Nat.add_eq_left, Nat.add_left_inj, oMax, oMin, oAbs, tb_X7_init, p_X0_init, p_X1_init, p_X2_init, p_X3_init, p_X4_init, p_X5_init, p_X6_init, f_X0_init, f_X1_init, f_X2_init, f_X3_init, f_X4_init, f_X5_init, f_X6_init, p_X7_init, f_X7_init, u1, uS, x1, xS, wsR_n, wNw_n, wS_wNw, wR_wNw, wS_wsR, wR_wsR, Nat.reduceAdd, Int.reduceToNat, Int.reduceEq, Nat.reduceEqDiff]
    repeat' (first | exact True.intro | with_reducible assumption | with_reducible refine And.intro ?_ ?_ | intro _)
    all_goals first
      | omega
      | assumption
      | rfl
      | (split <;> omega)
      | (have k9 := ih (by omega)
         (repeat' split at k9) <;> first | exact k9 | omega)
      | (have k9 := ih2 (by omega)
         (repeat' split at k9) <;> first | exact k9 | omega)
      | exact he (by omega)
      | ((with_reducible congr 1) <;> omega)
      | (rw [if_pos (by omega)] at he; exact he)
      | exact hD1 (by omega)
      | exact hD2 (by omega)
      | skip
  have z4 : Z 70 [some (.inr (.inl 0)), none] [] (cC4 w) 77 610 := by
    unfold cC5 eX5 at z5
    unfold eX5 at b5
    generalize cC4 w = u at *
    clear hEe
    obtain ⟨u1, uS⟩ := d4
    obtain ⟨x1, xS⟩ := b5
    refine hZ (fun u => Nat.beq u 70 || Nat.beq u 81) 14 70 _ _ _ _ _ ?_
    simp only [sm_run, sm_blk, sm_get, sm_ent, sm_ents, sm_wds, sm_wd, sm_nl, sm_pop, sm_back, sm_cases, oK, oLK, oL, oI, oA, oJ, oIs, oAs, oJs, oInc, oAdd, oSub, oMul, oDiv, oRem, oNeg, oAnd, oAndB, oOr, oShl, oI2c, oI2l, oL2i, oLand, oLor, oLshl, oLshr, oLushr, oLcmp, oDup, oDup2, oPop, oGo, oFg, oEq, oNe, oLt, oGe, oGt, oLe, oEq0, oNe0, oLt0, oGe0, oGt0, oLe0, oSw, oGi, oGr, oPi, oPz, oPr, oLen, oIl, oZl, oCl, oRl, oIst, oZst, oCst, oRst, oCopy, oNew, oNa, oNa2, oObj, oCs, oCv, oCi, oIr, oZr, oVr, Nat.beq, List.getElem?_cons_zero, List.getElem?_cons_succ, List.set_cons_zero, List.set_cons_succ, List.length_cons, List.length_nil, List.nil_append, List.cons_append, List.append_nil, List.replicate_succ, List.replicate_zero, Nat.reduceAdd, Nat.reduceSub, Nat.reduceLT, Nat.reduceLeDiff, Nat.reduceBEq, true_and, and_true, Nat.zero_add, Nat.add_zero, Nat.le_refl, Option.some.injEq, exists_eq_left', true_or, or_true, or_false, false_or, reduceCtorEq, Prod.mk.injEq, Sum.inl.injEq, and_self, false_and, and_false, not_true_eq_false, not_false_eq_true, false_implies, true_implies, sm_r, Int.add_zero, Int.zero_add, wI_wsI, wS_wsI, wR_wsI, wI_wCp, wS_wCp, wR_wCp, Nat.reduceEqDiff, reduceIte, sT_iff, sT_iffC, wIf_ne, ne_eq, Bool.false_or, Bool.true_or, Bool.or_false, Bool.or_true, Bool.or_self, Nat.left_eq_add, Nat.add_eq_left, Nat.add_left_inj, oMax, oMin, oAbs, tb_X7_init, p_X0_init, p_X1_init, p_X2_init, p_X3_init, p_X4_init, p_X5_init, p_X6_init, f_X0_init, f_X1_init, f_X2_init, f_X3_init, f_X4_init, f_X5_init, f_X6_init, p_X7_init, f_X7_init, u1, uS, x1, xS, wsR_n, wNw_n, wS_wNw, wR_wNw, wS_wsR, wR_wsR, Nat.reduceAdd, Int.reduceToNat, Int.reduceEq, Nat.reduceEqDiff]
    repeat' (first | exact True.intro | with_reducible assumption | with_reducible refine And.intro ?_ ?_ | intro _)
    all_goals first
      | omega
      | assumption
      | rfl
      | (split <;> omega)
      | (have k9 := ih (by omega)
         (repeat' split at k9) <;> first | exact k9 | omega)
      | (have k9 := ih2 (by omega)
         (repeat' split at k9) <;> first | exact k9 | omega)
      | exact he (by omega)
      | ((with_reducible congr 1) <;> omega)
      | (rw [if_pos (by omega)] at he; exact he)
      | exact hD1 (by omega)
      | exact hD2 (by omega)
      | skip
  have z3 : Z 59 [some (.inr (.inl 0)), none] [] (cC3 w) 74 596 := by
    unfold cC4 eX4 at z4
    unfold eX4 at b4
    generalize cC3 w = u at *
    clear hEe
    obtain ⟨u1, uS⟩ := d3
    obtain ⟨x1, xS⟩ := b4
    refine hZ (fun u => Nat.beq u 59 || Nat.beq u 70) 14 59 _ _ _ _ _ ?_
    simp only [sm_run, sm_blk, sm_get, sm_ent, sm_ents, sm_wds, sm_wd, sm_nl, sm_pop, sm_back, sm_cases, oK, oLK, oL, oI, oA, oJ, oIs, oAs, oJs, oInc, oAdd, oSub, oMul, oDiv, oRem, oNeg, oAnd, oAndB, oOr, oShl, oI2c, oI2l, oL2i, oLand, oLor, oLshl, oLshr, oLushr, oLcmp, oDup, oDup2, oPop, oGo, oFg, oEq, oNe, oLt, oGe, oGt, oLe, oEq0, oNe0, oLt0, oGe0, oGt0, oLe0, oSw, oGi, oGr, oPi, oPz, oPr, oLen, oIl, oZl, oCl, oRl, oIst, oZst, oCst, oRst, oCopy, oNew, oNa, oNa2, oObj, oCs, oCv, oCi, oIr, oZr, oVr, Nat.beq, List.getElem?_cons_zero, List.getElem?_cons_succ, List.set_cons_zero, List.set_cons_succ, List.length_cons, List.length_nil, List.nil_append, List.cons_append, List.append_nil, List.replicate_succ, List.replicate_zero, Nat.reduceAdd, Nat.reduceSub, Nat.reduceLT, Nat.reduceLeDiff, Nat.reduceBEq, true_and, and_true, Nat.zero_add, Nat.add_zero, Nat.le_refl, Option.some.injEq, exists_eq_left', true_or, or_true, or_false, false_or, reduceCtorEq, Prod.mk.injEq, Sum.inl.injEq, and_self, false_and, and_false, not_true_eq_false, not_false_eq_true, false_implies, true_implies, sm_r, Int.add_zero, Int.zero_add, wI_wsI, wS_wsI, wR_wsI, wI_wCp, wS_wCp, wR_wCp, Nat.reduceEqDiff, reduceIte, sT_iff, sT_iffC, wIf_ne, ne_eq, Bool.false_or, Bool.true_or, Bool.or_false, Bool.or_true, Bool.or_self, Nat.left_eq_add, Nat.add_eq_left, Nat.add_left_inj, oMax, oMin, oAbs, tb_X7_init, p_X0_init, p_X1_init, p_X2_init, p_X3_init, p_X4_init, p_X5_init, p_X6_init, f_X0_init, f_X1_init, f_X2_init, f_X3_init, f_X4_init, f_X5_init, f_X6_init, p_X7_init, f_X7_init, u1, uS, x1, xS, wsR_n, wNw_n, wS_wNw, wR_wNw, wS_wsR, wR_wsR, Nat.reduceAdd, Int.reduceToNat, Int.reduceEq, Nat.reduceEqDiff]
    repeat' (first | exact True.intro | with_reducible assumption | with_reducible refine And.intro ?_ ?_ | intro _)
    all_goals first
      | omega
      | assumption
      | rfl
      | (split <;> omega)
      | (have k9 := ih (by omega)
         (repeat' split at k9) <;> first | exact k9 | omega)
      | (have k9 := ih2 (by omega)
         (repeat' split at k9) <;> first | exact k9 | omega)
      | exact he (by omega)
      | ((with_reducible congr 1) <;> omega)
      | (rw [if_pos (by omega)] at he; exact he)
      | exact hD1 (by omega)
      | exact hD2 (by omega)
      | skip
  have z2 : Z 48 [some (.inr (.inl 0)), none] [] (cC2 w) 66 532 := by
    unfold cC3 eX3 at z3
    unfold eX3 at b3
    generalize cC2 w = u at *
    clear hEe
    obtain ⟨u1, uS⟩ := d2
    obtain ⟨x1, xS⟩ := b3
    refine hZ (fun u => Nat.beq u 48 || Nat.beq u 59) 14 48 _ _ _ _ _ ?_
    simp only [sm_run, sm_blk, sm_get, sm_ent, sm_ents, sm_wds, sm_wd, sm_nl, sm_pop, sm_back, sm_cases, oK, oLK, oL, oI, oA, oJ, oIs, oAs, oJs, oInc, oAdd, oSub, oMul, oDiv, oRem, oNeg, oAnd, oAndB, oOr, oShl, oI2c, oI2l, oL2i, oLand, oLor, oLshl, oLshr, oLushr, oLcmp, oDup, oDup2, oPop, oGo, oFg, oEq, oNe, oLt, oGe, oGt, oLe, oEq0, oNe0, oLt0, oGe0, oGt0, oLe0, oSw, oGi, oGr, oPi, oPz, oPr, oLen, oIl, oZl, oCl, oRl, oIst, oZst, oCst, oRst, oCopy, oNew, oNa, oNa2, oObj, oCs, oCv, oCi, oIr, oZr, oVr, Nat.beq, List.getElem?_cons_zero, List.getElem?_cons_succ, List.set_cons_zero, List.set_cons_succ, List.length_cons, List.length_nil, List.nil_append, List.cons_append, List.append_nil, List.replicate_succ, List.replicate_zero, Nat.reduceAdd, Nat.reduceSub, Nat.reduceLT, Nat.reduceLeDiff, Nat.reduceBEq, true_and, and_true, Nat.zero_add, Nat.add_zero, Nat.le_refl, Option.some.injEq, exists_eq_left', true_or, or_true, or_false, false_or, reduceCtorEq, Prod.mk.injEq, Sum.inl.injEq, and_self, false_and, and_false, not_true_eq_false, not_false_eq_true, false_implies, true_implies, sm_r, Int.add_zero, Int.zero_add, wI_wsI, wS_wsI, wR_wsI, wI_wCp, wS_wCp, wR_wCp, Nat.reduceEqDiff, reduceIte, sT_iff, sT_iffC, wIf_ne, ne_eq, Bool.false_or, Bool.true_or, Bool.or_false, Bool.or_true, Bool.or_self, Nat.left_eq_add, Nat.add_eq_left, Nat.add_left_inj, oMax, oMin, oAbs, tb_X7_init, p_X0_init, p_X1_init, p_X2_init, p_X3_init, p_X4_init, p_X5_init, p_X6_init, f_X0_init, f_X1_init, f_X2_init, f_X3_init, f_X4_init, f_X5_init, f_X6_init, p_X7_init, f_X7_init, u1, uS, x1, xS, wsR_n, wNw_n, wS_wNw, wR_wNw, wS_wsR, wR_wsR, Nat.reduceAdd, Int.reduceToNat, Int.reduceEq, Nat.reduceEqDiff]
    repeat' (first | exact True.intro | with_reducible assumption | with_reducible refine And.intro ?_ ?_ | intro _)
    all_goals first
      | omega
      | assumption
      | rfl
      | (split <;> omega)
      | (have k9 := ih (by omega)
         (repeat' split at k9) <;> first | exact k9 | omega)
      | (have k9 := ih2 (by omega)
         (repeat' split at k9) <;> first | exact k9 | omega)
      | exact he (by omega)
      | ((with_reducible congr 1) <;> omega)
      | (rw [if_pos (by omega)] at he; exact he)
      | exact hD1 (by omega)
      | exact hD2 (by omega)
      | skip
  have z1 : Z 26 [some (.inr (.inl 0)), none] [] (cC1 w) 33 266 := by
    unfold cC2 eX2 at z2
    unfold eX2 at b2
    generalize cC1 w = u at *
    clear hEe
    obtain ⟨u1, uS⟩ := d1
    obtain ⟨x1, xS, xR, xT⟩ := b2
    refine hZ (fun u => Nat.beq u 26 || Nat.beq u 48) 14 26 _ _ _ _ _ ?_
    simp only [sm_run, sm_blk, sm_get, sm_ent, sm_ents, sm_wds, sm_wd, sm_nl, sm_pop, sm_back, sm_cases, oK, oLK, oL, oI, oA, oJ, oIs, oAs, oJs, oInc, oAdd, oSub, oMul, oDiv, oRem, oNeg, oAnd, oAndB, oOr, oShl, oI2c, oI2l, oL2i, oLand, oLor, oLshl, oLshr, oLushr, oLcmp, oDup, oDup2, oPop, oGo, oFg, oEq, oNe, oLt, oGe, oGt, oLe, oEq0, oNe0, oLt0, oGe0, oGt0, oLe0, oSw, oGi, oGr, oPi, oPz, oPr, oLen, oIl, oZl, oCl, oRl, oIst, oZst, oCst, oRst, oCopy, oNew, oNa, oNa2, oObj, oCs, oCv, oCi, oIr, oZr, oVr, Nat.beq, List.getElem?_cons_zero, List.getElem?_cons_succ, List.set_cons_zero, List.set_cons_succ, List.length_cons, List.length_nil, List.nil_append, List.cons_append, List.append_nil, List.replicate_succ, List.replicate_zero, Nat.reduceAdd, Nat.reduceSub, Nat.reduceLT, Nat.reduceLeDiff, Nat.reduceBEq, true_and, and_true, Nat.zero_add, Nat.add_zero, Nat.le_refl, Option.some.injEq, exists_eq_left', true_or, or_true, or_false, false_or, reduceCtorEq, Prod.mk.injEq, Sum.inl.injEq, and_self, false_and, and_false, not_true_eq_false, not_false_eq_true, false_implies, true_implies, sm_r, Int.add_zero, Int.zero_add, wI_wsI, wS_wsI, wR_wsI, wI_wCp, wS_wCp, wR_wCp, Nat.reduceEqDiff, reduceIte, sT_iff, sT_iffC, wIf_ne, ne_eq, Bool.false_or, Bool.true_or, Bool.or_false, Bool.or_true, Bool.or_self, Nat.left_eq_add, Nat.add_eq_left, Nat.add_left_inj, oMax, oMin, oAbs, tb_X7_init, p_X0_init, p_X1_init, p_X2_init, p_X3_init, p_X4_init, p_X5_init, p_X6_init, f_X0_init, f_X1_init, f_X2_init, f_X3_init, f_X4_init, f_X5_init, f_X6_init, p_X7_init, f_X7_init, u1, uS, x1, xS, xR, xT, wsR_n, wNw_n, wS_wNw, wR_wNw, wS_wsR, wR_wsR, Nat.reduceAdd, Int.reduceToNat, Int.reduceEq, Nat.reduceEqDiff]
    repeat' (first | exact True.intro | with_reducible assumption | with_reducible refine And.intro ?_ ?_ | intro _)
    all_goals first
      | omega
      | assumption
      | rfl
      | (split <;> omega)
      | (have k9 := ih (by omega)
         (repeat' split at k9) <;> first | exact k9 | omega)
      | (have k9 := ih2 (by omega)
         (repeat' split at k9) <;> first | exact k9 | omega)
      | exact he (by omega)
      | ((with_reducible congr 1) <;> omega)
      | (rw [if_pos (by omega)] at he; exact he)
      | exact hD1 (by omega)
      | exact hD2 (by omega)
      | skip
  unfold cC1 eX1 at z1
  unfold eX1 at b1
  obtain ⟨x1, xS, xR, xT⟩ := b1
  clear hEe
  refine hZ (fun u => Nat.beq u 0 || Nat.beq u 26) 14 0 _ _ _ _ _ ?_
  simp only [sm_run, sm_blk, sm_get, sm_ent, sm_ents, sm_wds, sm_wd, sm_nl, sm_pop, sm_back, sm_cases, oK, oLK, oL, oI, oA, oJ, oIs, oAs, oJs, oInc, oAdd, oSub, oMul, oDiv, oRem, oNeg, oAnd, oAndB, oOr, oShl, oI2c, oI2l, oL2i, oLand, oLor, oLshl, oLshr, oLushr, oLcmp, oDup, oDup2, oPop, oGo, oFg, oEq, oNe, oLt, oGe, oGt, oLe, oEq0, oNe0, oLt0, oGe0, oGt0, oLe0, oSw, oGi, oGr, oPi, oPz, oPr, oLen, oIl, oZl, oCl, oRl, oIst, oZst, oCst, oRst, oCopy, oNew, oNa, oNa2, oObj, oCs, oCv, oCi, oIr, oZr, oVr, Nat.beq, List.getElem?_cons_zero, List.getElem?_cons_succ, List.set_cons_zero, List.set_cons_succ, List.length_cons, List.length_nil, List.nil_append, List.cons_append, List.append_nil, List.replicate_succ, List.replicate_zero, Nat.reduceAdd, Nat.reduceSub, Nat.reduceLT, Nat.reduceLeDiff, Nat.reduceBEq, true_and, and_true, Nat.zero_add, Nat.add_zero, Nat.le_refl, Option.some.injEq, exists_eq_left', true_or, or_true, or_false, false_or, reduceCtorEq, Prod.mk.injEq, Sum.inl.injEq, and_self, false_and, and_false, not_true_eq_false, not_false_eq_true, false_implies, true_implies, sm_r, Int.add_zero, Int.zero_add, wI_wsI, wS_wsI, wR_wsI, wI_wCp, wS_wCp, wR_wCp, Nat.reduceEqDiff, reduceIte, sT_iff, sT_iffC, wIf_ne, ne_eq, Bool.false_or, Bool.true_or, Bool.or_false, Bool.or_true, Bool.or_self, Nat.left_eq_add, Nat.add_eq_left, Nat.add_left_inj, oMax, oMin, oAbs, tb_X7_init, p_X0_init, p_X1_init, p_X2_init, p_X3_init, p_X4_init, p_X5_init, p_X6_init, f_X0_init, f_X1_init, f_X2_init, f_X3_init, f_X4_init, f_X5_init, f_X6_init, p_X7_init, f_X7_init, hn, hs, x1, xS, xR, xT, wsR_n, wNw_n, wS_wNw, wR_wNw, wS_wsR, wR_wsR, Nat.reduceAdd, Int.reduceToNat, Int.reduceEq, Nat.reduceEqDiff]
  repeat' (first | exact True.intro | with_reducible assumption | with_reducible refine And.intro ?_ ?_ | intro _)
  all_goals first
    | omega
    | assumption
    | rfl
    | (split <;> omega)
    | (have k9 := ih (by omega)
       (repeat' split at k9) <;> first | exact k9 | omega)
    | (have k9 := ih2 (by omega)
       (repeat' split at k9) <;> first | exact k9 | omega)
    | exact he (by omega)
    | ((with_reducible congr 1) <;> omega)
    | (rw [if_pos (by omega)] at he; exact he)
    | exact hD1 (by omega)
    | exact hD2 (by omega)
    | skip

theorem met_X7_init (l : Launch) : sm_Met l yX7_init cX7_init 2 none 3 153 1303 p_X7_init f_X7_init := sm_met 0 (Or.inl ⟨rfl, rfl⟩) (by decide +kernel) (sn_X7_init l) ok_X7_init