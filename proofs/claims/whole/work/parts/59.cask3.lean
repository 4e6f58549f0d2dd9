/-! THE CLASS: what is asked of the object -/
theorem cOK_d {w : sm_W} (h : cOK w) : dOK w 1 := ⟨Or.inl rfl, h.1⟩
theorem dS1 {w : sm_W} (h : sT w) : wS w 1 = (0, 11) := (dS h (Or.inl rfl)).1
theorem dS34 {w : sm_W} (h : sT w) : wS w 34 = (0, 11) := (dS h (Or.inr rfl)).1
theorem wS2 {w : sm_W} (h : sT w) : wS w 2 = (2, 9) := (lS h is2).1
theorem wS35 {w : sm_W} (h : sT w) : wS w 35 = (2, 9) := (lS h is35).1
def cTot (w : sm_W) : Int := wI w 76 1 + wI w 76 2 + wI w 76 3
def cOfA (w : sm_W) (x k : Int) : Int := if 0 ≤ x ∧ x < wI w 2 7 then (if k < 0 then -2 else (if 12 < k then -2 else (if k ≤ 5 then (if k ≤ 4 then vL w 2 (17 + 5 * x + k) else vTime (vL w 2) x (wI w 5 x)) else (if k = 6 then xEnd (xRun 1 w) 1 x else (if k = 7 then xDly (xRun 1 w) 1 x else (if k = 8 then cTot (gW (xRun 1 w) 1 x 8) else (if k = 12 then wMb (gW (xRun 1 w) 1 x 8) 8 else wI (gW (xRun 1 w) 1 x 8) 76 (k - 8)))))))) else -1
def cOfW (w : sm_W) (x k : Int) : sm_W := if 0 ≤ x ∧ x < wI w 2 7 then (if k < 0 then w else (if 12 < k then w else (if k ≤ 5 then w else (if k = 6 then xRun 1 w else (if k = 7 then xRun 1 w else gW (xRun 1 w) 1 x 8))))) else w
def p_X7_ofShuttle : List sm_V → sm_W → Prop
  | [.inr (.inl o), .inl x, .inl k], w => o = 0 ∧ cOK w
  | _, _ => False
def f_X7_ofShuttle : sm_F
  | [.inr (.inl o), .inl x, .inl k], w => (some (.inl (cOfA w x k)), cOfW w x k)
  | _, w => (none, w)
def tb_X7_ofShuttle : List (Nat × List sm_O) := [(0, [oA 0, oGr 7 12 1, oI 1, oCv 2 9 p_X2_hasShuttle f_X2_hasShuttle 0 0 2, oNe0 13, oK (-1), oIr]),
  (13, [oI 2, oLt0 23, oI 2, oK 12, oLe 26, oGo 23]),
  (23, [oK (-2), oIr]),
  (26, [oI 2, oK 5, oGt 41, oA 0, oGr 7 12 1, oI 1, oI 2, oCv 2 9 p_X2_number f_X2_number 0 0 3, oIr]),
  (41, [oA 0, oGr 7 12 0, oCv 0 11 p_X0_run f_X0_run 0 0 1, oI 2, oK 6, oNe 63, oA 0, oGr 7 12 0, oI 1, oCv 0 11 p_X0_endMinute f_X0_endMinute 0 0 2, oIr]),
  (63, [oI 2, oK 7, oNe 78, oA 0, oGr 7 12 0, oI 1, oCv 0 11 p_X0_delayOf f_X0_delayOf 0 0 2, oIr]),
  (78, [oA 0, oGr 7 12 5, oA 0, oGr 7 12 0, oI 1, oCv 6 2 p_X6_gather f_X6_gather 0 0 3, oI 2, oK 8, oNe 104, oA 0, oGr 7 12 5, oCv 6 2 p_X6_total f_X6_total 0 0 1, oIr]),
  (104, [oI 2, oK 12, oNe 120, oA 0, oGr 7 12 5, oCv 6 2 p_X6_mostBlamed f_X6_mostBlamed 0 0 1, oGo 131]),
  (120, [oA 0, oGr 7 12 5, oI 2, oK 8, oSub, oCv 6 2 p_X6_forReason f_X6_forReason 0 0 2, oGo 131]),
  (131, [oIr])]
set_option maxRecDepth 100000 in
theorem sb_X7_ofShuttle_0 (l : Launch) : sm_SndB l RX7 "ofShuttle" cX7_ofShuttle 3 1 6 0 [oA 0, oGr 7 12 1, oI 1, oCv 2 9 p_X2_hasShuttle f_X2_hasShuttle 0 0 2, oNe0 13, oK (-1), oIr] := sb_cons (sd_aload_n (by decide +kernel : decode cX7_ofShuttle 0 = .ok (.aload_n 0, 1)) rfl) (sb_cons (sd_getr (k := 1) kl_7 (by decide) rfl wm_146 (by decide +kernel : decode cX7_ofShuttle 1 = .ok (.getfield 20, 3))) (sb_cons (sd_iload_n (by decide +kernel : decode cX7_ofShuttle 4 = .ok (.iload_n 1, 1)) rfl) (sb_cons (sd_callv (n := 1) (met_X2_hasShuttle l) (by decide) (by decide) wm_238 wm_265 wm_3 ⟨by decide +kernel, by decide +kernel, by decide +kernel⟩ kl_2 wm_236 wm_237 (by decide +kernel : decode cX7_ofShuttle 5 = .ok (.invokevirtual 110, 3))) (sb_cons (sd_ne0 (by decide +kernel : decode cX7_ofShuttle 8 = .ok (.ifCond .ne 5, 3)) (by decide)) (sb_cons (sd_iconst (by decide +kernel : decode cX7_ofShuttle 11 = .ok (.iconst (-1), 1)) ⟨by decide, by decide⟩) (sb_cons (sd_ireturn (x := 0) rfl (by decide +kernel : decode cX7_ofShuttle 12 = .ok (.ireturn, 1))) sb_nil))))))
set_option maxRecDepth 100000 in
theorem sb_X7_ofShuttle_13 (l : Launch) : sm_SndB l RX7 "ofShuttle" cX7_ofShuttle 3 1 6 13 [oI 2, oLt0 23, oI 2, oK 12, oLe 26, oGo 23] := sb_cons (sd_iload_n (by decide +kernel : decode cX7_ofShuttle 13 = .ok (.iload_n 2, 1)) rfl) (sb_cons (sd_lt0 (by decide +kernel : decode cX7_ofShuttle 14 = .ok (.ifCond .lt 9, 3)) (by decide)) (sb_cons (sd_iload_n (by decide +kernel : decode cX7_ofShuttle 17 = .ok (.iload_n 2, 1)) rfl) (sb_cons (sd_bipush (by decide +kernel : decode cX7_ofShuttle 18 = .ok (.bipush 12, 2)) ⟨by decide, by decide⟩ (by decide)) (sb_cons (sd_le (by decide +kernel : decode cX7_ofShuttle 20 = .ok (.if_icmp .le 6, 3)) (by decide)) (sb_cons (sd_fall (x := 0)) sb_nil)))))
set_option maxRecDepth 100000 in
theorem sb_X7_ofShuttle_23 (l : Launch) : sm_SndB l RX7 "ofShuttle" cX7_ofShuttle 3 1 6 23 [oK (-2), oIr] := sb_cons (sd_bipush (by decide +kernel : decode cX7_ofShuttle 23 = .ok (.bipush (-2), 2)) ⟨by decide, by decide⟩ (by decide)) (sb_cons (sd_ireturn (x := 0) rfl (by decide +kernel : decode cX7_ofShuttle 25 = .ok (.ireturn, 1))) sb_nil)
set_option maxRecDepth 100000 in
theorem sb_X7_ofShuttle_26 (l : Launch) : sm_SndB l RX7 "ofShuttle" cX7_ofShuttle 3 1 6 26 [oI 2, oK 5, oGt 41, oA 0, oGr 7 12 1, oI 1, oI 2, oCv 2 9 p_X2_number f_X2_number 0 0 3, oIr] := sb_cons (sd_iload_n (by decide +kernel : decode cX7_ofShuttle 26 = .ok (.iload_n 2, 1)) rfl) (sb_cons (sd_iconst (by decide +kernel : decode cX7_ofShuttle 27 = .ok (.iconst 5, 1)) ⟨by decide, by decide⟩) (sb_cons (sd_gt (by decide +kernel : decode cX7_ofShuttle 28 = .ok (.if_icmp .gt 13, 3)) (by decide)) (sb_cons (sd_aload_n (by decide +kernel : decode cX7_ofShuttle 31 = .ok (.aload_n 0, 1)) rfl) (sb_cons (sd_getr (k := 1) kl_7 (by decide) rfl wm_146 (by decide +kernel : decode cX7_ofShuttle 32 = .ok (.getfield 20, 3))) (sb_cons (sd_iload_n (by decide +kernel : decode cX7_ofShuttle 35 = .ok (.iload_n 1, 1)) rfl) (sb_cons (sd_iload_n (by decide +kernel : decode cX7_ofShuttle 36 = .ok (.iload_n 2, 1)) rfl) (sb_cons (sd_callv (n := 2) (met_X2_number l) (by decide) (by decide) wm_269 wm_266 wm_3 ⟨by decide +kernel, by decide +kernel, by decide +kernel⟩ kl_2 wm_267 wm_268 (by decide +kernel : decode cX7_ofShuttle 37 = .ok (.invokevirtual 114, 3))) (sb_cons (sd_ireturn (x := 0) rfl (by decide +kernel : decode cX7_ofShuttle 40 = .ok (.ireturn, 1))) sb_nil))))))))
set_option maxRecDepth 100000 in
theorem sb_X7_ofShuttle_41 (l : Launch) : sm_SndB l RX7 "ofShuttle" cX7_ofShuttle 3 1 6 41 [oA 0, oGr 7 12 0, oCv 0 11 p_X0_run f_X0_run 0 0 1, oI 2, oK 6, oNe 63, oA 0, oGr 7 12 0, oI 1, oCv 0 11 p_X0_endMinute f_X0_endMinute 0 0 2, oIr] := sb_cons (sd_aload_n (by decide +kernel : decode cX7_ofShuttle 41 = .ok (.aload_n 0, 1)) rfl) (sb_cons (sd_getr (k := 0) kl_7 (by decide) rfl wm_145 (by decide +kernel : decode cX7_ofShuttle 42 = .ok (.getfield 10, 3))) (sb_cons (sd_callv (n := 0) (met_X0_run l) (by decide) (by decide) wm_287 wm_284 wm_2 ⟨by decide +kernel, by decide +kernel, by decide +kernel⟩ kl_0 wm_285 wm_286 (by decide +kernel : decode cX7_ofShuttle 45 = .ok (.invokevirtual 117, 3))) (sb_cons (sd_iload_n (by decide +kernel : decode cX7_ofShuttle 48 = .ok (.iload_n 2, 1)) rfl) (sb_cons (sd_bipush (by decide +kernel : decode cX7_ofShuttle 49 = .ok (.bipush 6, 2)) ⟨by decide, by decide⟩ (by decide)) (sb_cons (sd_ne (by decide +kernel : decode cX7_ofShuttle 51 = .ok (.if_icmp .ne 12, 3)) (by decide)) (sb_cons (sd_aload_n (by decide +kernel : decode cX7_ofShuttle 54 = .ok (.aload_n 0, 1)) rfl) (sb_cons (sd_getr (k := 0) kl_7 (by decide) rfl wm_145 (by decide +kernel : decode cX7_ofShuttle 55 = .ok (.getfield 10, 3))) (sb_cons (sd_iload_n (by decide +kernel : decode cX7_ofShuttle 58 = .ok (.iload_n 1, 1)) rfl) (sb_cons (sd_callv (n := 1) (met_X0_endMinute l) (by decide) (by decide) wm_353 wm_350 wm_2 ⟨by decide +kernel, by decide +kernel, by decide +kernel⟩ kl_0 wm_351 wm_352 (by decide +kernel : decode cX7_ofShuttle 59 = .ok (.invokevirtual 120, 3))) (sb_cons (sd_ireturn (x := 0) rfl (by decide +kernel : decode cX7_ofShuttle 62 = .ok (.ireturn, 1))) sb_nil))))))))))
set_option maxRecDepth 100000 in
theorem sb_X7_ofShuttle_63 (l : Launch) : sm_SndB l RX7 "ofShuttle" cX7_ofShuttle 3 1 6 63 [oI 2, oK 7, oNe 78, oA 0, oGr 7 12 0, oI 1, oCv 0 11 p_X0_delayOf f_X0_delayOf 0 0 2, oIr] := sb_cons (sd_iload_n (by decide +kernel : decode cX7_ofShuttle 63 = .ok (.iload_n 2, 1)) rfl) (sb_cons (sd_bipush (by decide +kernel : decode cX7_ofShuttle 64 = .ok (.bipush 7, 2)) ⟨by decide, by decide⟩ (by decide)) (sb_cons (sd_ne (by decide +kernel : decode cX7_ofShuttle 66 = .ok (.if_icmp .ne 12, 3)) (by decide)) (sb_cons (sd_aload_n (by decide +kernel : decode cX7_ofShuttle 69 = .ok (.aload_n 0, 1)) rfl) (sb_cons (sd_getr (k := 0) kl_7 (by decide) rfl wm_145 (by decide +kernel : decode cX7_ofShuttle 70 = .ok (.getfield 10, 3))) (sb_cons (sd_iload_n (by decide +kernel : decode cX7_ofShuttle 73 = .ok (.iload_n 1, 1)) rfl) (sb_cons (sd_callv (n := 1) (met_X0_delayOf l) (by decide) (by decide) wm_358 wm_355 wm_2 ⟨by decide +kernel, by decide +kernel, by decide +kernel⟩ kl_0 wm_356 wm_357 (by decide +kernel : decode cX7_ofShuttle 74 = .ok (.invokevirtual 123, 3))) (sb_cons (sd_ireturn (x := 0) rfl (by decide +kernel : decode cX7_ofShuttle 77 = .ok (.ireturn, 1))) sb_nil)))))))
set_option maxRecDepth 100000 in
theorem sb_X7_ofShuttle_78 (l : Launch) : sm_SndB l RX7 "ofShuttle" cX7_ofShuttle 3 1 6 78 [oA 0, oGr 7 12 5, oA 0, oGr 7 12 0, oI 1, oCv 6 2 p_X6_gather f_X6_gather 0 0 3, oI 2, oK 8, oNe 104, oA 0, oGr 7 12 5, oCv 6 2 p_X6_total f_X6_total 0 0 1, oIr] := sb_cons (sd_aload_n (by decide +kernel : decode cX7_ofShuttle 78 = .ok (.aload_n 0, 1)) rfl) (sb_cons (sd_getr (k := 5) kl_7 (by decide) rfl wm_150 (by decide +kernel : decode cX7_ofShuttle 79 = .ok (.getfield 36, 3))) (sb_cons (sd_aload_n (by decide +kernel : decode cX7_ofShuttle 82 = .ok (.aload_n 0, 1)) rfl) (sb_cons (sd_getr (k := 0) kl_7 (by decide) rfl wm_145 (by decide +kernel : decode cX7_ofShuttle 83 = .ok (.getfield 10, 3))) (sb_cons (sd_iload_n (by decide +kernel : decode cX7_ofShuttle 86 = .ok (.iload_n 1, 1)) rfl) (sb_cons (sd_callv (n := 2) (met_X6_gather l) (by decide) (by decide) wm_364 wm_361 wm_5 ⟨by decide +kernel, by decide +kernel, by decide +kernel⟩ kl_6 wm_362 wm_363 (by decide +kernel : decode cX7_ofShuttle 87 = .ok (.invokevirtual 126, 3))) (sb_cons (sd_iload_n (by decide +kernel : decode cX7_ofShuttle 90 = .ok (.iload_n 2, 1)) rfl) (sb_cons (sd_bipush (by decide +kernel : decode cX7_ofShuttle 91 = .ok (.bipush 8, 2)) ⟨by decide, by decide⟩ (by decide)) (sb_cons (sd_ne (by decide +kernel : decode cX7_ofShuttle 93 = .ok (.if_icmp .ne 11, 3)) (by decide)) (sb_cons (sd_aload_n (by decide +kernel : decode cX7_ofShuttle 96 = .ok (.aload_n 0, 1)) rfl) (sb_cons (sd_getr (k := 5) kl_7 (by decide) rfl wm_150 (by decide +kernel : decode cX7_ofShuttle 97 = .ok (.getfield 36, 3))) (sb_cons (sd_callv (n := 0) (met_X6_total l) (by decide) (by decide) wm_408 wm_405 wm_5 ⟨by decide +kernel, by decide +kernel, by decide +kernel⟩ kl_6 wm_406 wm_407 (by decide +kernel : decode cX7_ofShuttle 100 = .ok (.invokevirtual 130, 3))) (sb_cons (sd_ireturn (x := 0) rfl (by decide +kernel : decode cX7_ofShuttle 103 = .ok (.ireturn, 1))) sb_nil))))))))))))
set_option maxRecDepth 100000 in
theorem sb_X7_ofShuttle_104 (l : Launch) : sm_SndB l RX7 "ofShuttle" cX7_ofShuttle 3 1 6 104 [oI 2, oK 12, oNe 120, oA 0, oGr 7 12 5, oCv 6 2 p_X6_mostBlamed f_X6_mostBlamed 0 0 1, oGo 131] := sb_cons (sd_iload_n (by decide +kernel : decode cX7_ofShuttle 104 = .ok (.iload_n 2, 1)) rfl) (sb_cons (sd_bipush (by decide +kernel : decode cX7_ofShuttle 105 = .ok (.bipush 12, 2)) ⟨by decide, by decide⟩ (by decide)) (sb_cons (sd_ne (by decide +kernel : decode cX7_ofShuttle 107 = .ok (.if_icmp .ne 13, 3)) (by decide)) (sb_cons (sd_aload_n (by decide +kernel : decode cX7_ofShuttle 110 = .ok (.aload_n 0, 1)) rfl) (sb_cons (sd_getr (k := 5) kl_7 (by decide) rfl wm_150 (by decide +kernel : decode cX7_ofShuttle 111 = .ok (.getfield 36, 3))) (sb_cons (sd_callv (n := 0) (met_X6_mostBlamed l) (by decide) (by decide) wm_413 wm_410 wm_5 ⟨by decide +kernel, by decide +kernel, by decide +kernel⟩ kl_6 wm_411 wm_412 (by decide +kernel : decode cX7_ofShuttle 114 = .ok (.invokevirtual 134, 3))) (sb_cons (sd_goto (x := 0) (by decide +kernel : decode cX7_ofShuttle 117 = .ok (.goto 14, 3)) (by decide)) sb_nil))))))
set_option maxRecDepth 100000 in
theorem sb_X7_ofShuttle_120 (l : Launch) : sm_SndB l RX7 "ofShuttle" cX7_ofShuttle 3 1 6 120 [oA 0, oGr 7 12 5, oI 2, oK 8, oSub, oCv 6 2 p_X6_forReason f_X6_forReason 0 0 2, oGo 131] := sb_cons (sd_aload_n (by decide +kernel : decode cX7_ofShuttle 120 = .ok (.aload_n 0, 1)) rfl) (sb_cons (sd_getr (k := 5) kl_7 (by decide) rfl wm_150 (by decide +kernel : decode cX7_ofShuttle 121 = .ok (.getfield 36, 3))) (sb_cons (sd_iload_n (by decide +kernel : decode cX7_ofShuttle 124 = .ok (.iload_n 2, 1)) rfl) (sb_cons (sd_bipush (by decide +kernel : decode cX7_ofShuttle 125 = .ok (.bipush 8, 2)) ⟨by decide, by decide⟩ (by decide)) (sb_cons (sd_isub (by decide +kernel : decode cX7_ofShuttle 127 = .ok (.isub, 1))) (sb_cons (sd_callv (n := 1) (met_X6_forReason l) (by decide) (by decide) wm_418 wm_415 wm_5 ⟨by decide +kernel, by decide +kernel, by decide +kernel⟩ kl_6 wm_416 wm_417 (by decide +kernel : decode cX7_ofShuttle 128 = .ok (.invokevirtual 137, 3))) (sb_cons (sd_fall (x := 0)) sb_nil))))))
set_option maxRecDepth 100000 in
theorem sb_X7_ofShuttle_131 (l : Launch) : sm_SndB l RX7 "ofShuttle" cX7_ofShuttle 3 1 6 131 [oIr] := sb_cons (sd_ireturn (x := 0) rfl (by decide +kernel : decode cX7_ofShuttle 131 = .ok (.ireturn, 1))) sb_nil
theorem sn_X7_ofShuttle (l : Launch) : sm_SndT l RX7 "ofShuttle" cX7_ofShuttle 3 1 6 tb_X7_ofShuttle := st_cons (sb_X7_ofShuttle_0 l) (st_cons (sb_X7_ofShuttle_13 l) (st_cons (sb_X7_ofShuttle_23 l) (st_cons (sb_X7_ofShuttle_26 l) (st_cons (sb_X7_ofShuttle_41 l) (st_cons (sb_X7_ofShuttle_63 l) (st_cons (sb_X7_ofShuttle_78 l) (st_cons (sb_X7_ofShuttle_104 l) (st_cons (sb_X7_ofShuttle_120 l) (st_cons (sb_X7_ofShuttle_131 l) (st_nil))))))))))
set_option maxRecDepth 100000 in
set_option maxHeartbeats 4000000 in
theorem ok_X7_ofShuttle : sm_Ok tb_X7_ofShuttle 3 0 0 p_X7_ofShuttle f_X7_ofShuttle := by
  intro as w hp ha hw
  match as, hp with
  | [.inr (.inl o), .inl x, .inl k], hp =>
  refine ⟨Nat.le_of_ble_eq_true rfl, fun Z hZ => ?_⟩
  obtain ⟨rfl, hC⟩ := hp
  have hT := hC.1.1
  have hL := hC.1
  have hD := cOK_d hC
  have hn := lOK_n hL
  have hA : cOfA w x k = if 0 ≤ x ∧ x < wI w 2 7 then (if k < 0 then -2 else (if 12 < k then -2 else (if k ≤ 5 then (if k ≤ 4 then vL w 2 (17 + 5 * x + k) else vTime (vL w 2) x (wI w 5 x)) else (if k = 6 then xEnd (xRun 1 w) 1 x else (if k = 7 then xDly (xRun 1 w) 1 x else (if k = 8 then cTot (gW (xRun 1 w) 1 x 8) else (if k = 12 then wMb (gW (xRun 1 w) 1 x 8) 8 else wI (gW (xRun 1 w) 1 x 8) 76 (k - 8)))))))) else -1 := rfl
  have hW : cOfW w x k = if 0 ≤ x ∧ x < wI w 2 7 then (if k < 0 then w else (if 12 < k then w else (if k ≤ 5 then w else (if k = 6 then xRun 1 w else (if k = 7 then xRun 1 w else gW (xRun 1 w) 1 x 8))))) else w := rfl
  generalize hAe : cOfA w x k = A at *
  generalize hWe : cOfW w x k = V at *
  by_cases c : 0 ≤ x ∧ x < wI w 2 7
  · rw [if_pos c] at hA hW
    by_cases c1 : k < 0
    · rw [if_pos c1] at hA hW
      subst hA hW
      refine hZ (fun _ => false) 16 0 _ _ _ _ _ ?_
      simp only [sm_run, sm_blk, sm_get, sm_ent, sm_ents, sm_wds, sm_wd, sm_nl, sm_pop, sm_back, sm_cases, oK, oLK, oL, oI, oA, oJ, oIs, oAs, oJs, oInc, oAdd, oSub, oMul, oDiv, oRem, oNeg, oAnd, oAndB, oOr, oShl, oI2c, oI2l, oL2i, oLand, oLor, oLshl, oLshr, oLushr, oLcmp, oDup, oDup2, oPop, oGo, oFg, oEq, oNe, oLt, oGe, oGt, oLe, oEq0, oNe0, oLt0, oGe0, oGt0, oLe0, oSw, oGi, oGr, oPi, oPz, oPr, oLen, oIl, oZl, oCl, oRl, oIst, oZst, oCst, oRst, oCopy, oNew, oNa, oNa2, oObj, oCs, oCv, oCi, oIr, oZr, oVr, Nat.beq, List.getElem?_cons_zero, List.getElem?_cons_succ, List.set_cons_zero, List.set_cons_succ, List.length_cons, List.length_nil, List.nil_append, List.cons_append, List.append_nil, List.replicate_succ, List.replicate_zero, Nat.reduceAdd, Nat.reduceSub, Nat.reduceLT, Nat.reduceLeDiff, Nat.reduceBEq, true_and, and_true, Nat.zero_add, Nat.add_zero, Nat.le_refl, Option.some.injEq, exists_eq_left', true_or, or_true, or_false, false_or, reduceCtorEq, Prod.mk.injEq, Sum.inl.injEq, and_self, false_and, and_false, not_true_eq_false, not_false_eq_true, false_implies, true_implies, sm_r, Int.add_zero, Int.zero_add, wI_wsI, wS_wsI, wR_wsI, wI_wCp, wS_wCp, wR_wCp, Nat.reduceEqDiff, reduceIte, sT_iff, sT_iffC, wIf_ne, ne_eq, Bool.false_or, Bool.true_or, Bool.or_false, Bool.or_true, Bool.or_self, Nat.left_eq_add, Nat.add_eq_left, Nat.add_left_inj, oMax, oMin, oAbs, tb_X7_ofShuttle, p_X0_delayOf, p_X0_endMinute, p_X0_run, p_X2_hasShuttle, p_X2_number, p_X6_forReason, p_X6_gather, p_X6_mostBlamed, p_X6_total, f_X0_delayOf, f_X0_endMinute, f_X0_run, f_X2_hasShuttle, f_X2_number, f_X6_forReason, f_X6_gather, f_X6_mostBlamed, f_X6_total, p_X7_ofShuttle, f_X7_ofShuttle, sS_0 hT, sR_0_1 hT, wS2 hT, hT, is2, b01, hAe, hWe, if_pos c]
      repeat' (first | exact True.intro | with_reducible assumption | with_reducible refine And.intro ?_ ?_ | intro _)
      all_goals first
        | omega
        | assumption
        | rfl
        | (split <;> omega)
        | grind
        | skip
    · rw [if_neg c1] at hA hW
      by_cases c2 : 12 < k
      · rw [if_pos c2] at hA hW
        subst hA hW
        refine hZ (fun _ => false) 16 0 _ _ _ _ _ ?_
        simp only [sm_run, sm_blk, sm_get, sm_ent, sm_ents, sm_wds, sm_wd, sm_nl, sm_pop, sm_back, sm_cases, oK, oLK, oL, oI, oA, oJ, oIs, oAs, oJs, oInc, oAdd, oSub, oMul, oDiv, oRem, oNeg, oAnd, oAndB, oOr, oShl, oI2c, oI2l, oL2i, oLand, oLor, oLshl, oLshr, oLushr, oLcmp, oDup, oDup2, oPop, oGo, oFg, oEq, oNe, oLt, oGe, oGt, oLe, oEq0, oNe0, oLt0, oGe0, oGt0, oLe0, oSw, oGi, oGr, oPi, oPz, oPr, oLen, oIl, oZl, oCl, oRl, oIst, oZst, oCst, oRst, oCopy, oNew, oNa, oNa2, oObj, oCs, oCv, oCi, oIr, oZr, oVr, Nat.beq, List.getElem?_cons_zero, List.getElem?_cons_succ, List.set_cons_zero, List.set_cons_succ, List.length_cons, List.length_nil, List.nil_append, List.cons_append, List.append_nil, List.replicate_succ, List.replicate_zero, Nat.reduceAdd, Nat.reduceSub, Nat.reduceLT, Nat.reduceLeDiff, Nat.reduceBEq, true_and, and_true, Nat.zero_add, Nat.add_zero, Nat.le_refl, Option.some.injEq, exists_eq_left', true_or, or_true, or_false, false_or, reduceCtorEq, Prod.mk.injEq, Sum.inl.injEq, and_self, false_and, and_false, not_true_eq_false, not_false_eq_true, false_implies, true_implies, sm_r, Int.add_zero, Int.zero_add, wI_wsI, wS_wsI, wR_wsI, wI_wCp, wS_wCp, wR_wCp, Nat.reduceEqDiff, reduceIte, sT_iff, sT_iffC, wIf_ne, ne_eq, Bool.false_or, Bool.true_or, Bool.or_false, Bool.or_true, Bool.or_self, Nat.left_eq_add, Nat.add_eq_left, Nat.add_left_inj, oMax, oMin, oAbs, tb_X7_ofShuttle, p_X0_delayOf, p_X0_endMinute, p_X0_run, p_X2_hasShuttle, p_X2_number, p_X6_forReason, p_X6_gather, p_X6_mostBlamed, p_X6_total, f_X0_delayOf, f_X0_endMinute, f_X0_run, f_X2_hasShuttle, f_X2_number, f_X6_forReason, f_X6_gather, f_X6_mostBlamed, f_X6_total, p_X7_ofShuttle, f_X7_ofShuttle, sS_0 hT, sR_0_1 hT, wS2 hT, hT, is2, b01, hAe, hWe, if_pos c]
        repeat' (first | exact True.intro | with_reducible assumption | with_reducible refine And.intro ?_ ?_ | intro _)
        all_goals first
          | omega
          | assumption
          | rfl
          | (split <;> omega)
          | grind
          | skip
      · rw [if_neg c2] at hA hW
        by_cases c3 : k ≤ 5
        · rw [if_pos c3] at hA hW
          subst hA hW
          refine hZ (fun _ => false) 16 0 _ _ _ _ _ ?_
          simp only [sm_run, sm_blk, sm_get, sm_ent, sm_ents, sm_wds, sm_wd, sm_nl, sm_pop, sm_back, sm_cases, oK, oLK, oL, oI, oA, oJ, oIs, oAs, oJs, oInc, oAdd, oSub, oMul, oDiv, oRem, oNeg, oAnd, oAndB, oOr, oShl, oI2c, oI2l, oL2i, oLand, oLor, oLshl, oLshr, oLushr, oLcmp, oDup, oDup2, oPop, oGo, oFg, oEq, oNe, oLt, oGe, oGt, oLe, oEq0, oNe0, oLt0, oGe0, oGt0, oLe0, oSw, oGi, oGr, oPi, oPz, oPr, oLen, oIl, oZl, oCl, oRl, oIst, oZst, oCst, oRst, oCopy, oNew, oNa, oNa2, oObj, oCs, oCv, oCi, oIr, oZr, oVr, Nat.beq, List.getElem?_cons_zero, List.getElem?_cons_succ, List.set_cons_zero, List.set_cons_succ, List.length_cons, List.length_nil, List.nil_append, List.cons_append, List.append_nil, List.replicate_succ, List.replicate_zero, Nat.reduceAdd, Nat.reduceSub, Nat.reduceLT, Nat.reduceLeDiff, Nat.reduceBEq, true_and, and_true, Nat.zero_add, Nat.add_zero, Nat.le_refl, Option.some.injEq, exists_eq_left', true_or, or_true, or_false, false_or, reduceCtorEq, Prod.mk.injEq, Sum.inl.injEq, and_self, false_and, and_false, not_true_eq_false, not_false_eq_true, false_implies, true_implies, sm_r, Int.add_zero, Int.zero_add, wI_wsI, wS_wsI, wR_wsI, wI_wCp, wS_wCp, wR_wCp, Nat.reduceEqDiff, reduceIte, sT_iff, sT_iffC, wIf_ne, ne_eq, Bool.false_or, Bool.true_or, Bool.or_false, Bool.or_true, Bool.or_self, Nat.left_eq_add, Nat.add_eq_left, Nat.add_left_inj, oMax, oMin, oAbs, tb_X7_ofShuttle, p_X0_delayOf, p_X0_endMinute, p_X0_run, p_X2_hasShuttle, p_X2_number, p_X6_forReason, p_X6_gather, p_X6_mostBlamed, p_X6_total, f_X0_delayOf, f_X0_endMinute, f_X0_run, f_X2_hasShuttle, f_X2_number, f_X6_forReason, f_X6_gather, f_X6_mostBlamed, f_X6_total, p_X7_ofShuttle, f_X7_ofShuttle, sS_0 hT, sR_0_1 hT, wS2 hT, hT, is2, hL, b01, hAe, hWe, Nat.reduceAdd, if_pos c]
          repeat' (first | exact True.intro | with_reducible assumption | with_reducible refine And.intro ?_ ?_ | intro _)
          all_goals first
            | omega
            | assumption
            | rfl
            | (split <;> omega)
            | grind
            | skip
        · rw [if_neg c3] at hA hW
          have hR := xRun_ok hD
          have hf := (xRun_fr hD).1
          have hnR : wI (xRun 1 w) 2 7 = wI w 2 7 := by rw [sDy_l0 hf]
          generalize hRe : xRun 1 w = R at *
          obtain ⟨hX, hWy⟩ := hR
          have hTR := hX.1.2.1
          have hDR := hX.1
          have xR : x < wI R 2 7 := by omega
          by_cases c6 : k = 6
          · rw [if_pos c6] at hA hW
            subst hA hW
            refine hZ (fun _ => false) 16 0 _ _ _ _ _ ?_
            simp only [sm_run, sm_blk, sm_get, sm_ent, sm_ents, sm_wds, sm_wd, sm_nl, sm_pop, sm_back, sm_cases, oK, oLK, oL, oI, oA, oJ, oIs, oAs, oJs, oInc, oAdd, oSub, oMul, oDiv, oRem, oNeg, oAnd, oAndB, oOr, oShl, oI2c, oI2l, oL2i, oLand, oLor, oLshl, oLshr, oLushr, oLcmp, oDup, oDup2, oPop, oGo, oFg, oEq, oNe, oLt, oGe, oGt, oLe, oEq0, oNe0, oLt0, oGe0, oGt0, oLe0, oSw, oGi, oGr, oPi, oPz, oPr, oLen, oIl, oZl, oCl, oRl, oIst, oZst, oCst, oRst, oCopy, oNew, oNa, oNa2, oObj, oCs, oCv, oCi, oIr, oZr, oVr, Nat.beq, List.getElem?_cons_zero, List.getElem?_cons_succ, List.set_cons_zero, List.set_cons_succ, List.length_cons, List.length_nil, List.nil_append, List.cons_append, List.append_nil, List.replicate_succ, List.replicate_zero, Nat.reduceAdd, Nat.reduceSub, Nat.reduceLT, Nat.reduceLeDiff, Nat.reduceBEq, true_and, and_true, Nat.zero_add, Nat.add_zero, Nat.le_refl, Option.some.injEq, exists_eq_left', true_or, or_true, or_false, false_or, reduceCtorEq, Prod.mk.injEq, Sum.inl.injEq, and_self, false_and, and_false, not_true_eq_false, not_false_eq_true, false_implies, true_implies, sm_r, Int.add_zero, Int.zero_add, wI_wsI, wS_wsI, wR_wsI, wI_wCp, wS_wCp, wR_wCp, Nat.reduceEqDiff, reduceIte, sT_iff, sT_iffC, wIf_ne, ne_eq, Bool.false_or, Bool.true_or, Bool.or_false, Bool.or_true, Bool.or_self, Nat.left_eq_add, Nat.add_eq_left, Nat.add_left_inj, oMax, oMin, oAbs, tb_X7_ofShuttle, p_X0_delayOf, p_X0_endMinute, p_X0_run, p_X2_hasShuttle, p_X2_number, p_X6_forReason, p_X6_gather, p_X6_mostBlamed, p_X6_total, f_X0_delayOf, f_X0_endMinute, f_X0_run, f_X2_hasShuttle, f_X2_number, f_X6_forReason, f_X6_gather, f_X6_mostBlamed, f_X6_total, p_X7_ofShuttle, f_X7_ofShuttle, sS_0 hT, sR_0_1 hT, sR_0_0 hT, wS2 hT, dS1 hT, hT, is2, b01, hD, hRe, sS_0 hTR, sR_0_0 hTR, dS1 hTR, hDR, Nat.reduceAdd, xR, hAe, hWe, if_pos c, c6]
            repeat' (first | exact True.intro | with_reducible assumption | with_reducible refine And.intro ?_ ?_ | intro _)
            all_goals first
              | omega
              | assumption
              | rfl
              | (split <;> omega)
              | grind
              | skip
          · rw [if_neg c6] at hA hW
            by_cases c7 : k = 7
            · rw [if_pos c7] at hA hW
              subst hA hW
              refine hZ (fun _ => false) 16 0 _ _ _ _ _ ?_
              simp only [sm_run, sm_blk, sm_get, sm_ent, sm_ents, sm_wds, sm_wd, sm_nl, sm_pop, sm_back, sm_cases, oK, oLK, oL, oI, oA, oJ, oIs, oAs, oJs, oInc, oAdd, oSub, oMul, oDiv, oRem, oNeg, oAnd, oAndB, oOr, oShl, oI2c, oI2l, oL2i, oLand, oLor, oLshl, oLshr, oLushr, oLcmp, oDup, oDup2, oPop, oGo, oFg, oEq, oNe, oLt, oGe, oGt, oLe, oEq0, oNe0, oLt0, oGe0, oGt0, oLe0, oSw, oGi, oGr, oPi, oPz, oPr, oLen, oIl, oZl, oCl, oRl, oIst, oZst, oCst, oRst, oCopy, oNew, oNa, oNa2, oObj, oCs, oCv, oCi, oIr, oZr, oVr, Nat.beq, List.getElem?_cons_zero, List.getElem?_cons_succ, List.set_cons_zero, List.set_cons_succ, List.length_cons, List.length_nil, List.nil_append, List.cons_append, List.append_nil, List.replicate_succ, List.replicate_zero, Nat.reduceAdd, Nat.reduceSub, Nat.reduceLT, Nat.reduceLeDiff, Nat.reduceBEq, true_and, and_true, Nat.zero_add, Nat.add_zero, Nat.le_refl, Option.some.injEq, exists_eq_left', true_or, or_true, or_false, false_or, reduceCtorEq, Prod.mk.injEq, Sum.inl.injEq, and_self, false_and, and_false, not_true_eq_false, not_false_eq_true, false_implies, true_implies, sm_r, Int.add_zero, Int.zero_add, wI_wsI, wS_wsI, wR_wsI, wI_wCp, wS_wCp, wR_wCp, Nat.reduceEqDiff, reduceIte, sT_iff, sT_iffC, wIf_ne, ne_eq, Bool.false_or, Bool.true_or, Bool.or_false, Bool.or_true, Bool.or_self, Nat.left_eq_add, Nat.add_eq_left, Nat.add_left_inj, oMax, oMin, oAbs, tb_X7_ofShuttle, p_X0_delayOf, p_X0_endMinute, p_X0_run, p_X2_hasShuttle, p_X2_number, p_X6_forReason, p_X6_gather, p_X6_mostBlamed, p_X6_total, f_X0_delayOf, f_X0_endMinute, f_X0_run, f_X2_hasShuttle, f_X2_number, f_X6_forReason, f_X6_gather, f_X6_mostBlamed, f_X6_total, p_X7_ofShuttle, f_X7_ofShuttle, sS_0 hT, sR_0_1 hT, sR_0_0 hT, wS2 hT, dS1 hT, hT, is2, b01, hD, hRe, sS_0 hTR, sR_0_0 hTR, dS1 hTR, hDR, hX, Nat.reduceAdd, xR, hAe, hWe, if_pos c, c7]
              repeat' (first | exact True.intro | with_reducible assumption | with_reducible refine And.intro ?_ ?_ | intro _)
              all_goals first
                | omega
                | assumption
                | rfl
                | (split <;> omega)
                | grind
                | skip
            · rw [if_neg c7] at hA hW
              have hG := gW_inv hX hWy c.1 xR 8 (by decide) (by decide)
              have hTG := sFr_sT hG.1 hTR
              have hGb : wBd8 (gW R 1 x 8) 10000000 := fun j j0 j1 => by have := hG.2 j j0 j1; omega
              clear hG
              have hct : wI (gW R 1 x 8) 76 1 + wI (gW R 1 x 8) 76 2 + wI (gW R 1 x 8) 76 3 = cTot (gW R 1 x 8) := rfl
              generalize hGe : gW R 1 x 8 = G at *
              by_cases c8 : k = 8
              · rw [if_pos c8] at hA
                subst hA hW
                refine hZ (fun _ => false) 16 0 _ _ _ _ _ ?_
                simp only [sm_run, sm_blk, sm_get, sm_ent, sm_ents, sm_wds, sm_wd, sm_nl, sm_pop, sm_back, sm_cases, oK, oLK, oL, oI, oA, oJ, oIs, oAs, oJs, oInc, oAdd, oSub, oMul, oDiv, oRem, oNeg, oAnd, oAndB, oOr, oShl, oI2c, oI2l, oL2i, oLand, oLor, oLshl, oLshr, oLushr, oLcmp, oDup, oDup2, oPop, oGo, oFg, oEq, oNe, oLt, oGe, oGt, oLe, oEq0, oNe0, oLt0, oGe0, oGt0, oLe0, oSw, oGi, oGr, oPi, oPz, oPr, oLen, oIl, oZl, oCl, oRl, oIst, oZst, oCst, oRst, oCopy, oNew, oNa, oNa2, oObj, oCs, oCv, oCi, oIr, oZr, oVr, Nat.beq, List.getElem?_cons_zero, List.getElem?_cons_succ, List.set_cons_zero, List.set_cons_succ, List.length_cons, List.length_nil, List.nil_append, List.cons_append, List.append_nil, List.replicate_succ, List.replicate_zero, Nat.reduceAdd, Nat.reduceSub, Nat.reduceLT, Nat.reduceLeDiff, Nat.reduceBEq, true_and, and_true, Nat.zero_add, Nat.add_zero, Nat.le_refl, Option.some.injEq, exists_eq_left', true_or, or_true, or_false, false_or, reduceCtorEq, Prod.mk.injEq, Sum.inl.injEq, and_self, false_and, and_false, not_true_eq_false, not_false_eq_true, false_implies, true_implies, sm_r, Int.add_zero, Int.zero_add, wI_wsI, wS_wsI, wR_wsI, wI_wCp, wS_wCp, wR_wCp, Nat.reduceEqDiff, reduceIte, sT_iff, sT_iffC, wIf_ne, ne_eq, Bool.false_or, Bool.true_or, Bool.or_false, Bool.or_true, Bool.or_self, Nat.left_eq_add, Nat.add_eq_left, Nat.add_left_inj, oMax, oMin, oAbs, tb_X7_ofShuttle, p_X0_delayOf, p_X0_endMinute, p_X0_run, p_X2_hasShuttle, p_X2_number, p_X6_forReason, p_X6_gather, p_X6_mostBlamed, p_X6_total, f_X0_delayOf, f_X0_endMinute, f_X0_run, f_X2_hasShuttle, f_X2_number, f_X6_forReason, f_X6_gather, f_X6_mostBlamed, f_X6_total, p_X7_ofShuttle, f_X7_ofShuttle, sS_0 hT, sR_0_1 hT, sR_0_0 hT, sR_0_5 hT, wS2 hT, dS1 hT, hT, is2, b01, hD, hRe, sS_0 hTR, sR_0_0 hTR, sR_0_5 hTR, sS_75 hTR, dS1 hTR, hDR, hX, hWy, Nat.reduceAdd, xR, hGe, sS_0 hTG, sR_0_5 hTG, sS_75 hTG, hTG, hGb, hct, hAe, hWe, if_pos c, c8]
                repeat' (first | exact True.intro | with_reducible assumption | with_reducible refine And.intro ?_ ?_ | intro _)
                all_goals first
                  | omega
                  | assumption
                  | rfl
                  | (split <;> omega)
                  | grind
                  | skip
              · rw [if_neg c8] at hA
                by_cases c12 : k = 12
                · rw [if_pos c12] at hA
                  subst hA hW
                  refine hZ (fun _ => false) 16 0 _ _ _ _ _ ?_
                  simp only [sm_run, sm_blk, sm_get, sm_ent, sm_ents, sm_wds, sm_wd, sm_nl, sm_pop, sm_back, sm_cases, oK, oLK, oL, oI, oA, oJ, oIs, oAs, oJs, oInc, oAdd, oSub, oMul, oDiv, oRem, oNeg, oAnd, oAndB, oOr, oShl, oI2c, oI2l, oL2i, oLand, oLor, oLshl, oLshr, oLushr, oLcmp, oDup, oDup2, oPop, oGo, oFg, oEq, oNe, oLt, oGe, oGt, oLe, oEq0, oNe0, oLt0, oGe0, oGt0, oLe0, oSw, oGi, oGr, oPi, oPz, oPr, oLen, oIl, oZl, oCl, oRl, oIst, oZst, oCst, oRst, oCopy, oNew, oNa, oNa2, oObj, oCs, oCv, oCi, oIr, oZr, oVr, Nat.beq, List.getElem?_cons_zero, List.getElem?_cons_succ, List.set_cons_zero, List.set_cons_succ, List.length_cons, List.length_nil, List.nil_append, List.cons_append, List.append_nil, List.replicate_succ, List.replicate_zero, Nat.reduceAdd, Nat.reduceSub, Nat.reduceLT, Nat.reduceLeDiff, Nat.reduceBEq, true_and, and_true, Nat.zero_add, Nat.add_zero, Nat.le_refl, Option.some.injEq, exists_eq_left', true_or, or_true, or_false, false_or, reduceCtorEq, Prod.mk.injEq, Sum.inl.injEq, and_self, false_and, and_false, not_true_eq_false, not_false_eq_true, false_implies, true_implies, sm_r, Int.add_zero, Int.zero_add, wI_wsI, wS_wsI, wR_wsI, wI_wCp, wS_wCp, wR_wCp, Nat.reduceEqDiff, reduceIte, sT_iff, sT_iffC, wIf_ne, ne_eq, Bool.false_or, Bool.true_or, Bool.or_false, Bool.or_true, Bool.or_self, Nat.left_eq_add, Nat.add_eq_left, Nat.add_left_inj, oMax, oMin, oAbs, tb_X7_ofShuttle, p_X0_delayOf, p_X0_endMinute, p_X0_run, p_X2_hasShuttle, p_X2_number, p_X6_forReason, p_X6_gather, p_X6_mostBlamed, p_X6_total, f_X0_delayOf, f_X0_endMinute, f_X0_run, f_X2_hasShuttle, f_X2_number, f_X6_forReason, f_X6_gather, f_X6_mostBlamed, f_X6_total, p_X7_ofShuttle, f_X7_ofShuttle, sS_0 hT, sR_0_1 hT, sR_0_0 hT, sR_0_5 hT, wS2 hT, dS1 hT, hT, is2, b01, hD, hRe, sS_0 hTR, sR_0_0 hTR, sR_0_5 hTR, sS_75 hTR, dS1 hTR, hDR, hX, hWy, Nat.reduceAdd, xR, hGe, sS_0 hTG, sR_0_5 hTG, sS_75 hTG, hTG, hGb, hAe, hWe, if_pos c, c12]
                  repeat' (first | exact True.intro | with_reducible assumption | with_reducible refine And.intro ?_ ?_ | intro _)
                  all_goals first
                    | omega
                    | assumption
                    | rfl
                    | (split <;> omega)
                    | grind
                    | skip
                · rw [if_neg c12] at hA
                  subst hA hW
                  refine hZ (fun _ => false) 16 0 _ _ _ _ _ ?_
                  simp only [sm_run, sm_blk, sm_get, sm_ent, sm_ents, sm_wds, sm_wd, sm_nl, sm_pop, sm_back, sm_cases, oK, oLK, oL, oI, oA, oJ, oIs, oAs, oJs, oInc, oAdd, oSub, oMul, oDiv, oRem, oNeg, oAnd, oAndB, oOr, oShl, oI2c, oI2l, oL2i, oLand, oLor, oLshl, oLshr, oLushr, oLcmp, oDup, oDup2, oPop, oGo, oFg, oEq, oNe, oLt, oGe, oGt, oLe, oEq0, oNe0, oLt0, oGe0, oGt0, oLe0, oSw, oGi, oGr, oPi, oPz, oPr, oLen, oIl, oZl, oCl, oRl, oIst, oZst, oCst, oRst, oCopy, oNew, oNa, oNa2, oObj, oCs, oCv, oCi, oIr, oZr, oVr, Nat.beq, List.getElem?_cons_zero, List.getElem?_cons_succ, List.set_cons_zero, List.set_cons_succ, List.length_cons, List.length_nil, List.nil_append, List.cons_append, List.append_nil, List.replicate_succ, List.replicate_zero, Nat.reduceAdd, Nat.reduceSub, Nat.reduceLT, Nat.reduceLeDiff, Nat.reduceBEq, true_and, and_true, Nat.zero_add, Nat.add_zero, Nat.le_refl, Option.some.injEq, exists_eq_left', true_or, or_true, or_false, false_or, reduceCtorEq, Prod.mk.injEq, Sum.inl.injEq, and_self, false_and, and_false, not_true_eq_false, not_false_eq_true, false_implies, true_implies, sm_r, Int.add_zero, Int.zero_add, wI_wsI, wS_wsI, wR_wsI, wI_wCp, wS_wCp, wR_wCp, Nat.reduceEqDiff, reduceIte, sT_iff, sT_iffC, wIf_ne, ne_eq, Bool.false_or, Bool.true_or, Bool.or_false, Bool.or_true, Bool.or_self, Nat.left_eq_add, Nat.add_eq_left, Nat.add_left_inj, oMax, oMin, oAbs, tb_X7_ofShuttle, p_X0_delayOf, p_X0_endMinute, p_X0_run, p_X2_hasShuttle, p_X2_number, p_X6_forReason, p_X6_gather, p_X6_mostBlamed, p_X6_total, f_X0_delayOf, f_X0_endMinute, f_X0_run, f_X2_hasShuttle, f_X2_number, f_X6_forReason, f_X6_gather, f_X6_mostBlamed, f_X6_total, p_X7_ofShuttle, f_X7_ofShuttle, sS_0 hT, sR_0_1 hT, sR_0_0 hT, sR_0_5 hT, wS2 hT, dS1 hT, hT, is2, b01, hD, hRe, sS_0 hTR, sR_0_0 hTR, sR_0_5 hTR, sS_75 hTR, dS1 hTR, hDR, hX, hWy, Nat.reduceAdd, xR, hGe, sS_0 hTG, sR_0_5 hTG, sS_75 hTG, hTG, hGb, hct, hAe, hWe, if_pos c]
                  repeat' (first | exact True.intro | with_reducible assumption | with_reducible refine And.intro ?_ ?_ | intro _)
                  all_goals first
                    | omega
                    | assumption
                    | rfl
                    | (split <;> omega)
                    | grind
                    | skip
  · rw [if_neg c] at hA hW
    subst hA hW
    refine hZ (fun _ => false) 16 0 _ _ _ _ _ ?_
    simp only [sm_run, sm_blk, sm_get, sm_ent, sm_ents, sm_wds, sm_wd, sm_nl, sm_pop, sm_back, sm_cases, oK, oLK, oL, oI, oA, oJ, oIs, oAs, oJs, oInc, oAdd, oSub, oMul, oDiv, oRem, oNeg, oAnd, oAndB, oOr, oShl, oI2c, oI2l, oL2i, oLand, oLor, oLshl, oLshr, oLushr, oLcmp, oDup, oDup2, oPop, oGo, oFg, oEq, oNe, oLt, oGe, oGt, oLe, oEq0, oNe0, oLt0, oGe0, oGt0, oLe0, oSw, oGi, oGr, oPi, oPz, oPr, oLen, oIl, oZl, oCl, oRl, oIst, oZst, oCst, oRst, oCopy, oNew, oNa, oNa2, oObj, oCs, oCv, oCi, oIr, oZr, oVr, Nat.beq, List.getElem?_cons_zero, List.getElem?_cons_succ, List.set_cons_zero, List.set_cons_succ, List.length_cons, List.length_nil, List.nil_append, List.cons_append, List.append_nil, List.replicate_succ, List.replicate_zero, Nat.reduceAdd, Nat.reduceSub, Nat.reduceLT, Nat.reduceLeDiff, Nat.reduceBEq, true_and, and_true, Nat.zero_add, Nat.add_zero, Nat.le_refl, Option.some.injEq, exists_eq_left', true_or, or_true, or_false, false_or, reduceCtorEq, Prod.mk.injEq, Sum.inl.injEq, and_self, false_and, and_false, not_true_eq_false, not_false_eq_true, false_implies, true_implies, sm_r, Int.add_zero, Int.zero_add, wI_wsI, wS_wsI, wR_wsI, wI_wCp, wS_wCp, wR_wCp, Nat.reduceEqDiff, reduceIte, sT_iff, sT_iffC, wIf_ne, ne_eq, Bool.false_or, Bool.true_or, Bool.or_false, Bool.or_true, Bool.or_self, Nat.left_eq_add, Nat.add_eq_left, Nat.add_left_inj, oMax, oMin, oAbs, tb_X7_ofShuttle, p_X0_delayOf, p_X0_endMinute, p_X0_run, p_X2_hasShuttle, p_X2_number, p_X6_forReason, p_X6_gather, p_X6_mostBlamed, p_X6_total, f_X0_delayOf, f_X0_endMinute, f_X0_run, f_X2_hasShuttle, f_X2_number, f_X6_forReason, f_X6_gather, f_X6_mostBlamed, f_X6_total, p_X7_ofShuttle, f_X7_ofShuttle, sS_0 hT, sR_0_1 hT, wS2 hT, hT, is2, b01, hAe, hWe, if_neg c]
    repeat' (first | exact True.intro | with_reducible assumption | with_reducible refine And.intro ?_ ?_ | intro _)
    all_goals first
      | omega
      | assumption
      | rfl
      | (split <;> omega)
      | grind
      | skip
theorem met_X7_ofShuttle (l : Launch) : sm_Met l yX7_ofShuttle cX7_ofShuttle 3 (some .int) 6 0 0 p_X7_ofShuttle f_X7_ofShuttle := sm_met 1 (Or.inr (Or.inl ⟨rfl, rfl⟩)) (by decide +kernel) (sn_X7_ofShuttle l) ok_X7_ofShuttle
def cCt (w : sm_W) (k : Int) : Int := if k < 0 then -2 else (if 18 < k then -2 else (if k = 0 then wI w 2 7 else (if k = 1 then wI w 2 8 else (if k = 2 then wI w 83 0 else (if k = 3 then wI w 86 0 else (if k < 12 then wI w 3 (k - 4) else wI w 4 (k - 12)))))))
def p_X7_count : List sm_V → sm_W → Prop
  | [.inr (.inl o), .inl k], w => o = 0 ∧ sT w
  | _, _ => False
def f_X7_count : sm_F
  | [.inr (.inl o), .inl k], w => (some (.inl (cCt w k)), w)
  | _, w => (none, w)
def tb_X7_count : List (Nat × List sm_O) := [(0, [oI 1, oLt0 10, oI 1, oK 18, oLe 13, oGo 10]),
  (10, [oK (-2), oIr]),
  (13, [oI 1, oSw 0 [44, 52, 60, 68] 76]),
  (44, [oA 0, oGr 7 12 1, oGi 2 9 7, oIr]),
  (52, [oA 0, oGr 7 12 1, oGi 2 9 8, oIr]),
  (60, [oA 0, oGr 7 12 8, oGi 5 5 0, oIr]),
  (68, [oA 0, oGr 7 12 9, oGi 1 2 0, oIr]),
  (76, [oI 1, oK 12, oGe 96, oA 0, oGr 7 12 1, oGr 2 9 0, oI 1, oK 4, oSub, oIl, oGo 108]),
  (96, [oA 0, oGr 7 12 1, oGr 2 9 1, oI 1, oK 12, oSub, oIl, oGo 108]),
  (108, [oIr])]
set_option maxRecDepth 100000 in
theorem sb_X7_count_0 (l : Launch) : sm_SndB l RX7 "count" cX7_count 2 1 0 0 [oI 1, oLt0 10, oI 1, oK 18, oLe 13, oGo 10] := sb_cons (sd_iload_n (by decide +kernel : decode cX7_count 0 = .ok (.iload_n 1, 1)) rfl) (sb_cons (sd_lt0 (by decide +kernel : decode cX7_count 1 = .ok (.ifCond .lt 9, 3)) (by decide)) (sb_cons (sd_iload_n (by decide +kernel : decode cX7_count 4 = .ok (.iload_n 1, 1)) rfl) (sb_cons (sd_bipush (by decide +kernel : decode cX7_count 5 = .ok (.bipush 18, 2)) ⟨by decide, by decide⟩ (by decide)) (sb_cons (sd_le (by decide +kernel : decode cX7_count 7 = .ok (.if_icmp .le 6, 3)) (by decide)) (sb_cons (sd_fall (x := 0)) sb_nil)))))
set_option maxRecDepth 100000 in
theorem sb_X7_count_10 (l : Launch) : sm_SndB l RX7 "count" cX7_count 2 1 0 10 [oK (-2), oIr] := sb_cons (sd_bipush (by decide +kernel : decode cX7_count 10 = .ok (.bipush (-2), 2)) ⟨by decide, by decide⟩ (by decide)) (sb_cons (sd_ireturn (x := 0) rfl (by decide +kernel : decode cX7_count 12 = .ok (.ireturn, 1))) sb_nil)
set_option maxRecDepth 100000 in
theorem sb_X7_count_13 (l : Launch) : sm_SndB l RX7 "count" cX7_count 2 1 0 13 [oI 1, oSw 0 [44, 52, 60, 68] 76] := sb_cons (sd_iload_n (by decide +kernel : decode cX7_count 13 = .ok (.iload_n 1, 1)) rfl) (sb_cons (sd_sw (x := 0) (by decide +kernel : decode cX7_count 14 = .ok (.tableswitch 62 0 3 #[30, 38, 46, 54], 30)) (by decide) (by decide) (by decide)) sb_nil)
set_option maxRecDepth 100000 in
theorem sb_X7_count_44 (l : Launch) : sm_SndB l RX7 "count" cX7_count 2 1 0 44 [oA 0, oGr 7 12 1, oGi 2 9 7, oIr] := sb_cons (sd_aload_n (by decide +kernel : decode cX7_count 44 = .ok (.aload_n 0, 1)) rfl) (sb_cons (sd_getr (k := 1) kl_7 (by decide) rfl wm_146 (by decide +kernel : decode cX7_count 45 = .ok (.getfield 20, 3))) (sb_cons (sd_geti (k := 7) kl_2 (by decide) rfl wm_61 (by decide +kernel : decode cX7_count 48 = .ok (.getfield 140, 3))) (sb_cons (sd_ireturn (x := 0) rfl (by decide +kernel : decode cX7_count 51 = .ok (.ireturn, 1))) sb_nil)))
set_option maxRecDepth 100000 in
theorem sb_X7_count_52 (l : Launch) : sm_SndB l RX7 "count" cX7_count 2 1 0 52 [oA 0, oGr 7 12 1, oGi 2 9 8, oIr] := sb_cons (sd_aload_n (by decide +kernel : decode cX7_count 52 = .ok (.aload_n 0, 1)) rfl) (sb_cons (sd_getr (k := 1) kl_7 (by decide) rfl wm_146 (by decide +kernel : decode cX7_count 53 = .ok (.getfield 20, 3))) (sb_cons (sd_geti (k := 8) kl_2 (by decide) rfl wm_65 (by decide +kernel : decode cX7_count 56 = .ok (.getfield 144, 3))) (sb_cons (sd_ireturn (x := 0) rfl (by decide +kernel : decode cX7_count 59 = .ok (.ireturn, 1))) sb_nil)))
set_option maxRecDepth 100000 in
theorem sb_X7_count_60 (l : Launch) : sm_SndB l RX7 "count" cX7_count 2 1 0 60 [oA 0, oGr 7 12 8, oGi 5 5 0, oIr] := sb_cons (sd_aload_n (by decide +kernel : decode cX7_count 60 = .ok (.aload_n 0, 1)) rfl) (sb_cons (sd_getr (k := 8) kl_7 (by decide) rfl wm_153 (by decide +kernel : decode cX7_count 61 = .ok (.getfield 57, 3))) (sb_cons (sd_geti (k := 0) kl_5 (by decide) rfl wm_127 (by decide +kernel : decode cX7_count 64 = .ok (.getfield 147, 3))) (sb_cons (sd_ireturn (x := 0) rfl (by decide +kernel : decode cX7_count 67 = .ok (.ireturn, 1))) sb_nil)))
set_option maxRecDepth 100000 in
theorem sb_X7_count_68 (l : Launch) : sm_SndB l RX7 "count" cX7_count 2 1 0 68 [oA 0, oGr 7 12 9, oGi 1 2 0, oIr] := sb_cons (sd_aload_n (by decide +kernel : decode cX7_count 68 = .ok (.aload_n 0, 1)) rfl) (sb_cons (sd_getr (k := 9) kl_7 (by decide) rfl wm_154 (by decide +kernel : decode cX7_count 69 = .ok (.getfield 64, 3))) (sb_cons (sd_geti (k := 0) kl_1 (by decide) rfl wm_143 (by decide +kernel : decode cX7_count 72 = .ok (.getfield 150, 3))) (sb_cons (sd_ireturn (x := 0) rfl (by decide +kernel : decode cX7_count 75 = .ok (.ireturn, 1))) sb_nil)))
set_option maxRecDepth 100000 in
theorem sb_X7_count_76 (l : Launch) : sm_SndB l RX7 "count" cX7_count 2 1 0 76 [oI 1, oK 12, oGe 96, oA 0, oGr 7 12 1, oGr 2 9 0, oI 1, oK 4, oSub, oIl, oGo 108] := sb_cons (sd_iload_n (by decide +kernel : decode cX7_count 76 = .ok (.iload_n 1, 1)) rfl) (sb_cons (sd_bipush (by decide +kernel : decode cX7_count 77 = .ok (.bipush 12, 2)) ⟨by decide, by decide⟩ (by decide)) (sb_cons (sd_ge (by decide +kernel : decode cX7_count 79 = .ok (.if_icmp .ge 17, 3)) (by decide)) (sb_cons (sd_aload_n (by decide +kernel : decode cX7_count 82 = .ok (.aload_n 0, 1)) rfl) (sb_cons (sd_getr (k := 1) kl_7 (by decide) rfl wm_146 (by decide +kernel : decode cX7_count 83 = .ok (.getfield 20, 3))) (sb_cons (sd_getr (k := 0) kl_2 (by decide) rfl wm_41 (by decide +kernel : decode cX7_count 86 = .ok (.getfield 153, 3))) (sb_cons (sd_iload_n (by decide +kernel : decode cX7_count 89 = .ok (.iload_n 1, 1)) rfl) (sb_cons (sd_iconst (by decide +kernel : decode cX7_count 90 = .ok (.iconst 4, 1)) ⟨by decide, by decide⟩) (sb_cons (sd_isub (by decide +kernel : decode cX7_count 91 = .ok (.isub, 1))) (sb_cons (sd_iaload (by decide +kernel : decode cX7_count 92 = .ok (.iaload, 1))) (sb_cons (sd_goto (x := 0) (by decide +kernel : decode cX7_count 93 = .ok (.goto 15, 3)) (by decide)) sb_nil))))))))))
set_option maxRecDepth 100000 in
theorem sb_X7_count_96 (l : Launch) : sm_SndB l RX7 "count" cX7_count 2 1 0 96 [oA 0, oGr 7 12 1, oGr 2 9 1, oI 1, oK 12, oSub, oIl, oGo 108] := sb_cons (sd_aload_n (by decide +kernel : decode cX7_count 96 = .ok (.aload_n 0, 1)) rfl) (sb_cons (sd_getr (k := 1) kl_7 (by decide) rfl wm_146 (by decide +kernel : decode cX7_count 97 = .ok (.getfield 20, 3))) (sb_cons (sd_getr (k := 1) kl_2 (by decide) rfl wm_43 (by decide +kernel : decode cX7_count 100 = .ok (.getfield 157, 3))) (sb_cons (sd_iload_n (by decide +kernel : decode cX7_count 103 = .ok (.iload_n 1, 1)) rfl) (sb_cons (sd_bipush (by decide +kernel : decode cX7_count 104 = .ok (.bipush 12, 2)) ⟨by decide, by decide⟩ (by decide)) (sb_cons (sd_isub (by decide +kernel : decode cX7_count 106 = .ok (.isub, 1))) (sb_cons (sd_iaload (by decide +kernel : decode cX7_count 107 = .ok (.iaload, 1))) (sb_cons (sd_fall (x := 0)) sb_nil)))))))
set_option maxRecDepth 100000 in
theorem sb_X7_count_108 (l : Launch) : sm_SndB l RX7 "count" cX7_count 2 1 0 108 [oIr] := sb_cons (sd_ireturn (x := 0) rfl (by decide +kernel : decode cX7_count 108 = .ok (.ireturn, 1))) sb_nil
theorem sn_X7_count (l : Launch) : sm_SndT l RX7 "count" cX7_count 2 1 0 tb_X7_count := st_cons (sb_X7_count_0 l) (st_cons (sb_X7_count_10 l) (st_cons (sb_X7_count_13 l) (st_cons (sb_X7_count_44 l) (st_cons (sb_X7_count_52 l) (st_cons (sb_X7_count_60 l) (st_cons (sb_X7_count_68 l) (st_cons (sb_X7_count_76 l) (st_cons (sb_X7_count_96 l) (st_cons (sb_X7_count_108 l) (st_nil))))))))))
set_option maxRecDepth 100000 in
set_option maxHeartbeats 4000000 in
theorem ok_X7_count : sm_Ok tb_X7_count 2 0 0 p_X7_count f_X7_count := by
  intro as w hp ha hw
  match as, hp with
  | [.inr (.inl o), .inl k], hp =>
  refine ⟨Nat.le_of_ble_eq_true rfl, fun Z hZ => ?_⟩
  obtain ⟨rfl, hT⟩ := hp
  obtain ⟨l0, l1, l2, l3, l4, l5, l6, l7, r0, r1, r2, r3, r4, r5, r6⟩ := lS hT is2
  simp only [Nat.reduceAdd] at l1 l2 r0 r1
  obtain ⟨z, hz⟩ : ∃ z, z = cCt w k := ⟨_, rfl⟩
  have hze : cCt w k = z := hz.symm
  unfold cCt at hz
  refine hZ (fun _ => false) 16 0 _ _ _ _ _ ?_
  simp only [sm_run, sm_blk, sm_get, sm_ent, sm_ents, sm_wds, sm_wd, sm_nl, sm_pop, sm_back, sm_cases, oK, oLK, oL, oI, oA, oJ, oIs, oAs, oJs, oInc, oAdd, oSub, oMul, oDiv, oRem, oNeg, oAnd, oAndB, oOr, oShl, oI2c, oI2l, oL2i, oLand, oLor, oLshl, oLshr, oLushr, oLcmp, oDup, oDup2, oPop, oGo, oFg, oEq, oNe, oLt, oGe, oGt, oLe, oEq0, oNe0, oLt0, oGe0, oGt0, oLe0, oSw, oGi, oGr, oPi, oPz, oPr, oLen, oIl, oZl, oCl, oRl, oIst, oZst, oCst, oRst, oCopy, oNew, oNa, oNa2, oObj, oCs, oCv, oCi, oIr, oZr, oVr, Nat.beq, List.getElem?_cons_zero, List.getElem?_cons_succ, List.set_cons_zero, List.set_cons_succ, List.length_cons, List.length_nil, List.nil_append, List.cons_append, List.append_nil, List.replicate_succ, List.replicate_zero, Nat.reduceAdd, Nat.reduceSub, Nat.reduceLT, Nat.reduceLeDiff, Nat.reduceBEq, true_and, and_true, Nat.zero_add, Nat.add_zero, Nat.le_refl, Option.some.injEq, exists_eq_left', true_or, or_true, or_false, false_or, reduceCtorEq, Prod.mk.injEq, Sum.inl.injEq, and_self, false_and, and_false, not_true_eq_false, not_false_eq_true, false_implies, true_implies, sm_r, Int.add_zero, Int.zero_add, wI_wsI, wS_wsI, wR_wsI, wI_wCp, wS_wCp, wR_wCp, Nat.reduceEqDiff, reduceIte, sT_iff, sT_iffC, wIf_ne, ne_eq, Bool.false_or, Bool.true_or, Bool.or_false, Bool.or_true, Bool.or_self, Nat.left_eq_add, Nat.add_eq_left, Nat.add_left_inj, oMax, oMin, oAbs, tb_X7_count, p_X7_count, f_X7_count, sS_0 hT, sR_0_1 hT, sR_0_8 hT, sR_0_9 hT, sS_83 hT, sS_86 hT, l0, r0, l1, r1, l2, hze, Int.reduceAdd]
  repeat' (first | exact True.intro | with_reducible assumption | with_reducible refine And.intro ?_ ?_ | intro _)
  all_goals first
    | omega
    | assumption
    | rfl
    | (split <;> omega)
    | grind
    | skip
theorem met_X7_count (l : Launch) : sm_Met l yX7_count cX7_count 2 (some .int) 0 0 0 p_X7_count f_X7_count := sm_met 1 (Or.inr (Or.inl ⟨rfl, rfl⟩)) (by decide +kernel) (sn_X7_count l) ok_X7_count
def cDyA (w : sm_W) (k : Int) : Int := if k < 0 then -2 else (if 5 < k then -2 else (if k = 0 then wI (xRun 1 w) 1 3 else (if k = 1 then xDl (xRun 1 w) 1 else (if k = 2 then wI (xRun 1 w) 1 4 else (if k = 3 then wI (mGa (xRun 1 w) 1) 78 1 else (if k = 4 then xWm (xRun 1 w) 1 (wI (xRun 1 w) 2 7) else xGd (xRun 1 w) 1 (wI (xRun 1 w) 2 7)))))))
def cDyW (w : sm_W) (k : Int) : sm_W := if k < 0 then w else (if 5 < k then w else (if k = 3 then mGa (xRun 1 w) 1 else xRun 1 w))
def p_X7_day : List sm_V → sm_W → Prop
  | [.inr (.inl o), .inl k], w => o = 0 ∧ cOK w
  | _, _ => False
def f_X7_day : sm_F
  | [.inr (.inl o), .inl k], w => (some (.inl (cDyA w k)), cDyW w k)
  | _, w => (none, w)
def tb_X7_day : List (Nat × List sm_O) := [(0, [oI 1, oLt0 9, oI 1, oK 5, oLe 12, oGo 9]),
  (9, [oK (-2), oIr]),
  (12, [oA 0, oGr 7 12 0, oCv 0 11 p_X0_run f_X0_run 0 0 1, oI 1, oSw 0 [56, 64, 72, 80, 99] 107]),
  (56, [oA 0, oGr 7 12 0, oGi 0 11 3, oIr]),
  (64, [oA 0, oGr 7 12 0, oCv 0 11 p_X0_delay f_X0_delay 0 0 1, oIr]),
  (72, [oA 0, oGr 7 12 0, oGi 0 11 4, oIr]),
  (80, [oA 0, oGr 7 12 6, oA 0, oGr 7 12 0, oCv 3 2 p_X3_gather f_X3_gather 0 0 2, oA 0, oGr 7 12 6, oGi 3 2 1, oIr]),
  (99, [oA 0, oGr 7 12 0, oCv 0 11 p_X0_waitedMinutes f_X0_waitedMinutes 0 0 1, oIr]),
  (107, [oA 0, oGr 7 12 0, oCv 0 11 p_X0_greatestDelay f_X0_greatestDelay 0 0 1, oIr])]
set_option maxRecDepth 100000 in
theorem sb_X7_day_0 (l : Launch) : sm_SndB l RX7 "day" cX7_day 2 1 6 0 [oI 1, oLt0 9, oI 1, oK 5, oLe 12, oGo 9] := sb_cons (sd_iload_n (by decide +kernel : decode cX7_day 0 = .ok (.iload_n 1, 1)) rfl) (sb_cons (sd_lt0 (by decide +kernel : decode cX7_day 1 = .ok (.ifCond .lt 8, 3)) (by decide)) (sb_cons (sd_iload_n (by decide +kernel : decode cX7_day 4 = .ok (.iload_n 1, 1)) rfl) (sb_cons (sd_iconst (by decide +kernel : decode cX7_day 5 = .ok (.iconst 5, 1)) ⟨by decide, by decide⟩) (sb_cons (sd_le (by decide +kernel : decode cX7_day 6 = .ok (.if_icmp .le 6, 3)) (by decide)) (sb_cons (sd_fall (x := 0)) sb_nil)))))
set_option maxRecDepth 100000 in
theorem sb_X7_day_9 (l : Launch) : sm_SndB l RX7 "day" cX7_day 2 1 6 9 [oK (-2), oIr] := sb_cons (sd_bipush (by decide +kernel : decode cX7_day 9 = .ok (.bipush (-2), 2)) ⟨by decide, by decide⟩ (by decide)) (sb_cons (sd_ireturn (x := 0) rfl (by decide +kernel : decode cX7_day 11 = .ok (.ireturn, 1))) sb_nil)
set_option maxRecDepth 100000 in
theorem sb_X7_day_12 (l : Launch) : sm_SndB l RX7 "day" cX7_day 2 1 6 12 [oA 0, oGr 7 12 0, oCv 0 11 p_X0_run f_X0_run 0 0 1, oI 1, oSw 0 [56, 64, 72, 80, 99] 107] := sb_cons (sd_aload_n (by decide +kernel : decode cX7_day 12 = .ok (.aload_n 0, 1)) rfl) (sb_cons (sd_getr (k := 0) kl_7 (by decide) rfl wm_145 (by decide +kernel : decode cX7_day 13 = .ok (.getfield 10, 3))) (sb_cons (sd_callv (n := 0) (met_X0_run l) (by decide) (by decide) wm_287 wm_284 wm_2 ⟨by decide +kernel, by decide +kernel, by decide +kernel⟩ kl_0 wm_285 wm_286 (by decide +kernel : decode cX7_day 16 = .ok (.invokevirtual 117, 3))) (sb_cons (sd_iload_n (by decide +kernel : decode cX7_day 19 = .ok (.iload_n 1, 1)) rfl) (sb_cons (sd_sw (x := 0) (by decide +kernel : decode cX7_day 20 = .ok (.tableswitch 87 0 4 #[36, 44, 52, 60, 79], 36)) (by decide) (by decide) (by decide)) sb_nil))))
set_option maxRecDepth 100000 in
theorem sb_X7_day_56 (l : Launch) : sm_SndB l RX7 "day" cX7_day 2 1 6 56 [oA 0, oGr 7 12 0, oGi 0 11 3, oIr] := sb_cons (sd_aload_n (by decide +kernel : decode cX7_day 56 = .ok (.aload_n 0, 1)) rfl) (sb_cons (sd_getr (k := 0) kl_7 (by decide) rfl wm_145 (by decide +kernel : decode cX7_day 57 = .ok (.getfield 10, 3))) (sb_cons (sd_geti (k := 3) kl_0 (by decide) rfl wm_80 (by decide +kernel : decode cX7_day 60 = .ok (.getfield 160, 3))) (sb_cons (sd_ireturn (x := 0) rfl (by decide +kernel : decode cX7_day 63 = .ok (.ireturn, 1))) sb_nil)))
set_option maxRecDepth 100000 in
theorem sb_X7_day_64 (l : Launch) : sm_SndB l RX7 "day" cX7_day 2 1 6 64 [oA 0, oGr 7 12 0, oCv 0 11 p_X0_delay f_X0_delay 0 0 1, oIr] := sb_cons (sd_aload_n (by decide +kernel : decode cX7_day 64 = .ok (.aload_n 0, 1)) rfl) (sb_cons (sd_getr (k := 0) kl_7 (by decide) rfl wm_145 (by decide +kernel : decode cX7_day 65 = .ok (.getfield 10, 3))) (sb_cons (sd_callv (n := 0) (met_X0_delay l) (by decide) (by decide) wm_433 wm_430 wm_2 ⟨by decide +kernel, by decide +kernel, by decide +kernel⟩ kl_0 wm_431 wm_432 (by decide +kernel : decode cX7_day 68 = .ok (.invokevirtual 163, 3))) (sb_cons (sd_ireturn (x := 0) rfl (by decide +kernel : decode cX7_day 71 = .ok (.ireturn, 1))) sb_nil)))
set_option maxRecDepth 100000 in
theorem sb_X7_day_72 (l : Launch) : sm_SndB l RX7 "day" cX7_day 2 1 6 72 [oA 0, oGr 7 12 0, oGi 0 11 4, oIr] := sb_cons (sd_aload_n (by decide +kernel : decode cX7_day 72 = .ok (.aload_n 0, 1)) rfl) (sb_cons (sd_getr (k := 0) kl_7 (by decide) rfl wm_145 (by decide +kernel : decode cX7_day 73 = .ok (.getfield 10, 3))) (sb_cons (sd_geti (k := 4) kl_0 (by decide) rfl wm_82 (by decide +kernel : decode cX7_day 76 = .ok (.getfield 166, 3))) (sb_cons (sd_ireturn (x := 0) rfl (by decide +kernel : decode cX7_day 79 = .ok (.ireturn, 1))) sb_nil)))
set_option maxRecDepth 100000 in
theorem sb_X7_day_80 (l : Launch) : sm_SndB l RX7 "day" cX7_day 2 1 6 80 [oA 0, oGr 7 12 6, oA 0, oGr 7 12 0, oCv 3 2 p_X3_gather f_X3_gather 0 0 2, oA 0, oGr 7 12 6, oGi 3 2 1, oIr] := sb_cons (sd_aload_n (by decide +kernel : decode cX7_day 80 = .ok (.aload_n 0, 1)) rfl) (sb_cons (sd_getr (k := 6) kl_7 (by decide) rfl wm_151 (by decide +kernel : decode cX7_day 81 = .ok (.getfield 43, 3))) (sb_cons (sd_aload_n (by decide +kernel : decode cX7_day 84 = .ok (.aload_n 0, 1)) rfl) (sb_cons (sd_getr (k := 0) kl_7 (by decide) rfl wm_145 (by decide +kernel : decode cX7_day 85 = .ok (.getfield 10, 3))) (sb_cons (sd_callv (n := 1) (met_X3_gather l) (by decide) (by decide) wm_439 wm_436 wm_6 ⟨by decide +kernel, by decide +kernel, by decide +kernel⟩ kl_3 wm_437 wm_438 (by decide +kernel : decode cX7_day 88 = .ok (.invokevirtual 169, 3))) (sb_cons (sd_aload_n (by decide +kernel : decode cX7_day 91 = .ok (.aload_n 0, 1)) rfl) (sb_cons (sd_getr (k := 6) kl_7 (by decide) rfl wm_151 (by decide +kernel : decode cX7_day 92 = .ok (.getfield 43, 3))) (sb_cons (sd_geti (k := 1) kl_3 (by decide) rfl wm_108 (by decide +kernel : decode cX7_day 95 = .ok (.getfield 172, 3))) (sb_cons (sd_ireturn (x := 0) rfl (by decide +kernel : decode cX7_day 98 = .ok (.ireturn, 1))) sb_nil))))))))
set_option maxRecDepth 100000 in
theorem sb_X7_day_99 (l : Launch) : sm_SndB l RX7 "day" cX7_day 2 1 6 99 [oA 0, oGr 7 12 0, oCv 0 11 p_X0_waitedMinutes f_X0_waitedMinutes 0 0 1, oIr] := sb_cons (sd_aload_n (by decide +kernel : decode cX7_day 99 = .ok (.aload_n 0, 1)) rfl) (sb_cons (sd_getr (k := 0) kl_7 (by decide) rfl wm_145 (by decide +kernel : decode cX7_day 100 = .ok (.getfield 10, 3))) (sb_cons (sd_callv (n := 0) (met_X0_waitedMinutes l) (by decide) (by decide) wm_459 wm_456 wm_2 ⟨by decide +kernel, by decide +kernel, by decide +kernel⟩ kl_0 wm_457 wm_458 (by decide +kernel : decode cX7_day 103 = .ok (.invokevirtual 174, 3))) (sb_cons (sd_ireturn (x := 0) rfl (by decide +kernel : decode cX7_day 106 = .ok (.ireturn, 1))) sb_nil)))
set_option maxRecDepth 100000 in
theorem sb_X7_day_107 (l : Launch) : sm_SndB l RX7 "day" cX7_day 2 1 6 107 [oA 0, oGr 7 12 0, oCv 0 11 p_X0_greatestDelay f_X0_greatestDelay 0 0 1, oIr] := sb_cons (sd_aload_n (by decide +kernel : decode cX7_day 107 = .ok (.aload_n 0, 1)) rfl) (sb_cons (sd_getr (k := 0) kl_7 (by decide) rfl wm_145 (by decide +kernel : decode cX7_day 108 = .ok (.getfield 10, 3))) (sb_cons (sd_callv (n := 0) (met_X0_greatestDelay l) (by decide) (by decide) wm_467 wm_464 wm_2 ⟨by decide +kernel, by decide +kernel, by decide +kernel⟩ kl_0 wm_465 wm_466 (by decide +kernel : decode cX7_day 111 = .ok (.invokevirtual 177, 3))) (sb_cons (sd_ireturn (x := 0) rfl (by decide +kernel : decode cX7_day 114 = .ok (.ireturn, 1))) sb_nil)))
theorem sn_X7_day (l : Launch) : sm_SndT l RX7 "day" cX7_day 2 1 6 tb_X7_day := st_cons (sb_X7_day_0 l) (st_cons (sb_X7_day_9 l) (st_cons (sb_X7_day_12 l) (st_cons (sb_X7_day_56 l) (st_cons (sb_X7_day_64 l) (st_cons (sb_X7_day_72 l) (st_cons (sb_X7_day_80 l) (st_cons (sb_X7_day_99 l) (st_cons (sb_X7_day_107 l) (st_nil)))))))))
set_option maxRecDepth 100000 in
set_option maxHeartbeats 4000000 in
theorem ok_X7_day : sm_Ok tb_X7_day 2 0 0 p_X7_day f_X7_day := by
  intro as w hp ha hw
  match as, hp with
  | [.inr (.inl o), .inl k], hp =>
  refine ⟨Nat.le_of_ble_eq_true rfl, fun Z hZ => ?_⟩
  obtain ⟨rfl, hC⟩ := hp
  have hT := hC.1.1
  have hD := cOK_d hC
  have hA : cDyA w k = if k < 0 then -2 else (if 5 < k then -2 else (if k = 0 then wI (xRun 1 w) 1 3 else (if k = 1 then xDl (xRun 1 w) 1 else (if k = 2 then wI (xRun 1 w) 1 4 else (if k = 3 then wI (mGa (xRun 1 w) 1) 78 1 else (if k = 4 then xWm (xRun 1 w) 1 (wI (xRun 1 w) 2 7) else xGd (xRun 1 w) 1 (wI (xRun 1 w) 2 7))))))) := rfl
  have hW : cDyW w k = if k < 0 then w else (if 5 < k then w else (if k = 3 then mGa (xRun 1 w) 1 else xRun 1 w)) := rfl
  have hR := (xRun_ok hD).1
  have hTR := hR.1.2.1
  have hG := (mGaL_inv hR (wI (xRun 1 w) (1 + 1) 7) (dOK_n hR.1).1 (Int.le_refl _)).1
  have hG : sFr sMt (xRun 1 w) (mGa (xRun 1 w) 1) := hG
  have hTG := sFr_sT hG hTR
  generalize hAe : cDyA w k = A at *
  generalize hWe : cDyW w k = V at *
  generalize hRe : xRun 1 w = R at *
  generalize hGe : mGa R 1 = G at *
  by_cases c1 : k < 0
  · rw [if_pos c1] at hA hW
    subst hA hW
    refine hZ (fun _ => false) 16 0 _ _ _ _ _ ?_
    simp only [sm_run, sm_blk, sm_get, sm_ent, sm_ents, sm_wds, sm_wd, sm_nl, sm_pop, sm_back, sm_cases, oK, oLK, oL, oI, oA, oJ, oIs, oAs, oJs, oInc, oAdd, oSub, oMul, oDiv, oRem, oNeg, oAnd, oAndB, oOr, oShl, oI2c, oI2l, oL2i, oLand, oLor, oLshl, oLshr, oLushr, oLcmp, oDup, oDup2, oPop, oGo, oFg, oEq, oNe, oLt, oGe, oGt, oLe, oEq0, oNe0, oLt0, oGe0, oGt0, oLe0, oSw, oGi, oGr, oPi, oPz, oPr, oLen, oIl, oZl, oCl, oRl, oIst, oZst, oCst, oRst, oCopy, oNew, oNa, oNa2, oObj, oCs, oCv, oCi, oIr, oZr, oVr, Nat.beq, List.getElem?_cons_zero, List.getElem?_cons_succ, List.set_cons_zero, List.set_cons_succ, List.length_cons, List.length_nil, List.nil_append, List.cons_append, List.append_nil, List.replicate_succ, List.replicate_zero, Nat.reduceAdd, Nat.reduceSub, Nat.reduceLT, Nat.reduceLeDiff, Nat.reduceBEq, true_and, and_true, Nat.zero_add, Nat.add_zero, Nat.le_refl, Option.some.injEq, exists_eq_left', true_or, or_true, or_false, false_or, reduceCtorEq, Prod.mk.injEq, Sum.inl.injEq, and_self, false_and, and_false, not_true_eq_false, not_false_eq_true, false_implies, true_implies, sm_r, Int.add_zero, Int.zero_add, wI_wsI, wS_wsI, wR_wsI, wI_wCp, wS_wCp, wR_wCp, Nat.reduceEqDiff, reduceIte, sT_iff, sT_iffC, wIf_ne, ne_eq, Bool.false_or, Bool.true_or, Bool.or_false, Bool.or_true, Bool.or_self, Nat.left_eq_add, Nat.add_eq_left, Nat.add_left_inj, oMax, oMin, oAbs, tb_X7_day, p_X0_delay, p_X0_greatestDelay, p_X0_run, p_X0_waitedMinutes, p_X3_gather, f_X0_delay, f_X0_greatestDelay, f_X0_run, f_X0_waitedMinutes, f_X3_gather, p_X7_day, f_X7_day, sS_0 hT, hAe, hWe]
    repeat' (first | exact True.intro | with_reducible assumption | with_reducible refine And.intro ?_ ?_ | intro _)
    all_goals first
      | omega
      | assumption
      | rfl
      | (split <;> omega)
      | grind
      | skip
  · rw [if_neg c1] at hA hW
    by_cases c2 : 5 < k
    · rw [if_pos c2] at hA hW
      subst hA hW
      refine hZ (fun _ => false) 16 0 _ _ _ _ _ ?_
      simp only [sm_run, sm_blk, sm_get, sm_ent, sm_ents, sm_wds, sm_wd, sm_nl, sm_pop, sm_back, sm_cases, oK, oLK, oL, oI, oA, oJ, oIs, oAs, oJs, oInc, oAdd, oSub, oMul, oDiv, oRem, oNeg, oAnd, oAndB, oOr, oShl, oI2c, oI2l, oL2i, oLand, oLor, oLshl, oLshr, oLushr, oLcmp, oDup, oDup2, oPop, oGo, oFg, oEq, oNe, oLt, oGe, oGt, oLe, oEq0, oNe0, oLt0, oGe0, oGt0, oLe0, oSw, oGi, oGr, oPi, oPz, oPr, oLen, oIl, oZl, oCl, oRl, oIst, oZst, oCst, oRst, oCopy, oNew, oNa, oNa2, oObj, oCs, oCv, oCi, oIr, oZr, oVr, Nat.beq, List.getElem?_cons_zero, List.getElem?_cons_succ, List.set_cons_zero, List.set_cons_succ, List.length_cons, List.length_nil, List.nil_append, List.cons_append, List.append_nil, List.replicate_succ, List.replicate_zero, Nat.reduceAdd, Nat.reduceSub, Nat.reduceLT, Nat.reduceLeDiff, Nat.reduceBEq, true_and, and_true, Nat.zero_add, Nat.add_zero, Nat.le_refl, Option.some.injEq, exists_eq_left', true_or, or_true, or_false, false_or, reduceCtorEq, Prod.mk.injEq, Sum.inl.injEq, and_self, false_and, and_false, not_true_eq_false, not_false_eq_true, false_implies, true_implies, sm_r, Int.add_zero, Int.zero_add, wI_wsI, wS_wsI, wR_wsI, wI_wCp, wS_wCp, wR_wCp, Nat.reduceEqDiff, reduceIte, sT_iff, sT_iffC, wIf_ne, ne_eq, Bool.false_or, Bool.true_or, Bool.or_false, Bool.or_true, Bool.or_self, Nat.left_eq_add, Nat.add_eq_left, Nat.add_left_inj, oMax, oMin, oAbs, tb_X7_day, p_X0_delay, p_X0_greatestDelay, p_X0_run, p_X0_waitedMinutes, p_X3_gather, f_X0_delay, f_X0_greatestDelay, f_X0_run, f_X0_waitedMinutes, f_X3_gather, p_X7_day, f_X7_day, sS_0 hT, hAe, hWe]
      repeat' (first | exact True.intro | with_reducible assumption | with_reducible refine And.intro ?_ ?_ | intro _)
      all_goals first
        | omega
        | assumption
        | rfl
        | (split <;> omega)
        | grind
        | skip
    · rw [if_neg c2] at hA hW
      refine hZ (fun _ => false) 16 0 _ _ _ _ _ ?_
      simp only [sm_run, sm_blk, sm_get, sm_ent, sm_ents, sm_wds, sm_wd, sm_nl, sm_pop, sm_back, sm_cases, oK, oLK, oL, oI, oA, oJ, oIs, oAs, oJs, oInc, oAdd, oSub, oMul, oDiv, oRem, oNeg, oAnd, oAndB, oOr, oShl, oI2c, oI2l, oL2i, oLand, oLor, oLshl, oLshr, oLushr, oLcmp, oDup, oDup2, oPop, oGo, oFg, oEq, oNe, oLt, oGe, oGt, oLe, oEq0, oNe0, oLt0, oGe0, oGt0, oLe0, oSw, oGi, oGr, oPi, oPz, oPr, oLen, oIl, oZl, oCl, oRl, oIst, oZst, oCst, oRst, oCopy, oNew, oNa, oNa2, oObj, oCs, oCv, oCi, oIr, oZr, oVr, Nat.beq, List.getElem?_cons_zero, List.getElem?_cons_succ, List.set_cons_zero, List.set_cons_succ, List.length_cons, List.length_nil, List.nil_append, List.cons_append, List.append_nil, List.replicate_succ, List.replicate_zero, Nat.reduceAdd, Nat.reduceSub, Nat.reduceLT, Nat.reduceLeDiff, Nat.reduceBEq, true_and, and_true, Nat.zero_add, Nat.add_zero, Nat.le_refl, Option.some.injEq, exists_eq_left', true_or, or_true, or_false, false_or, reduceCtorEq, Prod.mk.injEq, Sum.inl.injEq, and_self, false_and, and_false, not_true_eq_false, not_false_eq_true, false_implies, true_implies, sm_r, Int.add_zero, Int.zero_add, wI_wsI, wS_wsI, wR_wsI, wI_wCp, wS_wCp, wR_wCp, Nat.reduceEqDiff, reduceIte, sT_iff, sT_iffC, wIf_ne, ne_eq, Bool.false_or, Bool.true_or, Bool.or_false, Bool.or_true, Bool.or_self, Nat.left_eq_add, Nat.add_eq_left, Nat.add_left_inj, oMax, oMin, oAbs, tb_X7_day, p_X0_delay, p_X0_greatestDelay, p_X0_run, p_X0_waitedMinutes, p_X3_gather, f_X0_delay, f_X0_greatestDelay, f_X0_run, f_X0_waitedMinutes, f_X3_gather, p_X7_day, f_X7_day, sS_0 hT, sR_0_0 hT, dS1 hT, hD, hRe, sS_0 hTR, sR_0_0 hTR, sR_0_6 hTR, dS1 hTR, sS_78 hTR, hR, hGe, sS_0 hTG, sR_0_6 hTG, sS_78 hTG, hAe, hWe, Nat.reduceAdd, Int.reduceAdd]
      repeat' (first | exact True.intro | with_reducible assumption | with_reducible refine And.intro ?_ ?_ | intro _)
      all_goals first
        | omega
        | assumption
        | rfl
        | (split <;> omega)
        | grind
        | skip
theorem met_X7_day (l : Launch) : sm_Met l yX7_day cX7_day 2 (some .int) 6 0 0 p_X7_day f_X7_day := sm_met 1 (Or.inr (Or.inl ⟨rfl, rfl⟩)) (by decide +kernel) (sn_X7_day l) ok_X7_day
def p_X7_at : List sm_V → sm_W → Prop
  | [.inr (.inl o), .inl x, .inl t], w => o = 0 ∧ cOK w
  | _, _ => False
def f_X7_at : sm_F
  | [.inr (.inl o), .inl x, .inl t], w => (some (.inl (if 0 ≤ x ∧ x < wI w 2 7 then (if 0 ≤ t ∧ t ≤ 9999 then xPl (xRun 1 w) 1 x t else -2) else -1)), (if 0 ≤ x ∧ x < wI w 2 7 then (if 0 ≤ t ∧ t ≤ 9999 then xRun 1 w else w) else w))
  | _, w => (none, w)
def tb_X7_at : List (Nat × List sm_O) := [(0, [oA 0, oGr 7 12 1, oI 1, oCv 2 9 p_X2_hasShuttle f_X2_hasShuttle 0 0 2, oNe0 13, oK (-1), oIr]),
  (13, [oI 2, oLt0 24, oI 2, oK 9999, oLe 27, oGo 24]),
  (24, [oK (-2), oIr]),
  (27, [oA 0, oGr 7 12 0, oCv 0 11 p_X0_run f_X0_run 0 0 1, oA 0, oGr 7 12 0, oI 1, oI 2, oCv 0 11 p_X0_placeAt f_X0_placeAt 0 0 3, oIr])]
set_option maxRecDepth 100000 in
theorem sb_X7_at_0 (l : Launch) : sm_SndB l RX7 "at" cX7_at 3 1 6 0 [oA 0, oGr 7 12 1, oI 1, oCv 2 9 p_X2_hasShuttle f_X2_hasShuttle 0 0 2, oNe0 13, oK (-1), oIr] := sb_cons (sd_aload_n (by decide +kernel : decode cX7_at 0 = .ok (.aload_n 0, 1)) rfl) (sb_cons (sd_getr (k := 1) kl_7 (by decide) rfl wm_146 (by decide +kernel : decode cX7_at 1 = .ok (.getfield 20, 3))) (sb_cons (sd_iload_n (by decide +kernel : decode cX7_at 4 = .ok (.iload_n 1, 1)) rfl) (sb_cons (sd_callv (n := 1) (met_X2_hasShuttle l) (by decide) (by decide) wm_238 wm_265 wm_3 ⟨by decide +kernel, by decide +kernel, by decide +kernel⟩ kl_2 wm_236 wm_237 (by decide +kernel : decode cX7_at 5 = .ok (.invokevirtual 110, 3))) (sb_cons (sd_ne0 (by decide +kernel : decode cX7_at 8 = .ok (.ifCond .ne 5, 3)) (by decide)) (sb_cons (sd_iconst (by decide +kernel : decode cX7_at 11 = .ok (.iconst (-1), 1)) ⟨by decide, by decide⟩) (sb_cons (sd_ireturn (x := 0) rfl (by decide +kernel : decode cX7_at 12 = .ok (.ireturn, 1))) sb_nil))))))
set_option maxRecDepth 100000 in
theorem sb_X7_at_13 (l : Launch) : sm_SndB l RX7 "at" cX7_at 3 1 6 13 [oI 2, oLt0 24, oI 2, oK 9999, oLe 27, oGo 24] := sb_cons (sd_iload_n (by decide +kernel : decode cX7_at 13 = .ok (.iload_n 2, 1)) rfl) (sb_cons (sd_lt0 (by decide +kernel : decode cX7_at 14 = .ok (.ifCond .lt 10, 3)) (by decide)) (sb_cons (sd_iload_n (by decide +kernel : decode cX7_at 17 = .ok (.iload_n 2, 1)) rfl) (sb_cons (sd_sipush (by decide +kernel : decode cX7_at 18 = .ok (.sipush 9999, 3)) ⟨by decide, by decide⟩ (by decide)) (sb_cons (sd_le (by decide +kernel : decode cX7_at 21 = .ok (.if_icmp .le 6, 3)) (by decide)) (sb_cons (sd_fall (x := 0)) sb_nil)))))
set_option maxRecDepth 100000 in
theorem sb_X7_at_24 (l : Launch) : sm_SndB l RX7 "at" cX7_at 3 1 6 24 [oK (-2), oIr] := sb_cons (sd_bipush (by decide +kernel : decode cX7_at 24 = .ok (.bipush (-2), 2)) ⟨by decide, by decide⟩ (by decide)) (sb_cons (sd_ireturn (x := 0) rfl (by decide +kernel : decode cX7_at 26 = .ok (.ireturn, 1))) sb_nil)
set_option maxRecDepth 100000 in
theorem sb_X7_at_27 (l : Launch) : sm_SndB l RX7 "at" cX7_at 3 1 6 27 [oA 0, oGr 7 12 0, oCv 0 11 p_X0_run f_X0_run 0 0 1, oA 0, oGr 7 12 0, oI 1, oI 2, oCv 0 11 p_X0_placeAt f_X0_placeAt 0 0 3, oIr] := sb_cons (sd_aload_n (by decide +kernel : decode cX7_at 27 = .ok (.aload_n 0, 1)) rfl) (sb_cons (sd_getr (k := 0) kl_7 (by decide) rfl wm_145 (by decide +kernel : decode cX7_at 28 = .ok (.getfield 10, 3))) (sb_cons (sd_callv (n := 0) (met_X0_run l) (by decide) (by decide) wm_287 wm_284 wm_2 ⟨by decide +kernel, by decide +kernel, by decide +kernel⟩ kl_0 wm_285 wm_286 (by decide +kernel : decode cX7_at 31 = .ok (.invokevirtual 117, 3))) (sb_cons (sd_aload_n (by decide +kernel : decode cX7_at 34 = .ok (.aload_n 0, 1)) rfl) (sb_cons (sd_getr (k := 0) kl_7 (by decide) rfl wm_145 (by decide +kernel : decode cX7_at 35 = .ok (.getfield 10, 3))) (sb_cons (sd_iload_n (by decide +kernel : decode cX7_at 38 = .ok (.iload_n 1, 1)) rfl) (sb_cons (sd_iload_n (by decide +kernel : decode cX7_at 39 = .ok (.iload_n 2, 1)) rfl) (sb_cons (sd_callv (n := 2) (met_X0_placeAt l) (by decide) (by decide) wm_477 wm_474 wm_2 ⟨by decide +kernel, by decide +kernel, by decide +kernel⟩ kl_0 wm_475 wm_476 (by decide +kernel : decode cX7_at 40 = .ok (.invokevirtual 180, 3))) (sb_cons (sd_ireturn (x := 0) rfl (by decide +kernel : decode cX7_at 43 = .ok (.ireturn, 1))) sb_nil))))))))
theorem sn_X7_at (l : Launch) : sm_SndT l RX7 "at" cX7_at 3 1 6 tb_X7_at := st_cons (sb_X7_at_0 l) (st_cons (sb_X7_at_13 l) (st_cons (sb_X7_at_24 l) (st_cons (sb_X7_at_27 l) (st_nil))))
set_option maxRecDepth 100000 in
set_option maxHeartbeats 4000000 in
theorem ok_X7_at : sm_Ok tb_X7_at 3 0 0 p_X7_at f_X7_at := by
  intro as w hp ha hw
  match as, hp with
  | [.inr (.inl o), .inl x, .inl t], hp =>
  refine ⟨Nat.le_of_ble_eq_true rfl, fun Z hZ => ?_⟩
  obtain ⟨rfl, hC⟩ := hp
  have hT := hC.1.1
  have hD := cOK_d hC
  have hR := (xRun_ok hD).1
  have hTR := hR.1.2.1
  have hDR := hR.1
  have hf := (xRun_fr hD).1
  have hnR : wI (xRun 1 w) 2 7 = wI w 2 7 := by rw [sDy_l0 hf]
  generalize hRe : xRun 1 w = R at *
  by_cases c : 0 ≤ x ∧ x < wI w 2 7
  · by_cases c2 : 0 ≤ t ∧ t ≤ 9999
    · skip
      refine hZ (fun _ => false) 16 0 _ _ _ _ _ ?_
      simp only [sm_run, sm_blk, sm_get, sm_ent, sm_ents, sm_wds, sm_wd, sm_nl, sm_pop, sm_back, sm_cases, oK, oLK, oL, oI, oA, oJ, oIs, oAs, oJs, oInc, oAdd, oSub, oMul, oDiv, oRem, oNeg, oAnd, oAndB, oOr, oShl, oI2c, oI2l, oL2i, oLand, oLor, oLshl, oLshr, oLushr, oLcmp, oDup, oDup2, oPop, oGo, oFg, oEq, oNe, oLt, oGe, oGt, oLe, oEq0, oNe0, oLt0, oGe0, oGt0, oLe0, oSw, oGi, oGr, oPi, oPz, oPr, oLen, oIl, oZl, oCl, oRl, oIst, oZst, oCst, oRst, oCopy, oNew, oNa, oNa2, oObj, oCs, oCv, oCi, oIr, oZr, oVr, Nat.beq, List.getElem?_cons_zero, List.getElem?_cons_succ, List.set_cons_zero, List.set_cons_succ, List.length_cons, List.length_nil, List.nil_append, List.cons_append, List.append_nil, List.replicate_succ, List.replicate_zero, Nat.reduceAdd, Nat.reduceSub, Nat.reduceLT, Nat.reduceLeDiff, Nat.reduceBEq, true_and, and_true, Nat.zero_add, Nat.add_zero, Nat.le_refl, Option.some.injEq, exists_eq_left', true_or, or_true, or_false, false_or, reduceCtorEq, Prod.mk.injEq, Sum.inl.injEq, and_self, false_and, and_false, not_true_eq_false, not_false_eq_true, false_implies, true_implies, sm_r, Int.add_zero, Int.zero_add, wI_wsI, wS_wsI, wR_wsI, wI_wCp, wS_wCp, wR_wCp, Nat.reduceEqDiff, reduceIte, sT_iff, sT_iffC, wIf_ne, ne_eq, Bool.false_or, Bool.true_or, Bool.or_false, Bool.or_true, Bool.or_self, Nat.left_eq_add, Nat.add_eq_left, Nat.add_left_inj, oMax, oMin, oAbs, tb_X7_at, p_X0_placeAt, p_X0_run, p_X2_hasShuttle, f_X0_placeAt, f_X0_run, f_X2_hasShuttle, p_X7_at, f_X7_at, sS_0 hT, sR_0_1 hT, sR_0_0 hT, wS2 hT, dS1 hT, hT, is2, b01, hD, hRe, sS_0 hTR, sR_0_0 hTR, dS1 hTR, hDR, Nat.reduceAdd, hnR, if_pos c, if_pos c2]
      repeat' (first | exact True.intro | with_reducible assumption | with_reducible refine And.intro ?_ ?_ | intro _)
      all_goals first
        | omega
        | assumption
        | rfl
        | (split <;> omega)
        | grind
        | skip
    · skip
      refine hZ (fun _ => false) 16 0 _ _ _ _ _ ?_
      simp only [sm_run, sm_blk, sm_get, sm_ent, sm_ents, sm_wds, sm_wd, sm_nl, sm_pop, sm_back, sm_cases, oK, oLK, oL, oI, oA, oJ, oIs, oAs, oJs, oInc, oAdd, oSub, oMul, oDiv, oRem, oNeg, oAnd, oAndB, oOr, oShl, oI2c, oI2l, oL2i, oLand, oLor, oLshl, oLshr, oLushr, oLcmp, oDup, oDup2, oPop, oGo, oFg, oEq, oNe, oLt, oGe, oGt, oLe, oEq0, oNe0, oLt0, oGe0, oGt0, oLe0, oSw, oGi, oGr, oPi, oPz, oPr, oLen, oIl, oZl, oCl, oRl, oIst, oZst, oCst, oRst, oCopy, oNew, oNa, oNa2, oObj, oCs, oCv, oCi, oIr, oZr, oVr, Nat.beq, List.getElem?_cons_zero, List.getElem?_cons_succ, List.set_cons_zero, List.set_cons_succ, List.length_cons, List.length_nil, List.nil_append, List.cons_append, List.append_nil, List.replicate_succ, List.replicate_zero, Nat.reduceAdd, Nat.reduceSub, Nat.reduceLT, Nat.reduceLeDiff, Nat.reduceBEq, true_and, and_true, Nat.zero_add, Nat.add_zero, Nat.le_refl, Option.some.injEq, exists_eq_left', true_or, or_true, or_false, false_or, reduceCtorEq, Prod.mk.injEq, Sum.inl.injEq, and_self, false_and, and_false, not_true_eq_false, not_false_eq_true, false_implies, true_implies, sm_r, Int.add_zero, Int.zero_add, wI_wsI, wS_wsI, wR_wsI, wI_wCp, wS_wCp, wR_wCp, Nat.reduceEqDiff, reduceIte, sT_iff, sT_iffC, wIf_ne, ne_eq, Bool.false_or, Bool.true_or, Bool.or_false, Bool.or_true, Bool.or_self, Nat.left_eq_add, Nat.add_eq_left, Nat.add_left_inj, oMax, oMin, oAbs, tb_X7_at, p_X0_placeAt, p_X0_run, p_X2_hasShuttle, f_X0_placeAt, f_X0_run, f_X2_hasShuttle, p_X7_at, f_X7_at, sS_0 hT, sR_0_1 hT, sR_0_0 hT, wS2 hT, dS1 hT, hT, is2, b01, hD, hRe, sS_0 hTR, sR_0_0 hTR, dS1 hTR, hDR, Nat.reduceAdd, hnR, if_pos c, if_neg c2]
      repeat' (first | exact True.intro | with_reducible assumption | with_reducible refine And.intro ?_ ?_ | intro _)
      all_goals first
        | omega
        | assumption
        | rfl
        | (split <;> omega)
        | grind
        | skip
  · skip
    refine hZ (fun _ => false) 16 0 _ _ _ _ _ ?_
    simp only [sm_run, sm_blk, sm_get, sm_ent, sm_ents, sm_wds, sm_wd, sm_nl, sm_pop, sm_back, sm_cases, oK, oLK, oL, oI, oA, oJ, oIs, oAs, oJs, oInc, oAdd, oSub, oMul, oDiv, oRem, oNeg, oAnd, oAndB, oOr, oShl, oI2c, oI2l, oL2i, oLand, oLor, oLshl, oLshr, oLushr, oLcmp, oDup, oDup2, oPop, oGo, oFg, oEq, oNe, oLt, oGe, oGt, oLe, oEq0, oNe0, oLt0, oGe0, oGt0, oLe0, oSw, oGi, oGr, oPi, oPz, oPr, oLen, oIl, oZl, oCl, oRl, oIst, oZst, oCst, oRst, oCopy, oNew, oNa, oNa2, oObj, oCs, oCv, oCi, oIr, oZr, oVr, Nat.beq, List.getElem?_cons_zero, List.getElem?_cons_succ, List.set_cons_zero, List.set_cons_succ, List.length_cons, List.length_nil, List.nil_append, List.cons_append, List.append_nil, List.replicate_succ, List.replicate_zero, Nat.reduceAdd, Nat.reduceSub, Nat.reduceLT, Nat.reduceLeDiff, Nat.reduceBEq, true_and, and_true, Nat.zero_add, Nat.add_zero, Nat.le_refl, Option.some.injEq, exists_eq_left', true_or, or_true, or_false, false_or, reduceCtorEq, Prod.mk.injEq, Sum.inl.injEq, and_self, false_and, and_false, not_true_eq_false, not_false_eq_true, false_implies, true_implies, sm_r, Int.add_zero, Int.zero_add, wI_wsI, wS_wsI, wR_wsI, wI_wCp, wS_wCp, wR_wCp, Nat.reduceEqDiff, reduceIte, sT_iff, sT_iffC, wIf_ne, ne_eq, Bool.false_or, Bool.true_or, Bool.or_false, Bool.or_true, Bool.or_self, Nat.left_eq_add, Nat.add_eq_left, Nat.add_left_inj, oMax, oMin, oAbs, tb_X7_at, p_X0_placeAt, p_X0_run, p_X2_hasShuttle, f_X0_placeAt, f_X0_run, f_X2_hasShuttle, p_X7_at, f_X7_at, sS_0 hT, sR_0_1 hT, wS2 hT, hT, is2, b01, if_neg c]
    repeat' (first | exact True.intro | with_reducible assumption | with_reducible refine And.intro ?_ ?_ | intro _)
    all_goals first
      | omega
      | assumption
      | rfl
      | (split <;> omega)
      | grind
      | skip
theorem met_X7_at (l : Launch) : sm_Met l yX7_at cX7_at 3 (some .int) 6 0 0 p_X7_at f_X7_at := sm_met 1 (Or.inr (Or.inl ⟨rfl, rfl⟩)) (by decide +kernel) (sn_X7_at l) ok_X7_at
def p_X7_why : List sm_V → sm_W → Prop
  | [.inr (.inl o), .inl x, .inl t], w => o = 0 ∧ cOK w
  | _, _ => False
def f_X7_why : sm_F
  | [.inr (.inl o), .inl x, .inl t], w => (some (.inl (if 0 ≤ x ∧ x < wI w 2 7 then (if 0 ≤ t ∧ t ≤ 9999 then xRa (xRun 1 w) 1 x t else -2) else -1)), (if 0 ≤ x ∧ x < wI w 2 7 then (if 0 ≤ t ∧ t ≤ 9999 then xRun 1 w else w) else w))
  | _, w => (none, w)
def tb_X7_why : List (Nat × List sm_O) := [(0, [oA 0, oGr 7 12 1, oI 1, oCv 2 9 p_X2_hasShuttle f_X2_hasShuttle 0 0 2, oNe0 13, oK (-1), oIr]),
  (13, [oI 2, oLt0 24, oI 2, oK 9999, oLe 27, oGo 24]),
  (24, [oK (-2), oIr]),
  (27, [oA 0, oGr 7 12 0, oCv 0 11 p_X0_run f_X0_run 0 0 1, oA 0, oGr 7 12 0, oI 1, oI 2, oCv 0 11 p_X0_reasonAt f_X0_reasonAt 0 0 3, oIr])]
set_option maxRecDepth 100000 in
theorem sb_X7_why_0 (l : Launch) : sm_SndB l RX7 "why" cX7_why 3 1 6 0 [oA 0, oGr 7 12 1, oI 1, oCv 2 9 p_X2_hasShuttle f_X2_hasShuttle 0 0 2, oNe0 13, oK (-1), oIr] := sb_cons (sd_aload_n (by decide +kernel : decode cX7_why 0 = .ok (.aload_n 0, 1)) rfl) (sb_cons (sd_getr (k := 1) kl_7 (by decide) rfl wm_146 (by decide +kernel : decode cX7_why 1 = .ok (.getfield 20, 3))) (sb_cons (sd_iload_n (by decide +kernel : decode cX7_why 4 = .ok (.iload_n 1, 1)) rfl) (sb_cons (sd_callv (n := 1) (met_X2_hasShuttle l) (by decide) (by decide) wm_238 wm_265 wm_3 ⟨by decide +kernel, by decide +kernel, by decide +kernel⟩ kl_2 wm_236 wm_237 (by decide +kernel : decode cX7_why 5 = .ok (.invokevirtual 110, 3))) (sb_cons (sd_ne0 (by decide +kernel : decode cX7_why 8 = .ok (.ifCond .ne 5, 3)) (by decide)) (sb_cons (sd_iconst (by decide +kernel : decode cX7_why 11 = .ok (.iconst (-1), 1)) ⟨by decide, by decide⟩) (sb_cons (sd_ireturn (x := 0) rfl (by decide +kernel : decode cX7_why 12 = .ok (.ireturn, 1))) sb_nil))))))
set_option maxRecDepth 100000 in
theorem sb_X7_why_13 (l : Launch) : sm_SndB l RX7 "why" cX7_why 3 1 6 13 [oI 2, oLt0 24, oI 2, oK 9999, oLe 27, oGo 24] := sb_cons (sd_iload_n (by decide +kernel : decode cX7_why 13 = .ok (.iload_n 2, 1)) rfl) (sb_cons (sd_lt0 (by decide +kernel : decode cX7_why 14 = .ok (.ifCond .lt 10, 3)) (by decide)) (sb_cons (sd_iload_n (by decide +kernel : decode cX7_why 17 = .ok (.iload_n 2, 1)) rfl) (sb_cons (sd_sipush (by decide +kernel : decode cX7_why 18 = .ok (.sipush 9999, 3)) ⟨by decide, by decide⟩ (by decide)) (sb_cons (sd_le (by decide +kernel : decode cX7_why 21 = .ok (.if_icmp .le 6, 3)) (by decide)) (sb_cons (sd_fall (x := 0)) sb_nil)))))
set_option maxRecDepth 100000 in
theorem sb_X7_why_24 (l : Launch) : sm_SndB l RX7 "why" cX7_why 3 1 6 24 [oK (-2), oIr] := sb_cons (sd_bipush (by decide +kernel : decode cX7_why 24 = .ok (.bipush (-2), 2)) ⟨by decide, by decide⟩ (by decide)) (sb_cons (sd_ireturn (x := 0) rfl (by decide +kernel : decode cX7_why 26 = .ok (.ireturn, 1))) sb_nil)
set_option maxRecDepth 100000 in
theorem sb_X7_why_27 (l : Launch) : sm_SndB l RX7 "why" cX7_why 3 1 6 27 [oA 0, oGr 7 12 0, oCv 0 11 p_X0_run f_X0_run 0 0 1, oA 0, oGr 7 12 0, oI 1, oI 2, oCv 0 11 p_X0_reasonAt f_X0_reasonAt 0 0 3, oIr] := sb_cons (sd_aload_n (by decide +kernel : decode cX7_why 27 = .ok (.aload_n 0, 1)) rfl) (sb_cons (sd_getr (k := 0) kl_7 (by decide) rfl wm_145 (by decide +kernel : decode cX7_why 28 = .ok (.getfield 10, 3))) (sb_cons (sd_callv (n := 0) (met_X0_run l) (by decide) (by decide) wm_287 wm_284 wm_2 ⟨by decide +kernel, by decide +kernel, by decide +kernel⟩ kl_0 wm_285 wm_286 (by decide +kernel : decode cX7_why 31 = .ok (.invokevirtual 117, 3))) (sb_cons (sd_aload_n (by decide +kernel : decode cX7_why 34 = .ok (.aload_n 0, 1)) rfl) (sb_cons (sd_getr (k := 0) kl_7 (by decide) rfl wm_145 (by decide +kernel : decode cX7_why 35 = .ok (.getfield 10, 3))) (sb_cons (sd_iload_n (by decide +kernel : decode cX7_why 38 = .ok (.iload_n 1, 1)) rfl) (sb_cons (sd_iload_n (by decide +kernel : decode cX7_why 39 = .ok (.iload_n 2, 1)) rfl) (sb_cons (sd_callv (n := 2) (met_X0_reasonAt l) (by decide) (by decide) wm_497 wm_494 wm_2 ⟨by decide +kernel, by decide +kernel, by decide +kernel⟩ kl_0 wm_495 wm_496 (by decide +kernel : decode cX7_why 40 = .ok (.invokevirtual 193, 3))) (sb_cons (sd_ireturn (x := 0) rfl (by decide +kernel : decode cX7_why 43 = .ok (.ireturn, 1))) sb_nil))))))))
theorem sn_X7_why (l : Launch) : sm_SndT l RX7 "why" cX7_why 3 1 6 tb_X7_why := st_cons (sb_X7_why_0 l) (st_cons (sb_X7_why_13 l) (st_cons (sb_X7_why_24 l) (st_cons (sb_X7_why_27 l) (st_nil))))
set_option maxRecDepth 100000 in
set_option maxHeartbeats 4000000 in
theorem ok_X7_why : sm_Ok tb_X7_why 3 0 0 p_X7_why f_X7_why := by
  intro as w hp ha hw
  match as, hp with
  | [.inr (.inl o), .inl x, .inl t], hp =>
  refine ⟨Nat.le_of_ble_eq_true rfl, fun Z hZ => ?_⟩
  obtain ⟨rfl, hC⟩ := hp
  have hT := hC.1.1
  have hD := cOK_d hC
  have hR := (xRun_ok hD).1
  have hTR := hR.1.2.1
  have hDR := hR.1
  have hf := (xRun_fr hD).1
  have hnR : wI (xRun 1 w) 2 7 = wI w 2 7 := by rw [sDy_l0 hf]
  generalize hRe : xRun 1 w = R at *
  by_cases c : 0 ≤ x ∧ x < wI w 2 7
  · by_cases c2 : 0 ≤ t ∧ t ≤ 9999
    · skip
      refine hZ (fun _ => false) 16 0 _ _ _ _ _ ?_
      simp only [sm_run, sm_blk, sm_get, sm_ent, sm_ents, sm_wds, sm_wd, sm_nl, sm_pop, sm_back, sm_cases, oK, oLK, oL, oI, oA, oJ, oIs, oAs, oJs, oInc, oAdd, oSub, oMul, oDiv, oRem, oNeg, oAnd, oAndB, oOr, oShl, oI2c, oI2l, oL2i, oLand, oLor, oLshl, oLshr, oLushr, oLcmp, oDup, oDup2, oPop, oGo, oFg, oEq, oNe, oLt, oGe, oGt, oLe, oEq0, oNe0, oLt0, oGe0, oGt0, oLe0, oSw, oGi, oGr, oPi, oPz, oPr, oLen, oIl, oZl, oCl, oRl, oIst, oZst, oCst, oRst, oCopy, oNew, oNa, oNa2, oObj, oCs, oCv, oCi, oIr, oZr, oVr, Nat.beq, List.getElem?_cons_zero, List.getElem?_cons_succ, List.set_cons_zero, List.set_cons_succ, List.length_cons, List.length_nil, List.nil_append, List.cons_append, List.append_nil, List.replicate_succ, List.replicate_zero, Nat.reduceAdd, Nat.reduceSub, Nat.reduceLT, Nat.reduceLeDiff, Nat.reduceBEq, true_and, and_true, Nat.zero_add, Nat.add_zero, Nat.le_refl, Option.some.injEq, exists_eq_left', true_or, or_true, or_false, false_or, reduceCtorEq, Prod.mk.injEq, Sum.inl.injEq, and_self, false_and, and_false, not_true_eq_false, not_false_eq_true, false_implies, true_implies, sm_r, Int.add_zero, Int.zero_add, wI_wsI, wS_wsI, wR_wsI, wI_wCp, wS_wCp, wR_wCp, Nat.reduceEqDiff, reduceIte, sT_iff, sT_iffC, wIf_ne, ne_eq, Bool.false_or, Bool.true_or, Bool.or_false, Bool.or_true, Bool.or_self, Nat.left_eq_add, Nat.add_eq_left, Nat.add_left_inj, oMax, oMin, oAbs, tb_X7_why, p_X0_reasonAt, p_X0_run, p_X2_hasShuttle, f_X0_reasonAt, f_X0_run, f_X2_hasShuttle, p_X7_why, f_X7_why, sS_0 hT, sR_0_1 hT, sR_0_0 hT, wS2 hT, dS1 hT, hT, is2, b01, hD, hRe, sS_0 hTR, sR_0_0 hTR, dS1 hTR, hDR, hR, Nat.reduceAdd, hnR, if_pos c, if_pos c2]
      repeat' (first | exact True.intro | with_reducible assumption | with_reducible refine And.intro ?_ ?_ | intro _)
      all_goals first
        | omega
        | assumption
        | rfl
        | (split <;> omega)
        | grind
        | skip
    · skip
      refine hZ (fun _ => false) 16 0 _ _ _ _ _ ?_
      simp only [sm_run, sm_blk, sm_get, sm_ent, sm_ents, sm_wds, sm_wd, sm_nl, sm_pop, sm_back, sm_cases, oK, oLK, oL, oI, oA, oJ, oIs, oAs, oJs, oInc, oAdd, oSub, oMul, oDiv, oRem, oNeg, oAnd, oAndB, oOr, oShl, oI2c, oI2l, oL2i, oLand, oLor, oLshl, oLshr, oLushr, oLcmp, oDup, oDup2, oPop, oGo, oFg, oEq, oNe, oLt, oGe, oGt, oLe, oEq0, oNe0, oLt0, oGe0, oGt0, oLe0, oSw, oGi, oGr, oPi, oPz, oPr, oLen, oIl, oZl, oCl, oRl, oIst, oZst, oCst, oRst, oCopy, oNew, oNa, oNa2, oObj, oCs, oCv, oCi, oIr, oZr, oVr, Nat.beq, List.getElem?_cons_zero, List.getElem?_cons_succ, List.set_cons_zero, List.set_cons_succ, List.length_cons, List.length_nil, List.nil_append, List.cons_append, List.append_nil, List.replicate_succ, List.replicate_zero, Nat.reduceAdd, Nat.reduceSub, Nat.reduceLT, Nat.reduceLeDiff, Nat.reduceBEq, true_and, and_true, Nat.zero_add, Nat.add_zero, Nat.le_refl, Option.some.injEq, exists_eq_left', true_or, or_true, or_false, false_or, reduceCtorEq, Prod.mk.injEq, Sum.inl.injEq, and_self, false_and, and_false, not_true_eq_false, not_false_eq_true, false_implies, true_implies, sm_r, Int.add_zero, Int.zero_add, wI_wsI, wS_wsI, wR_wsI, wI_wCp, wS_wCp, wR_wCp, Nat.reduceEqDiff, reduceIte, sT_iff, sT_iffC, wIf_ne, ne_eq, Bool.false_or, Bool.true_or, Bool.or_false, Bool.or_true, Bool.or_self, Nat.left_eq_add, Nat.add_eq_left, Nat.add_left_inj, oMax, oMin, oAbs, tb_X7_why, p_X0_reasonAt, p_X0_run, p_X2_hasShuttle, f_X0_reasonAt, f_X0_run, f_X2_hasShuttle, p_X7_why, f_X7_why, sS_0 hT, sR_0_1 hT, sR_0_0 hT, wS2 hT, dS1 hT, hT, is2, b01, hD, hRe, sS_0 hTR, sR_0_0 hTR, dS1 hTR, hDR, hR, Nat.reduceAdd, hnR, if_pos c, if_neg c2]
      repeat' (first | exact True.intro | with_reducible assumption | with_reducible refine And.intro ?_ ?_ | intro _)
      all_goals first
        | omega
        | assumption
        | rfl
        | (split <;> omega)
        | grind
        | skip
  · skip
    refine hZ (fun _ => false) 16 0 _ _ _ _ _ ?_
    simp only [sm_run, sm_blk, sm_get, sm_ent, sm_ents, sm_wds, sm_wd, sm_nl, sm_pop, sm_back, sm_cases, oK, oLK, oL, oI, oA, oJ, oIs, oAs, oJs, oInc, oAdd, oSub, oMul, oDiv, oRem, oNeg, oAnd, oAndB, oOr, oShl, oI2c, oI2l, oL2i, oLand, oLor, oLshl, oLshr, oLushr, oLcmp, oDup, oDup2, oPop, oGo, oFg, oEq, oNe, oLt, oGe, oGt, oLe, oEq0, oNe0, oLt0, oGe0, oGt0, oLe0, oSw, oGi, oGr, oPi, oPz, oPr, oLen, oIl, oZl, oCl, oRl, oIst, oZst, oCst, oRst, oCopy, oNew, oNa, oNa2, oObj, oCs, oCv, oCi, oIr, oZr, oVr, Nat.beq, List.getElem?_cons_zero, List.getElem?_cons_succ, List.set_cons_zero, List.set_cons_succ, List.length_cons, List.length_nil, List.nil_append, List.cons_append, List.append_nil, List.replicate_succ, List.replicate_zero, Nat.reduceAdd, Nat.reduceSub, Nat.reduceLT, Nat.reduceLeDiff, Nat.reduceBEq, true_and, and_true, Nat.zero_add, Nat.add_zero, Nat.le_refl, Option.some.injEq, exists_eq_left', true_or, or_true, or_false, false_or, reduceCtorEq, Prod.mk.injEq, Sum.inl.injEq, and_self, false_and, and_false, not_true_eq_false, not_false_eq_true, false_implies, true_implies, sm_r, Int.add_zero, Int.zero_add, wI_wsI, wS_wsI, wR_wsI, wI_wCp, wS_wCp, wR_wCp, Nat.reduceEqDiff, reduceIte, sT_iff, sT_iffC, wIf_ne, ne_eq, Bool.false_or, Bool.true_or, Bool.or_false, Bool.or_true, Bool.or_self, Nat.left_eq_add, Nat.add_eq_left, Nat.add_left_inj, oMax, oMin, oAbs, tb_X7_why, p_X0_reasonAt, p_X0_run, p_X2_hasShuttle, f_X0_reasonAt, f_X0_run, f_X2_hasShuttle, p_X7_why, f_X7_why, sS_0 hT, sR_0_1 hT, wS2 hT, hT, is2, b01, if_neg c]
    repeat' (first | exact True.intro | with_reducible assumption | with_reducible refine And.intro ?_ ?_ | intro _)
    all_goals first
      | omega
      | assumption
      | rfl
      | (split <;> omega)
      | grind
      | skip
theorem met_X7_why (l : Launch) : sm_Met l yX7_why cX7_why 3 (some .int) 6 0 0 p_X7_why f_X7_why := sm_met 1 (Or.inr (Or.inl ⟨rfl, rfl⟩)) (by decide +kernel) (sn_X7_why l) ok_X7_why
def p_X7_when : List sm_V → sm_W → Prop
  | [.inr (.inl o), .inl x, .inl s, .inl k], w => o = 0 ∧ cOK w
  | _, _ => False
def f_X7_when : sm_F
  | [.inr (.inl o), .inl x, .inl s, .inl k], w => (some (.inl (if 0 ≤ x ∧ x < wI w 2 7 ∧ 0 ≤ s ∧ s < 8 then (if k = 0 then wI (xRun 1 w) (dC 1 x) s else (if k = 1 then wI (xRun 1 w) (dV 1 x) s else -2)) else -1)), (if 0 ≤ x ∧ x < wI w 2 7 ∧ 0 ≤ s ∧ s < 8 then (if k = 0 then xRun 1 w else (if k = 1 then xRun 1 w else w)) else w))
  | _, w => (none, w)
def tb_X7_when : List (Nat × List sm_O) := [(0, [oA 0, oGr 7 12 1, oI 1, oCv 2 9 p_X2_hasShuttle f_X2_hasShuttle 0 0 2, oEq0 18, oI 2, oCs p_X7_isStation f_X7_isStation 0 0 1, oNe0 20, oGo 18]),
  (18, [oK (-1), oIr]),
  (20, [oI 3, oEq0 32, oI 3, oK 1, oEq 32, oK (-2), oIr]),
  (32, [oA 0, oGr 7 12 0, oCv 0 11 p_X0_run f_X0_run 0 0 1, oI 3, oNe0 57, oA 0, oGr 7 12 0, oGr 0 11 1, oI 1, oRl, oI 2, oIl, oGo 68]),
  (57, [oA 0, oGr 7 12 0, oGr 0 11 2, oI 1, oRl, oI 2, oIl, oGo 68]),
  (68, [oIr])]
set_option maxRecDepth 100000 in
theorem sb_X7_when_0 (l : Launch) : sm_SndB l RX7 "when" cX7_when 4 1 6 0 [oA 0, oGr 7 12 1, oI 1, oCv 2 9 p_X2_hasShuttle f_X2_hasShuttle 0 0 2, oEq0 18, oI 2, oCs p_X7_isStation f_X7_isStation 0 0 1, oNe0 20, oGo 18] := sb_cons (sd_aload_n (by decide +kernel : decode cX7_when 0 = .ok (.aload_n 0, 1)) rfl) (sb_cons (sd_getr (k := 1) kl_7 (by decide) rfl wm_146 (by decide +kernel : decode cX7_when 1 = .ok (.getfield 20, 3))) (sb_cons (sd_iload_n (by decide +kernel : decode cX7_when 4 = .ok (.iload_n 1, 1)) rfl) (sb_cons (sd_callv (n := 1) (met_X2_hasShuttle l) (by decide) (by decide) wm_238 wm_265 wm_3 ⟨by decide +kernel, by decide +kernel, by decide +kernel⟩ kl_2 wm_236 wm_237 (by decide +kernel : decode cX7_when 5 = .ok (.invokevirtual 110, 3))) (sb_cons (sd_eq0 (by decide +kernel : decode cX7_when 8 = .ok (.ifCond .eq 10, 3)) (by decide)) (sb_cons (sd_iload_n (by decide +kernel : decode cX7_when 11 = .ok (.iload_n 2, 1)) rfl) (sb_cons (sd_calls (n := 1) (met_X7_isStation l) (by decide) (by decide) wm_200 wm_488 wm_1 ⟨by decide +kernel, by decide +kernel, by decide +kernel⟩ wm_199 (by decide +kernel : decode cX7_when 12 = .ok (.invokestatic 183, 3))) (sb_cons (sd_ne0 (by decide +kernel : decode cX7_when 15 = .ok (.ifCond .ne 5, 3)) (by decide)) (sb_cons (sd_fall (x := 0)) sb_nil))))))))
set_option maxRecDepth 100000 in
theorem sb_X7_when_18 (l : Launch) : sm_SndB l RX7 "when" cX7_when 4 1 6 18 [oK (-1), oIr] := sb_cons (sd_iconst (by decide +kernel : decode cX7_when 18 = .ok (.iconst (-1), 1)) ⟨by decide, by decide⟩) (sb_cons (sd_ireturn (x := 0) rfl (by decide +kernel : decode cX7_when 19 = .ok (.ireturn, 1))) sb_nil)
set_option maxRecDepth 100000 in
theorem sb_X7_when_20 (l : Launch) : sm_SndB l RX7 "when" cX7_when 4 1 6 20 [oI 3, oEq0 32, oI 3, oK 1, oEq 32, oK (-2), oIr] := sb_cons (sd_iload_n (by decide +kernel : decode cX7_when 20 = .ok (.iload_n 3, 1)) rfl) (sb_cons (sd_eq0 (by decide +kernel : decode cX7_when 21 = .ok (.ifCond .eq 11, 3)) (by decide)) (sb_cons (sd_iload_n (by decide +kernel : decode cX7_when 24 = .ok (.iload_n 3, 1)) rfl) (sb_cons (sd_iconst (by decide +kernel : decode cX7_when 25 = .ok (.iconst 1, 1)) ⟨by decide, by decide⟩) (sb_cons (sd_eq (by decide +kernel : decode cX7_when 26 = .ok (.if_icmp .eq 6, 3)) (by decide)) (sb_cons (sd_bipush (by decide +kernel : decode cX7_when 29 = .ok (.bipush (-2), 2)) ⟨by decide, by decide⟩ (by decide)) (sb_cons (sd_ireturn (x := 0) rfl (by decide +kernel : decode cX7_when 31 = .ok (.ireturn, 1))) sb_nil))))))
set_option maxRecDepth 100000 in
theorem sb_X7_when_32 (l : Launch) : sm_SndB l RX7 "when" cX7_when 4 1 6 32 [oA 0, oGr 7 12 0, oCv 0 11 p_X0_run f_X0_run 0 0 1, oI 3, oNe0 57, oA 0, oGr 7 12 0, oGr 0 11 1, oI 1, oRl, oI 2, oIl, oGo 68] := sb_cons (sd_aload_n (by decide +kernel : decode cX7_when 32 = .ok (.aload_n 0, 1)) rfl) (sb_cons (sd_getr (k := 0) kl_7 (by decide) rfl wm_145 (by decide +kernel : decode cX7_when 33 = .ok (.getfield 10, 3))) (sb_cons (sd_callv (n := 0) (met_X0_run l) (by decide) (by decide) wm_287 wm_284 wm_2 ⟨by decide +kernel, by decide +kernel, by decide +kernel⟩ kl_0 wm_285 wm_286 (by decide +kernel : decode cX7_when 36 = .ok (.invokevirtual 117, 3))) (sb_cons (sd_iload_n (by decide +kernel : decode cX7_when 39 = .ok (.iload_n 3, 1)) rfl) (sb_cons (sd_ne0 (by decide +kernel : decode cX7_when 40 = .ok (.ifCond .ne 17, 3)) (by decide)) (sb_cons (sd_aload_n (by decide +kernel : decode cX7_when 43 = .ok (.aload_n 0, 1)) rfl) (sb_cons (sd_getr (k := 0) kl_7 (by decide) rfl wm_145 (by decide +kernel : decode cX7_when 44 = .ok (.getfield 10, 3))) (sb_cons (sd_getr (k := 1) kl_0 (by decide) rfl wm_75 (by decide +kernel : decode cX7_when 47 = .ok (.getfield 186, 3))) (sb_cons (sd_iload_n (by decide +kernel : decode cX7_when 50 = .ok (.iload_n 1, 1)) rfl) (sb_cons (sd_aaload (by decide +kernel : decode cX7_when 51 = .ok (.aaload, 1))) (sb_cons (sd_iload_n (by decide +kernel : decode cX7_when 52 = .ok (.iload_n 2, 1)) rfl) (sb_cons (sd_iaload (by decide +kernel : decode cX7_when 53 = .ok (.iaload, 1))) (sb_cons (sd_goto (x := 0) (by decide +kernel : decode cX7_when 54 = .ok (.goto 14, 3)) (by decide)) sb_nil))))))))))))
set_option maxRecDepth 100000 in
theorem sb_X7_when_57 (l : Launch) : sm_SndB l RX7 "when" cX7_when 4 1 6 57 [oA 0, oGr 7 12 0, oGr 0 11 2, oI 1, oRl, oI 2, oIl, oGo 68] := sb_cons (sd_aload_n (by decide +kernel : decode cX7_when 57 = .ok (.aload_n 0, 1)) rfl) (sb_cons (sd_getr (k := 0) kl_7 (by decide) rfl wm_145 (by decide +kernel : decode cX7_when 58 = .ok (.getfield 10, 3))) (sb_cons (sd_getr (k := 2) kl_0 (by decide) rfl wm_78 (by decide +kernel : decode cX7_when 61 = .ok (.getfield 190, 3))) (sb_cons (sd_iload_n (by decide +kernel : decode cX7_when 64 = .ok (.iload_n 1, 1)) rfl) (sb_cons (sd_aaload (by decide +kernel : decode cX7_when 65 = .ok (.aaload, 1))) (sb_cons (sd_iload_n (by decide +kernel : decode cX7_when 66 = .ok (.iload_n 2, 1)) rfl) (sb_cons (sd_iaload (by decide +kernel : decode cX7_when 67 = .ok (.iaload, 1))) (sb_cons (sd_fall (x := 0)) sb_nil)))))))
set_option maxRecDepth 100000 in
theorem sb_X7_when_68 (l : Launch) : sm_SndB l RX7 "when" cX7_when 4 1 6 68 [oIr] := sb_cons (sd_ireturn (x := 0) rfl (by decide +kernel : decode cX7_when 68 = .ok (.ireturn, 1))) sb_nil
theorem sn_X7_when (l : Launch) : sm_SndT l RX7 "when" cX7_when 4 1 6 tb_X7_when := st_cons (sb_X7_when_0 l) (st_cons (sb_X7_when_18 l) (st_cons (sb_X7_when_20 l) (st_cons (sb_X7_when_32 l) (st_cons (sb_X7_when_57 l) (st_cons (sb_X7_when_68 l) (st_nil))))))
set_option maxRecDepth 100000 in
set_option maxHeartbeats 4000000 in
theorem ok_X7_when : sm_Ok tb_X7_when 4 0 0 p_X7_when f_X7_when := by
  intro as w hp ha hw
  match as, hp with
  | [.inr (.inl o), .inl x, .inl s, .inl k], hp =>
  refine ⟨Nat.le_of_ble_eq_true rfl, fun Z hZ => ?_⟩
  obtain ⟨rfl, hC⟩ := hp
  have hT := hC.1.1
  have hD := cOK_d hC
  have hn := lOK_n hC.1
  have hR := (xRun_ok hD).1
  have hTR := hR.1.2.1
  have hDR := hR.1
  obtain ⟨d0, d9, d18, d27, d28, d29, d30, d31, d32, s0, s1, s2, s5, s6, s7, s8, s9, s10⟩ := dS hTR hDR.1
  simp only [Nat.reduceAdd] at d9 d18 s1 s2
  have hrc := fun h0 h1 => dRC hTR hDR.1 (x := x) h0 h1
  simp only [Nat.reduceAdd] at hrc
  generalize hRe : xRun 1 w = R at *
  by_cases c : 0 ≤ x ∧ x < wI w 2 7 ∧ 0 ≤ s ∧ s < 8
  · obtain ⟨c9, c18, cC, cV⟩ := hrc c.1 (by omega)
    by_cases k0 : k = 0
    · skip
      refine hZ (fun _ => false) 16 0 _ _ _ _ _ ?_
      simp only [sm_run, sm_blk, sm_get, sm_ent, sm_ents, sm_wds, sm_wd, sm_nl, sm_pop, sm_back, sm_cases, oK, oLK, oL, oI, oA, oJ, oIs, oAs, oJs, oInc, oAdd, oSub, oMul, oDiv, oRem, oNeg, oAnd, oAndB, oOr, oShl, oI2c, oI2l, oL2i, oLand, oLor, oLshl, oLshr, oLushr, oLcmp, oDup, oDup2, oPop, oGo, oFg, oEq, oNe, oLt, oGe, oGt, oLe, oEq0, oNe0, oLt0, oGe0, oGt0, oLe0, oSw, oGi, oGr, oPi, oPz, oPr, oLen, oIl, oZl, oCl, oRl, oIst, oZst, oCst, oRst, oCopy, oNew, oNa, oNa2, oObj, oCs, oCv, oCi, oIr, oZr, oVr, Nat.beq, List.getElem?_cons_zero, List.getElem?_cons_succ, List.set_cons_zero, List.set_cons_succ, List.length_cons, List.length_nil, List.nil_append, List.cons_append, List.append_nil, List.replicate_succ, List.replicate_zero, Nat.reduceAdd, Nat.reduceSub, Nat.reduceLT, Nat.reduceLeDiff, Nat.reduceBEq, true_and, and_true, Nat.zero_add, Nat.add_zero, Nat.le_refl, Option.some.injEq, exists_eq_left', true_or, or_true, or_false, false_or, reduceCtorEq, Prod.mk.injEq, Sum.inl.injEq, and_self, false_and, and_false, not_true_eq_false, not_false_eq_true, false_implies, true_implies, sm_r, Int.add_zero, Int.zero_add, wI_wsI, wS_wsI, wR_wsI, wI_wCp, wS_wCp, wR_wCp, Nat.reduceEqDiff, reduceIte, sT_iff, sT_iffC, wIf_ne, ne_eq, Bool.false_or, Bool.true_or, Bool.or_false, Bool.or_true, Bool.or_self, Nat.left_eq_add, Nat.add_eq_left, Nat.add_left_inj, oMax, oMin, oAbs, tb_X7_when, p_X0_run, p_X2_hasShuttle, p_X7_isStation, f_X0_run, f_X2_hasShuttle, f_X7_isStation, p_X7_when, f_X7_when, sS_0 hT, sR_0_1 hT, sR_0_0 hT, wS2 hT, dS1 hT, hT, is2, b01, hD, hRe, sS_0 hTR, sR_0_0 hTR, d0, s1, d9, c9, cC, s2, d18, c18, cV, if_pos c, if_pos k0]
      repeat' (first | exact True.intro | with_reducible assumption | with_reducible refine And.intro ?_ ?_ | intro _)
      all_goals first
        | omega
        | assumption
        | rfl
        | (split <;> omega)
        | grind
        | skip
    · by_cases k1 : k = 1
      · skip
        refine hZ (fun _ => false) 16 0 _ _ _ _ _ ?_
        simp only [sm_run, sm_blk, sm_get, sm_ent, sm_ents, sm_wds, sm_wd, sm_nl, sm_pop, sm_back, sm_cases, oK, oLK, oL, oI, oA, oJ, oIs, oAs, oJs, oInc, oAdd, oSub, oMul, oDiv, oRem, oNeg, oAnd, oAndB, oOr, oShl, oI2c, oI2l, oL2i, oLand, oLor, oLshl, oLshr, oLushr, oLcmp, oDup, oDup2, oPop, oGo, oFg, oEq, oNe, oLt, oGe, oGt, oLe, oEq0, oNe0, oLt0, oGe0, oGt0, oLe0, oSw, oGi, oGr, oPi, oPz, oPr, oLen, oIl, oZl, oCl, oRl, oIst, oZst, oCst, oRst, oCopy, oNew, oNa, oNa2, oObj, oCs, oCv, oCi, oIr, oZr, oVr, Nat.beq, List.getElem?_cons_zero, List.getElem?_cons_succ, List.set_cons_zero, List.set_cons_succ, List.length_cons, List.length_nil, List.nil_append, List.cons_append, List.append_nil, List.replicate_succ, List.replicate_zero, Nat.reduceAdd, Nat.reduceSub, Nat.reduceLT, Nat.reduceLeDiff, Nat.reduceBEq, true_and, and_true, Nat.zero_add, Nat.add_zero, Nat.le_refl, Option.some.injEq, exists_eq_left', true_or, or_true, or_false, false_or, reduceCtorEq, Prod.mk.injEq, Sum.inl.injEq, and_self, false_and, and_false, not_true_eq_false, not_false_eq_true, false_implies, true_implies, sm_r, Int.add_zero, Int.zero_add, wI_wsI, wS_wsI, wR_wsI, wI_wCp, wS_wCp, wR_wCp, Nat.reduceEqDiff, reduceIte, sT_iff, sT_iffC, wIf_ne, ne_eq, Bool.false_or, Bool.true_or, Bool.or_false, Bool.or_true, Bool.or_self, Nat.left_eq_add, Nat.add_eq_left, Nat.add_left_inj, oMax, oMin, oAbs, tb_X7_when, p_X0_run, p_X2_hasShuttle, p_X7_isStation, f_X0_run, f_X2_hasShuttle, f_X7_isStation, p_X7_when, f_X7_when, sS_0 hT, sR_0_1 hT, sR_0_0 hT, wS2 hT, dS1 hT, hT, is2, b01, hD, hRe, sS_0 hTR, sR_0_0 hTR, d0, s1, d9, c9, cC, s2, d18, c18, cV, if_pos c, if_neg k0, if_pos k1]
        repeat' (first | exact True.intro | with_reducible assumption | with_reducible refine And.intro ?_ ?_ | intro _)
        all_goals first
          | omega
          | assumption
          | rfl
          | (split <;> omega)
          | grind
          | skip
      · skip
        refine hZ (fun _ => false) 16 0 _ _ _ _ _ ?_
        simp only [sm_run, sm_blk, sm_get, sm_ent, sm_ents, sm_wds, sm_wd, sm_nl, sm_pop, sm_back, sm_cases, oK, oLK, oL, oI, oA, oJ, oIs, oAs, oJs, oInc, oAdd, oSub, oMul, oDiv, oRem, oNeg, oAnd, oAndB, oOr, oShl, oI2c, oI2l, oL2i, oLand, oLor, oLshl, oLshr, oLushr, oLcmp, oDup, oDup2, oPop, oGo, oFg, oEq, oNe, oLt, oGe, oGt, oLe, oEq0, oNe0, oLt0, oGe0, oGt0, oLe0, oSw, oGi, oGr, oPi, oPz, oPr, oLen, oIl, oZl, oCl, oRl, oIst, oZst, oCst, oRst, oCopy, oNew, oNa, oNa2, oObj, oCs, oCv, oCi, oIr, oZr, oVr, Nat.beq, List.getElem?_cons_zero, List.getElem?_cons_succ, List.set_cons_zero, List.set_cons_succ, List.length_cons, List.length_nil, List.nil_append, List.cons_append, List.append_nil, List.replicate_succ, List.replicate_zero, Nat.reduceAdd, Nat.reduceSub, Nat.reduceLT, Nat.reduceLeDiff, Nat.reduceBEq, true_and, and_true, Nat.zero_add, Nat.add_zero, Nat.le_refl, Option.some.injEq, exists_eq_left', true_or, or_true, or_false, false_or, reduceCtorEq, Prod.mk.injEq, Sum.inl.injEq, and_self, false_and, and_false, not_true_eq_false, not_false_eq_true, false_implies, true_implies, sm_r, Int.add_zero, Int.zero_add, wI_wsI, wS_wsI, wR_wsI, wI_wCp, wS_wCp, wR_wCp, Nat.reduceEqDiff, reduceIte, sT_iff, sT_iffC, wIf_ne, ne_eq, Bool.false_or, Bool.true_or, Bool.or_false, Bool.or_true, Bool.or_self, Nat.left_eq_add, Nat.add_eq_left, Nat.add_left_inj, oMax, oMin, oAbs, tb_X7_when, p_X0_run, p_X2_hasShuttle, p_X7_isStation, f_X0_run, f_X2_hasShuttle, f_X7_isStation, p_X7_when, f_X7_when, sS_0 hT, sR_0_1 hT, sR_0_0 hT, wS2 hT, dS1 hT, hT, is2, b01, hD, hRe, sS_0 hTR, sR_0_0 hTR, d0, s1, d9, c9, cC, s2, d18, c18, cV, if_pos c, if_neg k0, if_neg k1]
        repeat' (first | exact True.intro | with_reducible assumption | with_reducible refine And.intro ?_ ?_ | intro _)
        all_goals first
          | omega
          | assumption
          | rfl
          | (split <;> omega)
          | grind
          | skip
  · skip
    refine hZ (fun _ => false) 16 0 _ _ _ _ _ ?_
    simp only [sm_run, sm_blk, sm_get, sm_ent, sm_ents, sm_wds, sm_wd, sm_nl, sm_pop, sm_back, sm_cases, oK, oLK, oL, oI, oA, oJ, oIs, oAs, oJs, oInc, oAdd, oSub, oMul, oDiv, oRem, oNeg, oAnd, oAndB, oOr, oShl, oI2c, oI2l, oL2i, oLand, oLor, oLshl, oLshr, oLushr, oLcmp, oDup, oDup2, oPop, oGo, oFg, oEq, oNe, oLt, oGe, oGt, oLe, oEq0, oNe0, oLt0, oGe0, oGt0, oLe0, oSw, oGi, oGr, oPi, oPz, oPr, oLen, oIl, oZl, oCl, oRl, oIst, oZst, oCst, oRst, oCopy, oNew, oNa, oNa2, oObj, oCs, oCv, oCi, oIr, oZr, oVr, Nat.beq, List.getElem?_cons_zero, List.getElem?_cons_succ, List.set_cons_zero, List.set_cons_succ, List.length_cons, List.length_nil, List.nil_append, List.cons_append, List.append_nil, List.replicate_succ, List.replicate_zero, Nat.reduceAdd, Nat.reduceSub, Nat.reduceLT, Nat.reduceLeDiff, Nat.reduceBEq, true_and, and_true, Nat.zero_add, Nat.add_zero, Nat.le_refl, Option.some.injEq, exists_eq_left', true_or, or_true, or_false, false_or, reduceCtorEq, Prod.mk.injEq, Sum.inl.injEq, and_self, false_and, and_false, not_true_eq_false, not_false_eq_true, false_implies, true_implies, sm_r, Int.add_zero, Int.zero_add, wI_wsI, wS_wsI, wR_wsI, wI_wCp, wS_wCp, wR_wCp, Nat.reduceEqDiff, reduceIte, sT_iff, sT_iffC, wIf_ne, ne_eq, Bool.false_or, Bool.true_or, Bool.or_false, Bool.or_true, Bool.or_self, Nat.left_eq_add, Nat.add_eq_left, Nat.add_left_inj, oMax, oMin, oAbs, tb_X7_when, p_X0_run, p_X2_hasShuttle, p_X7_isStation, f_X0_run, f_X2_hasShuttle, f_X7_isStation, p_X7_when, f_X7_when, sS_0 hT, sR_0_1 hT, sR_0_0 hT, wS2 hT, dS1 hT, hT, is2, b01, hD, hRe, sS_0 hTR, sR_0_0 hTR, d0, s1, d9, s2, d18, if_neg c]
    repeat' (first | exact True.intro | with_reducible assumption | with_reducible refine And.intro ?_ ?_ | intro _)
    all_goals first
      | omega
      | assumption
      | rfl
      | (split <;> omega)
      | grind
      | skip
theorem met_X7_when (l : Launch) : sm_Met l yX7_when cX7_when 4 (some .int) 6 0 0 p_X7_when f_X7_when := sm_met 1 (Or.inr (Or.inl ⟨rfl, rfl⟩)) (by decide +kernel) (sn_X7_when l) ok_X7_when
def cMt (G : sm_W) (m k : Int) : Int := if m < 0 then -1 else (if wI G 78 1 ≤ m then -1 else (if k < 0 then -2 else (if 3 < k then -2 else mPart (wI G 79 m) k)))
def p_X7_meeting : List sm_V → sm_W → Prop
  | [.inr (.inl o), .inl m, .inl k], w => o = 0 ∧ cOK w
  | _, _ => False
def f_X7_meeting : sm_F
  | [.inr (.inl o), .inl m, .inl k], w => (some (.inl (cMt (mGa (xRun 1 w) 1) m k)), mGa (xRun 1 w) 1)
  | _, w => (none, w)
def tb_X7_meeting : List (Nat × List sm_O) := [(0, [oA 0, oGr 7 12 0, oCv 0 11 p_X0_run f_X0_run 0 0 1, oA 0, oGr 7 12 6, oA 0, oGr 7 12 0, oCv 3 2 p_X3_gather f_X3_gather 0 0 2, oI 1, oLt0 33, oI 1, oA 0, oGr 7 12 6, oGi 3 2 1, oLt 35, oGo 33]),
  (33, [oK (-1), oIr]),
  (35, [oI 2, oLt0 44, oI 2, oK 3, oLe 47, oGo 44]),
  (44, [oK (-2), oIr]),
  (47, [oA 0, oGr 7 12 6, oI 1, oI 2, oCv 3 2 p_X3_part f_X3_part 0 0 3, oIr])]
set_option maxRecDepth 100000 in
theorem sb_X7_meeting_0 (l : Launch) : sm_SndB l RX7 "meeting" cX7_meeting 3 1 6 0 [oA 0, oGr 7 12 0, oCv 0 11 p_X0_run f_X0_run 0 0 1, oA 0, oGr 7 12 6, oA 0, oGr 7 12 0, oCv 3 2 p_X3_gather f_X3_gather 0 0 2, oI 1, oLt0 33, oI 1, oA 0, oGr 7 12 6, oGi 3 2 1, oLt 35, oGo 33] := sb_cons (sd_aload_n (by decide +kernel : decode cX7_meeting 0 = .ok (.aload_n 0, 1)) rfl) (sb_cons (sd_getr (k := 0) kl_7 (by decide) rfl wm_145 (by decide +kernel : decode cX7_meeting 1 = .ok (.getfield 10, 3))) (sb_cons (sd_callv (n := 0) (met_X0_run l) (by decide) (by decide) wm_287 wm_284 wm_2 ⟨by decide +kernel, by decide +kernel, by decide +kernel⟩ kl_0 wm_285 wm_286 (by decide +kernel : decode cX7_meeting 4 = .ok (.invokevirtual 117, 3))) (sb_cons (sd_aload_n (by decide +kernel : decode cX7_meeting 7 = .ok (.aload_n 0, 1)) rfl) (sb_cons (sd_getr (k := 6) kl_7 (by decide) rfl wm_151 (by decide +kernel : decode cX7_meeting 8 = .ok (.getfield 43, 3))) (sb_cons (sd_aload_n (by decide +kernel : decode cX7_meeting 11 = .ok (.aload_n 0, 1)) rfl) (sb_cons (sd_getr (k := 0) kl_7 (by decide) rfl wm_145 (by decide +kernel : decode cX7_meeting 12 = .ok (.getfield 10, 3))) (sb_cons (sd_callv (n := 1) (met_X3_gather l) (by decide) (by decide) wm_439 wm_436 wm_6 ⟨by decide +kernel, by decide +kernel, by decide +kernel⟩ kl_3 wm_437 wm_438 (by decide +kernel : decode cX7_meeting 15 = .ok (.invokevirtual 169, 3))) (sb_cons (sd_iload_n (by decide +kernel : decode cX7_meeting 18 = .ok (.iload_n 1, 1)) rfl) (sb_cons (sd_lt0 (by decide +kernel : decode cX7_meeting 19 = .ok (.ifCond .lt 14, 3)) (by decide)) (sb_cons (sd_iload_n (by decide +kernel : decode cX7_meeting 22 = .ok (.iload_n 1, 1)) rfl) (sb_cons (sd_aload_n (by decide +kernel : decode cX7_meeting 23 = .ok (.aload_n 0, 1)) rfl) (sb_cons (sd_getr (k := 6) kl_7 (by decide) rfl wm_151 (by decide +kernel : decode cX7_meeting 24 = .ok (.getfield 43, 3))) (sb_cons (sd_geti (k := 1) kl_3 (by decide) rfl wm_108 (by decide +kernel : decode cX7_meeting 27 = .ok (.getfield 172, 3))) (sb_cons (sd_lt (by decide +kernel : decode cX7_meeting 30 = .ok (.if_icmp .lt 5, 3)) (by decide)) (sb_cons (sd_fall (x := 0)) sb_nil)))))))))))))))
set_option maxRecDepth 100000 in
theorem sb_X7_meeting_33 (l : Launch) : sm_SndB l RX7 "meeting" cX7_meeting 3 1 6 33 [oK (-1), oIr] := sb_cons (sd_iconst (by decide +kernel : decode cX7_meeting 33 = .ok (.iconst (-1), 1)) ⟨by decide, by decide⟩) (sb_cons (sd_ireturn (x := 0) rfl (by decide +kernel : decode cX7_meeting 34 = .ok (.ireturn, 1))) sb_nil)
set_option maxRecDepth 100000 in
theorem sb_X7_meeting_35 (l : Launch) : sm_SndB l RX7 "meeting" cX7_meeting 3 1 6 35 [oI 2, oLt0 44, oI 2, oK 3, oLe 47, oGo 44] := sb_cons (sd_iload_n (by decide +kernel : decode cX7_meeting 35 = .ok (.iload_n 2, 1)) rfl) (sb_cons (sd_lt0 (by decide +kernel : decode cX7_meeting 36 = .ok (.ifCond .lt 8, 3)) (by decide)) (sb_cons (sd_iload_n (by decide +kernel : decode cX7_meeting 39 = .ok (.iload_n 2, 1)) rfl) (sb_cons (sd_iconst (by decide +kernel : decode cX7_meeting 40 = .ok (.iconst 3, 1)) ⟨by decide, by decide⟩) (sb_cons (sd_le (by decide +kernel : decode cX7_meeting 41 = .ok (.if_icmp .le 6, 3)) (by decide)) (sb_cons (sd_fall (x := 0)) sb_nil)))))
set_option maxRecDepth 100000 in
theorem sb_X7_meeting_44 (l : Launch) : sm_SndB l RX7 "meeting" cX7_meeting 3 1 6 44 [oK (-2), oIr] := sb_cons (sd_bipush (by decide +kernel : decode cX7_meeting 44 = .ok (.bipush (-2), 2)) ⟨by decide, by decide⟩ (by decide)) (sb_cons (sd_ireturn (x := 0) rfl (by decide +kernel : decode cX7_meeting 46 = .ok (.ireturn, 1))) sb_nil)
set_option maxRecDepth 100000 in
theorem sb_X7_meeting_47 (l : Launch) : sm_SndB l RX7 "meeting" cX7_meeting 3 1 6 47 [oA 0, oGr 7 12 6, oI 1, oI 2, oCv 3 2 p_X3_part f_X3_part 0 0 3, oIr] := sb_cons (sd_aload_n (by decide +kernel : decode cX7_meeting 47 = .ok (.aload_n 0, 1)) rfl) (sb_cons (sd_getr (k := 6) kl_7 (by decide) rfl wm_151 (by decide +kernel : decode cX7_meeting 48 = .ok (.getfield 43, 3))) (sb_cons (sd_iload_n (by decide +kernel : decode cX7_meeting 51 = .ok (.iload_n 1, 1)) rfl) (sb_cons (sd_iload_n (by decide +kernel : decode cX7_meeting 52 = .ok (.iload_n 2, 1)) rfl) (sb_cons (sd_callv (n := 2) (met_X3_part l) (by decide) (by decide) wm_510 wm_507 wm_6 ⟨by decide +kernel, by decide +kernel, by decide +kernel⟩ kl_3 wm_508 wm_509 (by decide +kernel : decode cX7_meeting 53 = .ok (.invokevirtual 196, 3))) (sb_cons (sd_ireturn (x := 0) rfl (by decide +kernel : decode cX7_meeting 56 = .ok (.ireturn, 1))) sb_nil)))))
theorem sn_X7_meeting (l : Launch) : sm_SndT l RX7 "meeting" cX7_meeting 3 1 6 tb_X7_meeting := st_cons (sb_X7_meeting_0 l) (st_cons (sb_X7_meeting_33 l) (st_cons (sb_X7_meeting_35 l) (st_cons (sb_X7_meeting_44 l) (st_cons (sb_X7_meeting_47 l) (st_nil)))))
set_option maxRecDepth 100000 in
set_option maxHeartbeats 4000000 in
theorem ok_X7_meeting : sm_Ok tb_X7_meeting 3 0 0 p_X7_meeting f_X7_meeting := by
  intro as w hp ha hw
  match as, hp with
  | [.inr (.inl o), .inl m, .inl k], hp =>
  refine ⟨Nat.le_of_ble_eq_true rfl, fun Z hZ => ?_⟩
  obtain ⟨rfl, hC⟩ := hp
  have hT := hC.1.1
  have hD := cOK_d hC
  have hR := (xRun_ok hD).1
  have hTR := hR.1.2.1
  have hG := mGaL_inv hR (wI (xRun 1 w) (1 + 1) 7) (dOK_n hR.1).1 (Int.le_refl _)
  have hG : sFr sMt (xRun 1 w) (mGa (xRun 1 w) 1) ∧ mNm (mGa (xRun 1 w) 1) := hG
  have hTG := sFr_sT hG.1 hTR
  have hN := hG.2
  clear hG
  generalize hRe : xRun 1 w = R at *
  generalize hGe : mGa R 1 = G at *
  have hrw := hN.2 m
  have hn1 := hN.1
  obtain ⟨z, hz⟩ : ∃ z, z = cMt G m k := ⟨_, rfl⟩
  have hze : cMt G m k = z := hz.symm
  unfold cMt at hz
  refine hZ (fun _ => false) 16 0 _ _ _ _ _ ?_
  simp only [sm_run, sm_blk, sm_get, sm_ent, sm_ents, sm_wds, sm_wd, sm_nl, sm_pop, sm_back, sm_cases, oK, oLK, oL, oI, oA, oJ, oIs, oAs, oJs, oInc, oAdd, oSub, oMul, oDiv, oRem, oNeg, oAnd, oAndB, oOr, oShl, oI2c, oI2l, oL2i, oLand, oLor, oLshl, oLshr, oLushr, oLcmp, oDup, oDup2, oPop, oGo, oFg, oEq, oNe, oLt, oGe, oGt, oLe, oEq0, oNe0, oLt0, oGe0, oGt0, oLe0, oSw, oGi, oGr, oPi, oPz, oPr, oLen, oIl, oZl, oCl, oRl, oIst, oZst, oCst, oRst, oCopy, oNew, oNa, oNa2, oObj, oCs, oCv, oCi, oIr, oZr, oVr, Nat.beq, List.getElem?_cons_zero, List.getElem?_cons_succ, List.set_cons_zero, List.set_cons_succ, List.length_cons, List.length_nil, List.nil_append, List.cons_append, List.append_nil, List.replicate_succ, List.replicate_zero, Nat.reduceAdd, Nat.reduceSub, Nat.reduceLT, Nat.reduceLeDiff, Nat.reduceBEq, true_and, and_true, Nat.zero_add, Nat.add_zero, Nat.le_refl, Option.some.injEq, exists_eq_left', true_or, or_true, or_false, false_or, reduceCtorEq, Prod.mk.injEq, Sum.inl.injEq, and_self, false_and, and_false, not_true_eq_false, not_false_eq_true, false_implies, true_implies, sm_r, Int.add_zero, Int.zero_add, wI_wsI, wS_wsI, wR_wsI, wI_wCp, wS_wCp, wR_wCp, Nat.reduceEqDiff, reduceIte, sT_iff, sT_iffC, wIf_ne, ne_eq, Bool.false_or, Bool.true_or, Bool.or_false, Bool.or_true, Bool.or_self, Nat.left_eq_add, Nat.add_eq_left, Nat.add_left_inj, oMax, oMin, oAbs, tb_X7_meeting, p_X0_run, p_X3_gather, p_X3_part, f_X0_run, f_X3_gather, f_X3_part, p_X7_meeting, f_X7_meeting, sS_0 hT, sR_0_0 hT, dS1 hT, hD, hRe, sS_0 hTR, sR_0_0 hTR, sR_0_6 hTR, dS1 hTR, sS_78 hTR, hR, hGe, sS_0 hTG, sR_0_6 hTG, sS_78 hTG, hTG, hze]
  repeat' (first | exact True.intro | with_reducible assumption | with_reducible refine And.intro ?_ ?_ | intro _)
  all_goals first
    | omega
    | assumption
    | rfl
    | (split <;> omega)
    | grind
    | skip

theorem met_X7_meeting (l : Launch) : sm_Met l yX7_meeting cX7_meeting 3 (some .int) 6 0 0 p_X7_meeting f_X7_meeting := sm_met 1 (Or.inr (Or.inl ⟨rfl, rfl⟩)) (by decide +kernel) (sn_X7_meeting l) ok_X7_meeting