/-! THE REFERENCE: what is asked of a day -/
def p_X8_delayNow : List sm_V → sm_W → Prop
  | [.inr (.inl m)], w => m = 154 ∧ mGd0 w
  | _, _ => False
def f_X8_delayNow : sm_F
  | [.inr (.inl m)], w => (some (.inl (mDl (mRun w))), mRun w)
  | _, w => (none, w)
def tb_X8_delayNow : List (Nat × List sm_O) := [(0, [oA 0, oCv 8 30 p_X8_run f_X8_run 0 0 1, oA 0, oCv 8 30 p_X8_delay f_X8_delay 0 0 1, oIr])]
set_option maxRecDepth 100000 in
theorem sb_X8_delayNow_0 (l : Launch) : sm_SndB l RX8 "delayNow" cX8_delayNow 1 1 7 0 [oA 0, oCv 8 30 p_X8_run f_X8_run 0 0 1, oA 0, oCv 8 30 p_X8_delay f_X8_delay 0 0 1, oIr] := sb_cons (sd_aload_n (by decide +kernel : decode cX8_delayNow 0 = .ok (.aload_n 0, 1)) rfl) (sb_cons (sd_callv (n := 0) (met_X8_run l) (by decide) (by decide) wm_805 wm_803 wm_10 ⟨by decide +kernel, by decide +kernel, by decide +kernel⟩ kl_8 wm_804 wm_1116 (by decide +kernel : decode cX8_delayNow 1 = .ok (.invokevirtual 167, 3))) (sb_cons (sd_aload_n (by decide +kernel : decode cX8_delayNow 4 = .ok (.aload_n 0, 1)) rfl) (sb_cons (sd_callv (n := 0) (met_X8_delay l) (by decide) (by decide) wm_907 wm_905 wm_10 ⟨by decide +kernel, by decide +kernel, by decide +kernel⟩ kl_8 wm_906 wm_1138 (by decide +kernel : decode cX8_delayNow 5 = .ok (.invokevirtual 170, 3))) (sb_cons (sd_ireturn (x := 0) rfl (by decide +kernel : decode cX8_delayNow 8 = .ok (.ireturn, 1))) sb_nil))))
theorem sn_X8_delayNow (l : Launch) : sm_SndT l RX8 "delayNow" cX8_delayNow 1 1 7 tb_X8_delayNow := st_cons (sb_X8_delayNow_0 l) (st_nil)
set_option maxRecDepth 100000 in
set_option maxHeartbeats 4000000 in
theorem ok_X8_delayNow : sm_Ok tb_X8_delayNow 1 0 0 p_X8_delayNow f_X8_delayNow := by
  intro as w hp ha hw
  match as, hp with
  | [.inr (.inl m)], hp =>
  refine ⟨Nat.le_of_ble_eq_true rfl, fun Z hZ => ?_⟩
  obtain ⟨rfl, hG⟩ := hp
  have hT := hG.1.1
  have hR := mRun_st hG
  generalize hFe : mRun w = R at *
  have hO := hR.1.1
  have hT2 := hO.1
  have hRec := hR.1.2.2.2
  refine hZ (fun _ => false) 16 0 _ _ _ _ _ ?_
  simp only [sm_run, sm_blk, sm_get, sm_ent, sm_ents, sm_wds, sm_wd, sm_nl, sm_pop, sm_back, sm_cases, oK, oLK, oL, oI, oA, oJ, oIs, oAs, oJs, oInc, oAdd, oSub, oMul, oDiv, oRem, oNeg, oAnd, oAndB, oOr, oShl, oI2c, oI2l, oL2i, oLand, oLor, oLshl, oLshr, oLushr, oLcmp, oDup, oDup2, oPop, oGo, oFg, oEq, oNe, oLt, oGe, oGt, oLe, oEq0, oNe0, oLt0, oGe0, oGt0, oLe0, oSw, oGi, oGr, oPi, oPz, oPr, oLen, oIl, oZl, oCl, oRl, oIst, oZst, oCst, oRst, oCopy, oNew, oNa, oNa2, oObj, oCs, oCv, oCi, oIr, oZr, oVr, Nat.beq, List.getElem?_cons_zero, List.getElem?_cons_succ, List.set_cons_zero, List.set_cons_succ, List.length_cons, List.length_nil, List.nil_append, List.cons_append, List.append_nil, List.replicate_succ, List.replicate_zero, Nat.reduceAdd, Nat.reduceSub, Nat.reduceLT, Nat.reduceLeDiff, Nat.reduceBEq, true_and, and_true, Nat.zero_add, Nat.add_zero, Nat.le_refl, Option.some.injEq, exists_eq_left', true_or, or_true, or_false, false_or, reduceCtorEq, Prod.mk.injEq, Sum.inl.injEq, and_self, false_and, and_false, not_true_eq_false, not_false_eq_true, false_implies, true_implies, sm_r, Int.add_zero, Int.zero_add, wI_wsI, wS_wsI, wR_wsI, wI_wCp, wS_wCp, wR_wCp, Nat.reduceEqDiff, reduceIte, sT_iff, sT_iffC, wIf_ne, ne_eq, Bool.false_or, Bool.true_or, Bool.or_false, Bool.or_true, Bool.or_self, tb_X8_delayNow, p_X8_delay, p_X8_run, f_X8_delay, f_X8_run, p_X8_delayNow, f_X8_delayNow, sS_154 hT, sS_154 hT2, hFe]
  repeat' (first | exact True.intro | with_reducible assumption | with_reducible refine And.intro ?_ ?_ | intro _)
  all_goals first
    | omega
    | assumption
    | rfl
    | (split <;> omega)
    | skip
theorem met_X8_delayNow (l : Launch) : sm_Met l yX8_delayNow cX8_delayNow 1 (some .int) 7 0 0 p_X8_delayNow f_X8_delayNow := sm_met 1 (Or.inr (Or.inl ⟨rfl, rfl⟩)) (by decide +kernel) (sn_X8_delayNow l) ok_X8_delayNow
def qOf (w : sm_W) (x k : Int) : Int := if k = 5 then vTime (wI w 155) x (wI w 155 (17 + 5 * x)) else (if k = 6 then mEndOf w x else (if k = 7 then mDelay w x else (if k = 8 then mWtd w x else (if k = 9 ∨ k = 10 ∨ k = 11 then wI w 169 (4 * x + (k - 8)) else (if k = 12 then (mBlm w x (wI w 155 1)).1 else -2)))))
def p_X8_ofShuttle : List sm_V → sm_W → Prop
  | [.inr (.inl m), .inl x, .inl k], w => m = 154 ∧ mGd0 w
  | _, _ => False
def f_X8_ofShuttle : sm_F
  | [.inr (.inl m), .inl x, .inl k], w => (some (.inl (if 0 ≤ x ∧ x < wI w 155 1 then (if 0 ≤ k ∧ k ≤ 4 then wI w 155 (17 + 5 * x + k) else qOf (mRun w) x k) else -1)), (if 0 ≤ x ∧ x < wI w 155 1 then (if 0 ≤ k ∧ k ≤ 4 then w else mRun w) else w))
  | _, w => (none, w)
def tb_X8_ofShuttle : List (Nat × List sm_O) := [(0, [oA 0, oI 1, oCv 8 30 p_X8_isShuttle f_X8_isShuttle 0 0 2, oNe0 10, oK (-1), oIr]),
  (10, [oI 2, oK 0, oK 4, oCs p_X8_in f_X8_in 0 0 3, oEq0 26, oA 0, oI 1, oI 2, oCv 8 30 p_X8_of f_X8_of 0 0 3, oIr]),
  (26, [oA 0, oCv 8 30 p_X8_run f_X8_run 0 0 1, oI 2, oSw 5 [76, 88, 94, 100, 106, 106, 106, 120] 126]),
  (76, [oA 0, oI 1, oA 0, oI 1, oK 0, oCv 8 30 p_X8_of f_X8_of 0 0 3, oCv 8 30 p_X8_timeOf f_X8_timeOf 0 0 3, oIr]),
  (88, [oA 0, oI 1, oCv 8 30 p_X8_endOf f_X8_endOf 0 0 2, oIr]),
  (94, [oA 0, oI 1, oCv 8 30 p_X8_delayOf f_X8_delayOf 0 0 2, oIr]),
  (100, [oA 0, oI 1, oCv 8 30 p_X8_waited f_X8_waited 0 0 2, oIr]),
  (106, [oA 0, oGr 8 30 16, oK 4, oI 1, oMul, oI 2, oAdd, oK 8, oSub, oIl, oIr]),
  (120, [oA 0, oI 1, oCv 8 30 p_X8_blamed f_X8_blamed 0 0 2, oIr]),
  (126, [oK (-2), oIr])]
set_option maxRecDepth 100000 in
theorem sb_X8_ofShuttle_0 (l : Launch) : sm_SndB l RX8 "ofShuttle" cX8_ofShuttle 3 1 7 0 [oA 0, oI 1, oCv 8 30 p_X8_isShuttle f_X8_isShuttle 0 0 2, oNe0 10, oK (-1), oIr] := sb_cons (sd_aload_n (by decide +kernel : decode cX8_ofShuttle 0 = .ok (.aload_n 0, 1)) rfl) (sb_cons (sd_iload_n (by decide +kernel : decode cX8_ofShuttle 1 = .ok (.iload_n 1, 1)) rfl) (sb_cons (sd_callv (n := 1) (met_X8_isShuttle l) (by decide) (by decide) wm_774 wm_772 wm_10 ⟨by decide +kernel, by decide +kernel, by decide +kernel⟩ kl_8 wm_773 wm_1112 (by decide +kernel : decode cX8_ofShuttle 2 = .ok (.invokevirtual 198, 3))) (sb_cons (sd_ne0 (by decide +kernel : decode cX8_ofShuttle 5 = .ok (.ifCond .ne 5, 3)) (by decide)) (sb_cons (sd_iconst (by decide +kernel : decode cX8_ofShuttle 8 = .ok (.iconst (-1), 1)) ⟨by decide, by decide⟩) (sb_cons (sd_ireturn (x := 0) rfl (by decide +kernel : decode cX8_ofShuttle 9 = .ok (.ireturn, 1))) sb_nil)))))
set_option maxRecDepth 100000 in
theorem sb_X8_ofShuttle_10 (l : Launch) : sm_SndB l RX8 "ofShuttle" cX8_ofShuttle 3 1 7 10 [oI 2, oK 0, oK 4, oCs p_X8_in f_X8_in 0 0 3, oEq0 26, oA 0, oI 1, oI 2, oCv 8 30 p_X8_of f_X8_of 0 0 3, oIr] := sb_cons (sd_iload_n (by decide +kernel : decode cX8_ofShuttle 10 = .ok (.iload_n 2, 1)) rfl) (sb_cons (sd_iconst (by decide +kernel : decode cX8_ofShuttle 11 = .ok (.iconst 0, 1)) ⟨by decide, by decide⟩) (sb_cons (sd_iconst (by decide +kernel : decode cX8_ofShuttle 12 = .ok (.iconst 4, 1)) ⟨by decide, by decide⟩) (sb_cons (sd_calls (n := 3) (met_X8_in l) (by decide) (by decide) wm_710 wm_708 wm_10 ⟨by decide +kernel, by decide +kernel, by decide +kernel⟩ wm_709 (by decide +kernel : decode cX8_ofShuttle 13 = .ok (.invokestatic 74, 3))) (sb_cons (sd_eq0 (by decide +kernel : decode cX8_ofShuttle 16 = .ok (.ifCond .eq 10, 3)) (by decide)) (sb_cons (sd_aload_n (by decide +kernel : decode cX8_ofShuttle 19 = .ok (.aload_n 0, 1)) rfl) (sb_cons (sd_iload_n (by decide +kernel : decode cX8_ofShuttle 20 = .ok (.iload_n 1, 1)) rfl) (sb_cons (sd_iload_n (by decide +kernel : decode cX8_ofShuttle 21 = .ok (.iload_n 2, 1)) rfl) (sb_cons (sd_callv (n := 2) (met_X8_of l) (by decide) (by decide) wm_778 wm_776 wm_10 ⟨by decide +kernel, by decide +kernel, by decide +kernel⟩ kl_8 wm_777 wm_1113 (by decide +kernel : decode cX8_ofShuttle 22 = .ok (.invokevirtual 78, 3))) (sb_cons (sd_ireturn (x := 0) rfl (by decide +kernel : decode cX8_ofShuttle 25 = .ok (.ireturn, 1))) sb_nil)))))))))
set_option maxRecDepth 100000 in
theorem sb_X8_ofShuttle_26 (l : Launch) : sm_SndB l RX8 "ofShuttle" cX8_ofShuttle 3 1 7 26 [oA 0, oCv 8 30 p_X8_run f_X8_run 0 0 1, oI 2, oSw 5 [76, 88, 94, 100, 106, 106, 106, 120] 126] := sb_cons (sd_aload_n (by decide +kernel : decode cX8_ofShuttle 26 = .ok (.aload_n 0, 1)) rfl) (sb_cons (sd_callv (n := 0) (met_X8_run l) (by decide) (by decide) wm_805 wm_803 wm_10 ⟨by decide +kernel, by decide +kernel, by decide +kernel⟩ kl_8 wm_804 wm_1116 (by decide +kernel : decode cX8_ofShuttle 27 = .ok (.invokevirtual 167, 3))) (sb_cons (sd_iload_n (by decide +kernel : decode cX8_ofShuttle 30 = .ok (.iload_n 2, 1)) rfl) (sb_cons (sd_sw (x := 0) (by decide +kernel : decode cX8_ofShuttle 31 = .ok (.tableswitch 95 5 12 #[45, 57, 63, 69, 75, 75, 75, 89], 45)) (by decide) (by decide) (by decide)) sb_nil)))
set_option maxRecDepth 100000 in
theorem sb_X8_ofShuttle_76 (l : Launch) : sm_SndB l RX8 "ofShuttle" cX8_ofShuttle 3 1 7 76 [oA 0, oI 1, oA 0, oI 1, oK 0, oCv 8 30 p_X8_of f_X8_of 0 0 3, oCv 8 30 p_X8_timeOf f_X8_timeOf 0 0 3, oIr] := sb_cons (sd_aload_n (by decide +kernel : decode cX8_ofShuttle 76 = .ok (.aload_n 0, 1)) rfl) (sb_cons (sd_iload_n (by decide +kernel : decode cX8_ofShuttle 77 = .ok (.iload_n 1, 1)) rfl) (sb_cons (sd_aload_n (by decide +kernel : decode cX8_ofShuttle 78 = .ok (.aload_n 0, 1)) rfl) (sb_cons (sd_iload_n (by decide +kernel : decode cX8_ofShuttle 79 = .ok (.iload_n 1, 1)) rfl) (sb_cons (sd_iconst (by decide +kernel : decode cX8_ofShuttle 80 = .ok (.iconst 0, 1)) ⟨by decide, by decide⟩) (sb_cons (sd_callv (n := 2) (met_X8_of l) (by decide) (by decide) wm_778 wm_776 wm_10 ⟨by decide +kernel, by decide +kernel, by decide +kernel⟩ kl_8 wm_777 wm_1113 (by decide +kernel : decode cX8_ofShuttle 81 = .ok (.invokevirtual 78, 3))) (sb_cons (sd_callv (n := 2) (met_X8_timeOf l) (by decide) (by decide) wm_865 wm_863 wm_10 ⟨by decide +kernel, by decide +kernel, by decide +kernel⟩ kl_8 wm_864 wm_1130 (by decide +kernel : decode cX8_ofShuttle 84 = .ok (.invokevirtual 115, 3))) (sb_cons (sd_ireturn (x := 0) rfl (by decide +kernel : decode cX8_ofShuttle 87 = .ok (.ireturn, 1))) sb_nil)))))))
set_option maxRecDepth 100000 in
theorem sb_X8_ofShuttle_88 (l : Launch) : sm_SndB l RX8 "ofShuttle" cX8_ofShuttle 3 1 7 88 [oA 0, oI 1, oCv 8 30 p_X8_endOf f_X8_endOf 0 0 2, oIr] := sb_cons (sd_aload_n (by decide +kernel : decode cX8_ofShuttle 88 = .ok (.aload_n 0, 1)) rfl) (sb_cons (sd_iload_n (by decide +kernel : decode cX8_ofShuttle 89 = .ok (.iload_n 1, 1)) rfl) (sb_cons (sd_callv (n := 1) (met_X8_endOf l) (by decide) (by decide) wm_881 wm_879 wm_10 ⟨by decide +kernel, by decide +kernel, by decide +kernel⟩ kl_8 wm_880 wm_1134 (by decide +kernel : decode cX8_ofShuttle 90 = .ok (.invokevirtual 161, 3))) (sb_cons (sd_ireturn (x := 0) rfl (by decide +kernel : decode cX8_ofShuttle 93 = .ok (.ireturn, 1))) sb_nil)))
set_option maxRecDepth 100000 in
theorem sb_X8_ofShuttle_94 (l : Launch) : sm_SndB l RX8 "ofShuttle" cX8_ofShuttle 3 1 7 94 [oA 0, oI 1, oCv 8 30 p_X8_delayOf f_X8_delayOf 0 0 2, oIr] := sb_cons (sd_aload_n (by decide +kernel : decode cX8_ofShuttle 94 = .ok (.aload_n 0, 1)) rfl) (sb_cons (sd_iload_n (by decide +kernel : decode cX8_ofShuttle 95 = .ok (.iload_n 1, 1)) rfl) (sb_cons (sd_callv (n := 1) (met_X8_delayOf l) (by decide) (by decide) wm_885 wm_883 wm_10 ⟨by decide +kernel, by decide +kernel, by decide +kernel⟩ kl_8 wm_884 wm_1135 (by decide +kernel : decode cX8_ofShuttle 96 = .ok (.invokevirtual 164, 3))) (sb_cons (sd_ireturn (x := 0) rfl (by decide +kernel : decode cX8_ofShuttle 99 = .ok (.ireturn, 1))) sb_nil)))
set_option maxRecDepth 100000 in
theorem sb_X8_ofShuttle_100 (l : Launch) : sm_SndB l RX8 "ofShuttle" cX8_ofShuttle 3 1 7 100 [oA 0, oI 1, oCv 8 30 p_X8_waited f_X8_waited 0 0 2, oIr] := sb_cons (sd_aload_n (by decide +kernel : decode cX8_ofShuttle 100 = .ok (.aload_n 0, 1)) rfl) (sb_cons (sd_iload_n (by decide +kernel : decode cX8_ofShuttle 101 = .ok (.iload_n 1, 1)) rfl) (sb_cons (sd_callv (n := 1) (met_X8_waited l) (by decide) (by decide) wm_889 wm_887 wm_10 ⟨by decide +kernel, by decide +kernel, by decide +kernel⟩ kl_8 wm_888 wm_1136 (by decide +kernel : decode cX8_ofShuttle 102 = .ok (.invokevirtual 214, 3))) (sb_cons (sd_ireturn (x := 0) rfl (by decide +kernel : decode cX8_ofShuttle 105 = .ok (.ireturn, 1))) sb_nil)))
set_option maxRecDepth 100000 in
theorem sb_X8_ofShuttle_106 (l : Launch) : sm_SndB l RX8 "ofShuttle" cX8_ofShuttle 3 1 7 106 [oA 0, oGr 8 30 16, oK 4, oI 1, oMul, oI 2, oAdd, oK 8, oSub, oIl, oIr] := sb_cons (sd_aload_n (by decide +kernel : decode cX8_ofShuttle 106 = .ok (.aload_n 0, 1)) rfl) (sb_cons (sd_getr (k := 16) kl_8 (by decide) rfl wm_689 (by decide +kernel : decode cX8_ofShuttle 107 = .ok (.getfield 53, 3))) (sb_cons (sd_iconst (by decide +kernel : decode cX8_ofShuttle 110 = .ok (.iconst 4, 1)) ⟨by decide, by decide⟩) (sb_cons (sd_iload_n (by decide +kernel : decode cX8_ofShuttle 111 = .ok (.iload_n 1, 1)) rfl) (sb_cons (sd_imul (by decide +kernel : decode cX8_ofShuttle 112 = .ok (.imul, 1))) (sb_cons (sd_iload_n (by decide +kernel : decode cX8_ofShuttle 113 = .ok (.iload_n 2, 1)) rfl) (sb_cons (sd_iadd (by decide +kernel : decode cX8_ofShuttle 114 = .ok (.iadd, 1))) (sb_cons (sd_bipush (by decide +kernel : decode cX8_ofShuttle 115 = .ok (.bipush 8, 2)) ⟨by decide, by decide⟩ (by decide)) (sb_cons (sd_isub (by decide +kernel : decode cX8_ofShuttle 117 = .ok (.isub, 1))) (sb_cons (sd_iaload (by decide +kernel : decode cX8_ofShuttle 118 = .ok (.iaload, 1))) (sb_cons (sd_ireturn (x := 0) rfl (by decide +kernel : decode cX8_ofShuttle 119 = .ok (.ireturn, 1))) sb_nil))))))))))
set_option maxRecDepth 100000 in
theorem sb_X8_ofShuttle_120 (l : Launch) : sm_SndB l RX8 "ofShuttle" cX8_ofShuttle 3 1 7 120 [oA 0, oI 1, oCv 8 30 p_X8_blamed f_X8_blamed 0 0 2, oIr] := sb_cons (sd_aload_n (by decide +kernel : decode cX8_ofShuttle 120 = .ok (.aload_n 0, 1)) rfl) (sb_cons (sd_iload_n (by decide +kernel : decode cX8_ofShuttle 121 = .ok (.iload_n 1, 1)) rfl) (sb_cons (sd_callv (n := 1) (met_X8_blamed l) (by decide) (by decide) wm_893 wm_891 wm_10 ⟨by decide +kernel, by decide +kernel, by decide +kernel⟩ kl_8 wm_892 wm_1137 (by decide +kernel : decode cX8_ofShuttle 122 = .ok (.invokevirtual 217, 3))) (sb_cons (sd_ireturn (x := 0) rfl (by decide +kernel : decode cX8_ofShuttle 125 = .ok (.ireturn, 1))) sb_nil)))
set_option maxRecDepth 100000 in
theorem sb_X8_ofShuttle_126 (l : Launch) : sm_SndB l RX8 "ofShuttle" cX8_ofShuttle 3 1 7 126 [oK (-2), oIr] := sb_cons (sd_bipush (by decide +kernel : decode cX8_ofShuttle 126 = .ok (.bipush (-2), 2)) ⟨by decide, by decide⟩ (by decide)) (sb_cons (sd_ireturn (x := 0) rfl (by decide +kernel : decode cX8_ofShuttle 128 = .ok (.ireturn, 1))) sb_nil)
theorem sn_X8_ofShuttle (l : Launch) : sm_SndT l RX8 "ofShuttle" cX8_ofShuttle 3 1 7 tb_X8_ofShuttle := st_cons (sb_X8_ofShuttle_0 l) (st_cons (sb_X8_ofShuttle_10 l) (st_cons (sb_X8_ofShuttle_26 l) (st_cons (sb_X8_ofShuttle_76 l) (st_cons (sb_X8_ofShuttle_88 l) (st_cons (sb_X8_ofShuttle_94 l) (st_cons (sb_X8_ofShuttle_100 l) (st_cons (sb_X8_ofShuttle_106 l) (st_cons (sb_X8_ofShuttle_120 l) (st_cons (sb_X8_ofShuttle_126 l) (st_nil))))))))))
set_option maxRecDepth 100000 in
set_option maxHeartbeats 4000000 in
theorem ok_X8_ofShuttle : sm_Ok tb_X8_ofShuttle 3 0 0 p_X8_ofShuttle f_X8_ofShuttle := by
  intro as w hp ha hw
  match as, hp with
  | [.inr (.inl m), .inl x, .inl k], hp =>
  refine ⟨Nat.le_of_ble_eq_true rfl, fun Z hZ => ?_⟩
  obtain ⟨rfl, hG⟩ := hp
  have hT := hG.1.1
  have hO := hG.1
  have hm := vOK_many hO.2
  have hR := mRun_st hG
  generalize hFe : mRun w = R at *
  obtain ⟨hG2, hat⟩ := hR
  have hO2 := hG2.1
  have hT2 := hO2.1
  have hRec := hG2.2.2.2
  by_cases hx : 0 ≤ x ∧ x < wI w 155 1
  · have hq := vOK_sh hO.2 hx.1 hx.2
    by_cases hk : 0 ≤ k ∧ k ≤ 4
    · skip
      refine hZ (fun _ => false) 16 0 _ _ _ _ _ ?_
      simp only [sm_run, sm_blk, sm_get, sm_ent, sm_ents, sm_wds, sm_wd, sm_nl, sm_pop, sm_back, sm_cases, oK, oLK, oL, oI, oA, oJ, oIs, oAs, oJs, oInc, oAdd, oSub, oMul, oDiv, oRem, oNeg, oAnd, oAndB, oOr, oShl, oI2c, oI2l, oL2i, oLand, oLor, oLshl, oLshr, oLushr, oLcmp, oDup, oDup2, oPop, oGo, oFg, oEq, oNe, oLt, oGe, oGt, oLe, oEq0, oNe0, oLt0, oGe0, oGt0, oLe0, oSw, oGi, oGr, oPi, oPz, oPr, oLen, oIl, oZl, oCl, oRl, oIst, oZst, oCst, oRst, oCopy, oNew, oNa, oNa2, oObj, oCs, oCv, oCi, oIr, oZr, oVr, Nat.beq, List.getElem?_cons_zero, List.getElem?_cons_succ, List.set_cons_zero, List.set_cons_succ, List.length_cons, List.length_nil, List.nil_append, List.cons_append, List.append_nil, List.replicate_succ, List.replicate_zero, Nat.reduceAdd, Nat.reduceSub, Nat.reduceLT, Nat.reduceLeDiff, Nat.reduceBEq, true_and, and_true, Nat.zero_add, Nat.add_zero, Nat.le_refl, Option.some.injEq, exists_eq_left', true_or, or_true, or_false, false_or, reduceCtorEq, Prod.mk.injEq, Sum.inl.injEq, and_self, false_and, and_false, not_true_eq_false, not_false_eq_true, false_implies, true_implies, sm_r, Int.add_zero, Int.zero_add, wI_wsI, wS_wsI, wR_wsI, wI_wCp, wS_wCp, wR_wCp, Nat.reduceEqDiff, reduceIte, sT_iff, sT_iffC, wIf_ne, ne_eq, Bool.false_or, Bool.true_or, Bool.or_false, Bool.or_true, Bool.or_self, tb_X8_ofShuttle, p_X8_blamed, p_X8_delayOf, p_X8_endOf, p_X8_in, p_X8_isShuttle, p_X8_of, p_X8_run, p_X8_timeOf, p_X8_waited, f_X8_blamed, f_X8_delayOf, f_X8_endOf, f_X8_in, f_X8_isShuttle, f_X8_of, f_X8_run, f_X8_timeOf, f_X8_waited, p_X8_ofShuttle, f_X8_ofShuttle, sS_154 hT, hT, b01, hO]
      repeat' (first | exact True.intro | with_reducible assumption | with_reducible refine And.intro ?_ ?_ | intro _)
      all_goals first
        | omega
        | assumption
        | rfl
        | (split <;> omega)
        | grind
        | skip
    · obtain ⟨z, hz⟩ : ∃ z, z = qOf R x k := ⟨_, rfl⟩
      have hqe : qOf R x k = z := hz.symm
      unfold qOf at hz
      rw [hat] at hz
      refine hZ (fun _ => false) 16 0 _ _ _ _ _ ?_
      simp only [sm_run, sm_blk, sm_get, sm_ent, sm_ents, sm_wds, sm_wd, sm_nl, sm_pop, sm_back, sm_cases, oK, oLK, oL, oI, oA, oJ, oIs, oAs, oJs, oInc, oAdd, oSub, oMul, oDiv, oRem, oNeg, oAnd, oAndB, oOr, oShl, oI2c, oI2l, oL2i, oLand, oLor, oLshl, oLshr, oLushr, oLcmp, oDup, oDup2, oPop, oGo, oFg, oEq, oNe, oLt, oGe, oGt, oLe, oEq0, oNe0, oLt0, oGe0, oGt0, oLe0, oSw, oGi, oGr, oPi, oPz, oPr, oLen, oIl, oZl, oCl, oRl, oIst, oZst, oCst, oRst, oCopy, oNew, oNa, oNa2, oObj, oCs, oCv, oCi, oIr, oZr, oVr, Nat.beq, List.getElem?_cons_zero, List.getElem?_cons_succ, List.set_cons_zero, List.set_cons_succ, List.length_cons, List.length_nil, List.nil_append, List.cons_append, List.append_nil, List.replicate_succ, List.replicate_zero, Nat.reduceAdd, Nat.reduceSub, Nat.reduceLT, Nat.reduceLeDiff, Nat.reduceBEq, true_and, and_true, Nat.zero_add, Nat.add_zero, Nat.le_refl, Option.some.injEq, exists_eq_left', true_or, or_true, or_false, false_or, reduceCtorEq, Prod.mk.injEq, Sum.inl.injEq, and_self, false_and, and_false, not_true_eq_false, not_false_eq_true, false_implies, true_implies, sm_r, Int.add_zero, Int.zero_add, wI_wsI, wS_wsI, wR_wsI, wI_wCp, wS_wCp, wR_wCp, Nat.reduceEqDiff, reduceIte, sT_iff, sT_iffC, wIf_ne, ne_eq, Bool.false_or, Bool.true_or, Bool.or_false, Bool.or_true, Bool.or_self, tb_X8_ofShuttle, p_X8_blamed, p_X8_delayOf, p_X8_endOf, p_X8_in, p_X8_isShuttle, p_X8_of, p_X8_run, p_X8_timeOf, p_X8_waited, f_X8_blamed, f_X8_delayOf, f_X8_endOf, f_X8_in, f_X8_isShuttle, f_X8_of, f_X8_run, f_X8_timeOf, f_X8_waited, p_X8_ofShuttle, f_X8_ofShuttle, sS_154 hT, sS_154 hT2, sR_154_16 hT2, sS_169 hT2, hFe, b01, hqe, hT, hT2, hat, hO, hO2]
      repeat' (first | exact True.intro | with_reducible assumption | with_reducible refine And.intro ?_ ?_ | intro _)
      all_goals first
        | omega
        | assumption
        | rfl
        | (split <;> omega)
        | grind
        | skip
  · skip
    refine hZ (fun _ => false) 16 0 _ _ _ _ _ ?_
    simp only [sm_run, sm_blk, sm_get, sm_ent, sm_ents, sm_wds, sm_wd, sm_nl, sm_pop, sm_back, sm_cases, oK, oLK, oL, oI, oA, oJ, oIs, oAs, oJs, oInc, oAdd, oSub, oMul, oDiv, oRem, oNeg, oAnd, oAndB, oOr, oShl, oI2c, oI2l, oL2i, oLand, oLor, oLshl, oLshr, oLushr, oLcmp, oDup, oDup2, oPop, oGo, oFg, oEq, oNe, oLt, oGe, oGt, oLe, oEq0, oNe0, oLt0, oGe0, oGt0, oLe0, oSw, oGi, oGr, oPi, oPz, oPr, oLen, oIl, oZl, oCl, oRl, oIst, oZst, oCst, oRst, oCopy, oNew, oNa, oNa2, oObj, oCs, oCv, oCi, oIr, oZr, oVr, Nat.beq, List.getElem?_cons_zero, List.getElem?_cons_succ, List.set_cons_zero, List.set_cons_succ, List.length_cons, List.length_nil, List.nil_append, List.cons_append, List.append_nil, List.replicate_succ, List.replicate_zero, Nat.reduceAdd, Nat.reduceSub, Nat.reduceLT, Nat.reduceLeDiff, Nat.reduceBEq, true_and, and_true, Nat.zero_add, Nat.add_zero, Nat.le_refl, Option.some.injEq, exists_eq_left', true_or, or_true, or_false, false_or, reduceCtorEq, Prod.mk.injEq, Sum.inl.injEq, and_self, false_and, and_false, not_true_eq_false, not_false_eq_true, false_implies, true_implies, sm_r, Int.add_zero, Int.zero_add, wI_wsI, wS_wsI, wR_wsI, wI_wCp, wS_wCp, wR_wCp, Nat.reduceEqDiff, reduceIte, sT_iff, sT_iffC, wIf_ne, ne_eq, Bool.false_or, Bool.true_or, Bool.or_false, Bool.or_true, Bool.or_self, tb_X8_ofShuttle, p_X8_blamed, p_X8_delayOf, p_X8_endOf, p_X8_in, p_X8_isShuttle, p_X8_of, p_X8_run, p_X8_timeOf, p_X8_waited, f_X8_blamed, f_X8_delayOf, f_X8_endOf, f_X8_in, f_X8_isShuttle, f_X8_of, f_X8_run, f_X8_timeOf, f_X8_waited, p_X8_ofShuttle, f_X8_ofShuttle, sS_154 hT, b01, hO]
    repeat' (first | exact True.intro | with_reducible assumption | with_reducible refine And.intro ?_ ?_ | intro _)
    all_goals first
      | omega
      | assumption
      | rfl
      | (split <;> omega)
      | grind
      | skip

theorem met_X8_ofShuttle (l : Launch) : sm_Met l yX8_ofShuttle cX8_ofShuttle 3 (some .int) 7 0 0 p_X8_ofShuttle f_X8_ofShuttle := sm_met 1 (Or.inr (Or.inl ⟨rfl, rfl⟩)) (by decide +kernel) (sn_X8_ofShuttle l) ok_X8_ofShuttle