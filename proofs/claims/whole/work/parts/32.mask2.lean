/-! THE REFERENCE: more that is asked of a day -/
def qDay (w : sm_W) (k : Int) : Int := if k = 0 then wI w 154 17 else (if k = 1 then mDl w else (if k = 2 then wI w 154 18 else (if k = 3 then mMtn w 64 else (if k = 4 then mAw w (wI w 155 1) else (if k = 5 then mGd w (wI w 155 1) else -2)))))
def p_X8_day : List sm_V → sm_W → Prop
  | [.inr (.inl m), .inl k], w => m = 154 ∧ mGd0 w
  | _, _ => False
def f_X8_day : sm_F
  | [.inr (.inl m), .inl k], w => (some (.inl (qDay (mRun w) k)), mRun w)
  | _, w => (none, w)
def tb_X8_day : List (Nat × List sm_O) := [(0, [oA 0, oCv 8 30 p_X8_run f_X8_run 0 0 1, oI 1, oSw 0 [44, 49, 54, 59, 64, 69] 74]),
  (44, [oA 0, oGi 8 30 17, oIr]),
  (49, [oA 0, oCv 8 30 p_X8_delay f_X8_delay 0 0 1, oIr]),
  (54, [oA 0, oGi 8 30 18, oIr]),
  (59, [oA 0, oCv 8 30 p_X8_meetings f_X8_meetings 0 0 1, oIr]),
  (64, [oA 0, oCv 8 30 p_X8_allWaits f_X8_allWaits 0 0 1, oIr]),
  (69, [oA 0, oCv 8 30 p_X8_greatestDelay f_X8_greatestDelay 0 0 1, oIr]),
  (74, [oK (-2), oIr])]
set_option maxRecDepth 100000 in
theorem sb_X8_day_0 (l : Launch) : sm_SndB l RX8 "day" cX8_day 2 1 7 0 [oA 0, oCv 8 30 p_X8_run f_X8_run 0 0 1, oI 1, oSw 0 [44, 49, 54, 59, 64, 69] 74] := sb_cons (sd_aload_n (by decide +kernel : decode cX8_day 0 = .ok (.aload_n 0, 1)) rfl) (sb_cons (sd_callv (n := 0) (met_X8_run l) (by decide) (by decide) wm_805 wm_803 wm_10 ⟨by decide +kernel, by decide +kernel, by decide +kernel⟩ kl_8 wm_804 wm_1116 (by decide +kernel : decode cX8_day 1 = .ok (.invokevirtual 167, 3))) (sb_cons (sd_iload_n (by decide +kernel : decode cX8_day 4 = .ok (.iload_n 1, 1)) rfl) (sb_cons (sd_sw (x := 0) (by decide +kernel : decode cX8_day 5 = .ok (.tableswitch 69 0 5 #[39, 44, 49, 54, 59, 64], 39)) (by decide) (by decide) (by decide)) sb_nil)))
set_option maxRecDepth 100000 in
theorem sb_X8_day_44 (l : Launch) : sm_SndB l RX8 "day" cX8_day 2 1 7 44 [oA 0, oGi 8 30 17, oIr] := sb_cons (sd_aload_n (by decide +kernel : decode cX8_day 44 = .ok (.aload_n 0, 1)) rfl) (sb_cons (sd_geti (k := 17) kl_8 (by decide) rfl wm_690 (by decide +kernel : decode cX8_day 45 = .ok (.getfield 158, 3))) (sb_cons (sd_ireturn (x := 0) rfl (by decide +kernel : decode cX8_day 48 = .ok (.ireturn, 1))) sb_nil))
set_option maxRecDepth 100000 in
theorem sb_X8_day_49 (l : Launch) : sm_SndB l RX8 "day" cX8_day 2 1 7 49 [oA 0, oCv 8 30 p_X8_delay f_X8_delay 0 0 1, oIr] := sb_cons (sd_aload_n (by decide +kernel : decode cX8_day 49 = .ok (.aload_n 0, 1)) rfl) (sb_cons (sd_callv (n := 0) (met_X8_delay l) (by decide) (by decide) wm_907 wm_905 wm_10 ⟨by decide +kernel, by decide +kernel, by decide +kernel⟩ kl_8 wm_906 wm_1138 (by decide +kernel : decode cX8_day 50 = .ok (.invokevirtual 170, 3))) (sb_cons (sd_ireturn (x := 0) rfl (by decide +kernel : decode cX8_day 53 = .ok (.ireturn, 1))) sb_nil))
set_option maxRecDepth 100000 in
theorem sb_X8_day_54 (l : Launch) : sm_SndB l RX8 "day" cX8_day 2 1 7 54 [oA 0, oGi 8 30 18, oIr] := sb_cons (sd_aload_n (by decide +kernel : decode cX8_day 54 = .ok (.aload_n 0, 1)) rfl) (sb_cons (sd_geti (k := 18) kl_8 (by decide) rfl wm_691 (by decide +kernel : decode cX8_day 55 = .ok (.getfield 92, 3))) (sb_cons (sd_ireturn (x := 0) rfl (by decide +kernel : decode cX8_day 58 = .ok (.ireturn, 1))) sb_nil))
set_option maxRecDepth 100000 in
theorem sb_X8_day_59 (l : Launch) : sm_SndB l RX8 "day" cX8_day 2 1 7 59 [oA 0, oCv 8 30 p_X8_meetings f_X8_meetings 0 0 1, oIr] := sb_cons (sd_aload_n (by decide +kernel : decode cX8_day 59 = .ok (.aload_n 0, 1)) rfl) (sb_cons (sd_callv (n := 0) (met_X8_meetings l) (by decide) (by decide) wm_911 wm_909 wm_10 ⟨by decide +kernel, by decide +kernel, by decide +kernel⟩ kl_8 wm_910 wm_1139 (by decide +kernel : decode cX8_day 60 = .ok (.invokevirtual 223, 3))) (sb_cons (sd_ireturn (x := 0) rfl (by decide +kernel : decode cX8_day 63 = .ok (.ireturn, 1))) sb_nil))
set_option maxRecDepth 100000 in
theorem sb_X8_day_64 (l : Launch) : sm_SndB l RX8 "day" cX8_day 2 1 7 64 [oA 0, oCv 8 30 p_X8_allWaits f_X8_allWaits 0 0 1, oIr] := sb_cons (sd_aload_n (by decide +kernel : decode cX8_day 64 = .ok (.aload_n 0, 1)) rfl) (sb_cons (sd_callv (n := 0) (met_X8_allWaits l) (by decide) (by decide) wm_915 wm_913 wm_10 ⟨by decide +kernel, by decide +kernel, by decide +kernel⟩ kl_8 wm_914 wm_1140 (by decide +kernel : decode cX8_day 65 = .ok (.invokevirtual 226, 3))) (sb_cons (sd_ireturn (x := 0) rfl (by decide +kernel : decode cX8_day 68 = .ok (.ireturn, 1))) sb_nil))
set_option maxRecDepth 100000 in
theorem sb_X8_day_69 (l : Launch) : sm_SndB l RX8 "day" cX8_day 2 1 7 69 [oA 0, oCv 8 30 p_X8_greatestDelay f_X8_greatestDelay 0 0 1, oIr] := sb_cons (sd_aload_n (by decide +kernel : decode cX8_day 69 = .ok (.aload_n 0, 1)) rfl) (sb_cons (sd_callv (n := 0) (met_X8_greatestDelay l) (by decide) (by decide) wm_919 wm_917 wm_10 ⟨by decide +kernel, by decide +kernel, by decide +kernel⟩ kl_8 wm_918 wm_1141 (by decide +kernel : decode cX8_day 70 = .ok (.invokevirtual 229, 3))) (sb_cons (sd_ireturn (x := 0) rfl (by decide +kernel : decode cX8_day 73 = .ok (.ireturn, 1))) sb_nil))
set_option maxRecDepth 100000 in
theorem sb_X8_day_74 (l : Launch) : sm_SndB l RX8 "day" cX8_day 2 1 7 74 [oK (-2), oIr] := sb_cons (sd_bipush (by decide +kernel : decode cX8_day 74 = .ok (.bipush (-2), 2)) ⟨by decide, by decide⟩ (by decide)) (sb_cons (sd_ireturn (x := 0) rfl (by decide +kernel : decode cX8_day 76 = .ok (.ireturn, 1))) sb_nil)
theorem sn_X8_day (l : Launch) : sm_SndT l RX8 "day" cX8_day 2 1 7 tb_X8_day := st_cons (sb_X8_day_0 l) (st_cons (sb_X8_day_44 l) (st_cons (sb_X8_day_49 l) (st_cons (sb_X8_day_54 l) (st_cons (sb_X8_day_59 l) (st_cons (sb_X8_day_64 l) (st_cons (sb_X8_day_69 l) (st_cons (sb_X8_day_74 l) (st_nil))))))))
set_option maxRecDepth 100000 in
set_option maxHeartbeats 4000000 in
theorem ok_X8_day : sm_Ok tb_X8_day 2 0 0 p_X8_day f_X8_day := by
  intro as w hp ha hw
  match as, hp with
  | [.inr (.inl m), .inl k], hp =>
  refine ⟨Nat.le_of_ble_eq_true rfl, fun Z hZ => ?_⟩
  obtain ⟨rfl, hG⟩ := hp
  have hT := hG.1.1
  have hO := hG.1
  have hR := mRun_st hG
  generalize hFe : mRun w = R at *
  obtain ⟨hG2, hat⟩ := hR
  have hO2 := hG2.1
  have hT2 := hO2.1
  have hRec := hG2.2.2.2
  obtain ⟨z, hz⟩ : ∃ z, z = qDay R k := ⟨_, rfl⟩
  have hqe : qDay R k = z := hz.symm
  unfold qDay at hz
  refine hZ (fun _ => false) 16 0 _ _ _ _ _ ?_
  simp only [sm_run, sm_blk, sm_get, sm_ent, sm_ents, sm_wds, sm_wd, sm_nl, sm_pop, sm_back, sm_cases, oK, oLK, oL, oI, oA, oJ, oIs, oAs, oJs, oInc, oAdd, oSub, oMul, oDiv, oRem, oNeg, oAnd, oAndB, oOr, oShl, oI2c, oI2l, oL2i, oLand, oLor, oLshl, oLshr, oLushr, oLcmp, oDup, oDup2, oPop, oGo, oFg, oEq, oNe, oLt, oGe, oGt, oLe, oEq0, oNe0, oLt0, oGe0, oGt0, oLe0, oSw, oGi, oGr, oPi, oPz, oPr, oLen, oIl, oZl, oCl, oRl, oIst, oZst, oCst, oRst, oCopy, oNew, oNa, oNa2, oObj, oCs, oCv, oCi, oIr, oZr, oVr, Nat.beq, List.getElem?_cons_zero, List.getElem?_cons_succ, List.set_cons_zero, List.set_cons_succ, List.length_cons, List.length_nil, List.nil_append, List.cons_append, List.append_nil, List.replicate_succ, List.replicate_zero, Nat.reduceAdd, Nat.reduceSub, Nat.reduceLT, Nat.reduceLeDiff, Nat.reduceBEq, true_and, and_true, Nat.zero_add, Nat.add_zero, Nat.le_refl, Option.some.injEq, exists_eq_left', true_or, or_true, or_false, false_or, reduceCtorEq, Prod.mk.injEq, Sum.inl.injEq, and_self, false_and, and_false, not_true_eq_false, not_false_eq_true, false_implies, true_implies, sm_r, Int.add_zero, Int.zero_add, wI_wsI, wS_wsI, wR_wsI, wI_wCp, wS_wCp, wR_wCp, Nat.reduceEqDiff, reduceIte, sT_iff, sT_iffC, wIf_ne, ne_eq, Bool.false_or, Bool.true_or, Bool.or_false, Bool.or_true, Bool.or_self, tb_X8_day, p_X8_allWaits, p_X8_delay, p_X8_greatestDelay, p_X8_meetings, p_X8_run, f_X8_allWaits, f_X8_delay, f_X8_greatestDelay, f_X8_meetings, f_X8_run, p_X8_day, f_X8_day, sS_154 hT, sS_154 hT2, hFe, hqe, hT, hT2, hO, hO2]
  repeat' (first | exact True.intro | with_reducible assumption | with_reducible refine And.intro ?_ ?_ | intro _)
  all_goals first
    | omega
    | assumption
    | rfl
    | (split <;> omega)
    | grind
    | skip
theorem met_X8_day (l : Launch) : sm_Met l yX8_day cX8_day 2 (some .int) 7 0 0 p_X8_day f_X8_day := sm_met 1 (Or.inr (Or.inl ⟨rfl, rfl⟩)) (by decide +kernel) (sn_X8_day l) ok_X8_day
def p_X8_at : List sm_V → sm_W → Prop
  | [.inr (.inl m), .inl x, .inl t], w => m = 154 ∧ mGd0 w
  | _, _ => False
def f_X8_at : sm_F
  | [.inr (.inl m), .inl x, .inl t], w => (some (.inl (if 0 ≤ x ∧ x < wI w 155 1 then (if 0 ≤ t ∧ t ≤ 9999 then mPlace (mRun w) x t else -2) else -1)), (if 0 ≤ x ∧ x < wI w 155 1 then (if 0 ≤ t ∧ t ≤ 9999 then mRun w else w) else w))
  | _, w => (none, w)
def tb_X8_at : List (Nat × List sm_O) := [(0, [oA 0, oI 1, oCv 8 30 p_X8_isShuttle f_X8_isShuttle 0 0 2, oNe0 10, oK (-1), oIr]),
  (10, [oI 2, oK 0, oK 9999, oCs p_X8_in f_X8_in 0 0 3, oNe0 24, oK (-2), oIr]),
  (24, [oA 0, oCv 8 30 p_X8_run f_X8_run 0 0 1, oA 0, oI 1, oI 2, oCv 8 30 p_X8_placeIn f_X8_placeIn 0 0 3, oIr])]
set_option maxRecDepth 100000 in
theorem sb_X8_at_0 (l : Launch) : sm_SndB l RX8 "at" cX8_at 3 1 7 0 [oA 0, oI 1, oCv 8 30 p_X8_isShuttle f_X8_isShuttle 0 0 2, oNe0 10, oK (-1), oIr] := sb_cons (sd_aload_n (by decide +kernel : decode cX8_at 0 = .ok (.aload_n 0, 1)) rfl) (sb_cons (sd_iload_n (by decide +kernel : decode cX8_at 1 = .ok (.iload_n 1, 1)) rfl) (sb_cons (sd_callv (n := 1) (met_X8_isShuttle l) (by decide) (by decide) wm_774 wm_772 wm_10 ⟨by decide +kernel, by decide +kernel, by decide +kernel⟩ kl_8 wm_773 wm_1112 (by decide +kernel : decode cX8_at 2 = .ok (.invokevirtual 198, 3))) (sb_cons (sd_ne0 (by decide +kernel : decode cX8_at 5 = .ok (.ifCond .ne 5, 3)) (by decide)) (sb_cons (sd_iconst (by decide +kernel : decode cX8_at 8 = .ok (.iconst (-1), 1)) ⟨by decide, by decide⟩) (sb_cons (sd_ireturn (x := 0) rfl (by decide +kernel : decode cX8_at 9 = .ok (.ireturn, 1))) sb_nil)))))
set_option maxRecDepth 100000 in
theorem sb_X8_at_10 (l : Launch) : sm_SndB l RX8 "at" cX8_at 3 1 7 10 [oI 2, oK 0, oK 9999, oCs p_X8_in f_X8_in 0 0 3, oNe0 24, oK (-2), oIr] := sb_cons (sd_iload_n (by decide +kernel : decode cX8_at 10 = .ok (.iload_n 2, 1)) rfl) (sb_cons (sd_iconst (by decide +kernel : decode cX8_at 11 = .ok (.iconst 0, 1)) ⟨by decide, by decide⟩) (sb_cons (sd_sipush (by decide +kernel : decode cX8_at 12 = .ok (.sipush 9999, 3)) ⟨by decide, by decide⟩ (by decide)) (sb_cons (sd_calls (n := 3) (met_X8_in l) (by decide) (by decide) wm_710 wm_708 wm_10 ⟨by decide +kernel, by decide +kernel, by decide +kernel⟩ wm_709 (by decide +kernel : decode cX8_at 15 = .ok (.invokestatic 74, 3))) (sb_cons (sd_ne0 (by decide +kernel : decode cX8_at 18 = .ok (.ifCond .ne 6, 3)) (by decide)) (sb_cons (sd_bipush (by decide +kernel : decode cX8_at 21 = .ok (.bipush (-2), 2)) ⟨by decide, by decide⟩ (by decide)) (sb_cons (sd_ireturn (x := 0) rfl (by decide +kernel : decode cX8_at 23 = .ok (.ireturn, 1))) sb_nil))))))
set_option maxRecDepth 100000 in
theorem sb_X8_at_24 (l : Launch) : sm_SndB l RX8 "at" cX8_at 3 1 7 24 [oA 0, oCv 8 30 p_X8_run f_X8_run 0 0 1, oA 0, oI 1, oI 2, oCv 8 30 p_X8_placeIn f_X8_placeIn 0 0 3, oIr] := sb_cons (sd_aload_n (by decide +kernel : decode cX8_at 24 = .ok (.aload_n 0, 1)) rfl) (sb_cons (sd_callv (n := 0) (met_X8_run l) (by decide) (by decide) wm_805 wm_803 wm_10 ⟨by decide +kernel, by decide +kernel, by decide +kernel⟩ kl_8 wm_804 wm_1116 (by decide +kernel : decode cX8_at 25 = .ok (.invokevirtual 167, 3))) (sb_cons (sd_aload_n (by decide +kernel : decode cX8_at 28 = .ok (.aload_n 0, 1)) rfl) (sb_cons (sd_iload_n (by decide +kernel : decode cX8_at 29 = .ok (.iload_n 1, 1)) rfl) (sb_cons (sd_iload_n (by decide +kernel : decode cX8_at 30 = .ok (.iload_n 2, 1)) rfl) (sb_cons (sd_callv (n := 2) (met_X8_placeIn l) (by decide) (by decide) wm_928 wm_926 wm_10 ⟨by decide +kernel, by decide +kernel, by decide +kernel⟩ kl_8 wm_927 wm_1142 (by decide +kernel : decode cX8_at 31 = .ok (.invokevirtual 238, 3))) (sb_cons (sd_ireturn (x := 0) rfl (by decide +kernel : decode cX8_at 34 = .ok (.ireturn, 1))) sb_nil))))))
theorem sn_X8_at (l : Launch) : sm_SndT l RX8 "at" cX8_at 3 1 7 tb_X8_at := st_cons (sb_X8_at_0 l) (st_cons (sb_X8_at_10 l) (st_cons (sb_X8_at_24 l) (st_nil)))
set_option maxRecDepth 100000 in
set_option maxHeartbeats 4000000 in
theorem ok_X8_at : sm_Ok tb_X8_at 3 0 0 p_X8_at f_X8_at := by
  intro as w hp ha hw
  match as, hp with
  | [.inr (.inl m), .inl x, .inl t], hp =>
  refine ⟨Nat.le_of_ble_eq_true rfl, fun Z hZ => ?_⟩
  obtain ⟨rfl, hG⟩ := hp
  have hT := hG.1.1
  have hO := hG.1
  have hR := mRun_st hG
  generalize hFe : mRun w = R at *
  obtain ⟨hG2, hat⟩ := hR
  have hO2 := hG2.1
  have hT2 := hO2.1
  have hRec := hG2.2.2.2
  by_cases hx : 0 ≤ x ∧ x < wI w 155 1
  · by_cases ht : 0 ≤ t ∧ t ≤ 9999
    · skip
      refine hZ (fun _ => false) 16 0 _ _ _ _ _ ?_
      simp only [sm_run, sm_blk, sm_get, sm_ent, sm_ents, sm_wds, sm_wd, sm_nl, sm_pop, sm_back, sm_cases, oK, oLK, oL, oI, oA, oJ, oIs, oAs, oJs, oInc, oAdd, oSub, oMul, oDiv, oRem, oNeg, oAnd, oAndB, oOr, oShl, oI2c, oI2l, oL2i, oLand, oLor, oLshl, oLshr, oLushr, oLcmp, oDup, oDup2, oPop, oGo, oFg, oEq, oNe, oLt, oGe, oGt, oLe, oEq0, oNe0, oLt0, oGe0, oGt0, oLe0, oSw, oGi, oGr, oPi, oPz, oPr, oLen, oIl, oZl, oCl, oRl, oIst, oZst, oCst, oRst, oCopy, oNew, oNa, oNa2, oObj, oCs, oCv, oCi, oIr, oZr, oVr, Nat.beq, List.getElem?_cons_zero, List.getElem?_cons_succ, List.set_cons_zero, List.set_cons_succ, List.length_cons, List.length_nil, List.nil_append, List.cons_append, List.append_nil, List.replicate_succ, List.replicate_zero, Nat.reduceAdd, Nat.reduceSub, Nat.reduceLT, Nat.reduceLeDiff, Nat.reduceBEq, true_and, and_true, Nat.zero_add, Nat.add_zero, Nat.le_refl, Option.some.injEq, exists_eq_left', true_or, or_true, or_false, false_or, reduceCtorEq, Prod.mk.injEq, Sum.inl.injEq, and_self, false_and, and_false, not_true_eq_false, not_false_eq_true, false_implies, true_implies, sm_r, Int.add_zero, Int.zero_add, wI_wsI, wS_wsI, wR_wsI, wI_wCp, wS_wCp, wR_wCp, Nat.reduceEqDiff, reduceIte, sT_iff, sT_iffC, wIf_ne, ne_eq, Bool.false_or, Bool.true_or, Bool.or_false, Bool.or_true, Bool.or_self, tb_X8_at, p_X8_in, p_X8_isShuttle, p_X8_placeIn, p_X8_run, f_X8_in, f_X8_isShuttle, f_X8_placeIn, f_X8_run, p_X8_at, f_X8_at, sS_154 hT, sS_154 hT2, hFe, b01, hT, hT2, hat, hO, hO2]
      repeat' (first | exact True.intro | with_reducible assumption | with_reducible refine And.intro ?_ ?_ | intro _)
      all_goals first
        | omega
        | assumption
        | rfl
        | (split <;> omega)
        | grind
        | skip
    · skip
      refine hZ (fun _ => false) 16 0 _ _ _ _ _ ?_
      simp only [sm_run, sm_blk, sm_get, sm_ent, sm_ents, sm_wds, sm_wd, sm_nl, sm_pop, sm_back, sm_cases, oK, oLK, oL, oI, oA, oJ, oIs, oAs, oJs, oInc, oAdd, oSub, oMul, oDiv, oRem, oNeg, oAnd, oAndB, oOr, oShl, oI2c, oI2l, oL2i, oLand, oLor, oLshl, oLshr, oLushr, oLcmp, oDup, oDup2, oPop, oGo, oFg, oEq, oNe, oLt, oGe, oGt, oLe, oEq0, oNe0, oLt0, oGe0, oGt0, oLe0, oSw, oGi, oGr, oPi, oPz, oPr, oLen, oIl, oZl, oCl, oRl, oIst, oZst, oCst, oRst, oCopy, oNew, oNa, oNa2, oObj, oCs, oCv, oCi, oIr, oZr, oVr, Nat.beq, List.getElem?_cons_zero, List.getElem?_cons_succ, List.set_cons_zero, List.set_cons_succ, List.length_cons, List.length_nil, List.nil_append, List.cons_append, List.append_nil, List.replicate_succ, List.replicate_zero, Nat.reduceAdd, Nat.reduceSub, Nat.reduceLT, Nat.reduceLeDiff, Nat.reduceBEq, true_and, and_true, Nat.zero_add, Nat.add_zero, Nat.le_refl, Option.some.injEq, exists_eq_left', true_or, or_true, or_false, false_or, reduceCtorEq, Prod.mk.injEq, Sum.inl.injEq, and_self, false_and, and_false, not_true_eq_false, not_false_eq_true, false_implies, true_implies, sm_r, Int.add_zero, Int.zero_add, wI_wsI, wS_wsI, wR_wsI, wI_wCp, wS_wCp, wR_wCp, Nat.reduceEqDiff, reduceIte, sT_iff, sT_iffC, wIf_ne, ne_eq, Bool.false_or, Bool.true_or, Bool.or_false, Bool.or_true, Bool.or_self, tb_X8_at, p_X8_in, p_X8_isShuttle, p_X8_placeIn, p_X8_run, f_X8_in, f_X8_isShuttle, f_X8_placeIn, f_X8_run, p_X8_at, f_X8_at, sS_154 hT, sS_154 hT2, hFe, b01, hT, hT2, hat, hO, hO2]
      repeat' (first | exact True.intro | with_reducible assumption | with_reducible refine And.intro ?_ ?_ | intro _)
      all_goals first
        | omega
        | assumption
        | rfl
        | (split <;> omega)
        | grind
        | skip
  · skip
    refine hZ (fun _ => false) 16 0 _ _ _ _ _ ?_
    simp only [sm_run, sm_blk, sm_get, sm_ent, sm_ents, sm_wds, sm_wd, sm_nl, sm_pop, sm_back, sm_cases, oK, oLK, oL, oI, oA, oJ, oIs, oAs, oJs, oInc, oAdd, oSub, oMul, oDiv, oRem, oNeg, oAnd, oAndB, oOr, oShl, oI2c, oI2l, oL2i, oLand, oLor, oLshl, oLshr, oLushr, oLcmp, oDup, oDup2, oPop, oGo, oFg, oEq, oNe, oLt, oGe, oGt, oLe, oEq0, oNe0, oLt0, oGe0, oGt0, oLe0, oSw, oGi, oGr, oPi, oPz, oPr, oLen, oIl, oZl, oCl, oRl, oIst, oZst, oCst, oRst, oCopy, oNew, oNa, oNa2, oObj, oCs, oCv, oCi, oIr, oZr, oVr, Nat.beq, List.getElem?_cons_zero, List.getElem?_cons_succ, List.set_cons_zero, List.set_cons_succ, List.length_cons, List.length_nil, List.nil_append, List.cons_append, List.append_nil, List.replicate_succ, List.replicate_zero, Nat.reduceAdd, Nat.reduceSub, Nat.reduceLT, Nat.reduceLeDiff, Nat.reduceBEq, true_and, and_true, Nat.zero_add, Nat.add_zero, Nat.le_refl, Option.some.injEq, exists_eq_left', true_or, or_true, or_false, false_or, reduceCtorEq, Prod.mk.injEq, Sum.inl.injEq, and_self, false_and, and_false, not_true_eq_false, not_false_eq_true, false_implies, true_implies, sm_r, Int.add_zero, Int.zero_add, wI_wsI, wS_wsI, wR_wsI, wI_wCp, wS_wCp, wR_wCp, Nat.reduceEqDiff, reduceIte, sT_iff, sT_iffC, wIf_ne, ne_eq, Bool.false_or, Bool.true_or, Bool.or_false, Bool.or_true, Bool.or_self, tb_X8_at, p_X8_in, p_X8_isShuttle, p_X8_placeIn, p_X8_run, f_X8_in, f_X8_isShuttle, f_X8_placeIn, f_X8_run, p_X8_at, f_X8_at, sS_154 hT, sS_154 hT2, hFe, b01, hT, hT2, hat, hO, hO2]
    repeat' (first | exact True.intro | with_reducible assumption | with_reducible refine And.intro ?_ ?_ | intro _)
    all_goals first
      | omega
      | assumption
      | rfl
      | (split <;> omega)
      | grind
      | skip
theorem met_X8_at (l : Launch) : sm_Met l yX8_at cX8_at 3 (some .int) 7 0 0 p_X8_at f_X8_at := sm_met 1 (Or.inr (Or.inl ⟨rfl, rfl⟩)) (by decide +kernel) (sn_X8_at l) ok_X8_at
def p_X8_when : List sm_V → sm_W → Prop
  | [.inr (.inl m), .inl x, .inl s, .inl k], w => m = 154 ∧ mGd0 w
  | _, _ => False
def f_X8_when : sm_F
  | [.inr (.inl m), .inl x, .inl s, .inl k], w => (some (.inl (if (0 ≤ x ∧ x < wI w 155 1) ∧ 0 ≤ s ∧ s ≤ 7 then (if 0 ≤ k ∧ k ≤ 1 then (if k = 0 then wI (mRun w) 163 (8 * x + s) else wI (mRun w) 165 (8 * x + s)) else -2) else -1)), (if (0 ≤ x ∧ x < wI w 155 1) ∧ 0 ≤ s ∧ s ≤ 7 then (if 0 ≤ k ∧ k ≤ 1 then mRun w else w) else w))
  | _, w => (none, w)
def tb_X8_when : List (Nat × List sm_O) := [(0, [oA 0, oI 1, oCv 8 30 p_X8_isShuttle f_X8_isShuttle 0 0 2, oEq0 15, oI 2, oCs p_X8_isStation f_X8_isStation 0 0 1, oNe0 17, oGo 15]),
  (15, [oK (-1), oIr]),
  (17, [oI 3, oK 0, oK 1, oCs p_X8_in f_X8_in 0 0 3, oNe0 29, oK (-2), oIr]),
  (29, [oA 0, oCv 8 30 p_X8_run f_X8_run 0 0 1, oI 3, oNe0 51, oA 0, oGr 8 30 10, oK 8, oI 1, oMul, oI 2, oAdd, oIl, oGo 62]),
  (51, [oA 0, oGr 8 30 12, oK 8, oI 1, oMul, oI 2, oAdd, oIl, oGo 62]),
  (62, [oIr])]
set_option maxRecDepth 100000 in
theorem sb_X8_when_0 (l : Launch) : sm_SndB l RX8 "when" cX8_when 4 1 7 0 [oA 0, oI 1, oCv 8 30 p_X8_isShuttle f_X8_isShuttle 0 0 2, oEq0 15, oI 2, oCs p_X8_isStation f_X8_isStation 0 0 1, oNe0 17, oGo 15] := sb_cons (sd_aload_n (by decide +kernel : decode cX8_when 0 = .ok (.aload_n 0, 1)) rfl) (sb_cons (sd_iload_n (by decide +kernel : decode cX8_when 1 = .ok (.iload_n 1, 1)) rfl) (sb_cons (sd_callv (n := 1) (met_X8_isShuttle l) (by decide) (by decide) wm_774 wm_772 wm_10 ⟨by decide +kernel, by decide +kernel, by decide +kernel⟩ kl_8 wm_773 wm_1112 (by decide +kernel : decode cX8_when 2 = .ok (.invokevirtual 198, 3))) (sb_cons (sd_eq0 (by decide +kernel : decode cX8_when 5 = .ok (.ifCond .eq 10, 3)) (by decide)) (sb_cons (sd_iload_n (by decide +kernel : decode cX8_when 8 = .ok (.iload_n 2, 1)) rfl) (sb_cons (sd_calls (n := 1) (met_X8_isStation l) (by decide) (by decide) wm_727 wm_725 wm_10 ⟨by decide +kernel, by decide +kernel, by decide +kernel⟩ wm_726 (by decide +kernel : decode cX8_when 9 = .ok (.invokestatic 178, 3))) (sb_cons (sd_ne0 (by decide +kernel : decode cX8_when 12 = .ok (.ifCond .ne 5, 3)) (by decide)) (sb_cons (sd_fall (x := 0)) sb_nil)))))))
set_option maxRecDepth 100000 in
theorem sb_X8_when_15 (l : Launch) : sm_SndB l RX8 "when" cX8_when 4 1 7 15 [oK (-1), oIr] := sb_cons (sd_iconst (by decide +kernel : decode cX8_when 15 = .ok (.iconst (-1), 1)) ⟨by decide, by decide⟩) (sb_cons (sd_ireturn (x := 0) rfl (by decide +kernel : decode cX8_when 16 = .ok (.ireturn, 1))) sb_nil)
set_option maxRecDepth 100000 in
theorem sb_X8_when_17 (l : Launch) : sm_SndB l RX8 "when" cX8_when 4 1 7 17 [oI 3, oK 0, oK 1, oCs p_X8_in f_X8_in 0 0 3, oNe0 29, oK (-2), oIr] := sb_cons (sd_iload_n (by decide +kernel : decode cX8_when 17 = .ok (.iload_n 3, 1)) rfl) (sb_cons (sd_iconst (by decide +kernel : decode cX8_when 18 = .ok (.iconst 0, 1)) ⟨by decide, by decide⟩) (sb_cons (sd_iconst (by decide +kernel : decode cX8_when 19 = .ok (.iconst 1, 1)) ⟨by decide, by decide⟩) (sb_cons (sd_calls (n := 3) (met_X8_in l) (by decide) (by decide) wm_710 wm_708 wm_10 ⟨by decide +kernel, by decide +kernel, by decide +kernel⟩ wm_709 (by decide +kernel : decode cX8_when 20 = .ok (.invokestatic 74, 3))) (sb_cons (sd_ne0 (by decide +kernel : decode cX8_when 23 = .ok (.ifCond .ne 6, 3)) (by decide)) (sb_cons (sd_bipush (by decide +kernel : decode cX8_when 26 = .ok (.bipush (-2), 2)) ⟨by decide, by decide⟩ (by decide)) (sb_cons (sd_ireturn (x := 0) rfl (by decide +kernel : decode cX8_when 28 = .ok (.ireturn, 1))) sb_nil))))))
set_option maxRecDepth 100000 in
theorem sb_X8_when_29 (l : Launch) : sm_SndB l RX8 "when" cX8_when 4 1 7 29 [oA 0, oCv 8 30 p_X8_run f_X8_run 0 0 1, oI 3, oNe0 51, oA 0, oGr 8 30 10, oK 8, oI 1, oMul, oI 2, oAdd, oIl, oGo 62] := sb_cons (sd_aload_n (by decide +kernel : decode cX8_when 29 = .ok (.aload_n 0, 1)) rfl) (sb_cons (sd_callv (n := 0) (met_X8_run l) (by decide) (by decide) wm_805 wm_803 wm_10 ⟨by decide +kernel, by decide +kernel, by decide +kernel⟩ kl_8 wm_804 wm_1116 (by decide +kernel : decode cX8_when 30 = .ok (.invokevirtual 167, 3))) (sb_cons (sd_iload_n (by decide +kernel : decode cX8_when 33 = .ok (.iload_n 3, 1)) rfl) (sb_cons (sd_ne0 (by decide +kernel : decode cX8_when 34 = .ok (.ifCond .ne 17, 3)) (by decide)) (sb_cons (sd_aload_n (by decide +kernel : decode cX8_when 37 = .ok (.aload_n 0, 1)) rfl) (sb_cons (sd_getr (k := 10) kl_8 (by decide) rfl wm_683 (by decide +kernel : decode cX8_when 38 = .ok (.getfield 35, 3))) (sb_cons (sd_bipush (by decide +kernel : decode cX8_when 41 = .ok (.bipush 8, 2)) ⟨by decide, by decide⟩ (by decide)) (sb_cons (sd_iload_n (by decide +kernel : decode cX8_when 43 = .ok (.iload_n 1, 1)) rfl) (sb_cons (sd_imul (by decide +kernel : decode cX8_when 44 = .ok (.imul, 1))) (sb_cons (sd_iload_n (by decide +kernel : decode cX8_when 45 = .ok (.iload_n 2, 1)) rfl) (sb_cons (sd_iadd (by decide +kernel : decode cX8_when 46 = .ok (.iadd, 1))) (sb_cons (sd_iaload (by decide +kernel : decode cX8_when 47 = .ok (.iaload, 1))) (sb_cons (sd_goto (x := 0) (by decide +kernel : decode cX8_when 48 = .ok (.goto 14, 3)) (by decide)) sb_nil))))))))))))
set_option maxRecDepth 100000 in
theorem sb_X8_when_51 (l : Launch) : sm_SndB l RX8 "when" cX8_when 4 1 7 51 [oA 0, oGr 8 30 12, oK 8, oI 1, oMul, oI 2, oAdd, oIl, oGo 62] := sb_cons (sd_aload_n (by decide +kernel : decode cX8_when 51 = .ok (.aload_n 0, 1)) rfl) (sb_cons (sd_getr (k := 12) kl_8 (by decide) rfl wm_685 (by decide +kernel : decode cX8_when 52 = .ok (.getfield 41, 3))) (sb_cons (sd_bipush (by decide +kernel : decode cX8_when 55 = .ok (.bipush 8, 2)) ⟨by decide, by decide⟩ (by decide)) (sb_cons (sd_iload_n (by decide +kernel : decode cX8_when 57 = .ok (.iload_n 1, 1)) rfl) (sb_cons (sd_imul (by decide +kernel : decode cX8_when 58 = .ok (.imul, 1))) (sb_cons (sd_iload_n (by decide +kernel : decode cX8_when 59 = .ok (.iload_n 2, 1)) rfl) (sb_cons (sd_iadd (by decide +kernel : decode cX8_when 60 = .ok (.iadd, 1))) (sb_cons (sd_iaload (by decide +kernel : decode cX8_when 61 = .ok (.iaload, 1))) (sb_cons (sd_fall (x := 0)) sb_nil))))))))
set_option maxRecDepth 100000 in
theorem sb_X8_when_62 (l : Launch) : sm_SndB l RX8 "when" cX8_when 4 1 7 62 [oIr] := sb_cons (sd_ireturn (x := 0) rfl (by decide +kernel : decode cX8_when 62 = .ok (.ireturn, 1))) sb_nil
theorem sn_X8_when (l : Launch) : sm_SndT l RX8 "when" cX8_when 4 1 7 tb_X8_when := st_cons (sb_X8_when_0 l) (st_cons (sb_X8_when_15 l) (st_cons (sb_X8_when_17 l) (st_cons (sb_X8_when_29 l) (st_cons (sb_X8_when_51 l) (st_cons (sb_X8_when_62 l) (st_nil))))))
set_option maxRecDepth 100000 in
set_option maxHeartbeats 4000000 in
theorem ok_X8_when : sm_Ok tb_X8_when 4 0 0 p_X8_when f_X8_when := by
  intro as w hp ha hw
  match as, hp with
  | [.inr (.inl m), .inl x, .inl s, .inl k], hp =>
  refine ⟨Nat.le_of_ble_eq_true rfl, fun Z hZ => ?_⟩
  obtain ⟨rfl, hG⟩ := hp
  have hT := hG.1.1
  have hO := hG.1
  have hm := vOK_many hO.2
  have hR := mRun_st hG
  generalize hFe : mRun w = R at *
  obtain ⟨hG2, hat⟩ := hR
  have hO2 := hG2.1
  have hT2 := hO2.1
  by_cases hx : (0 ≤ x ∧ x < wI w 155 1) ∧ 0 ≤ s ∧ s ≤ 7
  · by_cases ht : 0 ≤ k ∧ k ≤ 1
    · skip
      refine hZ (fun _ => false) 16 0 _ _ _ _ _ ?_
      simp only [sm_run, sm_blk, sm_get, sm_ent, sm_ents, sm_wds, sm_wd, sm_nl, sm_pop, sm_back, sm_cases, oK, oLK, oL, oI, oA, oJ, oIs, oAs, oJs, oInc, oAdd, oSub, oMul, oDiv, oRem, oNeg, oAnd, oAndB, oOr, oShl, oI2c, oI2l, oL2i, oLand, oLor, oLshl, oLshr, oLushr, oLcmp, oDup, oDup2, oPop, oGo, oFg, oEq, oNe, oLt, oGe, oGt, oLe, oEq0, oNe0, oLt0, oGe0, oGt0, oLe0, oSw, oGi, oGr, oPi, oPz, oPr, oLen, oIl, oZl, oCl, oRl, oIst, oZst, oCst, oRst, oCopy, oNew, oNa, oNa2, oObj, oCs, oCv, oCi, oIr, oZr, oVr, Nat.beq, List.getElem?_cons_zero, List.getElem?_cons_succ, List.set_cons_zero, List.set_cons_succ, List.length_cons, List.length_nil, List.nil_append, List.cons_append, List.append_nil, List.replicate_succ, List.replicate_zero, Nat.reduceAdd, Nat.reduceSub, Nat.reduceLT, Nat.reduceLeDiff, Nat.reduceBEq, true_and, and_true, Nat.zero_add, Nat.add_zero, Nat.le_refl, Option.some.injEq, exists_eq_left', true_or, or_true, or_false, false_or, reduceCtorEq, Prod.mk.injEq, Sum.inl.injEq, and_self, false_and, and_false, not_true_eq_false, not_false_eq_true, false_implies, true_implies, sm_r, Int.add_zero, Int.zero_add, wI_wsI, wS_wsI, wR_wsI, wI_wCp, wS_wCp, wR_wCp, Nat.reduceEqDiff, reduceIte, sT_iff, sT_iffC, wIf_ne, ne_eq, Bool.false_or, Bool.true_or, Bool.or_false, Bool.or_true, Bool.or_self, tb_X8_when, p_X8_in, p_X8_isShuttle, p_X8_isStation, p_X8_run, f_X8_in, f_X8_isShuttle, f_X8_isStation, f_X8_run, p_X8_when, f_X8_when, sS_154 hT, sS_154 hT2, sR_154_10 hT2, sS_163 hT2, sR_154_12 hT2, sS_165 hT2, hFe, b01, hT, hT2, hat, hO, hO2]
      repeat' (first | exact True.intro | with_reducible assumption | with_reducible refine And.intro ?_ ?_ | intro _)
      all_goals first
        | omega
        | assumption
        | rfl
        | (split <;> omega)
        | grind
        | skip
    · skip
      refine hZ (fun _ => false) 16 0 _ _ _ _ _ ?_
      simp only [sm_run, sm_blk, sm_get, sm_ent, sm_ents, sm_wds, sm_wd, sm_nl, sm_pop, sm_back, sm_cases, oK, oLK, oL, oI, oA, oJ, oIs, oAs, oJs, oInc, oAdd, oSub, oMul, oDiv, oRem, oNeg, oAnd, oAndB, oOr, oShl, oI2c, oI2l, oL2i, oLand, oLor, oLshl, oLshr, oLushr, oLcmp, oDup, oDup2, oPop, oGo, oFg, oEq, oNe, oLt, oGe, oGt, oLe, oEq0, oNe0, oLt0, oGe0, oGt0, oLe0, oSw, oGi, oGr, oPi, oPz, oPr, oLen, oIl, oZl, oCl, oRl, oIst, oZst, oCst, oRst, oCopy, oNew, oNa, oNa2, oObj, oCs, oCv, oCi, oIr, oZr, oVr, Nat.beq, List.getElem?_cons_zero, List.getElem?_cons_succ, List.set_cons_zero, List.set_cons_succ, List.length_cons, List.length_nil, List.nil_append, List.cons_append, List.append_nil, List.replicate_succ, List.replicate_zero, Nat.reduceAdd, Nat.reduceSub, Nat.reduceLT, Nat.reduceLeDiff, Nat.reduceBEq, true_and, and_true, Nat.zero_add, Nat.add_zero, Nat.le_refl, Option.some.injEq, exists_eq_left', true_or, or_true, or_false, false_or, reduceCtorEq, Prod.mk.injEq, Sum.inl.injEq, and_self, false_and, and_false, not_true_eq_false, not_false_eq_true, false_implies, true_implies, sm_r, Int.add_zero, Int.zero_add, wI_wsI, wS_wsI, wR_wsI, wI_wCp, wS_wCp, wR_wCp, Nat.reduceEqDiff, reduceIte, sT_iff, sT_iffC, wIf_ne, ne_eq, Bool.false_or, Bool.true_or, Bool.or_false, Bool.or_true, Bool.or_self, tb_X8_when, p_X8_in, p_X8_isShuttle, p_X8_isStation, p_X8_run, f_X8_in, f_X8_isShuttle, f_X8_isStation, f_X8_run, p_X8_when, f_X8_when, sS_154 hT, sS_154 hT2, sR_154_10 hT2, sS_163 hT2, sR_154_12 hT2, sS_165 hT2, hFe, b01, hT, hT2, hat, hO, hO2]
      repeat' (first | exact True.intro | with_reducible assumption | with_reducible refine And.intro ?_ ?_ | intro _)
      all_goals first
        | omega
        | assumption
        | rfl
        | (split <;> omega)
        | grind
        | skip
  · skip
    refine hZ (fun _ => false) 16 0 _ _ _ _ _ ?_
    simp only [sm_run, sm_blk, sm_get, sm_ent, sm_ents, sm_wds, sm_wd, sm_nl, sm_pop, sm_back, sm_cases, oK, oLK, oL, oI, oA, oJ, oIs, oAs, oJs, oInc, oAdd, oSub, oMul, oDiv, oRem, oNeg, oAnd, oAndB, oOr, oShl, oI2c, oI2l, oL2i, oLand, oLor, oLshl, oLshr, oLushr, oLcmp, oDup, oDup2, oPop, oGo, oFg, oEq, oNe, oLt, oGe, oGt, oLe, oEq0, oNe0, oLt0, oGe0, oGt0, oLe0, oSw, oGi, oGr, oPi, oPz, oPr, oLen, oIl, oZl, oCl, oRl, oIst, oZst, oCst, oRst, oCopy, oNew, oNa, oNa2, oObj, oCs, oCv, oCi, oIr, oZr, oVr, Nat.beq, List.getElem?_cons_zero, List.getElem?_cons_succ, List.set_cons_zero, List.set_cons_succ, List.length_cons, List.length_nil, List.nil_append, List.cons_append, List.append_nil, List.replicate_succ, List.replicate_zero, Nat.reduceAdd, Nat.reduceSub, Nat.reduceLT, Nat.reduceLeDiff, Nat.reduceBEq, true_and, and_true, Nat.zero_add, Nat.add_zero, Nat.le_refl, Option.some.injEq, exists_eq_left', true_or, or_true, or_false, false_or, reduceCtorEq, Prod.mk.injEq, Sum.inl.injEq, and_self, false_and, and_false, not_true_eq_false, not_false_eq_true, false_implies, true_implies, sm_r, Int.add_zero, Int.zero_add, wI_wsI, wS_wsI, wR_wsI, wI_wCp, wS_wCp, wR_wCp, Nat.reduceEqDiff, reduceIte, sT_iff, sT_iffC, wIf_ne, ne_eq, Bool.false_or, Bool.true_or, Bool.or_false, Bool.or_true, Bool.or_self, tb_X8_when, p_X8_in, p_X8_isShuttle, p_X8_isStation, p_X8_run, f_X8_in, f_X8_isShuttle, f_X8_isStation, f_X8_run, p_X8_when, f_X8_when, sS_154 hT, sS_154 hT2, sR_154_10 hT2, sS_163 hT2, sR_154_12 hT2, sS_165 hT2, hFe, b01, hT, hT2, hat, hO, hO2]
    repeat' (first | exact True.intro | with_reducible assumption | with_reducible refine And.intro ?_ ?_ | intro _)
    all_goals first
      | omega
      | assumption
      | rfl
      | (split <;> omega)
      | grind
      | skip
theorem met_X8_when (l : Launch) : sm_Met l yX8_when cX8_when 4 (some .int) 7 0 0 p_X8_when f_X8_when := sm_met 1 (Or.inr (Or.inl ⟨rfl, rfl⟩)) (by decide +kernel) (sn_X8_when l) ok_X8_when
def p_X8_why : List sm_V → sm_W → Prop
  | [.inr (.inl m), .inl x, .inl t], w => m = 154 ∧ mGd0 w
  | _, _ => False
def f_X8_why : sm_F
  | [.inr (.inl m), .inl x, .inl t], w => (some (.inl (if 0 ≤ x ∧ x < wI w 155 1 then (if 0 ≤ t ∧ t ≤ 9999 then (if t ≤ wI (mRun w) 154 17 then mReasonIn (mRun w) x t else 0) else -2) else -1)), (if 0 ≤ x ∧ x < wI w 155 1 then (if 0 ≤ t ∧ t ≤ 9999 then mRun w else w) else w))
  | _, w => (none, w)
def tb_X8_why : List (Nat × List sm_O) := [(0, [oA 0, oI 1, oCv 8 30 p_X8_isShuttle f_X8_isShuttle 0 0 2, oNe0 10, oK (-1), oIr]),
  (10, [oI 2, oK 0, oK 9999, oCs p_X8_in f_X8_in 0 0 3, oNe0 24, oK (-2), oIr]),
  (24, [oA 0, oCv 8 30 p_X8_run f_X8_run 0 0 1, oI 2, oA 0, oGi 8 30 17, oGt 45, oA 0, oI 1, oI 2, oCv 8 30 p_X8_reasonIn f_X8_reasonIn 0 0 3, oGo 46]),
  (45, [oK 0, oGo 46]),
  (46, [oIr])]
set_option maxRecDepth 100000 in
theorem sb_X8_why_0 (l : Launch) : sm_SndB l RX8 "why" cX8_why 3 1 7 0 [oA 0, oI 1, oCv 8 30 p_X8_isShuttle f_X8_isShuttle 0 0 2, oNe0 10, oK (-1), oIr] := sb_cons (sd_aload_n (by decide +kernel : decode cX8_why 0 = .ok (.aload_n 0, 1)) rfl) (sb_cons (sd_iload_n (by decide +kernel : decode cX8_why 1 = .ok (.iload_n 1, 1)) rfl) (sb_cons (sd_callv (n := 1) (met_X8_isShuttle l) (by decide) (by decide) wm_774 wm_772 wm_10 ⟨by decide +kernel, by decide +kernel, by decide +kernel⟩ kl_8 wm_773 wm_1112 (by decide +kernel : decode cX8_why 2 = .ok (.invokevirtual 198, 3))) (sb_cons (sd_ne0 (by decide +kernel : decode cX8_why 5 = .ok (.ifCond .ne 5, 3)) (by decide)) (sb_cons (sd_iconst (by decide +kernel : decode cX8_why 8 = .ok (.iconst (-1), 1)) ⟨by decide, by decide⟩) (sb_cons (sd_ireturn (x := 0) rfl (by decide +kernel : decode cX8_why 9 = .ok (.ireturn, 1))) sb_nil)))))
set_option maxRecDepth 100000 in
theorem sb_X8_why_10 (l : Launch) : sm_SndB l RX8 "why" cX8_why 3 1 7 10 [oI 2, oK 0, oK 9999, oCs p_X8_in f_X8_in 0 0 3, oNe0 24, oK (-2), oIr] := sb_cons (sd_iload_n (by decide +kernel : decode cX8_why 10 = .ok (.iload_n 2, 1)) rfl) (sb_cons (sd_iconst (by decide +kernel : decode cX8_why 11 = .ok (.iconst 0, 1)) ⟨by decide, by decide⟩) (sb_cons (sd_sipush (by decide +kernel : decode cX8_why 12 = .ok (.sipush 9999, 3)) ⟨by decide, by decide⟩ (by decide)) (sb_cons (sd_calls (n := 3) (met_X8_in l) (by decide) (by decide) wm_710 wm_708 wm_10 ⟨by decide +kernel, by decide +kernel, by decide +kernel⟩ wm_709 (by decide +kernel : decode cX8_why 15 = .ok (.invokestatic 74, 3))) (sb_cons (sd_ne0 (by decide +kernel : decode cX8_why 18 = .ok (.ifCond .ne 6, 3)) (by decide)) (sb_cons (sd_bipush (by decide +kernel : decode cX8_why 21 = .ok (.bipush (-2), 2)) ⟨by decide, by decide⟩ (by decide)) (sb_cons (sd_ireturn (x := 0) rfl (by decide +kernel : decode cX8_why 23 = .ok (.ireturn, 1))) sb_nil))))))
set_option maxRecDepth 100000 in
theorem sb_X8_why_24 (l : Launch) : sm_SndB l RX8 "why" cX8_why 3 1 7 24 [oA 0, oCv 8 30 p_X8_run f_X8_run 0 0 1, oI 2, oA 0, oGi 8 30 17, oGt 45, oA 0, oI 1, oI 2, oCv 8 30 p_X8_reasonIn f_X8_reasonIn 0 0 3, oGo 46] := sb_cons (sd_aload_n (by decide +kernel : decode cX8_why 24 = .ok (.aload_n 0, 1)) rfl) (sb_cons (sd_callv (n := 0) (met_X8_run l) (by decide) (by decide) wm_805 wm_803 wm_10 ⟨by decide +kernel, by decide +kernel, by decide +kernel⟩ kl_8 wm_804 wm_1116 (by decide +kernel : decode cX8_why 25 = .ok (.invokevirtual 167, 3))) (sb_cons (sd_iload_n (by decide +kernel : decode cX8_why 28 = .ok (.iload_n 2, 1)) rfl) (sb_cons (sd_aload_n (by decide +kernel : decode cX8_why 29 = .ok (.aload_n 0, 1)) rfl) (sb_cons (sd_geti (k := 17) kl_8 (by decide) rfl wm_690 (by decide +kernel : decode cX8_why 30 = .ok (.getfield 158, 3))) (sb_cons (sd_gt (by decide +kernel : decode cX8_why 33 = .ok (.if_icmp .gt 12, 3)) (by decide)) (sb_cons (sd_aload_n (by decide +kernel : decode cX8_why 36 = .ok (.aload_n 0, 1)) rfl) (sb_cons (sd_iload_n (by decide +kernel : decode cX8_why 37 = .ok (.iload_n 1, 1)) rfl) (sb_cons (sd_iload_n (by decide +kernel : decode cX8_why 38 = .ok (.iload_n 2, 1)) rfl) (sb_cons (sd_callv (n := 2) (met_X8_reasonIn l) (by decide) (by decide) wm_950 wm_948 wm_10 ⟨by decide +kernel, by decide +kernel, by decide +kernel⟩ kl_8 wm_949 wm_1145 (by decide +kernel : decode cX8_why 39 = .ok (.invokevirtual 241, 3))) (sb_cons (sd_goto (x := 0) (by decide +kernel : decode cX8_why 42 = .ok (.goto 4, 3)) (by decide)) sb_nil))))))))))
set_option maxRecDepth 100000 in
theorem sb_X8_why_45 (l : Launch) : sm_SndB l RX8 "why" cX8_why 3 1 7 45 [oK 0, oGo 46] := sb_cons (sd_iconst (by decide +kernel : decode cX8_why 45 = .ok (.iconst 0, 1)) ⟨by decide, by decide⟩) (sb_cons (sd_fall (x := 0)) sb_nil)
set_option maxRecDepth 100000 in
theorem sb_X8_why_46 (l : Launch) : sm_SndB l RX8 "why" cX8_why 3 1 7 46 [oIr] := sb_cons (sd_ireturn (x := 0) rfl (by decide +kernel : decode cX8_why 46 = .ok (.ireturn, 1))) sb_nil
theorem sn_X8_why (l : Launch) : sm_SndT l RX8 "why" cX8_why 3 1 7 tb_X8_why := st_cons (sb_X8_why_0 l) (st_cons (sb_X8_why_10 l) (st_cons (sb_X8_why_24 l) (st_cons (sb_X8_why_45 l) (st_cons (sb_X8_why_46 l) (st_nil)))))
set_option maxRecDepth 100000 in
set_option maxHeartbeats 4000000 in
theorem ok_X8_why : sm_Ok tb_X8_why 3 0 0 p_X8_why f_X8_why := by
  intro as w hp ha hw
  match as, hp with
  | [.inr (.inl m), .inl x, .inl t], hp =>
  refine ⟨Nat.le_of_ble_eq_true rfl, fun Z hZ => ?_⟩
  obtain ⟨rfl, hG⟩ := hp
  have hT := hG.1.1
  have hO := hG.1
  have hR := mRun_st hG
  generalize hFe : mRun w = R at *
  obtain ⟨hG2, hat⟩ := hR
  have hO2 := hG2.1
  have hT2 := hO2.1
  have hRec := hG2.2.2.2
  by_cases hx : 0 ≤ x ∧ x < wI w 155 1
  · by_cases ht : 0 ≤ t ∧ t ≤ 9999
    · skip
      refine hZ (fun _ => false) 16 0 _ _ _ _ _ ?_
      simp only [sm_run, sm_blk, sm_get, sm_ent, sm_ents, sm_wds, sm_wd, sm_nl, sm_pop, sm_back, sm_cases, oK, oLK, oL, oI, oA, oJ, oIs, oAs, oJs, oInc, oAdd, oSub, oMul, oDiv, oRem, oNeg, oAnd, oAndB, oOr, oShl, oI2c, oI2l, oL2i, oLand, oLor, oLshl, oLshr, oLushr, oLcmp, oDup, oDup2, oPop, oGo, oFg, oEq, oNe, oLt, oGe, oGt, oLe, oEq0, oNe0, oLt0, oGe0, oGt0, oLe0, oSw, oGi, oGr, oPi, oPz, oPr, oLen, oIl, oZl, oCl, oRl, oIst, oZst, oCst, oRst, oCopy, oNew, oNa, oNa2, oObj, oCs, oCv, oCi, oIr, oZr, oVr, Nat.beq, List.getElem?_cons_zero, List.getElem?_cons_succ, List.set_cons_zero, List.set_cons_succ, List.length_cons, List.length_nil, List.nil_append, List.cons_append, List.append_nil, List.replicate_succ, List.replicate_zero, Nat.reduceAdd, Nat.reduceSub, Nat.reduceLT, Nat.reduceLeDiff, Nat.reduceBEq, true_and, and_true, Nat.zero_add, Nat.add_zero, Nat.le_refl, Option.some.injEq, exists_eq_left', true_or, or_true, or_false, false_or, reduceCtorEq, Prod.mk.injEq, Sum.inl.injEq, and_self, false_and, and_false, not_true_eq_false, not_false_eq_true, false_implies, true_implies, sm_r, Int.add_zero, Int.zero_add, wI_wsI, wS_wsI, wR_wsI, wI_wCp, wS_wCp, wR_wCp, Nat.reduceEqDiff, reduceIte, sT_iff, sT_iffC, wIf_ne, ne_eq, Bool.false_or, Bool.true_or, Bool.or_false, Bool.or_true, Bool.or_self, tb_X8_why, p_X8_in, p_X8_isShuttle, p_X8_reasonIn, p_X8_run, f_X8_in, f_X8_isShuttle, f_X8_reasonIn, f_X8_run, p_X8_why, f_X8_why, sS_154 hT, sS_154 hT2, hFe, b01, hT, hT2, hat, hO, hO2]
      repeat' (first | exact True.intro | with_reducible assumption | with_reducible refine And.intro ?_ ?_ | intro _)
      all_goals first
        | omega
        | assumption
        | rfl
        | (split <;> omega)
        | grind
        | skip
    · skip
      refine hZ (fun _ => false) 16 0 _ _ _ _ _ ?_
      simp only [sm_run, sm_blk, sm_get, sm_ent, sm_ents, sm_wds, sm_wd, sm_nl, sm_pop, sm_back, sm_cases, oK, oLK, oL, oI, oA, oJ, oIs, oAs, oJs, oInc, oAdd, oSub, oMul, oDiv, oRem, oNeg, oAnd, oAndB, oOr, oShl, oI2c, oI2l, oL2i, oLand, oLor, oLshl, oLshr, oLushr, oLcmp, oDup, oDup2, oPop, oGo, oFg, oEq, oNe, oLt, oGe, oGt, oLe, oEq0, oNe0, oLt0, oGe0, oGt0, oLe0, oSw, oGi, oGr, oPi, oPz, oPr, oLen, oIl, oZl, oCl, oRl, oIst, oZst, oCst, oRst, oCopy, oNew, oNa, oNa2, oObj, oCs, oCv, oCi, oIr, oZr, oVr, Nat.beq, List.getElem?_cons_zero, List.getElem?_cons_succ, List.set_cons_zero, List.set_cons_succ, List.length_cons, List.length_nil, List.nil_append, List.cons_append, List.append_nil, List.replicate_succ, List.replicate_zero, Nat.reduceAdd, Nat.reduceSub, Nat.reduceLT, Nat.reduceLeDiff, Nat.reduceBEq, true_and, and_true, Nat.zero_add, Nat.add_zero, Nat.le_refl, Option.some.injEq, exists_eq_left', true_or, or_true, or_false, false_or, reduceCtorEq, Prod.mk.injEq, Sum.inl.injEq, and_self, false_and, and_false, not_true_eq_false, not_false_eq_true, false_implies, true_implies, sm_r, Int.add_zero, Int.zero_add, wI_wsI, wS_wsI, wR_wsI, wI_wCp, wS_wCp, wR_wCp, Nat.reduceEqDiff, reduceIte, sT_iff, sT_iffC, wIf_ne, ne_eq, Bool.false_or, Bool.true_or, Bool.or_false, Bool.or_true, Bool.or_self, tb_X8_why, p_X8_in, p_X8_isShuttle, p_X8_reasonIn, p_X8_run, f_X8_in, f_X8_isShuttle, f_X8_reasonIn, f_X8_run, p_X8_why, f_X8_why, sS_154 hT, sS_154 hT2, hFe, b01, hT, hT2, hat, hO, hO2]
      repeat' (first | exact True.intro | with_reducible assumption | with_reducible refine And.intro ?_ ?_ | intro _)
      all_goals first
        | omega
        | assumption
        | rfl
        | (split <;> omega)
        | grind
        | skip
  · skip
    refine hZ (fun _ => false) 16 0 _ _ _ _ _ ?_
    simp only [sm_run, sm_blk, sm_get, sm_ent, sm_ents, sm_wds, sm_wd, sm_nl, sm_pop, sm_back, sm_cases, oK, oLK, oL, oI, oA, oJ, oIs, oAs, oJs, oInc, oAdd, oSub, oMul, oDiv, oRem, oNeg, oAnd, oAndB, oOr, oShl, oI2c, oI2l, oL2i, oLand, oLor, oLshl, oLshr, oLushr, oLcmp, oDup, oDup2, oPop, oGo, oFg, oEq, oNe, oLt, oGe, oGt, oLe, oEq0, oNe0, oLt0, oGe0, oGt0, oLe0, oSw, oGi, oGr, oPi, oPz, oPr, oLen, oIl, oZl, oCl, oRl, oIst, oZst, oCst, oRst, oCopy, oNew, oNa, oNa2, oObj, oCs, oCv, oCi, oIr, oZr, oVr, Nat.beq, List.getElem?_cons_zero, List.getElem?_cons_succ, List.set_cons_zero, List.set_cons_succ, List.length_cons, List.length_nil, List.nil_append, List.cons_append, List.append_nil, List.replicate_succ, List.replicate_zero, Nat.reduceAdd, Nat.reduceSub, Nat.reduceLT, Nat.reduceLeDiff, Nat.reduceBEq, true_and, and_true, Nat.zero_add, Nat.add_zero, Nat.le_refl, Option.some.injEq, exists_eq_left', true_or, or_true, or_false, false_or, reduceCtorEq, Prod.mk.injEq, Sum.inl.injEq, and_self, false_and, and_false, not_true_eq_false, not_false_eq_true, false_implies, true_implies, sm_r, Int.add_zero, Int.zero_add, wI_wsI, wS_wsI, wR_wsI, wI_wCp, wS_wCp, wR_wCp, Nat.reduceEqDiff, reduceIte, sT_iff, sT_iffC, wIf_ne, ne_eq, Bool.false_or, Bool.true_or, Bool.or_false, Bool.or_true, Bool.or_self, tb_X8_why, p_X8_in, p_X8_isShuttle, p_X8_reasonIn, p_X8_run, f_X8_in, f_X8_isShuttle, f_X8_reasonIn, f_X8_run, p_X8_why, f_X8_why, sS_154 hT, sS_154 hT2, hFe, b01, hT, hT2, hat, hO, hO2]
    repeat' (first | exact True.intro | with_reducible assumption | with_reducible refine And.intro ?_ ?_ | intro _)
    all_goals first
      | omega
      | assumption
      | rfl
      | (split <;> omega)
      | grind
      | skip
theorem met_X8_why (l : Launch) : sm_Met l yX8_why cX8_why 3 (some .int) 7 0 0 p_X8_why f_X8_why := sm_met 1 (Or.inr (Or.inl ⟨rfl, rfl⟩)) (by decide +kernel) (sn_X8_why l) ok_X8_why
def qMt1 (w : sm_W) (k c : Int) : Int := if c = 0 then wI w 166 k else (if c = 1 then wI w 167 k else (if c = 2 then k / 8 else (if c = 3 then k % 8 else -2)))
/-- found, or none yet -/
def qMtF (w : sm_W) (n c k : Int) (r : Option Int) : Option Int := if r = none then (if wI w 166 k < 0 then none else (if mAh w k 64 = n then some (qMt1 w k c) else none)) else r
def qMt (w : sm_W) (n c : Int) : Int → Option Int := itI (qMtF w n c) none
def p_X8_meeting : List sm_V → sm_W → Prop
  | [.inr (.inl m), .inl n, .inl c], w => m = 154 ∧ mGd0 w
  | _, _ => False
def f_X8_meeting : sm_F
  | [.inr (.inl m), .inl n, .inl c], w => (some (.inl ((qMt (mRun w) n c 64).getD (-1))), mRun w)
  | _, w => (none, w)
def tb_X8_meeting : List (Nat × List sm_O) := [(0, [oA 0, oCv 8 30 p_X8_run f_X8_run 0 0 1, oK 0, oIs 3, oGo 6]),
  (6, [oI 3, oK 64, oGe 90, oA 0, oGr 8 30 13, oI 3, oIl, oLt0 84, oA 0, oI 3, oCv 8 30 p_X8_ahead f_X8_ahead 0 0 2, oI 1, oNe 84, oI 2, oNe0 43, oA 0, oGr 8 30 13, oI 3, oIl, oGo 83]),
  (43, [oI 2, oK 1, oNe 57, oA 0, oGr 8 30 14, oI 3, oIl, oGo 83]),
  (57, [oI 2, oK 2, oNe 69, oI 3, oK 8, oDiv, oGo 83]),
  (69, [oI 2, oK 3, oNe 81, oI 3, oK 8, oRem, oGo 83]),
  (81, [oK (-2), oGo 83]),
  (83, [oIr]),
  (84, [oInc 3 1, oGo 6]),
  (90, [oK (-1), oIr])]
set_option maxRecDepth 100000 in
theorem sb_X8_meeting_0 (l : Launch) : sm_SndB l RX8 "meeting" cX8_meeting 4 1 7 0 [oA 0, oCv 8 30 p_X8_run f_X8_run 0 0 1, oK 0, oIs 3, oGo 6] := sb_cons (sd_aload_n (by decide +kernel : decode cX8_meeting 0 = .ok (.aload_n 0, 1)) rfl) (sb_cons (sd_callv (n := 0) (met_X8_run l) (by decide) (by decide) wm_805 wm_803 wm_10 ⟨by decide +kernel, by decide +kernel, by decide +kernel⟩ kl_8 wm_804 wm_1116 (by decide +kernel : decode cX8_meeting 1 = .ok (.invokevirtual 167, 3))) (sb_cons (sd_iconst (by decide +kernel : decode cX8_meeting 4 = .ok (.iconst 0, 1)) ⟨by decide, by decide⟩) (sb_cons (sd_istore_n (by decide +kernel : decode cX8_meeting 5 = .ok (.istore_n 3, 1)) rfl) (sb_cons (sd_fall (x := 0)) sb_nil))))
set_option maxRecDepth 100000 in
theorem sb_X8_meeting_6 (l : Launch) : sm_SndB l RX8 "meeting" cX8_meeting 4 1 7 6 [oI 3, oK 64, oGe 90, oA 0, oGr 8 30 13, oI 3, oIl, oLt0 84, oA 0, oI 3, oCv 8 30 p_X8_ahead f_X8_ahead 0 0 2, oI 1, oNe 84, oI 2, oNe0 43, oA 0, oGr 8 30 13, oI 3, oIl, oGo 83] := sb_cons (sd_iload_n (by decide +kernel : decode cX8_meeting 6 = .ok (.iload_n 3, 1)) rfl) (sb_cons (sd_bipush (by decide +kernel : decode cX8_meeting 7 = .ok (.bipush 64, 2)) ⟨by decide, by decide⟩ (by decide)) (sb_cons (sd_ge (by decide +kernel : decode cX8_meeting 9 = .ok (.if_icmp .ge 81, 3)) (by decide)) (sb_cons (sd_aload_n (by decide +kernel : decode cX8_meeting 12 = .ok (.aload_n 0, 1)) rfl) (sb_cons (sd_getr (k := 13) kl_8 (by decide) rfl wm_686 (by decide +kernel : decode cX8_meeting 13 = .ok (.getfield 44, 3))) (sb_cons (sd_iload_n (by decide +kernel : decode cX8_meeting 16 = .ok (.iload_n 3, 1)) rfl) (sb_cons (sd_iaload (by decide +kernel : decode cX8_meeting 17 = .ok (.iaload, 1))) (sb_cons (sd_lt0 (by decide +kernel : decode cX8_meeting 18 = .ok (.ifCond .lt 66, 3)) (by decide)) (sb_cons (sd_aload_n (by decide +kernel : decode cX8_meeting 21 = .ok (.aload_n 0, 1)) rfl) (sb_cons (sd_iload_n (by decide +kernel : decode cX8_meeting 22 = .ok (.iload_n 3, 1)) rfl) (sb_cons (sd_callv (n := 1) (met_X8_ahead l) (by decide) (by decide) wm_959 wm_957 wm_10 ⟨by decide +kernel, by decide +kernel, by decide +kernel⟩ kl_8 wm_958 wm_1146 (by decide +kernel : decode cX8_meeting 23 = .ok (.invokevirtual 247, 3))) (sb_cons (sd_iload_n (by decide +kernel : decode cX8_meeting 26 = .ok (.iload_n 1, 1)) rfl) (sb_cons (sd_ne (by decide +kernel : decode cX8_meeting 27 = .ok (.if_icmp .ne 57, 3)) (by decide)) (sb_cons (sd_iload_n (by decide +kernel : decode cX8_meeting 30 = .ok (.iload_n 2, 1)) rfl) (sb_cons (sd_ne0 (by decide +kernel : decode cX8_meeting 31 = .ok (.ifCond .ne 12, 3)) (by decide)) (sb_cons (sd_aload_n (by decide +kernel : decode cX8_meeting 34 = .ok (.aload_n 0, 1)) rfl) (sb_cons (sd_getr (k := 13) kl_8 (by decide) rfl wm_686 (by decide +kernel : decode cX8_meeting 35 = .ok (.getfield 44, 3))) (sb_cons (sd_iload_n (by decide +kernel : decode cX8_meeting 38 = .ok (.iload_n 3, 1)) rfl) (sb_cons (sd_iaload (by decide +kernel : decode cX8_meeting 39 = .ok (.iaload, 1))) (sb_cons (sd_goto (x := 0) (by decide +kernel : decode cX8_meeting 40 = .ok (.goto 43, 3)) (by decide)) sb_nil)))))))))))))))))))
set_option maxRecDepth 100000 in
theorem sb_X8_meeting_43 (l : Launch) : sm_SndB l RX8 "meeting" cX8_meeting 4 1 7 43 [oI 2, oK 1, oNe 57, oA 0, oGr 8 30 14, oI 3, oIl, oGo 83] := sb_cons (sd_iload_n (by decide +kernel : decode cX8_meeting 43 = .ok (.iload_n 2, 1)) rfl) (sb_cons (sd_iconst (by decide +kernel : decode cX8_meeting 44 = .ok (.iconst 1, 1)) ⟨by decide, by decide⟩) (sb_cons (sd_ne (by decide +kernel : decode cX8_meeting 45 = .ok (.if_icmp .ne 12, 3)) (by decide)) (sb_cons (sd_aload_n (by decide +kernel : decode cX8_meeting 48 = .ok (.aload_n 0, 1)) rfl) (sb_cons (sd_getr (k := 14) kl_8 (by decide) rfl wm_687 (by decide +kernel : decode cX8_meeting 49 = .ok (.getfield 47, 3))) (sb_cons (sd_iload_n (by decide +kernel : decode cX8_meeting 52 = .ok (.iload_n 3, 1)) rfl) (sb_cons (sd_iaload (by decide +kernel : decode cX8_meeting 53 = .ok (.iaload, 1))) (sb_cons (sd_goto (x := 0) (by decide +kernel : decode cX8_meeting 54 = .ok (.goto 29, 3)) (by decide)) sb_nil)))))))
set_option maxRecDepth 100000 in
theorem sb_X8_meeting_57 (l : Launch) : sm_SndB l RX8 "meeting" cX8_meeting 4 1 7 57 [oI 2, oK 2, oNe 69, oI 3, oK 8, oDiv, oGo 83] := sb_cons (sd_iload_n (by decide +kernel : decode cX8_meeting 57 = .ok (.iload_n 2, 1)) rfl) (sb_cons (sd_iconst (by decide +kernel : decode cX8_meeting 58 = .ok (.iconst 2, 1)) ⟨by decide, by decide⟩) (sb_cons (sd_ne (by decide +kernel : decode cX8_meeting 59 = .ok (.if_icmp .ne 10, 3)) (by decide)) (sb_cons (sd_iload_n (by decide +kernel : decode cX8_meeting 62 = .ok (.iload_n 3, 1)) rfl) (sb_cons (sd_bipush (by decide +kernel : decode cX8_meeting 63 = .ok (.bipush 8, 2)) ⟨by decide, by decide⟩ (by decide)) (sb_cons (sd_idiv (by decide +kernel : decode cX8_meeting 65 = .ok (.idiv, 1))) (sb_cons (sd_goto (x := 0) (by decide +kernel : decode cX8_meeting 66 = .ok (.goto 17, 3)) (by decide)) sb_nil))))))
set_option maxRecDepth 100000 in
theorem sb_X8_meeting_69 (l : Launch) : sm_SndB l RX8 "meeting" cX8_meeting 4 1 7 69 [oI 2, oK 3, oNe 81, oI 3, oK 8, oRem, oGo 83] := sb_cons (sd_iload_n (by decide +kernel : decode cX8_meeting 69 = .ok (.iload_n 2, 1)) rfl) (sb_cons (sd_iconst (by decide +kernel : decode cX8_meeting 70 = .ok (.iconst 3, 1)) ⟨by decide, by decide⟩) (sb_cons (sd_ne (by decide +kernel : decode cX8_meeting 71 = .ok (.if_icmp .ne 10, 3)) (by decide)) (sb_cons (sd_iload_n (by decide +kernel : decode cX8_meeting 74 = .ok (.iload_n 3, 1)) rfl) (sb_cons (sd_bipush (by decide +kernel : decode cX8_meeting 75 = .ok (.bipush 8, 2)) ⟨by decide, by decide⟩ (by decide)) (sb_cons (sd_irem (by decide +kernel : decode cX8_meeting 77 = .ok (.irem, 1))) (sb_cons (sd_goto (x := 0) (by decide +kernel : decode cX8_meeting 78 = .ok (.goto 5, 3)) (by decide)) sb_nil))))))
set_option maxRecDepth 100000 in
theorem sb_X8_meeting_81 (l : Launch) : sm_SndB l RX8 "meeting" cX8_meeting 4 1 7 81 [oK (-2), oGo 83] := sb_cons (sd_bipush (by decide +kernel : decode cX8_meeting 81 = .ok (.bipush (-2), 2)) ⟨by decide, by decide⟩ (by decide)) (sb_cons (sd_fall (x := 0)) sb_nil)
set_option maxRecDepth 100000 in
theorem sb_X8_meeting_83 (l : Launch) : sm_SndB l RX8 "meeting" cX8_meeting 4 1 7 83 [oIr] := sb_cons (sd_ireturn (x := 0) rfl (by decide +kernel : decode cX8_meeting 83 = .ok (.ireturn, 1))) sb_nil
set_option maxRecDepth 100000 in
theorem sb_X8_meeting_84 (l : Launch) : sm_SndB l RX8 "meeting" cX8_meeting 4 1 7 84 [oInc 3 1, oGo 6] := sb_cons (sd_iinc (by decide +kernel : decode cX8_meeting 84 = .ok (.iinc 3 1, 3))) (sb_cons (sd_goto (x := 0) (by decide +kernel : decode cX8_meeting 87 = .ok (.goto (-81), 3)) (by decide)) sb_nil)
set_option maxRecDepth 100000 in
theorem sb_X8_meeting_90 (l : Launch) : sm_SndB l RX8 "meeting" cX8_meeting 4 1 7 90 [oK (-1), oIr] := sb_cons (sd_iconst (by decide +kernel : decode cX8_meeting 90 = .ok (.iconst (-1), 1)) ⟨by decide, by decide⟩) (sb_cons (sd_ireturn (x := 0) rfl (by decide +kernel : decode cX8_meeting 91 = .ok (.ireturn, 1))) sb_nil)
theorem sn_X8_meeting (l : Launch) : sm_SndT l RX8 "meeting" cX8_meeting 4 1 7 tb_X8_meeting := st_cons (sb_X8_meeting_0 l) (st_cons (sb_X8_meeting_6 l) (st_cons (sb_X8_meeting_43 l) (st_cons (sb_X8_meeting_57 l) (st_cons (sb_X8_meeting_69 l) (st_cons (sb_X8_meeting_81 l) (st_cons (sb_X8_meeting_83 l) (st_cons (sb_X8_meeting_84 l) (st_cons (sb_X8_meeting_90 l) (st_nil)))))))))
set_option maxRecDepth 100000 in
set_option maxHeartbeats 4000000 in
theorem ok_X8_meeting : sm_Ok tb_X8_meeting 4 0 0 p_X8_meeting f_X8_meeting := by
  intro as w hp ha hw
  match as, hp with
  | [.inr (.inl m), .inl n, .inl c], hp =>
  refine ⟨Nat.le_of_ble_eq_true rfl, fun Z hZ => ?_⟩
  obtain ⟨rfl, hG⟩ := hp
  have hT := hG.1.1
  have hO := hG.1
  have hR := mRun_st hG
  generalize hFe : mRun w = R at *
  obtain ⟨hG2, hat⟩ := hR
  have hO2 := hG2.1
  have hT2 := hO2.1
  have hl := sm_loopM (S := Int) Z 6 (fun i => (64 - i).toNat) (fun i => 0 ≤ i ∧ i ≤ 64 ∧ qMt R n c i = none) (fun i => [some (.inr (.inl 154)), some (.inl n), some (.inl c), some (.inl i)]) (fun _ => R) 0 0 (fun i hI ih => by
    obtain ⟨h0, h1, hn⟩ := hI
    have hu : qMt R n c (i + 1) = qMtF R n c i none := by rw [← hn]; exact itI_s _ _ h0
    have ihn := fun hlt : i < 64 => fun hb : qMtF R n c i none = none => ih (i + 1) ⟨by omega, by omega, hu.trans hb⟩ (by omega)
    have hxx : ∀ v, i < 64 → qMtF R n c i none = some v → qMt R n c 64 = some v := fun v hlt hv => itI_abs (f := qMtF R n c) (r0 := some v) (fun k _ => rfl) (i := i + 1) (by omega) (by omega) (hu.trans hv)
    clear ih
    have h64 : i = 64 → qMt R n c 64 = none := fun e => by rw [← e]; exact hn
    generalize hYe : qMt R n c 64 = Y at *
    have hq : qMtF R n c i none = if wI R 166 i < 0 then none else (if mAh R i 64 = n then some (qMt1 R i c) else none) := rfl
    by_cases hc : ¬ wI R 166 i < 0 ∧ mAh R i 64 = n
    · rw [if_neg hc.1, if_pos hc.2] at hq
      have hY := fun hlt => hxx _ hlt hq
      clear ihn hxx hu
      by_cases e : i < 64
      · have hY := hY e
        subst hY
        obtain ⟨z, hz⟩ : ∃ z, z = qMt1 R i c := ⟨_, rfl⟩
        have hqe : qMt1 R i c = z := hz.symm
        unfold qMt1 at hz
        refine hZ (fun u => Nat.beq u 6) 14 6 _ _ _ _ _ ?_
        simp only [sm_run, sm_blk, sm_get, sm_ent, sm_ents, sm_wds, sm_wd, sm_nl, sm_pop, sm_back, sm_cases, oK, oLK, oL, oI, oA, oJ, oIs, oAs, oJs, oInc, oAdd, oSub, oMul, oDiv, oRem, oNeg, oAnd, oAndB, oOr, oShl, oI2c, oI2l, oL2i, oLand, oLor, oLshl, oLshr, oLushr, oLcmp, oDup, oDup2, oPop, oGo, oFg, oEq, oNe, oLt, oGe, oGt, oLe, oEq0, oNe0, oLt0, oGe0, oGt0, oLe0, oSw, oGi, oGr, oPi, oPz, oPr, oLen, oIl, oZl, oCl, oRl, oIst, oZst, oCst, oRst, oCopy, oNew, oNa, oNa2, oObj, oCs, oCv, oCi, oIr, oZr, oVr, Nat.beq, List.getElem?_cons_zero, List.getElem?_cons_succ, List.set_cons_zero, List.set_cons_succ, List.length_cons, List.length_nil, List.nil_append, List.cons_append, List.append_nil, List.replicate_succ, List.replicate_zero, Nat.reduceAdd, Nat.reduceSub, Nat.reduceLT, Nat.reduceLeDiff, Nat.reduceBEq, true_and, and_true, Nat.zero_add, Nat.add_zero, Nat.le_refl, Option.some.injEq, exists_eq_left', true_or, or_true, or_false, false_or, reduceCtorEq, Prod.mk.injEq, Sum.inl.injEq, and_self, false_and, and_false, not_true_eq_false, not_false_eq_true, false_implies, true_implies, sm_r, Int.add_zero, Int.zero_add, wI_wsI, wS_wsI, wR_wsI, wI_wCp, wS_wCp, wR_wCp, Nat.reduceEqDiff, reduceIte, sT_iff, sT_iffC, wIf_ne, ne_eq, Bool.false_or, Bool.true_or, Bool.or_false, Bool.or_true, Bool.or_self, tb_X8_meeting, p_X8_ahead, p_X8_run, f_X8_ahead, f_X8_run, p_X8_meeting, f_X8_meeting, sS_154 hT2, sR_154_13 hT2, sS_166 hT2, sR_154_14 hT2, sS_167 hT2, hFe, hYe, Option.getD_some, Option.getD_none, hT2, hqe]
        repeat' (first | exact True.intro | with_reducible assumption | with_reducible refine And.intro ?_ ?_ | intro _)
        all_goals first
          | omega
          | assumption
          | rfl
          | (split <;> omega)
          | (have k9 := ih (by omega)
             (repeat' split at k9) <;> first | exact k9 | omega)
          | (have k9 := ih2 (by omega)
             (repeat' split at k9) <;> first | exact k9 | omega)
          | exact he (by omega)
          | (congr 1; omega)
          | (rw [if_pos (by omega)] at he; exact he)
          | exact hD1 (by omega)
          | exact hD2 (by omega)
          | grind
          | skip
      · have e : i = 64 := by omega
        subst e
        have hY := h64 rfl
        subst hY
        refine hZ (fun u => Nat.beq u 6) 14 6 _ _ _ _ _ ?_
        simp only [sm_run, sm_blk, sm_get, sm_ent, sm_ents, sm_wds, sm_wd, sm_nl, sm_pop, sm_back, sm_cases, oK, oLK, oL, oI, oA, oJ, oIs, oAs, oJs, oInc, oAdd, oSub, oMul, oDiv, oRem, oNeg, oAnd, oAndB, oOr, oShl, oI2c, oI2l, oL2i, oLand, oLor, oLshl, oLshr, oLushr, oLcmp, oDup, oDup2, oPop, oGo, oFg, oEq, oNe, oLt, oGe, oGt, oLe, oEq0, oNe0, oLt0, oGe0, oGt0, oLe0, oSw, oGi, oGr, oPi, oPz, oPr, oLen, oIl, oZl, oCl, oRl, oIst, oZst, oCst, oRst, oCopy, oNew, oNa, oNa2, oObj, oCs, oCv, oCi, oIr, oZr, oVr, Nat.beq, List.getElem?_cons_zero, List.getElem?_cons_succ, List.set_cons_zero, List.set_cons_succ, List.length_cons, List.length_nil, List.nil_append, List.cons_append, List.append_nil, List.replicate_succ, List.replicate_zero, Nat.reduceAdd, Nat.reduceSub, Nat.reduceLT, Nat.reduceLeDiff, Nat.reduceBEq, true_and, and_true, Nat.zero_add, Nat.add_zero, Nat.le_refl, Option.some.injEq, exists_eq_left', true_or, or_true, or_false, false_or, reduceCtorEq, Prod.mk.injEq, Sum.inl.injEq, and_self, false_and, and_false, not_true_eq_false, not_false_eq_true, false_implies, true_implies, sm_r, Int.add_zero, Int.zero_add, wI_wsI, wS_wsI, wR_wsI, wI_wCp, wS_wCp, wR_wCp, Nat.reduceEqDiff, reduceIte, sT_iff, sT_iffC, wIf_ne, ne_eq, Bool.false_or, Bool.true_or, Bool.or_false, Bool.or_true, Bool.or_self, tb_X8_meeting, p_X8_ahead, p_X8_run, f_X8_ahead, f_X8_run, p_X8_meeting, f_X8_meeting, sS_154 hT2, sR_154_13 hT2, sS_166 hT2, hFe, hYe, Option.getD_some, Option.getD_none, hT2]
        repeat' (first | exact True.intro | with_reducible assumption | with_reducible refine And.intro ?_ ?_ | intro _)
        all_goals first
          | omega
          | assumption
          | rfl
          | (split <;> omega)
          | (have k9 := ih (by omega)
             (repeat' split at k9) <;> first | exact k9 | omega)
          | (have k9 := ih2 (by omega)
             (repeat' split at k9) <;> first | exact k9 | omega)
          | exact he (by omega)
          | (congr 1; omega)
          | (rw [if_pos (by omega)] at he; exact he)
          | exact hD1 (by omega)
          | exact hD2 (by omega)
          | grind
          | skip
    · have hq2 : qMtF R n c i none = none := by rw [hq]; grind
      have ih := fun hlt => ihn hlt hq2
      clear ihn hxx hu
      have hY := fun e : i = 64 => h64 e
      by_cases e : i < 64
      · clear hY h64
        refine hZ (fun u => Nat.beq u 6) 14 6 _ _ _ _ _ ?_
        simp only [sm_run, sm_blk, sm_get, sm_ent, sm_ents, sm_wds, sm_wd, sm_nl, sm_pop, sm_back, sm_cases, oK, oLK, oL, oI, oA, oJ, oIs, oAs, oJs, oInc, oAdd, oSub, oMul, oDiv, oRem, oNeg, oAnd, oAndB, oOr, oShl, oI2c, oI2l, oL2i, oLand, oLor, oLshl, oLshr, oLushr, oLcmp, oDup, oDup2, oPop, oGo, oFg, oEq, oNe, oLt, oGe, oGt, oLe, oEq0, oNe0, oLt0, oGe0, oGt0, oLe0, oSw, oGi, oGr, oPi, oPz, oPr, oLen, oIl, oZl, oCl, oRl, oIst, oZst, oCst, oRst, oCopy, oNew, oNa, oNa2, oObj, oCs, oCv, oCi, oIr, oZr, oVr, Nat.beq, List.getElem?_cons_zero, List.getElem?_cons_succ, List.set_cons_zero, List.set_cons_succ, List.length_cons, List.length_nil, List.nil_append, List.cons_append, List.append_nil, List.replicate_succ, List.replicate_zero, Nat.reduceAdd, Nat.reduceSub, Nat.reduceLT, Nat.reduceLeDiff, Nat.reduceBEq, true_and, and_true, Nat.zero_add, Nat.add_zero, Nat.le_refl, Option.some.injEq, exists_eq_left', true_or, or_true, or_false, false_or, reduceCtorEq, Prod.mk.injEq, Sum.inl.injEq, and_self, false_and, and_false, not_true_eq_false, not_false_eq_true, false_implies, true_implies, sm_r, Int.add_zero, Int.zero_add, wI_wsI, wS_wsI, wR_wsI, wI_wCp, wS_wCp, wR_wCp, Nat.reduceEqDiff, reduceIte, sT_iff, sT_iffC, wIf_ne, ne_eq, Bool.false_or, Bool.true_or, Bool.or_false, Bool.or_true, Bool.or_self, tb_X8_meeting, p_X8_ahead, p_X8_run, f_X8_ahead, f_X8_run, p_X8_meeting, f_X8_meeting, sS_154 hT2, sR_154_13 hT2, sS_166 hT2, hFe, hYe, Option.getD_some, Option.getD_none, hT2]
        repeat' (first | exact True.intro | with_reducible assumption | with_reducible refine And.intro ?_ ?_ | intro _)
        all_goals first
          | omega
          | assumption
          | rfl
          | (split <;> omega)
          | (have k9 := ih (by omega)
             (repeat' split at k9) <;> first | exact k9 | omega)
          | (have k9 := ih2 (by omega)
             (repeat' split at k9) <;> first | exact k9 | omega)
          | exact he (by omega)
          | (congr 1; omega)
          | (rw [if_pos (by omega)] at he; exact he)
          | exact hD1 (by omega)
          | exact hD2 (by omega)
          | grind
          | skip
      · have e : i = 64 := by omega
        subst e
        have hY := h64 rfl
        subst hY
        refine hZ (fun u => Nat.beq u 6) 14 6 _ _ _ _ _ ?_
        simp only [sm_run, sm_blk, sm_get, sm_ent, sm_ents, sm_wds, sm_wd, sm_nl, sm_pop, sm_back, sm_cases, oK, oLK, oL, oI, oA, oJ, oIs, oAs, oJs, oInc, oAdd, oSub, oMul, oDiv, oRem, oNeg, oAnd, oAndB, oOr, oShl, oI2c, oI2l, oL2i, oLand, oLor, oLshl, oLshr, oLushr, oLcmp, oDup, oDup2, oPop, oGo, oFg, oEq, oNe, oLt, oGe, oGt, oLe, oEq0, oNe0, oLt0, oGe0, oGt0, oLe0, oSw, oGi, oGr, oPi, oPz, oPr, oLen, oIl, oZl, oCl, oRl, oIst, oZst, oCst, oRst, oCopy, oNew, oNa, oNa2, oObj, oCs, oCv, oCi, oIr, oZr, oVr, Nat.beq, List.getElem?_cons_zero, List.getElem?_cons_succ, List.set_cons_zero, List.set_cons_succ, List.length_cons, List.length_nil, List.nil_append, List.cons_append, List.append_nil, List.replicate_succ, List.replicate_zero, Nat.reduceAdd, Nat.reduceSub, Nat.reduceLT, Nat.reduceLeDiff, Nat.reduceBEq, true_and, and_true, Nat.zero_add, Nat.add_zero, Nat.le_refl, Option.some.injEq, exists_eq_left', true_or, or_true, or_false, false_or, reduceCtorEq, Prod.mk.injEq, Sum.inl.injEq, and_self, false_and, and_false, not_true_eq_false, not_false_eq_true, false_implies, true_implies, sm_r, Int.add_zero, Int.zero_add, wI_wsI, wS_wsI, wR_wsI, wI_wCp, wS_wCp, wR_wCp, Nat.reduceEqDiff, reduceIte, sT_iff, sT_iffC, wIf_ne, ne_eq, Bool.false_or, Bool.true_or, Bool.or_false, Bool.or_true, Bool.or_self, tb_X8_meeting, p_X8_ahead, p_X8_run, f_X8_ahead, f_X8_run, p_X8_meeting, f_X8_meeting, sS_154 hT2, sR_154_13 hT2, sS_166 hT2, hFe, hYe, Option.getD_some, Option.getD_none, hT2]
        repeat' (first | exact True.intro | with_reducible assumption | with_reducible refine And.intro ?_ ?_ | intro _)
        all_goals first
          | omega
          | assumption
          | rfl
          | (split <;> omega)
          | (have k9 := ih (by omega)
             (repeat' split at k9) <;> first | exact k9 | omega)
          | (have k9 := ih2 (by omega)
             (repeat' split at k9) <;> first | exact k9 | omega)
          | exact he (by omega)
          | (congr 1; omega)
          | (rw [if_pos (by omega)] at he; exact he)
          | exact hD1 (by omega)
          | exact hD2 (by omega)
          | grind
          | skip
    ) 0 ⟨Int.le_refl _, by decide, rfl⟩
  refine hZ (fun u => Nat.beq u 6) 14 0 _ _ _ _ _ ?_
  simp only [sm_run, sm_blk, sm_get, sm_ent, sm_ents, sm_wds, sm_wd, sm_nl, sm_pop, sm_back, sm_cases, oK, oLK, oL, oI, oA, oJ, oIs, oAs, oJs, oInc, oAdd, oSub, oMul, oDiv, oRem, oNeg, oAnd, oAndB, oOr, oShl, oI2c, oI2l, oL2i, oLand, oLor, oLshl, oLshr, oLushr, oLcmp, oDup, oDup2, oPop, oGo, oFg, oEq, oNe, oLt, oGe, oGt, oLe, oEq0, oNe0, oLt0, oGe0, oGt0, oLe0, oSw, oGi, oGr, oPi, oPz, oPr, oLen, oIl, oZl, oCl, oRl, oIst, oZst, oCst, oRst, oCopy, oNew, oNa, oNa2, oObj, oCs, oCv, oCi, oIr, oZr, oVr, Nat.beq, List.getElem?_cons_zero, List.getElem?_cons_succ, List.set_cons_zero, List.set_cons_succ, List.length_cons, List.length_nil, List.nil_append, List.cons_append, List.append_nil, List.replicate_succ, List.replicate_zero, Nat.reduceAdd, Nat.reduceSub, Nat.reduceLT, Nat.reduceLeDiff, Nat.reduceBEq, true_and, and_true, Nat.zero_add, Nat.add_zero, Nat.le_refl, Option.some.injEq, exists_eq_left', true_or, or_true, or_false, false_or, reduceCtorEq, Prod.mk.injEq, Sum.inl.injEq, and_self, false_and, and_false, not_true_eq_false, not_false_eq_true, false_implies, true_implies, sm_r, Int.add_zero, Int.zero_add, wI_wsI, wS_wsI, wR_wsI, wI_wCp, wS_wCp, wR_wCp, Nat.reduceEqDiff, reduceIte, sT_iff, sT_iffC, wIf_ne, ne_eq, Bool.false_or, Bool.true_or, Bool.or_false, Bool.or_true, Bool.or_self, tb_X8_meeting, p_X8_ahead, p_X8_run, f_X8_ahead, f_X8_run, p_X8_meeting, f_X8_meeting, sS_154 hT, hFe, hT]
  repeat' (first | exact True.intro | with_reducible assumption | with_reducible refine And.intro ?_ ?_ | intro _)
  all_goals first
    | omega
    | assumption
    | rfl
    | (split <;> omega)
    | (have k9 := ih (by omega)
       (repeat' split at k9) <;> first | exact k9 | omega)
    | (have k9 := ih2 (by omega)
       (repeat' split at k9) <;> first | exact k9 | omega)
    | exact he (by omega)
    | (congr 1; omega)
    | (rw [if_pos (by omega)] at he; exact he)
    | exact hD1 (by omega)
    | exact hD2 (by omega)
    | skip

theorem met_X8_meeting (l : Launch) : sm_Met l yX8_meeting cX8_meeting 4 (some .int) 7 0 0 p_X8_meeting f_X8_meeting := sm_met 1 (Or.inr (Or.inl ⟨rfl, rfl⟩)) (by decide +kernel) (sn_X8_meeting l) ok_X8_meeting