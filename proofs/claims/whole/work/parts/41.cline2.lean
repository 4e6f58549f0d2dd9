/-! THE CLASS: changes of a line -/
def p_X2_setFirst : List sm_V → sm_W → Prop
  | [.inr (.inl a), .inl v], w => sT w ∧ sm_isL a
  | _, _ => False
def f_X2_setFirst : sm_F
  | [.inr (.inl a), .inl v], w => (some (.inl (if 0 ≤ v ∧ v ≤ 2 then wI w a 8 else -2)), (if 0 ≤ v ∧ v ≤ 2 then wsI w a 8 v else w))
  | _, w => (none, w)
def tb_X2_setFirst : List (Nat × List sm_O) := [(0, [oI 1, oLt0 9, oI 1, oK 2, oLe 12, oGo 9]),
  (9, [oK (-2), oIr]),
  (12, [oA 0, oGi 2 9 8, oIs 2, oA 0, oI 1, oPi 2 9 8, oI 2, oIr])]
set_option maxRecDepth 100000 in
theorem sb_X2_setFirst_0 (l : Launch) : sm_SndB l RX2 "setFirst" cX2_setFirst 3 1 0 0 [oI 1, oLt0 9, oI 1, oK 2, oLe 12, oGo 9] := sb_cons (sd_iload_n (by decide +kernel : decode cX2_setFirst 0 = .ok (.iload_n 1, 1)) rfl) (sb_cons (sd_lt0 (by decide +kernel : decode cX2_setFirst 1 = .ok (.ifCond .lt 8, 3)) (by decide)) (sb_cons (sd_iload_n (by decide +kernel : decode cX2_setFirst 4 = .ok (.iload_n 1, 1)) rfl) (sb_cons (sd_iconst (by decide +kernel : decode cX2_setFirst 5 = .ok (.iconst 2, 1)) ⟨by decide, by decide⟩) (sb_cons (sd_le (by decide +kernel : decode cX2_setFirst 6 = .ok (.if_icmp .le 6, 3)) (by decide)) (sb_cons (sd_fall (x := 0)) sb_nil)))))
set_option maxRecDepth 100000 in
theorem sb_X2_setFirst_9 (l : Launch) : sm_SndB l RX2 "setFirst" cX2_setFirst 3 1 0 9 [oK (-2), oIr] := sb_cons (sd_bipush (by decide +kernel : decode cX2_setFirst 9 = .ok (.bipush (-2), 2)) ⟨by decide, by decide⟩ (by decide)) (sb_cons (sd_ireturn (x := 0) rfl (by decide +kernel : decode cX2_setFirst 11 = .ok (.ireturn, 1))) sb_nil)
set_option maxRecDepth 100000 in
theorem sb_X2_setFirst_12 (l : Launch) : sm_SndB l RX2 "setFirst" cX2_setFirst 3 1 0 12 [oA 0, oGi 2 9 8, oIs 2, oA 0, oI 1, oPi 2 9 8, oI 2, oIr] := sb_cons (sd_aload_n (by decide +kernel : decode cX2_setFirst 12 = .ok (.aload_n 0, 1)) rfl) (sb_cons (sd_geti (k := 8) kl_2 (by decide) rfl wm_63 (by decide +kernel : decode cX2_setFirst 13 = .ok (.getfield 49, 3))) (sb_cons (sd_istore_n (by decide +kernel : decode cX2_setFirst 16 = .ok (.istore_n 2, 1)) rfl) (sb_cons (sd_aload_n (by decide +kernel : decode cX2_setFirst 17 = .ok (.aload_n 0, 1)) rfl) (sb_cons (sd_iload_n (by decide +kernel : decode cX2_setFirst 18 = .ok (.iload_n 1, 1)) rfl) (sb_cons (sd_puti (k := 8) kl_2 (by decide) rfl (Or.inl rfl) wm_63 (by decide +kernel : decode cX2_setFirst 19 = .ok (.putfield 49, 3))) (sb_cons (sd_iload_n (by decide +kernel : decode cX2_setFirst 22 = .ok (.iload_n 2, 1)) rfl) (sb_cons (sd_ireturn (x := 0) rfl (by decide +kernel : decode cX2_setFirst 23 = .ok (.ireturn, 1))) sb_nil)))))))
theorem sn_X2_setFirst (l : Launch) : sm_SndT l RX2 "setFirst" cX2_setFirst 3 1 0 tb_X2_setFirst := st_cons (sb_X2_setFirst_0 l) (st_cons (sb_X2_setFirst_9 l) (st_cons (sb_X2_setFirst_12 l) (st_nil)))
set_option maxRecDepth 100000 in
set_option maxHeartbeats 4000000 in
theorem ok_X2_setFirst : sm_Ok tb_X2_setFirst 3 0 0 p_X2_setFirst f_X2_setFirst := by
  intro as w hp ha hw
  match as, hp with
  | [.inr (.inl a), .inl v], hp =>
  refine ⟨Nat.le_of_ble_eq_true rfl, fun Z hZ => ?_⟩
  obtain ⟨hT, hL⟩ := hp
  obtain ⟨l0, l1, l2, l3, l4, l5, l6, l7, r0, r1, r2, r3, r4, r5, r6⟩ := lS hT hL
  refine hZ (fun _ => false) 16 0 _ _ _ _ _ ?_
  simp only [sm_run, sm_blk, sm_get, sm_ent, sm_ents, sm_wds, sm_wd, sm_nl, sm_pop, sm_back, sm_cases, oK, oLK, oL, oI, oA, oJ, oIs, oAs, oJs, oInc, oAdd, oSub, oMul, oDiv, oRem, oNeg, oAnd, oAndB, oOr, oShl, oI2c, oI2l, oL2i, oLand, oLor, oLshl, oLshr, oLushr, oLcmp, oDup, oDup2, oPop, oGo, oFg, oEq, oNe, oLt, oGe, oGt, oLe, oEq0, oNe0, oLt0, oGe0, oGt0, oLe0, oSw, oGi, oGr, oPi, oPz, oPr, oLen, oIl, oZl, oCl, oRl, oIst, oZst, oCst, oRst, oCopy, oNew, oNa, oNa2, oObj, oCs, oCv, oCi, oIr, oZr, oVr, Nat.beq, List.getElem?_cons_zero, List.getElem?_cons_succ, List.set_cons_zero, List.set_cons_succ, List.length_cons, List.length_nil, List.nil_append, List.cons_append, List.append_nil, List.replicate_succ, List.replicate_zero, Nat.reduceAdd, Nat.reduceSub, Nat.reduceLT, Nat.reduceLeDiff, Nat.reduceBEq, true_and, and_true, Nat.zero_add, Nat.add_zero, Nat.le_refl, Option.some.injEq, exists_eq_left', true_or, or_true, or_false, false_or, reduceCtorEq, Prod.mk.injEq, Sum.inl.injEq, and_self, false_and, and_false, not_true_eq_false, not_false_eq_true, false_implies, true_implies, sm_r, Int.add_zero, Int.zero_add, wI_wsI, wS_wsI, wR_wsI, wI_wCp, wS_wCp, wR_wCp, Nat.reduceEqDiff, reduceIte, sT_iff, sT_iffC, wIf_ne, ne_eq, Bool.false_or, Bool.true_or, Bool.or_false, Bool.or_true, Bool.or_self, Nat.left_eq_add, Nat.add_eq_left, Nat.add_left_inj, tb_X2_setFirst, p_X2_setFirst, f_X2_setFirst, l0]
  repeat' (first | exact True.intro | with_reducible assumption | with_reducible refine And.intro ?_ ?_ | intro _)
  all_goals first
    | omega
    | assumption
    | rfl
    | (split <;> omega)
    | grind
    | skip
theorem met_X2_setFirst (l : Launch) : sm_Met l yX2_setFirst cX2_setFirst 3 (some .int) 0 0 0 p_X2_setFirst f_X2_setFirst := sm_met 1 (Or.inr (Or.inl ⟨rfl, rfl⟩)) (by decide +kernel) (sn_X2_setFirst l) ok_X2_setFirst
def p_X2_setTracks : List sm_V → sm_W → Prop
  | [.inr (.inl a), .inl s, .inl v], w => sT w ∧ sm_isL a
  | _, _ => False
def f_X2_setTracks : sm_F
  | [.inr (.inl a), .inl s, .inl v], w => (some (.inl (if 0 ≤ s ∧ s ≤ 7 then (if 1 ≤ v ∧ v ≤ 4 then wI w (a + 1) s else -2) else -1)), (if 0 ≤ s ∧ s ≤ 7 then (if 1 ≤ v ∧ v ≤ 4 then wsI w (a + 1) s v else w) else w))
  | _, w => (none, w)
def tb_X2_setTracks : List (Nat × List sm_O) := [(0, [oI 1, oCs p_X7_isStation f_X7_isStation 0 0 1, oNe0 9, oK (-1), oIr]),
  (9, [oI 2, oK 1, oLt 19, oI 2, oK 4, oLe 22, oGo 19]),
  (19, [oK (-2), oIr]),
  (22, [oA 0, oGr 2 9 0, oI 1, oIl, oIs 3, oA 0, oGr 2 9 0, oI 1, oI 2, oIst, oI 3, oIr])]
set_option maxRecDepth 100000 in
theorem sb_X2_setTracks_0 (l : Launch) : sm_SndB l RX2 "setTracks" cX2_setTracks 4 1 1 0 [oI 1, oCs p_X7_isStation f_X7_isStation 0 0 1, oNe0 9, oK (-1), oIr] := sb_cons (sd_iload_n (by decide +kernel : decode cX2_setTracks 0 = .ok (.iload_n 1, 1)) rfl) (sb_cons (sd_callsN (n := 1) (met_X7_isStation l) (by decide) (by decide) wm_200 (by decide +kernel) wm_1 ⟨by decide +kernel, by decide +kernel, by decide +kernel⟩ wm_199 (by decide +kernel : decode cX2_setTracks 1 = .ok (.invokestatic 52, 3))) (sb_cons (sd_ne0 (by decide +kernel : decode cX2_setTracks 4 = .ok (.ifCond .ne 5, 3)) (by decide)) (sb_cons (sd_iconst (by decide +kernel : decode cX2_setTracks 7 = .ok (.iconst (-1), 1)) ⟨by decide, by decide⟩) (sb_cons (sd_ireturn (x := 0) rfl (by decide +kernel : decode cX2_setTracks 8 = .ok (.ireturn, 1))) sb_nil))))
set_option maxRecDepth 100000 in
theorem sb_X2_setTracks_9 (l : Launch) : sm_SndB l RX2 "setTracks" cX2_setTracks 4 1 1 9 [oI 2, oK 1, oLt 19, oI 2, oK 4, oLe 22, oGo 19] := sb_cons (sd_iload_n (by decide +kernel : decode cX2_setTracks 9 = .ok (.iload_n 2, 1)) rfl) (sb_cons (sd_iconst (by decide +kernel : decode cX2_setTracks 10 = .ok (.iconst 1, 1)) ⟨by decide, by decide⟩) (sb_cons (sd_lt (by decide +kernel : decode cX2_setTracks 11 = .ok (.if_icmp .lt 8, 3)) (by decide)) (sb_cons (sd_iload_n (by decide +kernel : decode cX2_setTracks 14 = .ok (.iload_n 2, 1)) rfl) (sb_cons (sd_iconst (by decide +kernel : decode cX2_setTracks 15 = .ok (.iconst 4, 1)) ⟨by decide, by decide⟩) (sb_cons (sd_le (by decide +kernel : decode cX2_setTracks 16 = .ok (.if_icmp .le 6, 3)) (by decide)) (sb_cons (sd_fall (x := 0)) sb_nil))))))
set_option maxRecDepth 100000 in
theorem sb_X2_setTracks_19 (l : Launch) : sm_SndB l RX2 "setTracks" cX2_setTracks 4 1 1 19 [oK (-2), oIr] := sb_cons (sd_bipush (by decide +kernel : decode cX2_setTracks 19 = .ok (.bipush (-2), 2)) ⟨by decide, by decide⟩ (by decide)) (sb_cons (sd_ireturn (x := 0) rfl (by decide +kernel : decode cX2_setTracks 21 = .ok (.ireturn, 1))) sb_nil)
set_option maxRecDepth 100000 in
theorem sb_X2_setTracks_22 (l : Launch) : sm_SndB l RX2 "setTracks" cX2_setTracks 4 1 1 22 [oA 0, oGr 2 9 0, oI 1, oIl, oIs 3, oA 0, oGr 2 9 0, oI 1, oI 2, oIst, oI 3, oIr] := sb_cons (sd_aload_n (by decide +kernel : decode cX2_setTracks 22 = .ok (.aload_n 0, 1)) rfl) (sb_cons (sd_getr (k := 0) kl_2 (by decide) rfl wm_39 (by decide +kernel : decode cX2_setTracks 23 = .ok (.getfield 9, 3))) (sb_cons (sd_iload_n (by decide +kernel : decode cX2_setTracks 26 = .ok (.iload_n 1, 1)) rfl) (sb_cons (sd_iaload (by decide +kernel : decode cX2_setTracks 27 = .ok (.iaload, 1))) (sb_cons (sd_istore_n (by decide +kernel : decode cX2_setTracks 28 = .ok (.istore_n 3, 1)) rfl) (sb_cons (sd_aload_n (by decide +kernel : decode cX2_setTracks 29 = .ok (.aload_n 0, 1)) rfl) (sb_cons (sd_getr (k := 0) kl_2 (by decide) rfl wm_39 (by decide +kernel : decode cX2_setTracks 30 = .ok (.getfield 9, 3))) (sb_cons (sd_iload_n (by decide +kernel : decode cX2_setTracks 33 = .ok (.iload_n 1, 1)) rfl) (sb_cons (sd_iload_n (by decide +kernel : decode cX2_setTracks 34 = .ok (.iload_n 2, 1)) rfl) (sb_cons (sd_iastore (by decide +kernel : decode cX2_setTracks 35 = .ok (.iastore, 1))) (sb_cons (sd_iload_n (by decide +kernel : decode cX2_setTracks 36 = .ok (.iload_n 3, 1)) rfl) (sb_cons (sd_ireturn (x := 0) rfl (by decide +kernel : decode cX2_setTracks 37 = .ok (.ireturn, 1))) sb_nil)))))))))))
theorem sn_X2_setTracks (l : Launch) : sm_SndT l RX2 "setTracks" cX2_setTracks 4 1 1 tb_X2_setTracks := st_cons (sb_X2_setTracks_0 l) (st_cons (sb_X2_setTracks_9 l) (st_cons (sb_X2_setTracks_19 l) (st_cons (sb_X2_setTracks_22 l) (st_nil))))
set_option maxRecDepth 100000 in
set_option maxHeartbeats 4000000 in
theorem ok_X2_setTracks : sm_Ok tb_X2_setTracks 4 0 0 p_X2_setTracks f_X2_setTracks := by
  intro as w hp ha hw
  match as, hp with
  | [.inr (.inl a), .inl s, .inl v], hp =>
  refine ⟨Nat.le_of_ble_eq_true rfl, fun Z hZ => ?_⟩
  obtain ⟨hT, hL⟩ := hp
  obtain ⟨l0, l1, l2, l3, l4, l5, l6, l7, r0, r1, r2, r3, r4, r5, r6⟩ := lS hT hL
  refine hZ (fun _ => false) 16 0 _ _ _ _ _ ?_
  simp only [sm_run, sm_blk, sm_get, sm_ent, sm_ents, sm_wds, sm_wd, sm_nl, sm_pop, sm_back, sm_cases, oK, oLK, oL, oI, oA, oJ, oIs, oAs, oJs, oInc, oAdd, oSub, oMul, oDiv, oRem, oNeg, oAnd, oAndB, oOr, oShl, oI2c, oI2l, oL2i, oLand, oLor, oLshl, oLshr, oLushr, oLcmp, oDup, oDup2, oPop, oGo, oFg, oEq, oNe, oLt, oGe, oGt, oLe, oEq0, oNe0, oLt0, oGe0, oGt0, oLe0, oSw, oGi, oGr, oPi, oPz, oPr, oLen, oIl, oZl, oCl, oRl, oIst, oZst, oCst, oRst, oCopy, oNew, oNa, oNa2, oObj, oCs, oCv, oCi, oIr, oZr, oVr, Nat.beq, List.getElem?_cons_zero, List.getElem?_cons_succ, List.set_cons_zero, List.set_cons_succ, List.length_cons, List.length_nil, List.nil_append, List.cons_append, List.append_nil, List.replicate_succ, List.replicate_zero, Nat.reduceAdd, Nat.reduceSub, Nat.reduceLT, Nat.reduceLeDiff, Nat.reduceBEq, true_and, and_true, Nat.zero_add, Nat.add_zero, Nat.le_refl, Option.some.injEq, exists_eq_left', true_or, or_true, or_false, false_or, reduceCtorEq, Prod.mk.injEq, Sum.inl.injEq, and_self, false_and, and_false, not_true_eq_false, not_false_eq_true, false_implies, true_implies, sm_r, Int.add_zero, Int.zero_add, wI_wsI, wS_wsI, wR_wsI, wI_wCp, wS_wCp, wR_wCp, Nat.reduceEqDiff, reduceIte, sT_iff, sT_iffC, wIf_ne, ne_eq, Bool.false_or, Bool.true_or, Bool.or_false, Bool.or_true, Bool.or_self, Nat.left_eq_add, Nat.add_eq_left, Nat.add_left_inj, tb_X2_setTracks, p_X7_isStation, f_X7_isStation, p_X2_setTracks, f_X2_setTracks, l0, l1, r0, b01]
  repeat' (first | exact True.intro | with_reducible assumption | with_reducible refine And.intro ?_ ?_ | intro _)
  all_goals first
    | omega
    | assumption
    | rfl
    | (split <;> omega)
    | grind
    | skip
theorem met_X2_setTracks (l : Launch) : sm_Met l yX2_setTracks cX2_setTracks 4 (some .int) 1 0 0 p_X2_setTracks f_X2_setTracks := sm_met 1 (Or.inr (Or.inl ⟨rfl, rfl⟩)) (by decide +kernel) (sn_X2_setTracks l) ok_X2_setTracks
def p_X2_setRunning : List sm_V → sm_W → Prop
  | [.inr (.inl a), .inl s, .inl v], w => sT w ∧ sm_isL a
  | _, _ => False
def f_X2_setRunning : sm_F
  | [.inr (.inl a), .inl s, .inl v], w => (some (.inl (if 0 ≤ s ∧ s ≤ 6 then (if 1 ≤ v ∧ v ≤ 30 then wI w (a + 2) s else -2) else -1)), (if 0 ≤ s ∧ s ≤ 6 then (if 1 ≤ v ∧ v ≤ 30 then wsI w (a + 2) s v else w) else w))
  | _, w => (none, w)
def tb_X2_setRunning : List (Nat × List sm_O) := [(0, [oI 1, oCs p_X7_isStretch f_X7_isStretch 0 0 1, oNe0 9, oK (-1), oIr]),
  (9, [oI 2, oK 1, oLt 20, oI 2, oK 30, oLe 23, oGo 20]),
  (20, [oK (-2), oIr]),
  (23, [oA 0, oGr 2 9 1, oI 1, oIl, oIs 3, oA 0, oGr 2 9 1, oI 1, oI 2, oIst, oI 3, oIr])]
set_option maxRecDepth 100000 in
theorem sb_X2_setRunning_0 (l : Launch) : sm_SndB l RX2 "setRunning" cX2_setRunning 4 1 1 0 [oI 1, oCs p_X7_isStretch f_X7_isStretch 0 0 1, oNe0 9, oK (-1), oIr] := sb_cons (sd_iload_n (by decide +kernel : decode cX2_setRunning 0 = .ok (.iload_n 1, 1)) rfl) (sb_cons (sd_callsN (n := 1) (met_X7_isStretch l) (by decide) (by decide) wm_213 (by decide +kernel) wm_1 ⟨by decide +kernel, by decide +kernel, by decide +kernel⟩ wm_212 (by decide +kernel : decode cX2_setRunning 1 = .ok (.invokestatic 56, 3))) (sb_cons (sd_ne0 (by decide +kernel : decode cX2_setRunning 4 = .ok (.ifCond .ne 5, 3)) (by decide)) (sb_cons (sd_iconst (by decide +kernel : decode cX2_setRunning 7 = .ok (.iconst (-1), 1)) ⟨by decide, by decide⟩) (sb_cons (sd_ireturn (x := 0) rfl (by decide +kernel : decode cX2_setRunning 8 = .ok (.ireturn, 1))) sb_nil))))
set_option maxRecDepth 100000 in
theorem sb_X2_setRunning_9 (l : Launch) : sm_SndB l RX2 "setRunning" cX2_setRunning 4 1 1 9 [oI 2, oK 1, oLt 20, oI 2, oK 30, oLe 23, oGo 20] := sb_cons (sd_iload_n (by decide +kernel : decode cX2_setRunning 9 = .ok (.iload_n 2, 1)) rfl) (sb_cons (sd_iconst (by decide +kernel : decode cX2_setRunning 10 = .ok (.iconst 1, 1)) ⟨by decide, by decide⟩) (sb_cons (sd_lt (by decide +kernel : decode cX2_setRunning 11 = .ok (.if_icmp .lt 9, 3)) (by decide)) (sb_cons (sd_iload_n (by decide +kernel : decode cX2_setRunning 14 = .ok (.iload_n 2, 1)) rfl) (sb_cons (sd_bipush (by decide +kernel : decode cX2_setRunning 15 = .ok (.bipush 30, 2)) ⟨by decide, by decide⟩ (by decide)) (sb_cons (sd_le (by decide +kernel : decode cX2_setRunning 17 = .ok (.if_icmp .le 6, 3)) (by decide)) (sb_cons (sd_fall (x := 0)) sb_nil))))))
set_option maxRecDepth 100000 in
theorem sb_X2_setRunning_20 (l : Launch) : sm_SndB l RX2 "setRunning" cX2_setRunning 4 1 1 20 [oK (-2), oIr] := sb_cons (sd_bipush (by decide +kernel : decode cX2_setRunning 20 = .ok (.bipush (-2), 2)) ⟨by decide, by decide⟩ (by decide)) (sb_cons (sd_ireturn (x := 0) rfl (by decide +kernel : decode cX2_setRunning 22 = .ok (.ireturn, 1))) sb_nil)
set_option maxRecDepth 100000 in
theorem sb_X2_setRunning_23 (l : Launch) : sm_SndB l RX2 "setRunning" cX2_setRunning 4 1 1 23 [oA 0, oGr 2 9 1, oI 1, oIl, oIs 3, oA 0, oGr 2 9 1, oI 1, oI 2, oIst, oI 3, oIr] := sb_cons (sd_aload_n (by decide +kernel : decode cX2_setRunning 23 = .ok (.aload_n 0, 1)) rfl) (sb_cons (sd_getr (k := 1) kl_2 (by decide) rfl wm_42 (by decide +kernel : decode cX2_setRunning 24 = .ok (.getfield 15, 3))) (sb_cons (sd_iload_n (by decide +kernel : decode cX2_setRunning 27 = .ok (.iload_n 1, 1)) rfl) (sb_cons (sd_iaload (by decide +kernel : decode cX2_setRunning 28 = .ok (.iaload, 1))) (sb_cons (sd_istore_n (by decide +kernel : decode cX2_setRunning 29 = .ok (.istore_n 3, 1)) rfl) (sb_cons (sd_aload_n (by decide +kernel : decode cX2_setRunning 30 = .ok (.aload_n 0, 1)) rfl) (sb_cons (sd_getr (k := 1) kl_2 (by decide) rfl wm_42 (by decide +kernel : decode cX2_setRunning 31 = .ok (.getfield 15, 3))) (sb_cons (sd_iload_n (by decide +kernel : decode cX2_setRunning 34 = .ok (.iload_n 1, 1)) rfl) (sb_cons (sd_iload_n (by decide +kernel : decode cX2_setRunning 35 = .ok (.iload_n 2, 1)) rfl) (sb_cons (sd_iastore (by decide +kernel : decode cX2_setRunning 36 = .ok (.iastore, 1))) (sb_cons (sd_iload_n (by decide +kernel : decode cX2_setRunning 37 = .ok (.iload_n 3, 1)) rfl) (sb_cons (sd_ireturn (x := 0) rfl (by decide +kernel : decode cX2_setRunning 38 = .ok (.ireturn, 1))) sb_nil)))))))))))
theorem sn_X2_setRunning (l : Launch) : sm_SndT l RX2 "setRunning" cX2_setRunning 4 1 1 tb_X2_setRunning := st_cons (sb_X2_setRunning_0 l) (st_cons (sb_X2_setRunning_9 l) (st_cons (sb_X2_setRunning_20 l) (st_cons (sb_X2_setRunning_23 l) (st_nil))))
set_option maxRecDepth 100000 in
set_option maxHeartbeats 4000000 in
theorem ok_X2_setRunning : sm_Ok tb_X2_setRunning 4 0 0 p_X2_setRunning f_X2_setRunning := by
  intro as w hp ha hw
  match as, hp with
  | [.inr (.inl a), .inl s, .inl v], hp =>
  refine ⟨Nat.le_of_ble_eq_true rfl, fun Z hZ => ?_⟩
  obtain ⟨hT, hL⟩ := hp
  obtain ⟨l0, l1, l2, l3, l4, l5, l6, l7, r0, r1, r2, r3, r4, r5, r6⟩ := lS hT hL
  refine hZ (fun _ => false) 16 0 _ _ _ _ _ ?_
  simp only [sm_run, sm_blk, sm_get, sm_ent, sm_ents, sm_wds, sm_wd, sm_nl, sm_pop, sm_back, sm_cases, oK, oLK, oL, oI, oA, oJ, oIs, oAs, oJs, oInc, oAdd, oSub, oMul, oDiv, oRem, oNeg, oAnd, oAndB, oOr, oShl, oI2c, oI2l, oL2i, oLand, oLor, oLshl, oLshr, oLushr, oLcmp, oDup, oDup2, oPop, oGo, oFg, oEq, oNe, oLt, oGe, oGt, oLe, oEq0, oNe0, oLt0, oGe0, oGt0, oLe0, oSw, oGi, oGr, oPi, oPz, oPr, oLen, oIl, oZl, oCl, oRl, oIst, oZst, oCst, oRst, oCopy, oNew, oNa, oNa2, oObj, oCs, oCv, oCi, oIr, oZr, oVr, Nat.beq, List.getElem?_cons_zero, List.getElem?_cons_succ, List.set_cons_zero, List.set_cons_succ, List.length_cons, List.length_nil, List.nil_append, List.cons_append, List.append_nil, List.replicate_succ, List.replicate_zero, Nat.reduceAdd, Nat.reduceSub, Nat.reduceLT, Nat.reduceLeDiff, Nat.reduceBEq, true_and, and_true, Nat.zero_add, Nat.add_zero, Nat.le_refl, Option.some.injEq, exists_eq_left', true_or, or_true, or_false, false_or, reduceCtorEq, Prod.mk.injEq, Sum.inl.injEq, and_self, false_and, and_false, not_true_eq_false, not_false_eq_true, false_implies, true_implies, sm_r, Int.add_zero, Int.zero_add, wI_wsI, wS_wsI, wR_wsI, wI_wCp, wS_wCp, wR_wCp, Nat.reduceEqDiff, reduceIte, sT_iff, sT_iffC, wIf_ne, ne_eq, Bool.false_or, Bool.true_or, Bool.or_false, Bool.or_true, Bool.or_self, Nat.left_eq_add, Nat.add_eq_left, Nat.add_left_inj, tb_X2_setRunning, p_X7_isStretch, f_X7_isStretch, p_X2_setRunning, f_X2_setRunning, l0, l2, r1, b01]
  repeat' (first | exact True.intro | with_reducible assumption | with_reducible refine And.intro ?_ ?_ | intro _)
  all_goals first
    | omega
    | assumption
    | rfl
    | (split <;> omega)
    | grind
    | skip
theorem met_X2_setRunning (l : Launch) : sm_Met l yX2_setRunning cX2_setRunning 4 (some .int) 1 0 0 p_X2_setRunning f_X2_setRunning := sm_met 1 (Or.inr (Or.inl ⟨rfl, rfl⟩)) (by decide +kernel) (sn_X2_setRunning l) ok_X2_setRunning
def lNewSh (a : Nat) (w : sm_W) (p q c d e : Int) : sm_W := wsI (wsI (wsI (wsI (wsI (wsI w (a + 3) (wI w a 7) p) (a + 4) (wI w a 7) q) (a + 5) (wI w a 7) c) (a + 6) (wI w a 7) d) (a + 7) (wI w a 7) e) a 7 (wI w a 7 + 1)
def p_X2_addShuttle : List sm_V → sm_W → Prop
  | [.inr (.inl a), .inl p, .inl q, .inl c, .inl d, .inl e], w => lOK w a
  | _, _ => False
def f_X2_addShuttle : sm_F
  | [.inr (.inl a), .inl p, .inl q, .inl c, .inl d, .inl e], w => (some (.inl (if mShOk p q c d e < 0 then mShOk p q c d e else (if wI w a 7 = 8 then -4 else wI w a 7))), (if mShOk p q c d e < 0 then w else (if wI w a 7 = 8 then w else lNewSh a w p q c d e)))
  | _, w => (none, w)
def tb_X2_addShuttle : List (Nat × List sm_O) := [(0, [oI 1, oCs p_X7_isStation f_X7_isStation 0 0 1, oEq0 14, oI 2, oCs p_X7_isStation f_X7_isStation 0 0 1, oNe0 16, oGo 14]),
  (14, [oK (-1), oIr]),
  (16, [oI 1, oI 2, oEq 32, oI 3, oLt0 32, oI 3, oK 300, oLe 35, oGo 32]),
  (32, [oK (-2), oIr]),
  (35, [oI 4, oLt0 59, oI 4, oK 20, oGt 59, oI 5, oLt0 59, oI 5, oK 9, oLe 62, oGo 59]),
  (59, [oK (-2), oIr]),
  (62, [oA 0, oGi 2 9 7, oK 8, oLt 74, oK (-4), oIr]),
  (74, [oA 0, oGr 2 9 2, oA 0, oGi 2 9 7, oI 1, oIst, oA 0, oGr 2 9 3, oA 0, oGi 2 9 7, oI 2, oIst, oA 0, oGr 2 9 4, oA 0, oGi 2 9 7, oI 3, oIst, oA 0, oGr 2 9 5, oA 0, oGi 2 9 7, oI 4, oIst, oA 0, oGr 2 9 6, oA 0, oGi 2 9 7, oI 5, oIst, oA 0, oDup, oGi 2 9 7, oK 1, oAdd, oPi 2 9 7, oA 0, oGi 2 9 7, oK 1, oSub, oIr])]
set_option maxRecDepth 100000 in
theorem sb_X2_addShuttle_0 (l : Launch) : sm_SndB l RX2 "addShuttle" cX2_addShuttle 6 1 1 0 [oI 1, oCs p_X7_isStation f_X7_isStation 0 0 1, oEq0 14, oI 2, oCs p_X7_isStation f_X7_isStation 0 0 1, oNe0 16, oGo 14] := sb_cons (sd_iload_n (by decide +kernel : decode cX2_addShuttle 0 = .ok (.iload_n 1, 1)) rfl) (sb_cons (sd_callsN (n := 1) (met_X7_isStation l) (by decide) (by decide) wm_200 (by decide +kernel) wm_1 ⟨by decide +kernel, by decide +kernel, by decide +kernel⟩ wm_199 (by decide +kernel : decode cX2_addShuttle 1 = .ok (.invokestatic 52, 3))) (sb_cons (sd_eq0 (by decide +kernel : decode cX2_addShuttle 4 = .ok (.ifCond .eq 10, 3)) (by decide)) (sb_cons (sd_iload_n (by decide +kernel : decode cX2_addShuttle 7 = .ok (.iload_n 2, 1)) rfl) (sb_cons (sd_callsN (n := 1) (met_X7_isStation l) (by decide) (by decide) wm_200 (by decide +kernel) wm_1 ⟨by decide +kernel, by decide +kernel, by decide +kernel⟩ wm_199 (by decide +kernel : decode cX2_addShuttle 8 = .ok (.invokestatic 52, 3))) (sb_cons (sd_ne0 (by decide +kernel : decode cX2_addShuttle 11 = .ok (.ifCond .ne 5, 3)) (by decide)) (sb_cons (sd_fall (x := 0)) sb_nil))))))
set_option maxRecDepth 100000 in
theorem sb_X2_addShuttle_14 (l : Launch) : sm_SndB l RX2 "addShuttle" cX2_addShuttle 6 1 1 14 [oK (-1), oIr] := sb_cons (sd_iconst (by decide +kernel : decode cX2_addShuttle 14 = .ok (.iconst (-1), 1)) ⟨by decide, by decide⟩) (sb_cons (sd_ireturn (x := 0) rfl (by decide +kernel : decode cX2_addShuttle 15 = .ok (.ireturn, 1))) sb_nil)
set_option maxRecDepth 100000 in
theorem sb_X2_addShuttle_16 (l : Launch) : sm_SndB l RX2 "addShuttle" cX2_addShuttle 6 1 1 16 [oI 1, oI 2, oEq 32, oI 3, oLt0 32, oI 3, oK 300, oLe 35, oGo 32] := sb_cons (sd_iload_n (by decide +kernel : decode cX2_addShuttle 16 = .ok (.iload_n 1, 1)) rfl) (sb_cons (sd_iload_n (by decide +kernel : decode cX2_addShuttle 17 = .ok (.iload_n 2, 1)) rfl) (sb_cons (sd_eq (by decide +kernel : decode cX2_addShuttle 18 = .ok (.if_icmp .eq 14, 3)) (by decide)) (sb_cons (sd_iload_n (by decide +kernel : decode cX2_addShuttle 21 = .ok (.iload_n 3, 1)) rfl) (sb_cons (sd_lt0 (by decide +kernel : decode cX2_addShuttle 22 = .ok (.ifCond .lt 10, 3)) (by decide)) (sb_cons (sd_iload_n (by decide +kernel : decode cX2_addShuttle 25 = .ok (.iload_n 3, 1)) rfl) (sb_cons (sd_sipush (by decide +kernel : decode cX2_addShuttle 26 = .ok (.sipush 300, 3)) ⟨by decide, by decide⟩ (by decide)) (sb_cons (sd_le (by decide +kernel : decode cX2_addShuttle 29 = .ok (.if_icmp .le 6, 3)) (by decide)) (sb_cons (sd_fall (x := 0)) sb_nil))))))))
set_option maxRecDepth 100000 in
theorem sb_X2_addShuttle_32 (l : Launch) : sm_SndB l RX2 "addShuttle" cX2_addShuttle 6 1 1 32 [oK (-2), oIr] := sb_cons (sd_bipush (by decide +kernel : decode cX2_addShuttle 32 = .ok (.bipush (-2), 2)) ⟨by decide, by decide⟩ (by decide)) (sb_cons (sd_ireturn (x := 0) rfl (by decide +kernel : decode cX2_addShuttle 34 = .ok (.ireturn, 1))) sb_nil)
set_option maxRecDepth 100000 in
theorem sb_X2_addShuttle_35 (l : Launch) : sm_SndB l RX2 "addShuttle" cX2_addShuttle 6 1 1 35 [oI 4, oLt0 59, oI 4, oK 20, oGt 59, oI 5, oLt0 59, oI 5, oK 9, oLe 62, oGo 59] := sb_cons (sd_iload (by decide +kernel : decode cX2_addShuttle 35 = .ok (.iload 4, 2))) (sb_cons (sd_lt0 (by decide +kernel : decode cX2_addShuttle 37 = .ok (.ifCond .lt 22, 3)) (by decide)) (sb_cons (sd_iload (by decide +kernel : decode cX2_addShuttle 40 = .ok (.iload 4, 2))) (sb_cons (sd_bipush (by decide +kernel : decode cX2_addShuttle 42 = .ok (.bipush 20, 2)) ⟨by decide, by decide⟩ (by decide)) (sb_cons (sd_gt (by decide +kernel : decode cX2_addShuttle 44 = .ok (.if_icmp .gt 15, 3)) (by decide)) (sb_cons (sd_iload (by decide +kernel : decode cX2_addShuttle 47 = .ok (.iload 5, 2))) (sb_cons (sd_lt0 (by decide +kernel : decode cX2_addShuttle 49 = .ok (.ifCond .lt 10, 3)) (by decide)) (sb_cons (sd_iload (by decide +kernel : decode cX2_addShuttle 52 = .ok (.iload 5, 2))) (sb_cons (sd_bipush (by decide +kernel : decode cX2_addShuttle 54 = .ok (.bipush 9, 2)) ⟨by decide, by decide⟩ (by decide)) (sb_cons (sd_le (by decide +kernel : decode cX2_addShuttle 56 = .ok (.if_icmp .le 6, 3)) (by decide)) (sb_cons (sd_fall (x := 0)) sb_nil))))))))))
set_option maxRecDepth 100000 in
theorem sb_X2_addShuttle_59 (l : Launch) : sm_SndB l RX2 "addShuttle" cX2_addShuttle 6 1 1 59 [oK (-2), oIr] := sb_cons (sd_bipush (by decide +kernel : decode cX2_addShuttle 59 = .ok (.bipush (-2), 2)) ⟨by decide, by decide⟩ (by decide)) (sb_cons (sd_ireturn (x := 0) rfl (by decide +kernel : decode cX2_addShuttle 61 = .ok (.ireturn, 1))) sb_nil)
set_option maxRecDepth 100000 in
theorem sb_X2_addShuttle_62 (l : Launch) : sm_SndB l RX2 "addShuttle" cX2_addShuttle 6 1 1 62 [oA 0, oGi 2 9 7, oK 8, oLt 74, oK (-4), oIr] := sb_cons (sd_aload_n (by decide +kernel : decode cX2_addShuttle 62 = .ok (.aload_n 0, 1)) rfl) (sb_cons (sd_geti (k := 7) kl_2 (by decide) rfl wm_58 (by decide +kernel : decode cX2_addShuttle 63 = .ok (.getfield 45, 3))) (sb_cons (sd_bipush (by decide +kernel : decode cX2_addShuttle 66 = .ok (.bipush 8, 2)) ⟨by decide, by decide⟩ (by decide)) (sb_cons (sd_lt (by decide +kernel : decode cX2_addShuttle 68 = .ok (.if_icmp .lt 6, 3)) (by decide)) (sb_cons (sd_bipush (by decide +kernel : decode cX2_addShuttle 71 = .ok (.bipush (-4), 2)) ⟨by decide, by decide⟩ (by decide)) (sb_cons (sd_ireturn (x := 0) rfl (by decide +kernel : decode cX2_addShuttle 73 = .ok (.ireturn, 1))) sb_nil)))))
set_option maxRecDepth 100000 in
theorem sb_X2_addShuttle_74 (l : Launch) : sm_SndB l RX2 "addShuttle" cX2_addShuttle 6 1 1 74 [oA 0, oGr 2 9 2, oA 0, oGi 2 9 7, oI 1, oIst, oA 0, oGr 2 9 3, oA 0, oGi 2 9 7, oI 2, oIst, oA 0, oGr 2 9 4, oA 0, oGi 2 9 7, oI 3, oIst, oA 0, oGr 2 9 5, oA 0, oGi 2 9 7, oI 4, oIst, oA 0, oGr 2 9 6, oA 0, oGi 2 9 7, oI 5, oIst, oA 0, oDup, oGi 2 9 7, oK 1, oAdd, oPi 2 9 7, oA 0, oGi 2 9 7, oK 1, oSub, oIr] := sb_cons (sd_aload_n (by decide +kernel : decode cX2_addShuttle 74 = .ok (.aload_n 0, 1)) rfl) (sb_cons (sd_getr (k := 2) kl_2 (by decide) rfl wm_45 (by decide +kernel : decode cX2_addShuttle 75 = .ok (.getfield 18, 3))) (sb_cons (sd_aload_n (by decide +kernel : decode cX2_addShuttle 78 = .ok (.aload_n 0, 1)) rfl) (sb_cons (sd_geti (k := 7) kl_2 (by decide) rfl wm_58 (by decide +kernel : decode cX2_addShuttle 79 = .ok (.getfield 45, 3))) (sb_cons (sd_iload_n (by decide +kernel : decode cX2_addShuttle 82 = .ok (.iload_n 1, 1)) rfl) (sb_cons (sd_iastore (by decide +kernel : decode cX2_addShuttle 83 = .ok (.iastore, 1))) (sb_cons (sd_aload_n (by decide +kernel : decode cX2_addShuttle 84 = .ok (.aload_n 0, 1)) rfl) (sb_cons (sd_getr (k := 3) kl_2 (by decide) rfl wm_47 (by decide +kernel : decode cX2_addShuttle 85 = .ok (.getfield 21, 3))) (sb_cons (sd_aload_n (by decide +kernel : decode cX2_addShuttle 88 = .ok (.aload_n 0, 1)) rfl) (sb_cons (sd_geti (k := 7) kl_2 (by decide) rfl wm_58 (by decide +kernel : decode cX2_addShuttle 89 = .ok (.getfield 45, 3))) (sb_cons (sd_iload_n (by decide +kernel : decode cX2_addShuttle 92 = .ok (.iload_n 2, 1)) rfl) (sb_cons (sd_iastore (by decide +kernel : decode cX2_addShuttle 93 = .ok (.iastore, 1))) (sb_cons (sd_aload_n (by decide +kernel : decode cX2_addShuttle 94 = .ok (.aload_n 0, 1)) rfl) (sb_cons (sd_getr (k := 4) kl_2 (by decide) rfl wm_49 (by decide +kernel : decode cX2_addShuttle 95 = .ok (.getfield 24, 3))) (sb_cons (sd_aload_n (by decide +kernel : decode cX2_addShuttle 98 = .ok (.aload_n 0, 1)) rfl) (sb_cons (sd_geti (k := 7) kl_2 (by decide) rfl wm_58 (by decide +kernel : decode cX2_addShuttle 99 = .ok (.getfield 45, 3))) (sb_cons (sd_iload_n (by decide +kernel : decode cX2_addShuttle 102 = .ok (.iload_n 3, 1)) rfl) (sb_cons (sd_iastore (by decide +kernel : decode cX2_addShuttle 103 = .ok (.iastore, 1))) (sb_cons (sd_aload_n (by decide +kernel : decode cX2_addShuttle 104 = .ok (.aload_n 0, 1)) rfl) (sb_cons (sd_getr (k := 5) kl_2 (by decide) rfl wm_51 (by decide +kernel : decode cX2_addShuttle 105 = .ok (.getfield 27, 3))) (sb_cons (sd_aload_n (by decide +kernel : decode cX2_addShuttle 108 = .ok (.aload_n 0, 1)) rfl) (sb_cons (sd_geti (k := 7) kl_2 (by decide) rfl wm_58 (by decide +kernel : decode cX2_addShuttle 109 = .ok (.getfield 45, 3))) (sb_cons (sd_iload (by decide +kernel : decode cX2_addShuttle 112 = .ok (.iload 4, 2))) (sb_cons (sd_iastore (by decide +kernel : decode cX2_addShuttle 114 = .ok (.iastore, 1))) (sb_cons (sd_aload_n (by decide +kernel : decode cX2_addShuttle 115 = .ok (.aload_n 0, 1)) rfl) (sb_cons (sd_getr (k := 6) kl_2 (by decide) rfl wm_53 (by decide +kernel : decode cX2_addShuttle 116 = .ok (.getfield 30, 3))) (sb_cons (sd_aload_n (by decide +kernel : decode cX2_addShuttle 119 = .ok (.aload_n 0, 1)) rfl) (sb_cons (sd_geti (k := 7) kl_2 (by decide) rfl wm_58 (by decide +kernel : decode cX2_addShuttle 120 = .ok (.getfield 45, 3))) (sb_cons (sd_iload (by decide +kernel : decode cX2_addShuttle 123 = .ok (.iload 5, 2))) (sb_cons (sd_iastore (by decide +kernel : decode cX2_addShuttle 125 = .ok (.iastore, 1))) (sb_cons (sd_aload_n (by decide +kernel : decode cX2_addShuttle 126 = .ok (.aload_n 0, 1)) rfl) (sb_cons (sd_dup (by decide +kernel : decode cX2_addShuttle 127 = .ok (.dup, 1))) (sb_cons (sd_geti (k := 7) kl_2 (by decide) rfl wm_58 (by decide +kernel : decode cX2_addShuttle 128 = .ok (.getfield 45, 3))) (sb_cons (sd_iconst (by decide +kernel : decode cX2_addShuttle 131 = .ok (.iconst 1, 1)) ⟨by decide, by decide⟩) (sb_cons (sd_iadd (by decide +kernel : decode cX2_addShuttle 132 = .ok (.iadd, 1))) (sb_cons (sd_puti (k := 7) kl_2 (by decide) rfl (Or.inl rfl) wm_58 (by decide +kernel : decode cX2_addShuttle 133 = .ok (.putfield 45, 3))) (sb_cons (sd_aload_n (by decide +kernel : decode cX2_addShuttle 136 = .ok (.aload_n 0, 1)) rfl) (sb_cons (sd_geti (k := 7) kl_2 (by decide) rfl wm_58 (by decide +kernel : decode cX2_addShuttle 137 = .ok (.getfield 45, 3))) (sb_cons (sd_iconst (by decide +kernel : decode cX2_addShuttle 140 = .ok (.iconst 1, 1)) ⟨by decide, by decide⟩) (sb_cons (sd_isub (by decide +kernel : decode cX2_addShuttle 141 = .ok (.isub, 1))) (sb_cons (sd_ireturn (x := 0) rfl (by decide +kernel : decode cX2_addShuttle 142 = .ok (.ireturn, 1))) sb_nil))))))))))))))))))))))))))))))))))))))))
theorem sn_X2_addShuttle (l : Launch) : sm_SndT l RX2 "addShuttle" cX2_addShuttle 6 1 1 tb_X2_addShuttle := st_cons (sb_X2_addShuttle_0 l) (st_cons (sb_X2_addShuttle_14 l) (st_cons (sb_X2_addShuttle_16 l) (st_cons (sb_X2_addShuttle_32 l) (st_cons (sb_X2_addShuttle_35 l) (st_cons (sb_X2_addShuttle_59 l) (st_cons (sb_X2_addShuttle_62 l) (st_cons (sb_X2_addShuttle_74 l) (st_nil))))))))
set_option maxRecDepth 100000 in
set_option maxHeartbeats 4000000 in
theorem ok_X2_addShuttle : sm_Ok tb_X2_addShuttle 6 0 0 p_X2_addShuttle f_X2_addShuttle := by
  intro as w hp ha hw
  match as, hp with
  | [.inr (.inl a), .inl p, .inl q, .inl c, .inl d, .inl e], hp =>
  refine ⟨Nat.le_of_ble_eq_true rfl, fun Z hZ => ?_⟩
  obtain ⟨l0, l1, l2, l3, l4, l5, l6, l7, r0, r1, r2, r3, r4, r5, r6⟩ := lS hp.1 hp.2.1
  have hn := lOK_n hp
  have hk : (mShOk p q c d e = if 0 ≤ p ∧ p ≤ 7 ∧ 0 ≤ q ∧ q ≤ 7 then (if p = q then -2 else (if (0 ≤ c ∧ c ≤ 300) ∧ (0 ≤ d ∧ d ≤ 20) ∧ (0 ≤ e ∧ e ≤ 9) then 0 else -2)) else -1) := rfl
  by_cases hok : mShOk p q c d e < 0
  · generalize hze : mShOk p q c d e = z at *
    refine hZ (fun _ => false) 16 0 _ _ _ _ _ ?_
    simp only [sm_run, sm_blk, sm_get, sm_ent, sm_ents, sm_wds, sm_wd, sm_nl, sm_pop, sm_back, sm_cases, oK, oLK, oL, oI, oA, oJ, oIs, oAs, oJs, oInc, oAdd, oSub, oMul, oDiv, oRem, oNeg, oAnd, oAndB, oOr, oShl, oI2c, oI2l, oL2i, oLand, oLor, oLshl, oLshr, oLushr, oLcmp, oDup, oDup2, oPop, oGo, oFg, oEq, oNe, oLt, oGe, oGt, oLe, oEq0, oNe0, oLt0, oGe0, oGt0, oLe0, oSw, oGi, oGr, oPi, oPz, oPr, oLen, oIl, oZl, oCl, oRl, oIst, oZst, oCst, oRst, oCopy, oNew, oNa, oNa2, oObj, oCs, oCv, oCi, oIr, oZr, oVr, Nat.beq, List.getElem?_cons_zero, List.getElem?_cons_succ, List.set_cons_zero, List.set_cons_succ, List.length_cons, List.length_nil, List.nil_append, List.cons_append, List.append_nil, List.replicate_succ, List.replicate_zero, Nat.reduceAdd, Nat.reduceSub, Nat.reduceLT, Nat.reduceLeDiff, Nat.reduceBEq, true_and, and_true, Nat.zero_add, Nat.add_zero, Nat.le_refl, Option.some.injEq, exists_eq_left', true_or, or_true, or_false, false_or, reduceCtorEq, Prod.mk.injEq, Sum.inl.injEq, and_self, false_and, and_false, not_true_eq_false, not_false_eq_true, false_implies, true_implies, sm_r, Int.add_zero, Int.zero_add, wI_wsI, wS_wsI, wR_wsI, wI_wCp, wS_wCp, wR_wCp, Nat.reduceEqDiff, reduceIte, sT_iff, sT_iffC, wIf_ne, ne_eq, Bool.false_or, Bool.true_or, Bool.or_false, Bool.or_true, Bool.or_self, Nat.left_eq_add, Nat.add_eq_left, Nat.add_left_inj, tb_X2_addShuttle, p_X7_isStation, f_X7_isStation, p_X2_addShuttle, f_X2_addShuttle, l0, b01, hze, if_pos hok]
    repeat' (first | exact True.intro | with_reducible assumption | with_reducible refine And.intro ?_ ?_ | intro _)
    all_goals first
      | omega
      | assumption
      | rfl
      | (split <;> omega)
      | grind
      | skip
  · have hx := mShOk_0 hok
    generalize hze : mShOk p q c d e = z at *
    clear hk
    by_cases h8 : wI w a 7 = 8
    · skip
      refine hZ (fun _ => false) 16 0 _ _ _ _ _ ?_
      simp only [sm_run, sm_blk, sm_get, sm_ent, sm_ents, sm_wds, sm_wd, sm_nl, sm_pop, sm_back, sm_cases, oK, oLK, oL, oI, oA, oJ, oIs, oAs, oJs, oInc, oAdd, oSub, oMul, oDiv, oRem, oNeg, oAnd, oAndB, oOr, oShl, oI2c, oI2l, oL2i, oLand, oLor, oLshl, oLshr, oLushr, oLcmp, oDup, oDup2, oPop, oGo, oFg, oEq, oNe, oLt, oGe, oGt, oLe, oEq0, oNe0, oLt0, oGe0, oGt0, oLe0, oSw, oGi, oGr, oPi, oPz, oPr, oLen, oIl, oZl, oCl, oRl, oIst, oZst, oCst, oRst, oCopy, oNew, oNa, oNa2, oObj, oCs, oCv, oCi, oIr, oZr, oVr, Nat.beq, List.getElem?_cons_zero, List.getElem?_cons_succ, List.set_cons_zero, List.set_cons_succ, List.length_cons, List.length_nil, List.nil_append, List.cons_append, List.append_nil, List.replicate_succ, List.replicate_zero, Nat.reduceAdd, Nat.reduceSub, Nat.reduceLT, Nat.reduceLeDiff, Nat.reduceBEq, true_and, and_true, Nat.zero_add, Nat.add_zero, Nat.le_refl, Option.some.injEq, exists_eq_left', true_or, or_true, or_false, false_or, reduceCtorEq, Prod.mk.injEq, Sum.inl.injEq, and_self, false_and, and_false, not_true_eq_false, not_false_eq_true, false_implies, true_implies, sm_r, Int.add_zero, Int.zero_add, wI_wsI, wS_wsI, wR_wsI, wI_wCp, wS_wCp, wR_wCp, Nat.reduceEqDiff, reduceIte, sT_iff, sT_iffC, wIf_ne, ne_eq, Bool.false_or, Bool.true_or, Bool.or_false, Bool.or_true, Bool.or_self, Nat.left_eq_add, Nat.add_eq_left, Nat.add_left_inj, tb_X2_addShuttle, p_X7_isStation, f_X7_isStation, p_X2_addShuttle, f_X2_addShuttle, l0, b01, hze, if_neg hok, if_pos h8]
      repeat' (first | exact True.intro | with_reducible assumption | with_reducible refine And.intro ?_ ?_ | intro _)
      all_goals first
        | omega
        | assumption
        | rfl
        | (split <;> omega)
        | grind
        | skip
    · skip
      refine hZ (fun _ => false) 16 0 _ _ _ _ _ ?_
      simp only [sm_run, sm_blk, sm_get, sm_ent, sm_ents, sm_wds, sm_wd, sm_nl, sm_pop, sm_back, sm_cases, oK, oLK, oL, oI, oA, oJ, oIs, oAs, oJs, oInc, oAdd, oSub, oMul, oDiv, oRem, oNeg, oAnd, oAndB, oOr, oShl, oI2c, oI2l, oL2i, oLand, oLor, oLshl, oLshr, oLushr, oLcmp, oDup, oDup2, oPop, oGo, oFg, oEq, oNe, oLt, oGe, oGt, oLe, oEq0, oNe0, oLt0, oGe0, oGt0, oLe0, oSw, oGi, oGr, oPi, oPz, oPr, oLen, oIl, oZl, oCl, oRl, oIst, oZst, oCst, oRst, oCopy, oNew, oNa, oNa2, oObj, oCs, oCv, oCi, oIr, oZr, oVr, Nat.beq, List.getElem?_cons_zero, List.getElem?_cons_succ, List.set_cons_zero, List.set_cons_succ, List.length_cons, List.length_nil, List.nil_append, List.cons_append, List.append_nil, List.replicate_succ, List.replicate_zero, Nat.reduceAdd, Nat.reduceSub, Nat.reduceLT, Nat.reduceLeDiff, Nat.reduceBEq, true_and, and_true, Nat.zero_add, Nat.add_zero, Nat.le_refl, Option.some.injEq, exists_eq_left', true_or, or_true, or_false, false_or, reduceCtorEq, Prod.mk.injEq, Sum.inl.injEq, and_self, false_and, and_false, not_true_eq_false, not_false_eq_true, false_implies, true_implies, sm_r, Int.add_zero, Int.zero_add, wI_wsI, wS_wsI, wR_wsI, wI_wCp, wS_wCp, wR_wCp, Nat.reduceEqDiff, reduceIte, sT_iff, sT_iffC, wIf_ne, ne_eq, Bool.false_or, Bool.true_or, Bool.or_false, Bool.or_true, Bool.or_self, Nat.left_eq_add, Nat.add_eq_left, Nat.add_left_inj, tb_X2_addShuttle, p_X7_isStation, f_X7_isStation, p_X2_addShuttle, f_X2_addShuttle, l0, l3, l4, l5, l6, l7, r2, r3, r4, r5, r6, b01, hze, if_neg hok, if_neg h8, lNewSh]
      repeat' (first | exact True.intro | with_reducible assumption | with_reducible refine And.intro ?_ ?_ | intro _)
      all_goals first
        | omega
        | assumption
        | rfl
        | (split <;> omega)
        | grind
        | skip
theorem met_X2_addShuttle (l : Launch) : sm_Met l yX2_addShuttle cX2_addShuttle 6 (some .int) 1 0 0 p_X2_addShuttle f_X2_addShuttle := sm_met 1 (Or.inr (Or.inl ⟨rfl, rfl⟩)) (by decide +kernel) (sn_X2_addShuttle l) ok_X2_addShuttle
def lLateE (w : sm_W) (a : Nat) (x v : Int) : Int := if 0 ≤ x ∧ x < wI w a 7 then (if 1 ≤ v ∧ v ≤ 300 then (if wI w (a + 5) x + v ≤ 300 then 0 else -2) else -2) else -1
theorem lLateE_0 {w : sm_W} {a : Nat} {x v : Int} (h : ¬ lLateE w a x v < 0) : 0 ≤ x ∧ x < wI w a 7 ∧ 1 ≤ v ∧ v ≤ 300 ∧ wI w (a + 5) x + v ≤ 300 := by
  unfold lLateE at h
  grind
def p_X2_startLater : List sm_V → sm_W → Prop
  | [.inr (.inl a), .inl x, .inl v], w => lOK w a
  | _, _ => False
def f_X2_startLater : sm_F
  | [.inr (.inl a), .inl x, .inl v], w => (some (.inl (if lLateE w a x v < 0 then lLateE w a x v else wI w (a + 5) x + v)), (if lLateE w a x v < 0 then w else wsI w (a + 5) x (wI w (a + 5) x + v)))
  | _, w => (none, w)
def tb_X2_startLater : List (Nat × List sm_O) := [(0, [oA 0, oI 1, oCv 2 9 p_X2_hasShuttle f_X2_hasShuttle 0 0 2, oNe0 10, oK (-1), oIr]),
  (10, [oI 2, oK 1, oLt 36, oI 2, oK 300, oGt 36, oA 0, oGr 2 9 4, oI 1, oIl, oI 2, oAdd, oK 300, oLe 39, oGo 36]),
  (36, [oK (-2), oIr]),
  (39, [oA 0, oGr 2 9 4, oI 1, oDup2, oIl, oI 2, oAdd, oIst, oA 0, oGr 2 9 4, oI 1, oIl, oIr])]
set_option maxRecDepth 100000 in
theorem sb_X2_startLater_0 (l : Launch) : sm_SndB l RX2 "startLater" cX2_startLater 3 1 1 0 [oA 0, oI 1, oCv 2 9 p_X2_hasShuttle f_X2_hasShuttle 0 0 2, oNe0 10, oK (-1), oIr] := sb_cons (sd_aload_n (by decide +kernel : decode cX2_startLater 0 = .ok (.aload_n 0, 1)) rfl) (sb_cons (sd_iload_n (by decide +kernel : decode cX2_startLater 1 = .ok (.iload_n 1, 1)) rfl) (sb_cons (sd_callv (n := 1) (met_X2_hasShuttle l) (by decide) (by decide) wm_238 wm_235 wm_3 ⟨by decide +kernel, by decide +kernel, by decide +kernel⟩ kl_2 wm_236 wm_237 (by decide +kernel : decode cX2_startLater 2 = .ok (.invokevirtual 59, 3))) (sb_cons (sd_ne0 (by decide +kernel : decode cX2_startLater 5 = .ok (.ifCond .ne 5, 3)) (by decide)) (sb_cons (sd_iconst (by decide +kernel : decode cX2_startLater 8 = .ok (.iconst (-1), 1)) ⟨by decide, by decide⟩) (sb_cons (sd_ireturn (x := 0) rfl (by decide +kernel : decode cX2_startLater 9 = .ok (.ireturn, 1))) sb_nil)))))
set_option maxRecDepth 100000 in
theorem sb_X2_startLater_10 (l : Launch) : sm_SndB l RX2 "startLater" cX2_startLater 3 1 1 10 [oI 2, oK 1, oLt 36, oI 2, oK 300, oGt 36, oA 0, oGr 2 9 4, oI 1, oIl, oI 2, oAdd, oK 300, oLe 39, oGo 36] := sb_cons (sd_iload_n (by decide +kernel : decode cX2_startLater 10 = .ok (.iload_n 2, 1)) rfl) (sb_cons (sd_iconst (by decide +kernel : decode cX2_startLater 11 = .ok (.iconst 1, 1)) ⟨by decide, by decide⟩) (sb_cons (sd_lt (by decide +kernel : decode cX2_startLater 12 = .ok (.if_icmp .lt 24, 3)) (by decide)) (sb_cons (sd_iload_n (by decide +kernel : decode cX2_startLater 15 = .ok (.iload_n 2, 1)) rfl) (sb_cons (sd_sipush (by decide +kernel : decode cX2_startLater 16 = .ok (.sipush 300, 3)) ⟨by decide, by decide⟩ (by decide)) (sb_cons (sd_gt (by decide +kernel : decode cX2_startLater 19 = .ok (.if_icmp .gt 17, 3)) (by decide)) (sb_cons (sd_aload_n (by decide +kernel : decode cX2_startLater 22 = .ok (.aload_n 0, 1)) rfl) (sb_cons (sd_getr (k := 4) kl_2 (by decide) rfl wm_49 (by decide +kernel : decode cX2_startLater 23 = .ok (.getfield 24, 3))) (sb_cons (sd_iload_n (by decide +kernel : decode cX2_startLater 26 = .ok (.iload_n 1, 1)) rfl) (sb_cons (sd_iaload (by decide +kernel : decode cX2_startLater 27 = .ok (.iaload, 1))) (sb_cons (sd_iload_n (by decide +kernel : decode cX2_startLater 28 = .ok (.iload_n 2, 1)) rfl) (sb_cons (sd_iadd (by decide +kernel : decode cX2_startLater 29 = .ok (.iadd, 1))) (sb_cons (sd_sipush (by decide +kernel : decode cX2_startLater 30 = .ok (.sipush 300, 3)) ⟨by decide, by decide⟩ (by decide)) (sb_cons (sd_le (by decide +kernel : decode cX2_startLater 33 = .ok (.if_icmp .le 6, 3)) (by decide)) (sb_cons (sd_fall (x := 0)) sb_nil))))))))))))))
set_option maxRecDepth 100000 in
theorem sb_X2_startLater_36 (l : Launch) : sm_SndB l RX2 "startLater" cX2_startLater 3 1 1 36 [oK (-2), oIr] := sb_cons (sd_bipush (by decide +kernel : decode cX2_startLater 36 = .ok (.bipush (-2), 2)) ⟨by decide, by decide⟩ (by decide)) (sb_cons (sd_ireturn (x := 0) rfl (by decide +kernel : decode cX2_startLater 38 = .ok (.ireturn, 1))) sb_nil)
set_option maxRecDepth 100000 in
theorem sb_X2_startLater_39 (l : Launch) : sm_SndB l RX2 "startLater" cX2_startLater 3 1 1 39 [oA 0, oGr 2 9 4, oI 1, oDup2, oIl, oI 2, oAdd, oIst, oA 0, oGr 2 9 4, oI 1, oIl, oIr] := sb_cons (sd_aload_n (by decide +kernel : decode cX2_startLater 39 = .ok (.aload_n 0, 1)) rfl) (sb_cons (sd_getr (k := 4) kl_2 (by decide) rfl wm_49 (by decide +kernel : decode cX2_startLater 40 = .ok (.getfield 24, 3))) (sb_cons (sd_iload_n (by decide +kernel : decode cX2_startLater 43 = .ok (.iload_n 1, 1)) rfl) (sb_cons (sd_dup2 (by decide +kernel : decode cX2_startLater 44 = .ok (.dup2, 1))) (sb_cons (sd_iaload (by decide +kernel : decode cX2_startLater 45 = .ok (.iaload, 1))) (sb_cons (sd_iload_n (by decide +kernel : decode cX2_startLater 46 = .ok (.iload_n 2, 1)) rfl) (sb_cons (sd_iadd (by decide +kernel : decode cX2_startLater 47 = .ok (.iadd, 1))) (sb_cons (sd_iastore (by decide +kernel : decode cX2_startLater 48 = .ok (.iastore, 1))) (sb_cons (sd_aload_n (by decide +kernel : decode cX2_startLater 49 = .ok (.aload_n 0, 1)) rfl) (sb_cons (sd_getr (k := 4) kl_2 (by decide) rfl wm_49 (by decide +kernel : decode cX2_startLater 50 = .ok (.getfield 24, 3))) (sb_cons (sd_iload_n (by decide +kernel : decode cX2_startLater 53 = .ok (.iload_n 1, 1)) rfl) (sb_cons (sd_iaload (by decide +kernel : decode cX2_startLater 54 = .ok (.iaload, 1))) (sb_cons (sd_ireturn (x := 0) rfl (by decide +kernel : decode cX2_startLater 55 = .ok (.ireturn, 1))) sb_nil))))))))))))
theorem sn_X2_startLater (l : Launch) : sm_SndT l RX2 "startLater" cX2_startLater 3 1 1 tb_X2_startLater := st_cons (sb_X2_startLater_0 l) (st_cons (sb_X2_startLater_10 l) (st_cons (sb_X2_startLater_36 l) (st_cons (sb_X2_startLater_39 l) (st_nil))))
set_option maxRecDepth 100000 in
set_option maxHeartbeats 4000000 in
theorem ok_X2_startLater : sm_Ok tb_X2_startLater 3 0 0 p_X2_startLater f_X2_startLater := by
  intro as w hp ha hw
  match as, hp with
  | [.inr (.inl a), .inl x, .inl v], hp =>
  refine ⟨Nat.le_of_ble_eq_true rfl, fun Z hZ => ?_⟩
  obtain ⟨l0, l1, l2, l3, l4, l5, l6, l7, r0, r1, r2, r3, r4, r5, r6⟩ := lS hp.1 hp.2.1
  have hn := lOK_n hp
  have hT := hp.1
  have hL := hp.2.1
  have hq := fun h0 h1 => lOK_s (s := x) hp h0 h1
  by_cases hok : lLateE w a x v < 0
  · have hk : lLateE w a x v = if 0 ≤ x ∧ x < wI w a 7 then (if 1 ≤ v ∧ v ≤ 300 then (if wI w (a + 5) x + v ≤ 300 then 0 else -2) else -2) else -1 := rfl
    generalize hze : lLateE w a x v = z at *
    refine hZ (fun _ => false) 16 0 _ _ _ _ _ ?_
    simp only [sm_run, sm_blk, sm_get, sm_ent, sm_ents, sm_wds, sm_wd, sm_nl, sm_pop, sm_back, sm_cases, oK, oLK, oL, oI, oA, oJ, oIs, oAs, oJs, oInc, oAdd, oSub, oMul, oDiv, oRem, oNeg, oAnd, oAndB, oOr, oShl, oI2c, oI2l, oL2i, oLand, oLor, oLshl, oLshr, oLushr, oLcmp, oDup, oDup2, oPop, oGo, oFg, oEq, oNe, oLt, oGe, oGt, oLe, oEq0, oNe0, oLt0, oGe0, oGt0, oLe0, oSw, oGi, oGr, oPi, oPz, oPr, oLen, oIl, oZl, oCl, oRl, oIst, oZst, oCst, oRst, oCopy, oNew, oNa, oNa2, oObj, oCs, oCv, oCi, oIr, oZr, oVr, Nat.beq, List.getElem?_cons_zero, List.getElem?_cons_succ, List.set_cons_zero, List.set_cons_succ, List.length_cons, List.length_nil, List.nil_append, List.cons_append, List.append_nil, List.replicate_succ, List.replicate_zero, Nat.reduceAdd, Nat.reduceSub, Nat.reduceLT, Nat.reduceLeDiff, Nat.reduceBEq, true_and, and_true, Nat.zero_add, Nat.add_zero, Nat.le_refl, Option.some.injEq, exists_eq_left', true_or, or_true, or_false, false_or, reduceCtorEq, Prod.mk.injEq, Sum.inl.injEq, and_self, false_and, and_false, not_true_eq_false, not_false_eq_true, false_implies, true_implies, sm_r, Int.add_zero, Int.zero_add, wI_wsI, wS_wsI, wR_wsI, wI_wCp, wS_wCp, wR_wCp, Nat.reduceEqDiff, reduceIte, sT_iff, sT_iffC, wIf_ne, ne_eq, Bool.false_or, Bool.true_or, Bool.or_false, Bool.or_true, Bool.or_self, Nat.left_eq_add, Nat.add_eq_left, Nat.add_left_inj, tb_X2_startLater, p_X2_hasShuttle, f_X2_hasShuttle, p_X2_startLater, f_X2_startLater, l0, l5, r4, hT, hL, b01, hze, if_pos hok]
    repeat' (first | exact True.intro | with_reducible assumption | with_reducible refine And.intro ?_ ?_ | intro _)
    all_goals first
      | omega
      | assumption
      | rfl
      | (split <;> omega)
      | grind
      | skip
  · have hx := lLateE_0 hok
    generalize hze : lLateE w a x v = z at *
    refine hZ (fun _ => false) 16 0 _ _ _ _ _ ?_
    simp only [sm_run, sm_blk, sm_get, sm_ent, sm_ents, sm_wds, sm_wd, sm_nl, sm_pop, sm_back, sm_cases, oK, oLK, oL, oI, oA, oJ, oIs, oAs, oJs, oInc, oAdd, oSub, oMul, oDiv, oRem, oNeg, oAnd, oAndB, oOr, oShl, oI2c, oI2l, oL2i, oLand, oLor, oLshl, oLshr, oLushr, oLcmp, oDup, oDup2, oPop, oGo, oFg, oEq, oNe, oLt, oGe, oGt, oLe, oEq0, oNe0, oLt0, oGe0, oGt0, oLe0, oSw, oGi, oGr, oPi, oPz, oPr, oLen, oIl, oZl, oCl, oRl, oIst, oZst, oCst, oRst, oCopy, oNew, oNa, oNa2, oObj, oCs, oCv, oCi, oIr, oZr, oVr, Nat.beq, List.getElem?_cons_zero, List.getElem?_cons_succ, List.set_cons_zero, List.set_cons_succ, List.length_cons, List.length_nil, List.nil_append, List.cons_append, List.append_nil, List.replicate_succ, List.replicate_zero, Nat.reduceAdd, Nat.reduceSub, Nat.reduceLT, Nat.reduceLeDiff, Nat.reduceBEq, true_and, and_true, Nat.zero_add, Nat.add_zero, Nat.le_refl, Option.some.injEq, exists_eq_left', true_or, or_true, or_false, false_or, reduceCtorEq, Prod.mk.injEq, Sum.inl.injEq, and_self, false_and, and_false, not_true_eq_false, not_false_eq_true, false_implies, true_implies, sm_r, Int.add_zero, Int.zero_add, wI_wsI, wS_wsI, wR_wsI, wI_wCp, wS_wCp, wR_wCp, Nat.reduceEqDiff, reduceIte, sT_iff, sT_iffC, wIf_ne, ne_eq, Bool.false_or, Bool.true_or, Bool.or_false, Bool.or_true, Bool.or_self, Nat.left_eq_add, Nat.add_eq_left, Nat.add_left_inj, tb_X2_startLater, p_X2_hasShuttle, f_X2_hasShuttle, p_X2_startLater, f_X2_startLater, l0, l5, r4, hT, hL, b01, hze, if_neg hok]
    repeat' (first | exact True.intro | with_reducible assumption | with_reducible refine And.intro ?_ ?_ | intro _)
    all_goals first
      | omega
      | assumption
      | rfl
      | (split <;> omega)
      | grind
      | skip
theorem met_X2_startLater (l : Launch) : sm_Met l yX2_startLater cX2_startLater 3 (some .int) 1 0 0 p_X2_startLater f_X2_startLater := sm_met 1 (Or.inr (Or.inl ⟨rfl, rfl⟩)) (by decide +kernel) (sn_X2_startLater l) ok_X2_startLater
def p_X2_setPriority : List sm_V → sm_W → Prop
  | [.inr (.inl a), .inl x, .inl v], w => lOK w a
  | _, _ => False
def f_X2_setPriority : sm_F
  | [.inr (.inl a), .inl x, .inl v], w => (some (.inl (if 0 ≤ x ∧ x < wI w a 7 then (if 0 ≤ v ∧ v ≤ 9 then wI w (a + 7) x else -2) else -1)), (if 0 ≤ x ∧ x < wI w a 7 then (if 0 ≤ v ∧ v ≤ 9 then wsI w (a + 7) x v else w) else w))
  | _, w => (none, w)
def tb_X2_setPriority : List (Nat × List sm_O) := [(0, [oA 0, oI 1, oCv 2 9 p_X2_hasShuttle f_X2_hasShuttle 0 0 2, oNe0 10, oK (-1), oIr]),
  (10, [oI 2, oLt0 20, oI 2, oK 9, oLe 23, oGo 20]),
  (20, [oK (-2), oIr]),
  (23, [oA 0, oGr 2 9 6, oI 1, oIl, oIs 3, oA 0, oGr 2 9 6, oI 1, oI 2, oIst, oI 3, oIr])]
set_option maxRecDepth 100000 in
theorem sb_X2_setPriority_0 (l : Launch) : sm_SndB l RX2 "setPriority" cX2_setPriority 4 1 1 0 [oA 0, oI 1, oCv 2 9 p_X2_hasShuttle f_X2_hasShuttle 0 0 2, oNe0 10, oK (-1), oIr] := sb_cons (sd_aload_n (by decide +kernel : decode cX2_setPriority 0 = .ok (.aload_n 0, 1)) rfl) (sb_cons (sd_iload_n (by decide +kernel : decode cX2_setPriority 1 = .ok (.iload_n 1, 1)) rfl) (sb_cons (sd_callv (n := 1) (met_X2_hasShuttle l) (by decide) (by decide) wm_238 wm_235 wm_3 ⟨by decide +kernel, by decide +kernel, by decide +kernel⟩ kl_2 wm_236 wm_237 (by decide +kernel : decode cX2_setPriority 2 = .ok (.invokevirtual 59, 3))) (sb_cons (sd_ne0 (by decide +kernel : decode cX2_setPriority 5 = .ok (.ifCond .ne 5, 3)) (by decide)) (sb_cons (sd_iconst (by decide +kernel : decode cX2_setPriority 8 = .ok (.iconst (-1), 1)) ⟨by decide, by decide⟩) (sb_cons (sd_ireturn (x := 0) rfl (by decide +kernel : decode cX2_setPriority 9 = .ok (.ireturn, 1))) sb_nil)))))
set_option maxRecDepth 100000 in
theorem sb_X2_setPriority_10 (l : Launch) : sm_SndB l RX2 "setPriority" cX2_setPriority 4 1 1 10 [oI 2, oLt0 20, oI 2, oK 9, oLe 23, oGo 20] := sb_cons (sd_iload_n (by decide +kernel : decode cX2_setPriority 10 = .ok (.iload_n 2, 1)) rfl) (sb_cons (sd_lt0 (by decide +kernel : decode cX2_setPriority 11 = .ok (.ifCond .lt 9, 3)) (by decide)) (sb_cons (sd_iload_n (by decide +kernel : decode cX2_setPriority 14 = .ok (.iload_n 2, 1)) rfl) (sb_cons (sd_bipush (by decide +kernel : decode cX2_setPriority 15 = .ok (.bipush 9, 2)) ⟨by decide, by decide⟩ (by decide)) (sb_cons (sd_le (by decide +kernel : decode cX2_setPriority 17 = .ok (.if_icmp .le 6, 3)) (by decide)) (sb_cons (sd_fall (x := 0)) sb_nil)))))
set_option maxRecDepth 100000 in
theorem sb_X2_setPriority_20 (l : Launch) : sm_SndB l RX2 "setPriority" cX2_setPriority 4 1 1 20 [oK (-2), oIr] := sb_cons (sd_bipush (by decide +kernel : decode cX2_setPriority 20 = .ok (.bipush (-2), 2)) ⟨by decide, by decide⟩ (by decide)) (sb_cons (sd_ireturn (x := 0) rfl (by decide +kernel : decode cX2_setPriority 22 = .ok (.ireturn, 1))) sb_nil)
set_option maxRecDepth 100000 in
theorem sb_X2_setPriority_23 (l : Launch) : sm_SndB l RX2 "setPriority" cX2_setPriority 4 1 1 23 [oA 0, oGr 2 9 6, oI 1, oIl, oIs 3, oA 0, oGr 2 9 6, oI 1, oI 2, oIst, oI 3, oIr] := sb_cons (sd_aload_n (by decide +kernel : decode cX2_setPriority 23 = .ok (.aload_n 0, 1)) rfl) (sb_cons (sd_getr (k := 6) kl_2 (by decide) rfl wm_53 (by decide +kernel : decode cX2_setPriority 24 = .ok (.getfield 30, 3))) (sb_cons (sd_iload_n (by decide +kernel : decode cX2_setPriority 27 = .ok (.iload_n 1, 1)) rfl) (sb_cons (sd_iaload (by decide +kernel : decode cX2_setPriority 28 = .ok (.iaload, 1))) (sb_cons (sd_istore_n (by decide +kernel : decode cX2_setPriority 29 = .ok (.istore_n 3, 1)) rfl) (sb_cons (sd_aload_n (by decide +kernel : decode cX2_setPriority 30 = .ok (.aload_n 0, 1)) rfl) (sb_cons (sd_getr (k := 6) kl_2 (by decide) rfl wm_53 (by decide +kernel : decode cX2_setPriority 31 = .ok (.getfield 30, 3))) (sb_cons (sd_iload_n (by decide +kernel : decode cX2_setPriority 34 = .ok (.iload_n 1, 1)) rfl) (sb_cons (sd_iload_n (by decide +kernel : decode cX2_setPriority 35 = .ok (.iload_n 2, 1)) rfl) (sb_cons (sd_iastore (by decide +kernel : decode cX2_setPriority 36 = .ok (.iastore, 1))) (sb_cons (sd_iload_n (by decide +kernel : decode cX2_setPriority 37 = .ok (.iload_n 3, 1)) rfl) (sb_cons (sd_ireturn (x := 0) rfl (by decide +kernel : decode cX2_setPriority 38 = .ok (.ireturn, 1))) sb_nil)))))))))))
theorem sn_X2_setPriority (l : Launch) : sm_SndT l RX2 "setPriority" cX2_setPriority 4 1 1 tb_X2_setPriority := st_cons (sb_X2_setPriority_0 l) (st_cons (sb_X2_setPriority_10 l) (st_cons (sb_X2_setPriority_20 l) (st_cons (sb_X2_setPriority_23 l) (st_nil))))
set_option maxRecDepth 100000 in
set_option maxHeartbeats 4000000 in
theorem ok_X2_setPriority : sm_Ok tb_X2_setPriority 4 0 0 p_X2_setPriority f_X2_setPriority := by
  intro as w hp ha hw
  match as, hp with
  | [.inr (.inl a), .inl x, .inl v], hp =>
  refine ⟨Nat.le_of_ble_eq_true rfl, fun Z hZ => ?_⟩
  obtain ⟨l0, l1, l2, l3, l4, l5, l6, l7, r0, r1, r2, r3, r4, r5, r6⟩ := lS hp.1 hp.2.1
  have hn := lOK_n hp
  have hT := hp.1
  have hL := hp.2.1
  refine hZ (fun _ => false) 16 0 _ _ _ _ _ ?_
  simp only [sm_run, sm_blk, sm_get, sm_ent, sm_ents, sm_wds, sm_wd, sm_nl, sm_pop, sm_back, sm_cases, oK, oLK, oL, oI, oA, oJ, oIs, oAs, oJs, oInc, oAdd, oSub, oMul, oDiv, oRem, oNeg, oAnd, oAndB, oOr, oShl, oI2c, oI2l, oL2i, oLand, oLor, oLshl, oLshr, oLushr, oLcmp, oDup, oDup2, oPop, oGo, oFg, oEq, oNe, oLt, oGe, oGt, oLe, oEq0, oNe0, oLt0, oGe0, oGt0, oLe0, oSw, oGi, oGr, oPi, oPz, oPr, oLen, oIl, oZl, oCl, oRl, oIst, oZst, oCst, oRst, oCopy, oNew, oNa, oNa2, oObj, oCs, oCv, oCi, oIr, oZr, oVr, Nat.beq, List.getElem?_cons_zero, List.getElem?_cons_succ, List.set_cons_zero, List.set_cons_succ, List.length_cons, List.length_nil, List.nil_append, List.cons_append, List.append_nil, List.replicate_succ, List.replicate_zero, Nat.reduceAdd, Nat.reduceSub, Nat.reduceLT, Nat.reduceLeDiff, Nat.reduceBEq, true_and, and_true, Nat.zero_add, Nat.add_zero, Nat.le_refl, Option.some.injEq, exists_eq_left', true_or, or_true, or_false, false_or, reduceCtorEq, Prod.mk.injEq, Sum.inl.injEq, and_self, false_and, and_false, not_true_eq_false, not_false_eq_true, false_implies, true_implies, sm_r, Int.add_zero, Int.zero_add, wI_wsI, wS_wsI, wR_wsI, wI_wCp, wS_wCp, wR_wCp, Nat.reduceEqDiff, reduceIte, sT_iff, sT_iffC, wIf_ne, ne_eq, Bool.false_or, Bool.true_or, Bool.or_false, Bool.or_true, Bool.or_self, Nat.left_eq_add, Nat.add_eq_left, Nat.add_left_inj, tb_X2_setPriority, p_X2_hasShuttle, f_X2_hasShuttle, p_X2_setPriority, f_X2_setPriority, l0, l7, r6, hT, hL, b01]
  repeat' (first | exact True.intro | with_reducible assumption | with_reducible refine And.intro ?_ ?_ | intro _)
  all_goals first
    | omega
    | assumption
    | rfl
    | (split <;> omega)
    | grind
    | skip
theorem met_X2_setPriority (l : Launch) : sm_Met l yX2_setPriority cX2_setPriority 4 (some .int) 1 0 0 p_X2_setPriority f_X2_setPriority := sm_met 1 (Or.inr (Or.inl ⟨rfl, rfl⟩)) (by decide +kernel) (sn_X2_setPriority l) ok_X2_setPriority
def lRm1 (a : Nat) (k : Int) (w : sm_W) : sm_W := wsI (wsI (wsI (wsI (wsI w (a + 3) k (wI w (a + 3) (k + 1))) (a + 4) k (wI w (a + 4) (k + 1))) (a + 5) k (wI w (a + 5) (k + 1))) (a + 6) k (wI w (a + 6) (k + 1))) (a + 7) k (wI w (a + 7) (k + 1))
def lRm (a : Nat) (w : sm_W) (x : Int) : sm_W := itI (fun j => lRm1 a (x + j)) (wsI w a 7 (wI w a 7 - 1)) (wI w a 7 - 1 - x)
theorem lRmL (a : Nat) (x : Int) (w : sm_W) (n : Int) (hn : 0 ≤ n) : wI (itI (fun j => lRm1 a (x + j)) w n) a = wI w a ∧ (sT w → sT (itI (fun j => lRm1 a (x + j)) w n)) :=
  itI_ind (f := fun j => lRm1 a (x + j)) (fun _ r => wI r a = wI w a ∧ (sT w → sT r)) n ⟨rfl, id⟩ (fun i r i0 _ hr => ⟨by unfold lRm1; rw [wIf_ne (by omega), wIf_ne (by omega), wIf_ne (by omega), wIf_ne (by omega), wIf_ne (by omega), hr.1], hr.2⟩) n hn (Int.le_refl _)
def p_X2_takeAway : List sm_V → sm_W → Prop
  | [.inr (.inl a), .inl x], w => lOK w a
  | _, _ => False
def f_X2_takeAway : sm_F
  | [.inr (.inl a), .inl x], w => (some (.inl (if 0 ≤ x ∧ x < wI w a 7 then wI w a 7 - 1 else -1)), (if 0 ≤ x ∧ x < wI w a 7 then lRm a w x else w))
  | _, w => (none, w)
def tb_X2_takeAway : List (Nat × List sm_O) := [(0, [oA 0, oI 1, oCv 2 9 p_X2_hasShuttle f_X2_hasShuttle 0 0 2, oNe0 10, oK (-1), oIr]),
  (10, [oA 0, oDup, oGi 2 9 7, oK 1, oSub, oPi 2 9 7, oI 1, oIs 2, oFg 1, oGo 22]),
  (22, [oI 2, oA 0, oGi 2 9 7, oGe 106, oA 0, oGr 2 9 2, oI 2, oA 0, oGr 2 9 2, oI 2, oK 1, oAdd, oIl, oIst, oA 0, oGr 2 9 3, oI 2, oA 0, oGr 2 9 3, oI 2, oK 1, oAdd, oIl, oIst, oA 0, oGr 2 9 4, oI 2, oA 0, oGr 2 9 4, oI 2, oK 1, oAdd, oIl, oIst, oA 0, oGr 2 9 5, oI 2, oA 0, oGr 2 9 5, oI 2, oK 1, oAdd, oIl, oIst, oA 0, oGr 2 9 6, oI 2, oA 0, oGr 2 9 6, oI 2, oK 1, oAdd, oIl, oIst, oInc 2 1, oFg 1, oGo 22]),
  (106, [oA 0, oGi 2 9 7, oIr])]
set_option maxRecDepth 100000 in
theorem sb_X2_takeAway_0 (l : Launch) : sm_SndB l RX2 "takeAway" cX2_takeAway 3 1 1 0 [oA 0, oI 1, oCv 2 9 p_X2_hasShuttle f_X2_hasShuttle 0 0 2, oNe0 10, oK (-1), oIr] := sb_cons (sd_aload_n (by decide +kernel : decode cX2_takeAway 0 = .ok (.aload_n 0, 1)) rfl) (sb_cons (sd_iload_n (by decide +kernel : decode cX2_takeAway 1 = .ok (.iload_n 1, 1)) rfl) (sb_cons (sd_callv (n := 1) (met_X2_hasShuttle l) (by decide) (by decide) wm_238 wm_235 wm_3 ⟨by decide +kernel, by decide +kernel, by decide +kernel⟩ kl_2 wm_236 wm_237 (by decide +kernel : decode cX2_takeAway 2 = .ok (.invokevirtual 59, 3))) (sb_cons (sd_ne0 (by decide +kernel : decode cX2_takeAway 5 = .ok (.ifCond .ne 5, 3)) (by decide)) (sb_cons (sd_iconst (by decide +kernel : decode cX2_takeAway 8 = .ok (.iconst (-1), 1)) ⟨by decide, by decide⟩) (sb_cons (sd_ireturn (x := 0) rfl (by decide +kernel : decode cX2_takeAway 9 = .ok (.ireturn, 1))) sb_nil)))))
set_option maxRecDepth 100000 in
theorem sb_X2_takeAway_10 (l : Launch) : sm_SndB l RX2 "takeAway" cX2_takeAway 3 1 1 10 [oA 0, oDup, oGi 2 9 7, oK 1, oSub, oPi 2 9 7, oI 1, oIs 2, oFg 1, oGo 22] := sb_cons (sd_aload_n (by decide +kernel : decode cX2_takeAway 10 = .ok (.aload_n 0, 1)) rfl) (sb_cons (sd_dup (by decide +kernel : decode cX2_takeAway 11 = .ok (.dup, 1))) (sb_cons (sd_geti (k := 7) kl_2 (by decide) rfl wm_58 (by decide +kernel : decode cX2_takeAway 12 = .ok (.getfield 45, 3))) (sb_cons (sd_iconst (by decide +kernel : decode cX2_takeAway 15 = .ok (.iconst 1, 1)) ⟨by decide, by decide⟩) (sb_cons (sd_isub (by decide +kernel : decode cX2_takeAway 16 = .ok (.isub, 1))) (sb_cons (sd_puti (k := 7) kl_2 (by decide) rfl (Or.inl rfl) wm_58 (by decide +kernel : decode cX2_takeAway 17 = .ok (.putfield 45, 3))) (sb_cons (sd_iload_n (by decide +kernel : decode cX2_takeAway 20 = .ok (.iload_n 1, 1)) rfl) (sb_cons (sd_istore_n (by decide +kernel : decode cX2_takeAway 21 = .ok (.istore_n 2, 1)) rfl) (sb_cons (sd_fg) (sb_cons (sd_fall (x := 0)) sb_nil)))))))))
set_option maxRecDepth 100000 in
theorem sb_X2_takeAway_22 (l : Launch) : sm_SndB l RX2 "takeAway" cX2_takeAway 3 1 1 22 [oI 2, oA 0, oGi 2 9 7, oGe 106, oA 0, oGr 2 9 2, oI 2, oA 0, oGr 2 9 2, oI 2, oK 1, oAdd, oIl, oIst, oA 0, oGr 2 9 3, oI 2, oA 0, oGr 2 9 3, oI 2, oK 1, oAdd, oIl, oIst, oA 0, oGr 2 9 4, oI 2, oA 0, oGr 2 9 4, oI 2, oK 1, oAdd, oIl, oIst, oA 0, oGr 2 9 5, oI 2, oA 0, oGr 2 9 5, oI 2, oK 1, oAdd, oIl, oIst, oA 0, oGr 2 9 6, oI 2, oA 0, oGr 2 9 6, oI 2, oK 1, oAdd, oIl, oIst, oInc 2 1, oFg 1, oGo 22] := sb_cons (sd_iload_n (by decide +kernel : decode cX2_takeAway 22 = .ok (.iload_n 2, 1)) rfl) (sb_cons (sd_aload_n (by decide +kernel : decode cX2_takeAway 23 = .ok (.aload_n 0, 1)) rfl) (sb_cons (sd_geti (k := 7) kl_2 (by decide) rfl wm_58 (by decide +kernel : decode cX2_takeAway 24 = .ok (.getfield 45, 3))) (sb_cons (sd_ge (by decide +kernel : decode cX2_takeAway 27 = .ok (.if_icmp .ge 79, 3)) (by decide)) (sb_cons (sd_aload_n (by decide +kernel : decode cX2_takeAway 30 = .ok (.aload_n 0, 1)) rfl) (sb_cons (sd_getr (k := 2) kl_2 (by decide) rfl wm_45 (by decide +kernel : decode cX2_takeAway 31 = .ok (.getfield 18, 3))) (sb_cons (sd_iload_n (by decide +kernel : decode cX2_takeAway 34 = .ok (.iload_n 2, 1)) rfl) (sb_cons (sd_aload_n (by decide +kernel : decode cX2_takeAway 35 = .ok (.aload_n 0, 1)) rfl) (sb_cons (sd_getr (k := 2) kl_2 (by decide) rfl wm_45 (by decide +kernel : decode cX2_takeAway 36 = .ok (.getfield 18, 3))) (sb_cons (sd_iload_n (by decide +kernel : decode cX2_takeAway 39 = .ok (.iload_n 2, 1)) rfl) (sb_cons (sd_iconst (by decide +kernel : decode cX2_takeAway 40 = .ok (.iconst 1, 1)) ⟨by decide, by decide⟩) (sb_cons (sd_iadd (by decide +kernel : decode cX2_takeAway 41 = .ok (.iadd, 1))) (sb_cons (sd_iaload (by decide +kernel : decode cX2_takeAway 42 = .ok (.iaload, 1))) (sb_cons (sd_iastore (by decide +kernel : decode cX2_takeAway 43 = .ok (.iastore, 1))) (sb_cons (sd_aload_n (by decide +kernel : decode cX2_takeAway 44 = .ok (.aload_n 0, 1)) rfl) (sb_cons (sd_getr (k := 3) kl_2 (by decide) rfl wm_47 (by decide +kernel : decode cX2_takeAway 45 = .ok (.getfield 21, 3))) (sb_cons (sd_iload_n (by decide +kernel : decode cX2_takeAway 48 = .ok (.iload_n 2, 1)) rfl) (sb_cons (sd_aload_n (by decide +kernel : decode cX2_takeAway 49 = .ok (.aload_n 0, 1)) rfl) (sb_cons (sd_getr (k := 3) kl_2 (by decide) rfl wm_47 (by decide +kernel : decode cX2_takeAway 50 = .ok (.getfield 21, 3))) (sb_cons (sd_iload_n (by decide +kernel : decode cX2_takeAway 53 = .ok (.iload_n 2, 1)) rfl) (sb_cons (sd_iconst (by decide +kernel : decode cX2_takeAway 54 = .ok (.iconst 1, 1)) ⟨by decide, by decide⟩) (sb_cons (sd_iadd (by decide +kernel : decode cX2_takeAway 55 = .ok (.iadd, 1))) (sb_cons (sd_iaload (by decide +kernel : decode cX2_takeAway 56 = .ok (.iaload, 1))) (sb_cons (sd_iastore (by decide +kernel : decode cX2_takeAway 57 = .ok (.iastore, 1))) (sb_cons (sd_aload_n (by decide +kernel : decode cX2_takeAway 58 = .ok (.aload_n 0, 1)) rfl) (sb_cons (sd_getr (k := 4) kl_2 (by decide) rfl wm_49 (by decide +kernel : decode cX2_takeAway 59 = .ok (.getfield 24, 3))) (sb_cons (sd_iload_n (by decide +kernel : decode cX2_takeAway 62 = .ok (.iload_n 2, 1)) rfl) (sb_cons (sd_aload_n (by decide +kernel : decode cX2_takeAway 63 = .ok (.aload_n 0, 1)) rfl) (sb_cons (sd_getr (k := 4) kl_2 (by decide) rfl wm_49 (by decide +kernel : decode cX2_takeAway 64 = .ok (.getfield 24, 3))) (sb_cons (sd_iload_n (by decide +kernel : decode cX2_takeAway 67 = .ok (.iload_n 2, 1)) rfl) (sb_cons (sd_iconst (by decide +kernel : decode cX2_takeAway 68 = .ok (.iconst 1, 1)) ⟨by decide, by decide⟩) (sb_cons (sd_iadd (by decide +kernel : decode cX2_takeAway 69 = .ok (.iadd, 1))) (sb_cons (sd_iaload (by decide +kernel : decode cX2_takeAway 70 = .ok (.iaload, 1))) (sb_cons (sd_iastore (by decide +kernel : decode cX2_takeAway 71 = .ok (.iastore, 1))) (sb_cons (sd_aload_n (by decide +kernel : decode cX2_takeAway 72 = .ok (.aload_n 0, 1)) rfl) (sb_cons (sd_getr (k := 5) kl_2 (by decide) rfl wm_51 (by decide +kernel : decode cX2_takeAway 73 = .ok (.getfield 27, 3))) (sb_cons (sd_iload_n (by decide +kernel : decode cX2_takeAway 76 = .ok (.iload_n 2, 1)) rfl) (sb_cons (sd_aload_n (by decide +kernel : decode cX2_takeAway 77 = .ok (.aload_n 0, 1)) rfl) (sb_cons (sd_getr (k := 5) kl_2 (by decide) rfl wm_51 (by decide +kernel : decode cX2_takeAway 78 = .ok (.getfield 27, 3))) (sb_cons (sd_iload_n (by decide +kernel : decode cX2_takeAway 81 = .ok (.iload_n 2, 1)) rfl) (sb_cons (sd_iconst (by decide +kernel : decode cX2_takeAway 82 = .ok (.iconst 1, 1)) ⟨by decide, by decide⟩) (sb_cons (sd_iadd (by decide +kernel : decode cX2_takeAway 83 = .ok (.iadd, 1))) (sb_cons (sd_iaload (by decide +kernel : decode cX2_takeAway 84 = .ok (.iaload, 1))) (sb_cons (sd_iastore (by decide +kernel : decode cX2_takeAway 85 = .ok (.iastore, 1))) (sb_cons (sd_aload_n (by decide +kernel : decode cX2_takeAway 86 = .ok (.aload_n 0, 1)) rfl) (sb_cons (sd_getr (k := 6) kl_2 (by decide) rfl wm_53 (by decide +kernel : decode cX2_takeAway 87 = .ok (.getfield 30, 3))) (sb_cons (sd_iload_n (by decide +kernel : decode cX2_takeAway 90 = .ok (.iload_n 2, 1)) rfl) (sb_cons (sd_aload_n (by decide +kernel : decode cX2_takeAway 91 = .ok (.aload_n 0, 1)) rfl) (sb_cons (sd_getr (k := 6) kl_2 (by decide) rfl wm_53 (by decide +kernel : decode cX2_takeAway 92 = .ok (.getfield 30, 3))) (sb_cons (sd_iload_n (by decide +kernel : decode cX2_takeAway 95 = .ok (.iload_n 2, 1)) rfl) (sb_cons (sd_iconst (by decide +kernel : decode cX2_takeAway 96 = .ok (.iconst 1, 1)) ⟨by decide, by decide⟩) (sb_cons (sd_iadd (by decide +kernel : decode cX2_takeAway 97 = .ok (.iadd, 1))) (sb_cons (sd_iaload (by decide +kernel : decode cX2_takeAway 98 = .ok (.iaload, 1))) (sb_cons (sd_iastore (by decide +kernel : decode cX2_takeAway 99 = .ok (.iastore, 1))) (sb_cons (sd_iinc (by decide +kernel : decode cX2_takeAway 100 = .ok (.iinc 2 1, 3))) (sb_cons (sd_fg) (sb_cons (sd_goto (x := 0) (by decide +kernel : decode cX2_takeAway 103 = .ok (.goto (-81), 3)) (by decide)) sb_nil))))))))))))))))))))))))))))))))))))))))))))))))))))))))
set_option maxRecDepth 100000 in
theorem sb_X2_takeAway_106 (l : Launch) : sm_SndB l RX2 "takeAway" cX2_takeAway 3 1 1 106 [oA 0, oGi 2 9 7, oIr] := sb_cons (sd_aload_n (by decide +kernel : decode cX2_takeAway 106 = .ok (.aload_n 0, 1)) rfl) (sb_cons (sd_geti (k := 7) kl_2 (by decide) rfl wm_58 (by decide +kernel : decode cX2_takeAway 107 = .ok (.getfield 45, 3))) (sb_cons (sd_ireturn (x := 0) rfl (by decide +kernel : decode cX2_takeAway 110 = .ok (.ireturn, 1))) sb_nil))
theorem sn_X2_takeAway (l : Launch) : sm_SndT l RX2 "takeAway" cX2_takeAway 3 1 1 tb_X2_takeAway := st_cons (sb_X2_takeAway_0 l) (st_cons (sb_X2_takeAway_10 l) (st_cons (sb_X2_takeAway_22 l) (st_cons (sb_X2_takeAway_106 l) (st_nil))))
set_option maxRecDepth 100000 in
set_option maxHeartbeats 4000000 in
theorem ok_X2_takeAway : sm_Ok tb_X2_takeAway 3 0 0 p_X2_takeAway f_X2_takeAway := by
  intro as w hp ha hw
  match as, hp with
  | [.inr (.inl a), .inl x], hp =>
  refine ⟨Nat.le_of_ble_eq_true rfl, fun Z hZ => ?_⟩
  obtain ⟨l0, l1, l2, l3, l4, l5, l6, l7, r0, r1, r2, r3, r4, r5, r6⟩ := lS hp.1 hp.2.1
  have hn := lOK_n hp
  have hT := hp.1
  have hL := hp.2.1
  by_cases hok : 0 ≤ x ∧ x < wI w a 7
  · have hl := sm_loopI Z 22 0 (wI w a 7 - 1 - x) (fun i => [some (.inr (.inl a)), none, some (.inl (x + i))]) (fun i => itI (fun j => lRm1 a (x + j)) (wsI w a 7 (wI w a 7 - 1)) i) 0 0 (by omega) (fun i g0 g1 ih => by
      obtain ⟨j1, j2⟩ := lRmL a x (wsI w a 7 (wI w a 7 - 1)) i g0
      have hT := j2 (sT_wsI hT)
      have j1 := congrFun j1 7
      rw [wI_wsI, if_pos ⟨rfl, rfl⟩] at j1
      rw [itI_s _ _ g0] at ih
      have he : i = wI w a 7 - 1 - x → itI (fun j => lRm1 a (x + j)) (wsI w a 7 (wI w a 7 - 1)) i = lRm a w x := fun e => by rw [e]; rfl
      generalize itI (fun j => lRm1 a (x + j)) (wsI w a 7 (wI w a 7 - 1)) i = u at *
      obtain ⟨l0, l1, l2, l3, l4, l5, l6, l7, r0, r1, r2, r3, r4, r5, r6⟩ := lS hT hL
      unfold lRm1 at ih
      rw [← Int.add_assoc] at ih
      refine hZ (fun u => Nat.beq u 22) 14 22 _ _ _ _ _ ?_
      simp only [sm_run, sm_blk, sm_get, sm_ent, sm_ents, sm_wds, sm_wd, sm_nl, sm_pop, sm_back, sm_cases, oK, oLK, oL, oI, oA, oJ, oIs, oAs, oJs, oInc, oAdd, oSub, oMul, oDiv, oRem, oNeg, oAnd, oAndB, oOr, oShl, oI2c, oI2l, oL2i, oLand, oLor, oLshl, oLshr, oLushr, oLcmp, oDup, oDup2, oPop, oGo, oFg, oEq, oNe, oLt, oGe, oGt, oLe, oEq0, oNe0, oLt0, oGe0, oGt0, oLe0, oSw, oGi, oGr, oPi, oPz, oPr, oLen, oIl, oZl, oCl, oRl, oIst, oZst, oCst, oRst, oCopy, oNew, oNa, oNa2, oObj, oCs, oCv, oCi, oIr, oZr, oVr, Nat.beq, List.getElem?_cons_zero, List.getElem?_cons_succ, List.set_cons_zero, List.set_cons_succ, List.length_cons, List.length_nil, List.nil_append, List.cons_append, List.append_nil, List.replicate_succ, List.replicate_zero, Nat.reduceAdd, Nat.reduceSub, Nat.reduceLT, Nat.reduceLeDiff, Nat.reduceBEq, true_and, and_true, Nat.zero_add, Nat.add_zero, Nat.le_refl, Option.some.injEq, exists_eq_left', true_or, or_true, or_false, false_or, reduceCtorEq, Prod.mk.injEq, Sum.inl.injEq, and_self, false_and, and_false, not_true_eq_false, not_false_eq_true, false_implies, true_implies, sm_r, Int.add_zero, Int.zero_add, wI_wsI, wS_wsI, wR_wsI, wI_wCp, wS_wCp, wR_wCp, Nat.reduceEqDiff, reduceIte, sT_iff, sT_iffC, wIf_ne, ne_eq, Bool.false_or, Bool.true_or, Bool.or_false, Bool.or_true, Bool.or_self, Nat.left_eq_add, Nat.add_eq_left, Nat.add_left_inj, tb_X2_takeAway, p_X2_hasShuttle, f_X2_hasShuttle, p_X2_takeAway, f_X2_takeAway, l0, l3, l4, l5, l6, l7, r2, r3, r4, r5, r6, j1, if_pos hok]
      repeat' (first | exact True.intro | with_reducible assumption | with_reducible refine And.intro ?_ ?_ | intro _)
      all_goals first
        | omega
        | assumption
        | rfl
        | (split <;> omega)
        | (have k9 := ih (by omega)
           (repeat' split at k9) <;> first | exact k9 | omega)
        | (have k9 := ih2 (by omega)
           (repeat' split at k9) <;> first | exact k9 | omega)
        | exact he (by omega)
        | ((with_reducible congr 1) <;> omega)
        | (rw [if_pos (by omega)] at he; exact he)
        | exact hD1 (by omega)
        | exact hD2 (by omega)
        | grind
        | skip
      )
    rw [Int.add_zero, itI_0] at hl
    refine hZ (fun u => Nat.beq u 22) 14 0 _ _ _ _ _ ?_
    simp only [sm_run, sm_blk, sm_get, sm_ent, sm_ents, sm_wds, sm_wd, sm_nl, sm_pop, sm_back, sm_cases, oK, oLK, oL, oI, oA, oJ, oIs, oAs, oJs, oInc, oAdd, oSub, oMul, oDiv, oRem, oNeg, oAnd, oAndB, oOr, oShl, oI2c, oI2l, oL2i, oLand, oLor, oLshl, oLshr, oLushr, oLcmp, oDup, oDup2, oPop, oGo, oFg, oEq, oNe, oLt, oGe, oGt, oLe, oEq0, oNe0, oLt0, oGe0, oGt0, oLe0, oSw, oGi, oGr, oPi, oPz, oPr, oLen, oIl, oZl, oCl, oRl, oIst, oZst, oCst, oRst, oCopy, oNew, oNa, oNa2, oObj, oCs, oCv, oCi, oIr, oZr, oVr, Nat.beq, List.getElem?_cons_zero, List.getElem?_cons_succ, List.set_cons_zero, List.set_cons_succ, List.length_cons, List.length_nil, List.nil_append, List.cons_append, List.append_nil, List.replicate_succ, List.replicate_zero, Nat.reduceAdd, Nat.reduceSub, Nat.reduceLT, Nat.reduceLeDiff, Nat.reduceBEq, true_and, and_true, Nat.zero_add, Nat.add_zero, Nat.le_refl, Option.some.injEq, exists_eq_left', true_or, or_true, or_false, false_or, reduceCtorEq, Prod.mk.injEq, Sum.inl.injEq, and_self, false_and, and_false, not_true_eq_false, not_false_eq_true, false_implies, true_implies, sm_r, Int.add_zero, Int.zero_add, wI_wsI, wS_wsI, wR_wsI, wI_wCp, wS_wCp, wR_wCp, Nat.reduceEqDiff, reduceIte, sT_iff, sT_iffC, wIf_ne, ne_eq, Bool.false_or, Bool.true_or, Bool.or_false, Bool.or_true, Bool.or_self, Nat.left_eq_add, Nat.add_eq_left, Nat.add_left_inj, tb_X2_takeAway, p_X2_hasShuttle, f_X2_hasShuttle, p_X2_takeAway, f_X2_takeAway, l0, hT, hL, b01, if_pos hok]
    repeat' (first | exact True.intro | with_reducible assumption | with_reducible refine And.intro ?_ ?_ | intro _)
    all_goals first
      | omega
      | assumption
      | rfl
      | (split <;> omega)
      | (have k9 := ih (by omega)
         (repeat' split at k9) <;> first | exact k9 | omega)
      | (have k9 := ih2 (by omega)
         (repeat' split at k9) <;> first | exact k9 | omega)
      | exact he (by omega)
      | ((with_reducible congr 1) <;> omega)
      | (rw [if_pos (by omega)] at he; exact he)
      | exact hD1 (by omega)
      | exact hD2 (by omega)
      | skip
  · skip
    refine hZ (fun u => Nat.beq u 22) 14 0 _ _ _ _ _ ?_
    simp only [sm_run, sm_blk, sm_get, sm_ent, sm_ents, sm_wds, sm_wd, sm_nl, sm_pop, sm_back, sm_cases, oK, oLK, oL, oI, oA, oJ, oIs, oAs, oJs, oInc, oAdd, oSub, oMul, oDiv, oRem, oNeg, oAnd, oAndB, oOr, oShl, oI2c, oI2l, oL2i, oLand, oLor, oLshl, oLshr, oLushr, oLcmp, oDup, oDup2, oPop, oGo, oFg, oEq, oNe, oLt, oGe, oGt, oLe, oEq0, oNe0, oLt0, oGe0, oGt0, oLe0, oSw, oGi, oGr, oPi, oPz, oPr, oLen, oIl, oZl, oCl, oRl, oIst, oZst, oCst, oRst, oCopy, oNew, oNa, oNa2, oObj, oCs, oCv, oCi, oIr, oZr, oVr, Nat.beq, List.getElem?_cons_zero, List.getElem?_cons_succ, List.set_cons_zero, List.set_cons_succ, List.length_cons, List.length_nil, List.nil_append, List.cons_append, List.append_nil, List.replicate_succ, List.replicate_zero, Nat.reduceAdd, Nat.reduceSub, Nat.reduceLT, Nat.reduceLeDiff, Nat.reduceBEq, true_and, and_true, Nat.zero_add, Nat.add_zero, Nat.le_refl, Option.some.injEq, exists_eq_left', true_or, or_true, or_false, false_or, reduceCtorEq, Prod.mk.injEq, Sum.inl.injEq, and_self, false_and, and_false, not_true_eq_false, not_false_eq_true, false_implies, true_implies, sm_r, Int.add_zero, Int.zero_add, wI_wsI, wS_wsI, wR_wsI, wI_wCp, wS_wCp, wR_wCp, Nat.reduceEqDiff, reduceIte, sT_iff, sT_iffC, wIf_ne, ne_eq, Bool.false_or, Bool.true_or, Bool.or_false, Bool.or_true, Bool.or_self, Nat.left_eq_add, Nat.add_eq_left, Nat.add_left_inj, tb_X2_takeAway, p_X2_hasShuttle, f_X2_hasShuttle, p_X2_takeAway, f_X2_takeAway, l0, hT, hL, b01, if_neg hok]
    repeat' (first | exact True.intro | with_reducible assumption | with_reducible refine And.intro ?_ ?_ | intro _)
    all_goals first
      | omega
      | assumption
      | rfl
      | (split <;> omega)
      | (have k9 := ih (by omega)
         (repeat' split at k9) <;> first | exact k9 | omega)
      | (have k9 := ih2 (by omega)
         (repeat' split at k9) <;> first | exact k9 | omega)
      | exact he (by omega)
      | ((with_reducible congr 1) <;> omega)
      | (rw [if_pos (by omega)] at he; exact he)
      | exact hD1 (by omega)
      | exact hD2 (by omega)
      | grind
      | skip
theorem met_X2_takeAway (l : Launch) : sm_Met l yX2_takeAway cX2_takeAway 3 (some .int) 1 0 0 p_X2_takeAway f_X2_takeAway := sm_met 1 (Or.inr (Or.inl ⟨rfl, rfl⟩)) (by decide +kernel) (sn_X2_takeAway l) ok_X2_takeAway
def cpL (a b : Nat) (w : sm_W) : sm_W := wsI (wsI (wCp (wCp (wCp (wCp (wCp (wCp (wCp w (b + 1) (a + 1) 8) (b + 2) (a + 2) 7) (b + 3) (a + 3) 8) (b + 4) (a + 4) 8) (b + 5) (a + 5) 8) (b + 6) (a + 6) 8) (b + 7) (a + 7) 8) a 7 (wI w b 7)) a 8 (wI w b 8)
theorem isL_ne {a b : Nat} (ha : sm_isL a) (hb : sm_isL b) (h : a ≠ b) : a + 8 ≤ b ∨ b + 8 ≤ a := by
  unfold sm_isL at ha hb
  simp only [List.mem_cons, List.not_mem_nil, or_false] at ha hb
  omega
def p_X2_copyFrom : List sm_V → sm_W → Prop
  | [.inr (.inl a), .inr (.inl b)], w => sT w ∧ sm_isL a ∧ sm_isL b ∧ a ≠ b
  | _, _ => False
def f_X2_copyFrom : sm_F
  | [.inr (.inl a), .inr (.inl b)], w => (none, cpL a b w)
  | _, w => (none, w)
def tb_X2_copyFrom : List (Nat × List sm_O) := [(0, [oA 1, oGr 2 9 0, oK 0, oA 0, oGr 2 9 0, oK 0, oK 8, oCopy, oA 1, oGr 2 9 1, oK 0, oA 0, oGr 2 9 1, oK 0, oK 7, oCopy, oA 1, oGr 2 9 2, oK 0, oA 0, oGr 2 9 2, oK 0, oK 8, oCopy, oA 1, oGr 2 9 3, oK 0, oA 0, oGr 2 9 3, oK 0, oK 8, oCopy, oA 1, oGr 2 9 4, oK 0, oA 0, oGr 2 9 4, oK 0, oK 8, oCopy, oA 1, oGr 2 9 5, oK 0, oA 0, oGr 2 9 5, oK 0, oK 8, oCopy, oA 1, oGr 2 9 6, oK 0, oA 0, oGr 2 9 6, oK 0, oK 8, oCopy, oA 0, oA 1, oGi 2 9 7, oPi 2 9 7, oA 0, oA 1, oGi 2 9 8, oPi 2 9 8, oVr])]
set_option maxRecDepth 100000 in
theorem sb_X2_copyFrom_0 (l : Launch) : sm_SndB l RX2 "copyFrom" cX2_copyFrom 2 0 1 0 [oA 1, oGr 2 9 0, oK 0, oA 0, oGr 2 9 0, oK 0, oK 8, oCopy, oA 1, oGr 2 9 1, oK 0, oA 0, oGr 2 9 1, oK 0, oK 7, oCopy, oA 1, oGr 2 9 2, oK 0, oA 0, oGr 2 9 2, oK 0, oK 8, oCopy, oA 1, oGr 2 9 3, oK 0, oA 0, oGr 2 9 3, oK 0, oK 8, oCopy, oA 1, oGr 2 9 4, oK 0, oA 0, oGr 2 9 4, oK 0, oK 8, oCopy, oA 1, oGr 2 9 5, oK 0, oA 0, oGr 2 9 5, oK 0, oK 8, oCopy, oA 1, oGr 2 9 6, oK 0, oA 0, oGr 2 9 6, oK 0, oK 8, oCopy, oA 0, oA 1, oGi 2 9 7, oPi 2 9 7, oA 0, oA 1, oGi 2 9 8, oPi 2 9 8, oVr] := sb_cons (sd_aload_n (by decide +kernel : decode cX2_copyFrom 0 = .ok (.aload_n 1, 1)) rfl) (sb_cons (sd_getr (k := 0) kl_2 (by decide) rfl wm_39 (by decide +kernel : decode cX2_copyFrom 1 = .ok (.getfield 9, 3))) (sb_cons (sd_iconst (by decide +kernel : decode cX2_copyFrom 4 = .ok (.iconst 0, 1)) ⟨by decide, by decide⟩) (sb_cons (sd_aload_n (by decide +kernel : decode cX2_copyFrom 5 = .ok (.aload_n 0, 1)) rfl) (sb_cons (sd_getr (k := 0) kl_2 (by decide) rfl wm_39 (by decide +kernel : decode cX2_copyFrom 6 = .ok (.getfield 9, 3))) (sb_cons (sd_iconst (by decide +kernel : decode cX2_copyFrom 9 = .ok (.iconst 0, 1)) ⟨by decide, by decide⟩) (sb_cons (sd_bipush (by decide +kernel : decode cX2_copyFrom 10 = .ok (.bipush 8, 2)) ⟨by decide, by decide⟩ (by decide)) (sb_cons (sd_copy (by decide) wm_167 wm_169 wm_168 wm_11 (by decide +kernel : decode cX2_copyFrom 12 = .ok (.invokestatic 39, 3))) (sb_cons (sd_aload_n (by decide +kernel : decode cX2_copyFrom 15 = .ok (.aload_n 1, 1)) rfl) (sb_cons (sd_getr (k := 1) kl_2 (by decide) rfl wm_42 (by decide +kernel : decode cX2_copyFrom 16 = .ok (.getfield 15, 3))) (sb_cons (sd_iconst (by decide +kernel : decode cX2_copyFrom 19 = .ok (.iconst 0, 1)) ⟨by decide, by decide⟩) (sb_cons (sd_aload_n (by decide +kernel : decode cX2_copyFrom 20 = .ok (.aload_n 0, 1)) rfl) (sb_cons (sd_getr (k := 1) kl_2 (by decide) rfl wm_42 (by decide +kernel : decode cX2_copyFrom 21 = .ok (.getfield 15, 3))) (sb_cons (sd_iconst (by decide +kernel : decode cX2_copyFrom 24 = .ok (.iconst 0, 1)) ⟨by decide, by decide⟩) (sb_cons (sd_bipush (by decide +kernel : decode cX2_copyFrom 25 = .ok (.bipush 7, 2)) ⟨by decide, by decide⟩ (by decide)) (sb_cons (sd_copy (by decide) wm_167 wm_169 wm_168 wm_11 (by decide +kernel : decode cX2_copyFrom 27 = .ok (.invokestatic 39, 3))) (sb_cons (sd_aload_n (by decide +kernel : decode cX2_copyFrom 30 = .ok (.aload_n 1, 1)) rfl) (sb_cons (sd_getr (k := 2) kl_2 (by decide) rfl wm_45 (by decide +kernel : decode cX2_copyFrom 31 = .ok (.getfield 18, 3))) (sb_cons (sd_iconst (by decide +kernel : decode cX2_copyFrom 34 = .ok (.iconst 0, 1)) ⟨by decide, by decide⟩) (sb_cons (sd_aload_n (by decide +kernel : decode cX2_copyFrom 35 = .ok (.aload_n 0, 1)) rfl) (sb_cons (sd_getr (k := 2) kl_2 (by decide) rfl wm_45 (by decide +kernel : decode cX2_copyFrom 36 = .ok (.getfield 18, 3))) (sb_cons (sd_iconst (by decide +kernel : decode cX2_copyFrom 39 = .ok (.iconst 0, 1)) ⟨by decide, by decide⟩) (sb_cons (sd_bipush (by decide +kernel : decode cX2_copyFrom 40 = .ok (.bipush 8, 2)) ⟨by decide, by decide⟩ (by decide)) (sb_cons (sd_copy (by decide) wm_167 wm_169 wm_168 wm_11 (by decide +kernel : decode cX2_copyFrom 42 = .ok (.invokestatic 39, 3))) (sb_cons (sd_aload_n (by decide +kernel : decode cX2_copyFrom 45 = .ok (.aload_n 1, 1)) rfl) (sb_cons (sd_getr (k := 3) kl_2 (by decide) rfl wm_47 (by decide +kernel : decode cX2_copyFrom 46 = .ok (.getfield 21, 3))) (sb_cons (sd_iconst (by decide +kernel : decode cX2_copyFrom 49 = .ok (.iconst 0, 1)) ⟨by decide, by decide⟩) (sb_cons (sd_aload_n (by decide +kernel : decode cX2_copyFrom 50 = .ok (.aload_n 0, 1)) rfl) (sb_cons (sd_getr (k := 3) kl_2 (by decide) rfl wm_47 (by decide +kernel : decode cX2_copyFrom 51 = .ok (.getfield 21, 3))) (sb_cons (sd_iconst (by decide +kernel : decode cX2_copyFrom 54 = .ok (.iconst 0, 1)) ⟨by decide, by decide⟩) (sb_cons (sd_bipush (by decide +kernel : decode cX2_copyFrom 55 = .ok (.bipush 8, 2)) ⟨by decide, by decide⟩ (by decide)) (sb_cons (sd_copy (by decide) wm_167 wm_169 wm_168 wm_11 (by decide +kernel : decode cX2_copyFrom 57 = .ok (.invokestatic 39, 3))) (sb_cons (sd_aload_n (by decide +kernel : decode cX2_copyFrom 60 = .ok (.aload_n 1, 1)) rfl) (sb_cons (sd_getr (k := 4) kl_2 (by decide) rfl wm_49 (by decide +kernel : decode cX2_copyFrom 61 = .ok (.getfield 24, 3))) (sb_cons (sd_iconst (by decide +kernel : decode cX2_copyFrom 64 = .ok (.iconst 0, 1)) ⟨by decide, by decide⟩) (sb_cons (sd_aload_n (by decide +kernel : decode cX2_copyFrom 65 = .ok (.aload_n 0, 1)) rfl) (sb_cons (sd_getr (k := 4) kl_2 (by decide) rfl wm_49 (by decide +kernel : decode cX2_copyFrom 66 = .ok (.getfield 24, 3))) (sb_cons (sd_iconst (by decide +kernel : decode cX2_copyFrom 69 = .ok (.iconst 0, 1)) ⟨by decide, by decide⟩) (sb_cons (sd_bipush (by decide +kernel : decode cX2_copyFrom 70 = .ok (.bipush 8, 2)) ⟨by decide, by decide⟩ (by decide)) (sb_cons (sd_copy (by decide) wm_167 wm_169 wm_168 wm_11 (by decide +kernel : decode cX2_copyFrom 72 = .ok (.invokestatic 39, 3))) (sb_cons (sd_aload_n (by decide +kernel : decode cX2_copyFrom 75 = .ok (.aload_n 1, 1)) rfl) (sb_cons (sd_getr (k := 5) kl_2 (by decide) rfl wm_51 (by decide +kernel : decode cX2_copyFrom 76 = .ok (.getfield 27, 3))) (sb_cons (sd_iconst (by decide +kernel : decode cX2_copyFrom 79 = .ok (.iconst 0, 1)) ⟨by decide, by decide⟩) (sb_cons (sd_aload_n (by decide +kernel : decode cX2_copyFrom 80 = .ok (.aload_n 0, 1)) rfl) (sb_cons (sd_getr (k := 5) kl_2 (by decide) rfl wm_51 (by decide +kernel : decode cX2_copyFrom 81 = .ok (.getfield 27, 3))) (sb_cons (sd_iconst (by decide +kernel : decode cX2_copyFrom 84 = .ok (.iconst 0, 1)) ⟨by decide, by decide⟩) (sb_cons (sd_bipush (by decide +kernel : decode cX2_copyFrom 85 = .ok (.bipush 8, 2)) ⟨by decide, by decide⟩ (by decide)) (sb_cons (sd_copy (by decide) wm_167 wm_169 wm_168 wm_11 (by decide +kernel : decode cX2_copyFrom 87 = .ok (.invokestatic 39, 3))) (sb_cons (sd_aload_n (by decide +kernel : decode cX2_copyFrom 90 = .ok (.aload_n 1, 1)) rfl) (sb_cons (sd_getr (k := 6) kl_2 (by decide) rfl wm_53 (by decide +kernel : decode cX2_copyFrom 91 = .ok (.getfield 30, 3))) (sb_cons (sd_iconst (by decide +kernel : decode cX2_copyFrom 94 = .ok (.iconst 0, 1)) ⟨by decide, by decide⟩) (sb_cons (sd_aload_n (by decide +kernel : decode cX2_copyFrom 95 = .ok (.aload_n 0, 1)) rfl) (sb_cons (sd_getr (k := 6) kl_2 (by decide) rfl wm_53 (by decide +kernel : decode cX2_copyFrom 96 = .ok (.getfield 30, 3))) (sb_cons (sd_iconst (by decide +kernel : decode cX2_copyFrom 99 = .ok (.iconst 0, 1)) ⟨by decide, by decide⟩) (sb_cons (sd_bipush (by decide +kernel : decode cX2_copyFrom 100 = .ok (.bipush 8, 2)) ⟨by decide, by decide⟩ (by decide)) (sb_cons (sd_copy (by decide) wm_167 wm_169 wm_168 wm_11 (by decide +kernel : decode cX2_copyFrom 102 = .ok (.invokestatic 39, 3))) (sb_cons (sd_aload_n (by decide +kernel : decode cX2_copyFrom 105 = .ok (.aload_n 0, 1)) rfl) (sb_cons (sd_aload_n (by decide +kernel : decode cX2_copyFrom 106 = .ok (.aload_n 1, 1)) rfl) (sb_cons (sd_geti (k := 7) kl_2 (by decide) rfl wm_58 (by decide +kernel : decode cX2_copyFrom 107 = .ok (.getfield 45, 3))) (sb_cons (sd_puti (k := 7) kl_2 (by decide) rfl (Or.inl rfl) wm_58 (by decide +kernel : decode cX2_copyFrom 110 = .ok (.putfield 45, 3))) (sb_cons (sd_aload_n (by decide +kernel : decode cX2_copyFrom 113 = .ok (.aload_n 0, 1)) rfl) (sb_cons (sd_aload_n (by decide +kernel : decode cX2_copyFrom 114 = .ok (.aload_n 1, 1)) rfl) (sb_cons (sd_geti (k := 8) kl_2 (by decide) rfl wm_63 (by decide +kernel : decode cX2_copyFrom 115 = .ok (.getfield 49, 3))) (sb_cons (sd_puti (k := 8) kl_2 (by decide) rfl (Or.inl rfl) wm_63 (by decide +kernel : decode cX2_copyFrom 118 = .ok (.putfield 49, 3))) (sb_cons (sd_return (x := 0) rfl (by decide +kernel : decode cX2_copyFrom 121 = .ok (.return_, 1))) sb_nil))))))))))))))))))))))))))))))))))))))))))))))))))))))))))))))))
theorem sn_X2_copyFrom (l : Launch) : sm_SndT l RX2 "copyFrom" cX2_copyFrom 2 0 1 tb_X2_copyFrom := st_cons (sb_X2_copyFrom_0 l) (st_nil)
set_option maxRecDepth 100000 in
set_option maxHeartbeats 4000000 in
theorem ok_X2_copyFrom : sm_Ok tb_X2_copyFrom 2 0 0 p_X2_copyFrom f_X2_copyFrom := by
  intro as w hp ha hw
  match as, hp with
  | [.inr (.inl a), .inr (.inl b)], hp =>
  refine ⟨Nat.le_of_ble_eq_true rfl, fun Z hZ => ?_⟩
  obtain ⟨hT, hL, hL2, hne⟩ := hp
  obtain ⟨l0, l1, l2, l3, l4, l5, l6, l7, r0, r1, r2, r3, r4, r5, r6⟩ := lS hT hL
  obtain ⟨k0, k1, k2, k3, k4, k5, k6, k7, q0, q1, q2, q3, q4, q5, q6⟩ := lS hT hL2
  have hd := isL_ne hL hL2 hne
  have e0 : (b = a) = False := eq_false (by omega)
  have e1 : (b = a + 1) = False := eq_false (by omega)
  have e2 : (b = a + 2) = False := eq_false (by omega)
  have e3 : (b = a + 3) = False := eq_false (by omega)
  have e4 : (b = a + 4) = False := eq_false (by omega)
  have e5 : (b = a + 5) = False := eq_false (by omega)
  have e6 : (b = a + 6) = False := eq_false (by omega)
  have e7 : (b = a + 7) = False := eq_false (by omega)
  refine hZ (fun _ => false) 16 0 _ _ _ _ _ ?_
  simp only [sm_run, sm_blk, sm_get, sm_ent, sm_ents, sm_wds, sm_wd, sm_nl, sm_pop, sm_back, sm_cases, oK, oLK, oL, oI, oA, oJ, oIs, oAs, oJs, oInc, oAdd, oSub, oMul, oDiv, oRem, oNeg, oAnd, oAndB, oOr, oShl, oI2c, oI2l, oL2i, oLand, oLor, oLshl, oLshr, oLushr, oLcmp, oDup, oDup2, oPop, oGo, oFg, oEq, oNe, oLt, oGe, oGt, oLe, oEq0, oNe0, oLt0, oGe0, oGt0, oLe0, oSw, oGi, oGr, oPi, oPz, oPr, oLen, oIl, oZl, oCl, oRl, oIst, oZst, oCst, oRst, oCopy, oNew, oNa, oNa2, oObj, oCs, oCv, oCi, oIr, oZr, oVr, Nat.beq, List.getElem?_cons_zero, List.getElem?_cons_succ, List.set_cons_zero, List.set_cons_succ, List.length_cons, List.length_nil, List.nil_append, List.cons_append, List.append_nil, List.replicate_succ, List.replicate_zero, Nat.reduceAdd, Nat.reduceSub, Nat.reduceLT, Nat.reduceLeDiff, Nat.reduceBEq, true_and, and_true, Nat.zero_add, Nat.add_zero, Nat.le_refl, Option.some.injEq, exists_eq_left', true_or, or_true, or_false, false_or, reduceCtorEq, Prod.mk.injEq, Sum.inl.injEq, and_self, false_and, and_false, not_true_eq_false, not_false_eq_true, false_implies, true_implies, sm_r, Int.add_zero, Int.zero_add, wI_wsI, wS_wsI, wR_wsI, wI_wCp, wS_wCp, wR_wCp, Nat.reduceEqDiff, reduceIte, sT_iff, sT_iffC, wIf_ne, ne_eq, Bool.false_or, Bool.true_or, Bool.or_false, Bool.or_true, Bool.or_self, Nat.left_eq_add, Nat.add_eq_left, Nat.add_left_inj, tb_X2_copyFrom, p_X2_copyFrom, f_X2_copyFrom, l0, l1, l2, l3, l4, l5, l6, l7, r0, r1, r2, r3, r4, r5, r6, k0, k1, k2, k3, k4, k5, k6, k7, q0, q1, q2, q3, q4, q5, q6, e0, e1, e2, e3, e4, e5, e6, e7, cpL]
  repeat' (first | exact True.intro | with_reducible assumption | with_reducible refine And.intro ?_ ?_ | intro _)
  all_goals first
    | omega
    | assumption
    | rfl
    | (split <;> omega)
    | grind
    | skip
theorem met_X2_copyFrom (l : Launch) : sm_Met l yX2_copyFrom cX2_copyFrom 2 none 1 0 0 p_X2_copyFrom f_X2_copyFrom := sm_met 0 (Or.inl ⟨rfl, rfl⟩) (by decide +kernel) (sn_X2_copyFrom l) ok_X2_copyFrom
def p_X2_number : List sm_V → sm_W → Prop
  | [.inr (.inl a), .inl x, .inl k], w => lOK w a ∧ 0 ≤ x ∧ x < wI w a 7 ∧ 0 ≤ k ∧ k ≤ 5
  | _, _ => False
def f_X2_number : sm_F
  | [.inr (.inl a), .inl x, .inl k], w => (some (.inl (if k ≤ 4 then vL w a (17 + 5 * x + k) else vTime (vL w a) x (wI w (a + 3) x))), w)
  | _, w => (none, w)
def tb_X2_number : List (Nat × List sm_O) := [(0, [oI 2, oSw 0 [36, 43, 50, 57, 64] 71]),
  (36, [oA 0, oGr 2 9 2, oI 1, oIl, oIr]),
  (43, [oA 0, oGr 2 9 3, oI 1, oIl, oIr]),
  (50, [oA 0, oGr 2 9 4, oI 1, oIl, oIr]),
  (57, [oA 0, oGr 2 9 5, oI 1, oIl, oIr]),
  (64, [oA 0, oGr 2 9 6, oI 1, oIl, oIr]),
  (71, [oA 0, oI 1, oA 0, oGr 2 9 2, oI 1, oIl, oCv 2 9 p_X2_wayLeft f_X2_wayLeft 0 0 3, oIr])]
set_option maxRecDepth 100000 in
theorem sb_X2_number_0 (l : Launch) : sm_SndB l RX2 "number" cX2_number 3 1 2 0 [oI 2, oSw 0 [36, 43, 50, 57, 64] 71] := sb_cons (sd_iload_n (by decide +kernel : decode cX2_number 0 = .ok (.iload_n 2, 1)) rfl) (sb_cons (sd_sw (x := 0) (by decide +kernel : decode cX2_number 1 = .ok (.tableswitch 70 0 4 #[35, 42, 49, 56, 63], 35)) (by decide) (by decide) (by decide)) sb_nil)
set_option maxRecDepth 100000 in
theorem sb_X2_number_36 (l : Launch) : sm_SndB l RX2 "number" cX2_number 3 1 2 36 [oA 0, oGr 2 9 2, oI 1, oIl, oIr] := sb_cons (sd_aload_n (by decide +kernel : decode cX2_number 36 = .ok (.aload_n 0, 1)) rfl) (sb_cons (sd_getr (k := 2) kl_2 (by decide) rfl wm_45 (by decide +kernel : decode cX2_number 37 = .ok (.getfield 18, 3))) (sb_cons (sd_iload_n (by decide +kernel : decode cX2_number 40 = .ok (.iload_n 1, 1)) rfl) (sb_cons (sd_iaload (by decide +kernel : decode cX2_number 41 = .ok (.iaload, 1))) (sb_cons (sd_ireturn (x := 0) rfl (by decide +kernel : decode cX2_number 42 = .ok (.ireturn, 1))) sb_nil))))
set_option maxRecDepth 100000 in
theorem sb_X2_number_43 (l : Launch) : sm_SndB l RX2 "number" cX2_number 3 1 2 43 [oA 0, oGr 2 9 3, oI 1, oIl, oIr] := sb_cons (sd_aload_n (by decide +kernel : decode cX2_number 43 = .ok (.aload_n 0, 1)) rfl) (sb_cons (sd_getr (k := 3) kl_2 (by decide) rfl wm_47 (by decide +kernel : decode cX2_number 44 = .ok (.getfield 21, 3))) (sb_cons (sd_iload_n (by decide +kernel : decode cX2_number 47 = .ok (.iload_n 1, 1)) rfl) (sb_cons (sd_iaload (by decide +kernel : decode cX2_number 48 = .ok (.iaload, 1))) (sb_cons (sd_ireturn (x := 0) rfl (by decide +kernel : decode cX2_number 49 = .ok (.ireturn, 1))) sb_nil))))
set_option maxRecDepth 100000 in
theorem sb_X2_number_50 (l : Launch) : sm_SndB l RX2 "number" cX2_number 3 1 2 50 [oA 0, oGr 2 9 4, oI 1, oIl, oIr] := sb_cons (sd_aload_n (by decide +kernel : decode cX2_number 50 = .ok (.aload_n 0, 1)) rfl) (sb_cons (sd_getr (k := 4) kl_2 (by decide) rfl wm_49 (by decide +kernel : decode cX2_number 51 = .ok (.getfield 24, 3))) (sb_cons (sd_iload_n (by decide +kernel : decode cX2_number 54 = .ok (.iload_n 1, 1)) rfl) (sb_cons (sd_iaload (by decide +kernel : decode cX2_number 55 = .ok (.iaload, 1))) (sb_cons (sd_ireturn (x := 0) rfl (by decide +kernel : decode cX2_number 56 = .ok (.ireturn, 1))) sb_nil))))
set_option maxRecDepth 100000 in
theorem sb_X2_number_57 (l : Launch) : sm_SndB l RX2 "number" cX2_number 3 1 2 57 [oA 0, oGr 2 9 5, oI 1, oIl, oIr] := sb_cons (sd_aload_n (by decide +kernel : decode cX2_number 57 = .ok (.aload_n 0, 1)) rfl) (sb_cons (sd_getr (k := 5) kl_2 (by decide) rfl wm_51 (by decide +kernel : decode cX2_number 58 = .ok (.getfield 27, 3))) (sb_cons (sd_iload_n (by decide +kernel : decode cX2_number 61 = .ok (.iload_n 1, 1)) rfl) (sb_cons (sd_iaload (by decide +kernel : decode cX2_number 62 = .ok (.iaload, 1))) (sb_cons (sd_ireturn (x := 0) rfl (by decide +kernel : decode cX2_number 63 = .ok (.ireturn, 1))) sb_nil))))
set_option maxRecDepth 100000 in
theorem sb_X2_number_64 (l : Launch) : sm_SndB l RX2 "number" cX2_number 3 1 2 64 [oA 0, oGr 2 9 6, oI 1, oIl, oIr] := sb_cons (sd_aload_n (by decide +kernel : decode cX2_number 64 = .ok (.aload_n 0, 1)) rfl) (sb_cons (sd_getr (k := 6) kl_2 (by decide) rfl wm_53 (by decide +kernel : decode cX2_number 65 = .ok (.getfield 30, 3))) (sb_cons (sd_iload_n (by decide +kernel : decode cX2_number 68 = .ok (.iload_n 1, 1)) rfl) (sb_cons (sd_iaload (by decide +kernel : decode cX2_number 69 = .ok (.iaload, 1))) (sb_cons (sd_ireturn (x := 0) rfl (by decide +kernel : decode cX2_number 70 = .ok (.ireturn, 1))) sb_nil))))
set_option maxRecDepth 100000 in
theorem sb_X2_number_71 (l : Launch) : sm_SndB l RX2 "number" cX2_number 3 1 2 71 [oA 0, oI 1, oA 0, oGr 2 9 2, oI 1, oIl, oCv 2 9 p_X2_wayLeft f_X2_wayLeft 0 0 3, oIr] := sb_cons (sd_aload_n (by decide +kernel : decode cX2_number 71 = .ok (.aload_n 0, 1)) rfl) (sb_cons (sd_iload_n (by decide +kernel : decode cX2_number 72 = .ok (.iload_n 1, 1)) rfl) (sb_cons (sd_aload_n (by decide +kernel : decode cX2_number 73 = .ok (.aload_n 0, 1)) rfl) (sb_cons (sd_getr (k := 2) kl_2 (by decide) rfl wm_45 (by decide +kernel : decode cX2_number 74 = .ok (.getfield 18, 3))) (sb_cons (sd_iload_n (by decide +kernel : decode cX2_number 77 = .ok (.iload_n 1, 1)) rfl) (sb_cons (sd_iaload (by decide +kernel : decode cX2_number 78 = .ok (.iaload, 1))) (sb_cons (sd_callv (n := 2) (met_X2_wayLeft l) (by decide) (by decide) wm_274 wm_271 wm_3 ⟨by decide +kernel, by decide +kernel, by decide +kernel⟩ kl_2 wm_272 wm_273 (by decide +kernel : decode cX2_number 79 = .ok (.invokevirtual 62, 3))) (sb_cons (sd_ireturn (x := 0) rfl (by decide +kernel : decode cX2_number 82 = .ok (.ireturn, 1))) sb_nil)))))))
theorem sn_X2_number (l : Launch) : sm_SndT l RX2 "number" cX2_number 3 1 2 tb_X2_number := st_cons (sb_X2_number_0 l) (st_cons (sb_X2_number_36 l) (st_cons (sb_X2_number_43 l) (st_cons (sb_X2_number_50 l) (st_cons (sb_X2_number_57 l) (st_cons (sb_X2_number_64 l) (st_cons (sb_X2_number_71 l) (st_nil)))))))
set_option maxRecDepth 100000 in
set_option maxHeartbeats 4000000 in
theorem ok_X2_number : sm_Ok tb_X2_number 3 0 0 p_X2_number f_X2_number := by
  intro as w hp ha hw
  match as, hp with
  | [.inr (.inl a), .inl x, .inl k], hp =>
  refine ⟨Nat.le_of_ble_eq_true rfl, fun Z hZ => ?_⟩
  obtain ⟨hO, x0, x1, k0, k1⟩ := hp
  obtain ⟨l0, l1, l2, l3, l4, l5, l6, l7, r0, r1, r2, r3, r4, r5, r6⟩ := lS hO.1 hO.2.1
  have hn := lOK_n hO
  have hq := lOK_s hO x0 x1
  have e := vL_s w a x0
  have hk : k = 0 ∨ k = 1 ∨ k = 2 ∨ k = 3 ∨ k = 4 ∨ k = 5 := by omega
  obtain ⟨z, hz⟩ : ∃ z, z = (if k ≤ 4 then vL w a (17 + 5 * x + k) else vTime (vL w a) x (wI w (a + 3) x)) := ⟨_, rfl⟩
  have hze : (if k ≤ 4 then vL w a (17 + 5 * x + k) else vTime (vL w a) x (wI w (a + 3) x)) = z := hz.symm
  have h0 : k = 0 → z = wI w (a + 3) x := fun h => by rw [hz, h, if_pos (by decide), Int.add_zero, e.1]
  have h1 : k = 1 → z = wI w (a + 4) x := fun h => by rw [hz, h, if_pos (by decide), e.2.1]
  have h2 : k = 2 → z = wI w (a + 5) x := fun h => by rw [hz, h, if_pos (by decide), e.2.2.1]
  have h3 : k = 3 → z = wI w (a + 6) x := fun h => by rw [hz, h, if_pos (by decide), e.2.2.2.1]
  have h4 : k = 4 → z = wI w (a + 7) x := fun h => by rw [hz, h, if_pos (by decide), e.2.2.2.2]
  have h5 : k = 5 → z = vTime (vL w a) x (wI w (a + 3) x) := fun h => by rw [hz, h, if_neg (by decide)]
  clear hz
  refine hZ (fun _ => false) 16 0 _ _ _ _ _ ?_
  simp only [sm_run, sm_blk, sm_get, sm_ent, sm_ents, sm_wds, sm_wd, sm_nl, sm_pop, sm_back, sm_cases, oK, oLK, oL, oI, oA, oJ, oIs, oAs, oJs, oInc, oAdd, oSub, oMul, oDiv, oRem, oNeg, oAnd, oAndB, oOr, oShl, oI2c, oI2l, oL2i, oLand, oLor, oLshl, oLshr, oLushr, oLcmp, oDup, oDup2, oPop, oGo, oFg, oEq, oNe, oLt, oGe, oGt, oLe, oEq0, oNe0, oLt0, oGe0, oGt0, oLe0, oSw, oGi, oGr, oPi, oPz, oPr, oLen, oIl, oZl, oCl, oRl, oIst, oZst, oCst, oRst, oCopy, oNew, oNa, oNa2, oObj, oCs, oCv, oCi, oIr, oZr, oVr, Nat.beq, List.getElem?_cons_zero, List.getElem?_cons_succ, List.set_cons_zero, List.set_cons_succ, List.length_cons, List.length_nil, List.nil_append, List.cons_append, List.append_nil, List.replicate_succ, List.replicate_zero, Nat.reduceAdd, Nat.reduceSub, Nat.reduceLT, Nat.reduceLeDiff, Nat.reduceBEq, true_and, and_true, Nat.zero_add, Nat.add_zero, Nat.le_refl, Option.some.injEq, exists_eq_left', true_or, or_true, or_false, false_or, reduceCtorEq, Prod.mk.injEq, Sum.inl.injEq, and_self, false_and, and_false, not_true_eq_false, not_false_eq_true, false_implies, true_implies, sm_r, Int.add_zero, Int.zero_add, wI_wsI, wS_wsI, wR_wsI, wI_wCp, wS_wCp, wR_wCp, Nat.reduceEqDiff, reduceIte, sT_iff, sT_iffC, wIf_ne, ne_eq, Bool.false_or, Bool.true_or, Bool.or_false, Bool.or_true, Bool.or_self, Nat.left_eq_add, Nat.add_eq_left, Nat.add_left_inj, tb_X2_number, p_X2_wayLeft, f_X2_wayLeft, p_X2_number, f_X2_number, l0, l3, l4, l5, l6, l7, r2, r3, r4, r5, r6, hO, hze, Int.reduceAdd]
  repeat' (first | exact True.intro | with_reducible assumption | with_reducible refine And.intro ?_ ?_ | intro _)
  all_goals first
    | omega
    | assumption
    | rfl
    | (split <;> omega)
    | grind
    | skip

theorem met_X2_number (l : Launch) : sm_Met l yX2_number cX2_number 3 (some .int) 2 0 0 p_X2_number f_X2_number := sm_met 1 (Or.inr (Or.inl ⟨rfl, rfl⟩)) (by decide +kernel) (sn_X2_number l) ok_X2_number