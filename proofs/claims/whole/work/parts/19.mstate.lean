/-! THE REFERENCE: its changes, undo, slots, counts, orders of shuttles -/
def p_X8_tracks : List sm_V → sm_W → Prop
  | [.inr (.inl m), .inl s, .inl v], w => m = 154 ∧ sT w ∧ mH w
  | _, _ => False
def f_X8_tracks : sm_F
  | [.inr (.inl m), .inl s, .inl v], w => (some (.inl (if 0 ≤ s ∧ s ≤ 7 then (if 1 ≤ v ∧ v ≤ 4 then wI w 155 (2 + s) else -2) else -1)), (if 0 ≤ s ∧ s ≤ 7 then (if 1 ≤ v ∧ v ≤ 4 then wsI (mKf w 1) 155 (2 + s) v else w) else w))
  | _, w => (none, w)
def tb_X8_tracks : List (Nat × List sm_O) := [(0, [oA 0, oI 1, oI 2, oK 1, oCv 8 30 p_X8_tryTracks f_X8_tryTracks 0 0 4, oIr])]
set_option maxRecDepth 100000 in
theorem sb_X8_tracks_0 (l : Launch) : sm_SndB l RX8 "tracks" cX8_tracks 3 1 4 0 [oA 0, oI 1, oI 2, oK 1, oCv 8 30 p_X8_tryTracks f_X8_tryTracks 0 0 4, oIr] := sb_cons (sd_aload_n (by decide +kernel : decode cX8_tracks 0 = .ok (.aload_n 0, 1)) rfl) (sb_cons (sd_iload_n (by decide +kernel : decode cX8_tracks 1 = .ok (.iload_n 1, 1)) rfl) (sb_cons (sd_iload_n (by decide +kernel : decode cX8_tracks 2 = .ok (.iload_n 2, 1)) rfl) (sb_cons (sd_iconst (by decide +kernel : decode cX8_tracks 3 = .ok (.iconst 1, 1)) ⟨by decide, by decide⟩) (sb_cons (sd_callv (n := 3) (met_X8_tryTracks l) (by decide) (by decide) wm_723 wm_721 wm_10 ⟨by decide +kernel, by decide +kernel, by decide +kernel⟩ kl_8 wm_722 wm_1105 (by decide +kernel : decode cX8_tracks 4 = .ok (.invokevirtual 185, 3))) (sb_cons (sd_ireturn (x := 0) rfl (by decide +kernel : decode cX8_tracks 7 = .ok (.ireturn, 1))) sb_nil)))))
theorem sn_X8_tracks (l : Launch) : sm_SndT l RX8 "tracks" cX8_tracks 3 1 4 tb_X8_tracks := st_cons (sb_X8_tracks_0 l) (st_nil)
set_option maxRecDepth 100000 in
set_option maxHeartbeats 4000000 in
theorem ok_X8_tracks : sm_Ok tb_X8_tracks 3 0 0 p_X8_tracks f_X8_tracks := by
  intro as w hp ha hw
  match as, hp with
  | [.inr (.inl m), .inl s, .inl v], hp =>
  refine ⟨Nat.le_of_ble_eq_true rfl, fun Z hZ => ?_⟩
  obtain ⟨rfl, hT, hH⟩ := hp
  refine hZ (fun _ => false) 16 0 _ _ _ _ _ ?_
  simp only [sm_run, sm_blk, sm_get, sm_ent, sm_ents, sm_wds, sm_wd, sm_nl, sm_pop, sm_back, sm_cases, oK, oLK, oL, oI, oA, oJ, oIs, oAs, oJs, oInc, oAdd, oSub, oMul, oDiv, oRem, oNeg, oAnd, oAndB, oOr, oShl, oI2c, oI2l, oL2i, oLand, oLor, oLshl, oLshr, oLushr, oLcmp, oDup, oDup2, oPop, oGo, oFg, oEq, oNe, oLt, oGe, oGt, oLe, oEq0, oNe0, oLt0, oGe0, oGt0, oLe0, oSw, oGi, oGr, oPi, oPz, oPr, oLen, oIl, oZl, oCl, oRl, oIst, oZst, oCst, oRst, oCopy, oNew, oNa, oNa2, oObj, oCs, oCv, oCi, oIr, oZr, oVr, Nat.beq, List.getElem?_cons_zero, List.getElem?_cons_succ, List.set_cons_zero, List.set_cons_succ, List.length_cons, List.length_nil, List.nil_append, List.cons_append, List.append_nil, List.replicate_succ, List.replicate_zero, Nat.reduceAdd, Nat.reduceSub, Nat.reduceLT, Nat.reduceLeDiff, Nat.reduceBEq, true_and, and_true, Nat.zero_add, Nat.add_zero, Nat.le_refl, Option.some.injEq, exists_eq_left', true_or, or_true, or_false, false_or, reduceCtorEq, Prod.mk.injEq, Sum.inl.injEq, and_self, false_and, and_false, not_true_eq_false, not_false_eq_true, false_implies, true_implies, sm_r, Int.add_zero, Int.zero_add, wI_wsI, wS_wsI, wR_wsI, wI_wCp, wS_wCp, wR_wCp, Nat.reduceEqDiff, reduceIte, sT_iff, sT_iffC, wIf_ne, ne_eq, Bool.false_or, Bool.true_or, Bool.or_false, Bool.or_true, Bool.or_self, tb_X8_tracks, p_X8_tryTracks, f_X8_tryTracks, p_X8_tracks, f_X8_tracks, sS_154 hT, hT, hH]
  repeat' (first | exact True.intro | with_reducible assumption | with_reducible refine And.intro ?_ ?_ | intro _)
  all_goals first
    | omega
    | assumption
    | rfl
    | (split <;> omega)
    | grind
    | skip
theorem met_X8_tracks (l : Launch) : sm_Met l yX8_tracks cX8_tracks 3 (some .int) 4 0 0 p_X8_tracks f_X8_tracks := sm_met 1 (Or.inr (Or.inl ⟨rfl, rfl⟩)) (by decide +kernel) (sn_X8_tracks l) ok_X8_tracks
def p_X8_running : List sm_V → sm_W → Prop
  | [.inr (.inl m), .inl s, .inl v], w => m = 154 ∧ sT w ∧ mH w
  | _, _ => False
def f_X8_running : sm_F
  | [.inr (.inl m), .inl s, .inl v], w => (some (.inl (if 0 ≤ s ∧ s ≤ 6 then (if 1 ≤ v ∧ v ≤ 30 then wI w 155 (10 + s) else -2) else -1)), (if 0 ≤ s ∧ s ≤ 6 then (if 1 ≤ v ∧ v ≤ 30 then wsI (mKf w 1) 155 (10 + s) v else w) else w))
  | _, w => (none, w)
def tb_X8_running : List (Nat × List sm_O) := [(0, [oA 0, oI 1, oI 2, oK 1, oCv 8 30 p_X8_tryRunning f_X8_tryRunning 0 0 4, oIr])]
set_option maxRecDepth 100000 in
theorem sb_X8_running_0 (l : Launch) : sm_SndB l RX8 "running" cX8_running 3 1 4 0 [oA 0, oI 1, oI 2, oK 1, oCv 8 30 p_X8_tryRunning f_X8_tryRunning 0 0 4, oIr] := sb_cons (sd_aload_n (by decide +kernel : decode cX8_running 0 = .ok (.aload_n 0, 1)) rfl) (sb_cons (sd_iload_n (by decide +kernel : decode cX8_running 1 = .ok (.iload_n 1, 1)) rfl) (sb_cons (sd_iload_n (by decide +kernel : decode cX8_running 2 = .ok (.iload_n 2, 1)) rfl) (sb_cons (sd_iconst (by decide +kernel : decode cX8_running 3 = .ok (.iconst 1, 1)) ⟨by decide, by decide⟩) (sb_cons (sd_callv (n := 3) (met_X8_tryRunning l) (by decide) (by decide) wm_744 wm_742 wm_10 ⟨by decide +kernel, by decide +kernel, by decide +kernel⟩ kl_8 wm_743 wm_1108 (by decide +kernel : decode cX8_running 4 = .ok (.invokevirtual 191, 3))) (sb_cons (sd_ireturn (x := 0) rfl (by decide +kernel : decode cX8_running 7 = .ok (.ireturn, 1))) sb_nil)))))
theorem sn_X8_running (l : Launch) : sm_SndT l RX8 "running" cX8_running 3 1 4 tb_X8_running := st_cons (sb_X8_running_0 l) (st_nil)
set_option maxRecDepth 100000 in
set_option maxHeartbeats 4000000 in
theorem ok_X8_running : sm_Ok tb_X8_running 3 0 0 p_X8_running f_X8_running := by
  intro as w hp ha hw
  match as, hp with
  | [.inr (.inl m), .inl s, .inl v], hp =>
  refine ⟨Nat.le_of_ble_eq_true rfl, fun Z hZ => ?_⟩
  obtain ⟨rfl, hT, hH⟩ := hp
  refine hZ (fun _ => false) 16 0 _ _ _ _ _ ?_
  simp only [sm_run, sm_blk, sm_get, sm_ent, sm_ents, sm_wds, sm_wd, sm_nl, sm_pop, sm_back, sm_cases, oK, oLK, oL, oI, oA, oJ, oIs, oAs, oJs, oInc, oAdd, oSub, oMul, oDiv, oRem, oNeg, oAnd, oAndB, oOr, oShl, oI2c, oI2l, oL2i, oLand, oLor, oLshl, oLshr, oLushr, oLcmp, oDup, oDup2, oPop, oGo, oFg, oEq, oNe, oLt, oGe, oGt, oLe, oEq0, oNe0, oLt0, oGe0, oGt0, oLe0, oSw, oGi, oGr, oPi, oPz, oPr, oLen, oIl, oZl, oCl, oRl, oIst, oZst, oCst, oRst, oCopy, oNew, oNa, oNa2, oObj, oCs, oCv, oCi, oIr, oZr, oVr, Nat.beq, List.getElem?_cons_zero, List.getElem?_cons_succ, List.set_cons_zero, List.set_cons_succ, List.length_cons, List.length_nil, List.nil_append, List.cons_append, List.append_nil, List.replicate_succ, List.replicate_zero, Nat.reduceAdd, Nat.reduceSub, Nat.reduceLT, Nat.reduceLeDiff, Nat.reduceBEq, true_and, and_true, Nat.zero_add, Nat.add_zero, Nat.le_refl, Option.some.injEq, exists_eq_left', true_or, or_true, or_false, false_or, reduceCtorEq, Prod.mk.injEq, Sum.inl.injEq, and_self, false_and, and_false, not_true_eq_false, not_false_eq_true, false_implies, true_implies, sm_r, Int.add_zero, Int.zero_add, wI_wsI, wS_wsI, wR_wsI, wI_wCp, wS_wCp, wR_wCp, Nat.reduceEqDiff, reduceIte, sT_iff, sT_iffC, wIf_ne, ne_eq, Bool.false_or, Bool.true_or, Bool.or_false, Bool.or_true, Bool.or_self, tb_X8_running, p_X8_tryRunning, f_X8_tryRunning, p_X8_running, f_X8_running, sS_154 hT, hT, hH]
  repeat' (first | exact True.intro | with_reducible assumption | with_reducible refine And.intro ?_ ?_ | intro _)
  all_goals first
    | omega
    | assumption
    | rfl
    | (split <;> omega)
    | grind
    | skip
theorem met_X8_running (l : Launch) : sm_Met l yX8_running cX8_running 3 (some .int) 4 0 0 p_X8_running f_X8_running := sm_met 1 (Or.inr (Or.inl ⟨rfl, rfl⟩)) (by decide +kernel) (sn_X8_running l) ok_X8_running
def p_X8_shuttle : List sm_V → sm_W → Prop
  | [.inr (.inl m), .inl a, .inl b, .inl c, .inl d, .inl e], w => m = 154 ∧ mOK w ∧ mH w
  | _, _ => False
def f_X8_shuttle : sm_F
  | [.inr (.inl m), .inl a, .inl b, .inl c, .inl d, .inl e], w => (some (.inl (if mShOk a b c d e < 0 then mShOk a b c d e else (if wI w 155 1 = 8 then -4 else wI w 155 1))), (if mShOk a b c d e < 0 then w else (if wI w 155 1 = 8 then w else mNewSh (mKf w 1) a b c d e)))
  | _, w => (none, w)
def tb_X8_shuttle : List (Nat × List sm_O) := [(0, [oA 0, oI 1, oI 2, oI 3, oI 4, oI 5, oK 1, oCv 8 30 p_X8_tryShuttle f_X8_tryShuttle 0 0 7, oIr])]
set_option maxRecDepth 100000 in
theorem sb_X8_shuttle_0 (l : Launch) : sm_SndB l RX8 "shuttle" cX8_shuttle 6 1 3 0 [oA 0, oI 1, oI 2, oI 3, oI 4, oI 5, oK 1, oCv 8 30 p_X8_tryShuttle f_X8_tryShuttle 0 0 7, oIr] := sb_cons (sd_aload_n (by decide +kernel : decode cX8_shuttle 0 = .ok (.aload_n 0, 1)) rfl) (sb_cons (sd_iload_n (by decide +kernel : decode cX8_shuttle 1 = .ok (.iload_n 1, 1)) rfl) (sb_cons (sd_iload_n (by decide +kernel : decode cX8_shuttle 2 = .ok (.iload_n 2, 1)) rfl) (sb_cons (sd_iload_n (by decide +kernel : decode cX8_shuttle 3 = .ok (.iload_n 3, 1)) rfl) (sb_cons (sd_iload (by decide +kernel : decode cX8_shuttle 4 = .ok (.iload 4, 2))) (sb_cons (sd_iload (by decide +kernel : decode cX8_shuttle 6 = .ok (.iload 5, 2))) (sb_cons (sd_iconst (by decide +kernel : decode cX8_shuttle 8 = .ok (.iconst 1, 1)) ⟨by decide, by decide⟩) (sb_cons (sd_callv (n := 6) (met_X8_tryShuttle l) (by decide) (by decide) wm_757 wm_755 wm_10 ⟨by decide +kernel, by decide +kernel, by decide +kernel⟩ kl_8 wm_756 wm_1109 (by decide +kernel : decode cX8_shuttle 9 = .ok (.invokevirtual 194, 3))) (sb_cons (sd_ireturn (x := 0) rfl (by decide +kernel : decode cX8_shuttle 12 = .ok (.ireturn, 1))) sb_nil))))))))
theorem sn_X8_shuttle (l : Launch) : sm_SndT l RX8 "shuttle" cX8_shuttle 6 1 3 tb_X8_shuttle := st_cons (sb_X8_shuttle_0 l) (st_nil)
set_option maxRecDepth 100000 in
set_option maxHeartbeats 4000000 in
theorem ok_X8_shuttle : sm_Ok tb_X8_shuttle 6 0 0 p_X8_shuttle f_X8_shuttle := by
  intro as w hp ha hw
  match as, hp with
  | [.inr (.inl m), .inl a, .inl b, .inl c, .inl d, .inl e], hp =>
  refine ⟨Nat.le_of_ble_eq_true rfl, fun Z hZ => ?_⟩
  obtain ⟨rfl, hO, hH⟩ := hp
  have hT := hO.1
  refine hZ (fun _ => false) 16 0 _ _ _ _ _ ?_
  simp only [sm_run, sm_blk, sm_get, sm_ent, sm_ents, sm_wds, sm_wd, sm_nl, sm_pop, sm_back, sm_cases, oK, oLK, oL, oI, oA, oJ, oIs, oAs, oJs, oInc, oAdd, oSub, oMul, oDiv, oRem, oNeg, oAnd, oAndB, oOr, oShl, oI2c, oI2l, oL2i, oLand, oLor, oLshl, oLshr, oLushr, oLcmp, oDup, oDup2, oPop, oGo, oFg, oEq, oNe, oLt, oGe, oGt, oLe, oEq0, oNe0, oLt0, oGe0, oGt0, oLe0, oSw, oGi, oGr, oPi, oPz, oPr, oLen, oIl, oZl, oCl, oRl, oIst, oZst, oCst, oRst, oCopy, oNew, oNa, oNa2, oObj, oCs, oCv, oCi, oIr, oZr, oVr, Nat.beq, List.getElem?_cons_zero, List.getElem?_cons_succ, List.set_cons_zero, List.set_cons_succ, List.length_cons, List.length_nil, List.nil_append, List.cons_append, List.append_nil, List.replicate_succ, List.replicate_zero, Nat.reduceAdd, Nat.reduceSub, Nat.reduceLT, Nat.reduceLeDiff, Nat.reduceBEq, true_and, and_true, Nat.zero_add, Nat.add_zero, Nat.le_refl, Option.some.injEq, exists_eq_left', true_or, or_true, or_false, false_or, reduceCtorEq, Prod.mk.injEq, Sum.inl.injEq, and_self, false_and, and_false, not_true_eq_false, not_false_eq_true, false_implies, true_implies, sm_r, Int.add_zero, Int.zero_add, wI_wsI, wS_wsI, wR_wsI, wI_wCp, wS_wCp, wR_wCp, Nat.reduceEqDiff, reduceIte, sT_iff, sT_iffC, wIf_ne, ne_eq, Bool.false_or, Bool.true_or, Bool.or_false, Bool.or_true, Bool.or_self, tb_X8_shuttle, p_X8_tryShuttle, f_X8_tryShuttle, p_X8_shuttle, f_X8_shuttle, sS_154 hT, hO, hH]
  repeat' (first | exact True.intro | with_reducible assumption | with_reducible refine And.intro ?_ ?_ | intro _)
  all_goals first
    | omega
    | assumption
    | rfl
    | (split <;> omega)
    | grind
    | skip
theorem met_X8_shuttle (l : Launch) : sm_Met l yX8_shuttle cX8_shuttle 6 (some .int) 3 0 0 p_X8_shuttle f_X8_shuttle := sm_met 1 (Or.inr (Or.inl ⟨rfl, rfl⟩)) (by decide +kernel) (sn_X8_shuttle l) ok_X8_shuttle
def p_X8_late : List sm_V → sm_W → Prop
  | [.inr (.inl m), .inl x, .inl v], w => m = 154 ∧ mOK w ∧ mH w
  | _, _ => False
def f_X8_late : sm_F
  | [.inr (.inl m), .inl x, .inl v], w => (some (.inl (if mLateE w x v < 0 then mLateE w x v else wI w 155 (17 + 5 * x + 2) + v)), (if mLateE w x v < 0 then w else wsI (mKf w 1) 155 (17 + 5 * x + 2) (wI w 155 (17 + 5 * x + 2) + v)))
  | _, w => (none, w)
def tb_X8_late : List (Nat × List sm_O) := [(0, [oA 0, oI 1, oI 2, oK 1, oCv 8 30 p_X8_tryLate f_X8_tryLate 0 0 4, oIr])]
set_option maxRecDepth 100000 in
theorem sb_X8_late_0 (l : Launch) : sm_SndB l RX8 "late" cX8_late 3 1 4 0 [oA 0, oI 1, oI 2, oK 1, oCv 8 30 p_X8_tryLate f_X8_tryLate 0 0 4, oIr] := sb_cons (sd_aload_n (by decide +kernel : decode cX8_late 0 = .ok (.aload_n 0, 1)) rfl) (sb_cons (sd_iload_n (by decide +kernel : decode cX8_late 1 = .ok (.iload_n 1, 1)) rfl) (sb_cons (sd_iload_n (by decide +kernel : decode cX8_late 2 = .ok (.iload_n 2, 1)) rfl) (sb_cons (sd_iconst (by decide +kernel : decode cX8_late 3 = .ok (.iconst 1, 1)) ⟨by decide, by decide⟩) (sb_cons (sd_callv (n := 3) (met_X8_tryLate l) (by decide) (by decide) wm_766 wm_764 wm_10 ⟨by decide +kernel, by decide +kernel, by decide +kernel⟩ kl_8 wm_765 wm_1110 (by decide +kernel : decode cX8_late 4 = .ok (.invokevirtual 204, 3))) (sb_cons (sd_ireturn (x := 0) rfl (by decide +kernel : decode cX8_late 7 = .ok (.ireturn, 1))) sb_nil)))))
theorem sn_X8_late (l : Launch) : sm_SndT l RX8 "late" cX8_late 3 1 4 tb_X8_late := st_cons (sb_X8_late_0 l) (st_nil)
set_option maxRecDepth 100000 in
set_option maxHeartbeats 4000000 in
theorem ok_X8_late : sm_Ok tb_X8_late 3 0 0 p_X8_late f_X8_late := by
  intro as w hp ha hw
  match as, hp with
  | [.inr (.inl m), .inl x, .inl v], hp =>
  refine ⟨Nat.le_of_ble_eq_true rfl, fun Z hZ => ?_⟩
  obtain ⟨rfl, hO, hH⟩ := hp
  have hT := hO.1
  refine hZ (fun _ => false) 16 0 _ _ _ _ _ ?_
  simp only [sm_run, sm_blk, sm_get, sm_ent, sm_ents, sm_wds, sm_wd, sm_nl, sm_pop, sm_back, sm_cases, oK, oLK, oL, oI, oA, oJ, oIs, oAs, oJs, oInc, oAdd, oSub, oMul, oDiv, oRem, oNeg, oAnd, oAndB, oOr, oShl, oI2c, oI2l, oL2i, oLand, oLor, oLshl, oLshr, oLushr, oLcmp, oDup, oDup2, oPop, oGo, oFg, oEq, oNe, oLt, oGe, oGt, oLe, oEq0, oNe0, oLt0, oGe0, oGt0, oLe0, oSw, oGi, oGr, oPi, oPz, oPr, oLen, oIl, oZl, oCl, oRl, oIst, oZst, oCst, oRst, oCopy, oNew, oNa, oNa2, oObj, oCs, oCv, oCi, oIr, oZr, oVr, Nat.beq, List.getElem?_cons_zero, List.getElem?_cons_succ, List.set_cons_zero, List.set_cons_succ, List.length_cons, List.length_nil, List.nil_append, List.cons_append, List.append_nil, List.replicate_succ, List.replicate_zero, Nat.reduceAdd, Nat.reduceSub, Nat.reduceLT, Nat.reduceLeDiff, Nat.reduceBEq, true_and, and_true, Nat.zero_add, Nat.add_zero, Nat.le_refl, Option.some.injEq, exists_eq_left', true_or, or_true, or_false, false_or, reduceCtorEq, Prod.mk.injEq, Sum.inl.injEq, and_self, false_and, and_false, not_true_eq_false, not_false_eq_true, false_implies, true_implies, sm_r, Int.add_zero, Int.zero_add, wI_wsI, wS_wsI, wR_wsI, wI_wCp, wS_wCp, wR_wCp, Nat.reduceEqDiff, reduceIte, sT_iff, sT_iffC, wIf_ne, ne_eq, Bool.false_or, Bool.true_or, Bool.or_false, Bool.or_true, Bool.or_self, tb_X8_late, p_X8_tryLate, f_X8_tryLate, p_X8_late, f_X8_late, sS_154 hT, hO, hH]
  repeat' (first | exact True.intro | with_reducible assumption | with_reducible refine And.intro ?_ ?_ | intro _)
  all_goals first
    | omega
    | assumption
    | rfl
    | (split <;> omega)
    | grind
    | skip
theorem met_X8_late (l : Launch) : sm_Met l yX8_late cX8_late 3 (some .int) 4 0 0 p_X8_late f_X8_late := sm_met 1 (Or.inr (Or.inl ⟨rfl, rfl⟩)) (by decide +kernel) (sn_X8_late l) ok_X8_late
def p_X8_prefer : List sm_V → sm_W → Prop
  | [.inr (.inl m), .inl x, .inl v], w => m = 154 ∧ mOK w ∧ mH w
  | _, _ => False
def f_X8_prefer : sm_F
  | [.inr (.inl m), .inl x, .inl v], w => (some (.inl (if 0 ≤ x ∧ x < wI w 155 1 then (if 0 ≤ v ∧ v ≤ 9 then wI w 155 (17 + 5 * x + 4) else -2) else -1)), (if 0 ≤ x ∧ x < wI w 155 1 then (if 0 ≤ v ∧ v ≤ 9 then wsI (mKf w 1) 155 (17 + 5 * x + 4) v else w) else w))
  | _, w => (none, w)
def tb_X8_prefer : List (Nat × List sm_O) := [(0, [oA 0, oI 1, oI 2, oK 1, oCv 8 30 p_X8_tryPrefer f_X8_tryPrefer 0 0 4, oIr])]
set_option maxRecDepth 100000 in
theorem sb_X8_prefer_0 (l : Launch) : sm_SndB l RX8 "prefer" cX8_prefer 3 1 4 0 [oA 0, oI 1, oI 2, oK 1, oCv 8 30 p_X8_tryPrefer f_X8_tryPrefer 0 0 4, oIr] := sb_cons (sd_aload_n (by decide +kernel : decode cX8_prefer 0 = .ok (.aload_n 0, 1)) rfl) (sb_cons (sd_iload_n (by decide +kernel : decode cX8_prefer 1 = .ok (.iload_n 1, 1)) rfl) (sb_cons (sd_iload_n (by decide +kernel : decode cX8_prefer 2 = .ok (.iload_n 2, 1)) rfl) (sb_cons (sd_iconst (by decide +kernel : decode cX8_prefer 3 = .ok (.iconst 1, 1)) ⟨by decide, by decide⟩) (sb_cons (sd_callv (n := 3) (met_X8_tryPrefer l) (by decide) (by decide) wm_787 wm_785 wm_10 ⟨by decide +kernel, by decide +kernel, by decide +kernel⟩ kl_8 wm_786 wm_1114 (by decide +kernel : decode cX8_prefer 4 = .ok (.invokevirtual 207, 3))) (sb_cons (sd_ireturn (x := 0) rfl (by decide +kernel : decode cX8_prefer 7 = .ok (.ireturn, 1))) sb_nil)))))
theorem sn_X8_prefer (l : Launch) : sm_SndT l RX8 "prefer" cX8_prefer 3 1 4 tb_X8_prefer := st_cons (sb_X8_prefer_0 l) (st_nil)
set_option maxRecDepth 100000 in
set_option maxHeartbeats 4000000 in
theorem ok_X8_prefer : sm_Ok tb_X8_prefer 3 0 0 p_X8_prefer f_X8_prefer := by
  intro as w hp ha hw
  match as, hp with
  | [.inr (.inl m), .inl x, .inl v], hp =>
  refine ⟨Nat.le_of_ble_eq_true rfl, fun Z hZ => ?_⟩
  obtain ⟨rfl, hO, hH⟩ := hp
  have hT := hO.1
  refine hZ (fun _ => false) 16 0 _ _ _ _ _ ?_
  simp only [sm_run, sm_blk, sm_get, sm_ent, sm_ents, sm_wds, sm_wd, sm_nl, sm_pop, sm_back, sm_cases, oK, oLK, oL, oI, oA, oJ, oIs, oAs, oJs, oInc, oAdd, oSub, oMul, oDiv, oRem, oNeg, oAnd, oAndB, oOr, oShl, oI2c, oI2l, oL2i, oLand, oLor, oLshl, oLshr, oLushr, oLcmp, oDup, oDup2, oPop, oGo, oFg, oEq, oNe, oLt, oGe, oGt, oLe, oEq0, oNe0, oLt0, oGe0, oGt0, oLe0, oSw, oGi, oGr, oPi, oPz, oPr, oLen, oIl, oZl, oCl, oRl, oIst, oZst, oCst, oRst, oCopy, oNew, oNa, oNa2, oObj, oCs, oCv, oCi, oIr, oZr, oVr, Nat.beq, List.getElem?_cons_zero, List.getElem?_cons_succ, List.set_cons_zero, List.set_cons_succ, List.length_cons, List.length_nil, List.nil_append, List.cons_append, List.append_nil, List.replicate_succ, List.replicate_zero, Nat.reduceAdd, Nat.reduceSub, Nat.reduceLT, Nat.reduceLeDiff, Nat.reduceBEq, true_and, and_true, Nat.zero_add, Nat.add_zero, Nat.le_refl, Option.some.injEq, exists_eq_left', true_or, or_true, or_false, false_or, reduceCtorEq, Prod.mk.injEq, Sum.inl.injEq, and_self, false_and, and_false, not_true_eq_false, not_false_eq_true, false_implies, true_implies, sm_r, Int.add_zero, Int.zero_add, wI_wsI, wS_wsI, wR_wsI, wI_wCp, wS_wCp, wR_wCp, Nat.reduceEqDiff, reduceIte, sT_iff, sT_iffC, wIf_ne, ne_eq, Bool.false_or, Bool.true_or, Bool.or_false, Bool.or_true, Bool.or_self, tb_X8_prefer, p_X8_tryPrefer, f_X8_tryPrefer, p_X8_prefer, f_X8_prefer, sS_154 hT, hO, hH]
  repeat' (first | exact True.intro | with_reducible assumption | with_reducible refine And.intro ?_ ?_ | intro _)
  all_goals first
    | omega
    | assumption
    | rfl
    | (split <;> omega)
    | grind
    | skip
theorem met_X8_prefer (l : Launch) : sm_Met l yX8_prefer cX8_prefer 3 (some .int) 4 0 0 p_X8_prefer f_X8_prefer := sm_met 1 (Or.inr (Or.inl ⟨rfl, rfl⟩)) (by decide +kernel) (sn_X8_prefer l) ok_X8_prefer
def p_X8_remove : List sm_V → sm_W → Prop
  | [.inr (.inl m), .inl x], w => m = 154 ∧ mOK w ∧ mH w
  | _, _ => False
def f_X8_remove : sm_F
  | [.inr (.inl m), .inl x], w => (some (.inl (if 0 ≤ x ∧ x < wI w 155 1 then wI w 155 1 - 1 else -1)), (if 0 ≤ x ∧ x < wI w 155 1 then mRm w x 1 else w))
  | _, w => (none, w)
def tb_X8_remove : List (Nat × List sm_O) := [(0, [oA 0, oI 1, oK 1, oCv 8 30 p_X8_tryRemove f_X8_tryRemove 0 0 3, oIr])]
set_option maxRecDepth 100000 in
theorem sb_X8_remove_0 (l : Launch) : sm_SndB l RX8 "remove" cX8_remove 2 1 3 0 [oA 0, oI 1, oK 1, oCv 8 30 p_X8_tryRemove f_X8_tryRemove 0 0 3, oIr] := sb_cons (sd_aload_n (by decide +kernel : decode cX8_remove 0 = .ok (.aload_n 0, 1)) rfl) (sb_cons (sd_iload_n (by decide +kernel : decode cX8_remove 1 = .ok (.iload_n 1, 1)) rfl) (sb_cons (sd_iconst (by decide +kernel : decode cX8_remove 2 = .ok (.iconst 1, 1)) ⟨by decide, by decide⟩) (sb_cons (sd_callv (n := 2) (met_X8_tryRemove l) (by decide) (by decide) wm_796 wm_794 wm_10 ⟨by decide +kernel, by decide +kernel, by decide +kernel⟩ kl_8 wm_795 wm_1115 (by decide +kernel : decode cX8_remove 3 = .ok (.invokevirtual 210, 3))) (sb_cons (sd_ireturn (x := 0) rfl (by decide +kernel : decode cX8_remove 6 = .ok (.ireturn, 1))) sb_nil))))
theorem sn_X8_remove (l : Launch) : sm_SndT l RX8 "remove" cX8_remove 2 1 3 tb_X8_remove := st_cons (sb_X8_remove_0 l) (st_nil)
set_option maxRecDepth 100000 in
set_option maxHeartbeats 4000000 in
theorem ok_X8_remove : sm_Ok tb_X8_remove 2 0 0 p_X8_remove f_X8_remove := by
  intro as w hp ha hw
  match as, hp with
  | [.inr (.inl m), .inl x], hp =>
  refine ⟨Nat.le_of_ble_eq_true rfl, fun Z hZ => ?_⟩
  obtain ⟨rfl, hO, hH⟩ := hp
  have hT := hO.1
  refine hZ (fun _ => false) 16 0 _ _ _ _ _ ?_
  simp only [sm_run, sm_blk, sm_get, sm_ent, sm_ents, sm_wds, sm_wd, sm_nl, sm_pop, sm_back, sm_cases, oK, oLK, oL, oI, oA, oJ, oIs, oAs, oJs, oInc, oAdd, oSub, oMul, oDiv, oRem, oNeg, oAnd, oAndB, oOr, oShl, oI2c, oI2l, oL2i, oLand, oLor, oLshl, oLshr, oLushr, oLcmp, oDup, oDup2, oPop, oGo, oFg, oEq, oNe, oLt, oGe, oGt, oLe, oEq0, oNe0, oLt0, oGe0, oGt0, oLe0, oSw, oGi, oGr, oPi, oPz, oPr, oLen, oIl, oZl, oCl, oRl, oIst, oZst, oCst, oRst, oCopy, oNew, oNa, oNa2, oObj, oCs, oCv, oCi, oIr, oZr, oVr, Nat.beq, List.getElem?_cons_zero, List.getElem?_cons_succ, List.set_cons_zero, List.set_cons_succ, List.length_cons, List.length_nil, List.nil_append, List.cons_append, List.append_nil, List.replicate_succ, List.replicate_zero, Nat.reduceAdd, Nat.reduceSub, Nat.reduceLT, Nat.reduceLeDiff, Nat.reduceBEq, true_and, and_true, Nat.zero_add, Nat.add_zero, Nat.le_refl, Option.some.injEq, exists_eq_left', true_or, or_true, or_false, false_or, reduceCtorEq, Prod.mk.injEq, Sum.inl.injEq, and_self, false_and, and_false, not_true_eq_false, not_false_eq_true, false_implies, true_implies, sm_r, Int.add_zero, Int.zero_add, wI_wsI, wS_wsI, wR_wsI, wI_wCp, wS_wCp, wR_wCp, Nat.reduceEqDiff, reduceIte, sT_iff, sT_iffC, wIf_ne, ne_eq, Bool.false_or, Bool.true_or, Bool.or_false, Bool.or_true, Bool.or_self, tb_X8_remove, p_X8_tryRemove, f_X8_tryRemove, p_X8_remove, f_X8_remove, sS_154 hT, hO, hH]
  repeat' (first | exact True.intro | with_reducible assumption | with_reducible refine And.intro ?_ ?_ | intro _)
  all_goals first
    | omega
    | assumption
    | rfl
    | (split <;> omega)
    | grind
    | skip
theorem met_X8_remove (l : Launch) : sm_Met l yX8_remove cX8_remove 2 (some .int) 3 0 0 p_X8_remove f_X8_remove := sm_met 1 (Or.inr (Or.inl ⟨rfl, rfl⟩)) (by decide +kernel) (sn_X8_remove l) ok_X8_remove
def mUn1 (s k : Int) (w : sm_W) : sm_W := wsI w 155 k (wI w 156 (57 * s + k))
def mUndo (w : sm_W) : sm_W := itI (mUn1 ((wI w 154 2 + (wI w 154 3 - 1)) % 6)) (wsI w 154 3 (wI w 154 3 - 1)) 57
theorem mUnL (s : Int) (w : sm_W) (n : Int) (hn : 0 ≤ n) : (∀ a, a ≠ 155 → wI (itI (mUn1 s) w n) a = wI w a) ∧ (sT w → sT (itI (mUn1 s) w n)) :=
  itI_ind (f := mUn1 s) (fun _ r => (∀ a, a ≠ 155 → wI r a = wI w a) ∧ (sT w → sT r)) n ⟨fun _ _ => rfl, id⟩ (fun i r _ _ hr => ⟨fun a h => by unfold mUn1; rw [wIf_ne h, hr.1 a h], hr.2⟩) n hn (Int.le_refl _)
def p_X8_undo : List sm_V → sm_W → Prop
  | [.inr (.inl m)], w => m = 154 ∧ sT w ∧ mH w
  | _, _ => False
def f_X8_undo : sm_F
  | [.inr (.inl m)], w => (some (.inl (if wI w 154 3 = 0 then -5 else wI w 154 3 - 1)), (if wI w 154 3 = 0 then w else mUndo w))
  | _, w => (none, w)
def tb_X8_undo : List (Nat × List sm_O) := [(0, [oA 0, oGi 8 30 3, oNe0 10, oK (-5), oIr]),
  (10, [oA 0, oDup, oGi 8 30 3, oK 1, oSub, oPi 8 30 3, oA 0, oGi 8 30 2, oA 0, oGi 8 30 3, oAdd, oK 6, oRem, oIs 1, oK 0, oIs 2, oGo 35]),
  (35, [oI 2, oK 57, oGe 64, oA 0, oGr 8 30 0, oI 2, oA 0, oGr 8 30 1, oK 57, oI 1, oMul, oI 2, oAdd, oIl, oIst, oInc 2 1, oGo 35]),
  (64, [oA 0, oGi 8 30 3, oIr])]
set_option maxRecDepth 100000 in
theorem sb_X8_undo_0 (l : Launch) : sm_SndB l RX8 "undo" cX8_undo 3 1 0 0 [oA 0, oGi 8 30 3, oNe0 10, oK (-5), oIr] := sb_cons (sd_aload_n (by decide +kernel : decode cX8_undo 0 = .ok (.aload_n 0, 1)) rfl) (sb_cons (sd_geti (k := 3) kl_8 (by decide) rfl wm_676 (by decide +kernel : decode cX8_undo 1 = .ok (.getfield 82, 3))) (sb_cons (sd_ne0 (by decide +kernel : decode cX8_undo 4 = .ok (.ifCond .ne 6, 3)) (by decide)) (sb_cons (sd_bipush (by decide +kernel : decode cX8_undo 7 = .ok (.bipush (-5), 2)) ⟨by decide, by decide⟩ (by decide)) (sb_cons (sd_ireturn (x := 0) rfl (by decide +kernel : decode cX8_undo 9 = .ok (.ireturn, 1))) sb_nil))))
set_option maxRecDepth 100000 in
theorem sb_X8_undo_10 (l : Launch) : sm_SndB l RX8 "undo" cX8_undo 3 1 0 10 [oA 0, oDup, oGi 8 30 3, oK 1, oSub, oPi 8 30 3, oA 0, oGi 8 30 2, oA 0, oGi 8 30 3, oAdd, oK 6, oRem, oIs 1, oK 0, oIs 2, oGo 35] := sb_cons (sd_aload_n (by decide +kernel : decode cX8_undo 10 = .ok (.aload_n 0, 1)) rfl) (sb_cons (sd_dup (by decide +kernel : decode cX8_undo 11 = .ok (.dup, 1))) (sb_cons (sd_geti (k := 3) kl_8 (by decide) rfl wm_676 (by decide +kernel : decode cX8_undo 12 = .ok (.getfield 82, 3))) (sb_cons (sd_iconst (by decide +kernel : decode cX8_undo 15 = .ok (.iconst 1, 1)) ⟨by decide, by decide⟩) (sb_cons (sd_isub (by decide +kernel : decode cX8_undo 16 = .ok (.isub, 1))) (sb_cons (sd_puti (k := 3) kl_8 (by decide) rfl (Or.inl rfl) wm_676 (by decide +kernel : decode cX8_undo 17 = .ok (.putfield 82, 3))) (sb_cons (sd_aload_n (by decide +kernel : decode cX8_undo 20 = .ok (.aload_n 0, 1)) rfl) (sb_cons (sd_geti (k := 2) kl_8 (by decide) rfl wm_675 (by decide +kernel : decode cX8_undo 21 = .ok (.getfield 86, 3))) (sb_cons (sd_aload_n (by decide +kernel : decode cX8_undo 24 = .ok (.aload_n 0, 1)) rfl) (sb_cons (sd_geti (k := 3) kl_8 (by decide) rfl wm_676 (by decide +kernel : decode cX8_undo 25 = .ok (.getfield 82, 3))) (sb_cons (sd_iadd (by decide +kernel : decode cX8_undo 28 = .ok (.iadd, 1))) (sb_cons (sd_bipush (by decide +kernel : decode cX8_undo 29 = .ok (.bipush 6, 2)) ⟨by decide, by decide⟩ (by decide)) (sb_cons (sd_irem (by decide +kernel : decode cX8_undo 31 = .ok (.irem, 1))) (sb_cons (sd_istore_n (by decide +kernel : decode cX8_undo 32 = .ok (.istore_n 1, 1)) rfl) (sb_cons (sd_iconst (by decide +kernel : decode cX8_undo 33 = .ok (.iconst 0, 1)) ⟨by decide, by decide⟩) (sb_cons (sd_istore_n (by decide +kernel : decode cX8_undo 34 = .ok (.istore_n 2, 1)) rfl) (sb_cons (sd_fall (x := 0)) sb_nil))))))))))))))))
set_option maxRecDepth 100000 in
theorem sb_X8_undo_35 (l : Launch) : sm_SndB l RX8 "undo" cX8_undo 3 1 0 35 [oI 2, oK 57, oGe 64, oA 0, oGr 8 30 0, oI 2, oA 0, oGr 8 30 1, oK 57, oI 1, oMul, oI 2, oAdd, oIl, oIst, oInc 2 1, oGo 35] := sb_cons (sd_iload_n (by decide +kernel : decode cX8_undo 35 = .ok (.iload_n 2, 1)) rfl) (sb_cons (sd_bipush (by decide +kernel : decode cX8_undo 36 = .ok (.bipush 57, 2)) ⟨by decide, by decide⟩ (by decide)) (sb_cons (sd_ge (by decide +kernel : decode cX8_undo 38 = .ok (.if_icmp .ge 26, 3)) (by decide)) (sb_cons (sd_aload_n (by decide +kernel : decode cX8_undo 41 = .ok (.aload_n 0, 1)) rfl) (sb_cons (sd_getr (k := 0) kl_8 (by decide) rfl wm_673 (by decide +kernel : decode cX8_undo 42 = .ok (.getfield 7, 3))) (sb_cons (sd_iload_n (by decide +kernel : decode cX8_undo 45 = .ok (.iload_n 2, 1)) rfl) (sb_cons (sd_aload_n (by decide +kernel : decode cX8_undo 46 = .ok (.aload_n 0, 1)) rfl) (sb_cons (sd_getr (k := 1) kl_8 (by decide) rfl wm_674 (by decide +kernel : decode cX8_undo 47 = .ok (.getfield 13, 3))) (sb_cons (sd_bipush (by decide +kernel : decode cX8_undo 50 = .ok (.bipush 57, 2)) ⟨by decide, by decide⟩ (by decide)) (sb_cons (sd_iload_n (by decide +kernel : decode cX8_undo 52 = .ok (.iload_n 1, 1)) rfl) (sb_cons (sd_imul (by decide +kernel : decode cX8_undo 53 = .ok (.imul, 1))) (sb_cons (sd_iload_n (by decide +kernel : decode cX8_undo 54 = .ok (.iload_n 2, 1)) rfl) (sb_cons (sd_iadd (by decide +kernel : decode cX8_undo 55 = .ok (.iadd, 1))) (sb_cons (sd_iaload (by decide +kernel : decode cX8_undo 56 = .ok (.iaload, 1))) (sb_cons (sd_iastore (by decide +kernel : decode cX8_undo 57 = .ok (.iastore, 1))) (sb_cons (sd_iinc (by decide +kernel : decode cX8_undo 58 = .ok (.iinc 2 1, 3))) (sb_cons (sd_goto (x := 0) (by decide +kernel : decode cX8_undo 61 = .ok (.goto (-26), 3)) (by decide)) sb_nil))))))))))))))))
set_option maxRecDepth 100000 in
theorem sb_X8_undo_64 (l : Launch) : sm_SndB l RX8 "undo" cX8_undo 3 1 0 64 [oA 0, oGi 8 30 3, oIr] := sb_cons (sd_aload_n (by decide +kernel : decode cX8_undo 64 = .ok (.aload_n 0, 1)) rfl) (sb_cons (sd_geti (k := 3) kl_8 (by decide) rfl wm_676 (by decide +kernel : decode cX8_undo 65 = .ok (.getfield 82, 3))) (sb_cons (sd_ireturn (x := 0) rfl (by decide +kernel : decode cX8_undo 68 = .ok (.ireturn, 1))) sb_nil))
theorem sn_X8_undo (l : Launch) : sm_SndT l RX8 "undo" cX8_undo 3 1 0 tb_X8_undo := st_cons (sb_X8_undo_0 l) (st_cons (sb_X8_undo_10 l) (st_cons (sb_X8_undo_35 l) (st_cons (sb_X8_undo_64 l) (st_nil))))
set_option maxRecDepth 100000 in
set_option maxHeartbeats 4000000 in
theorem ok_X8_undo : sm_Ok tb_X8_undo 3 0 0 p_X8_undo f_X8_undo := by
  intro as w hp ha hw
  match as, hp with
  | [.inr (.inl m)], hp =>
  refine ⟨Nat.le_of_ble_eq_true rfl, fun Z hZ => ?_⟩
  obtain ⟨rfl, hT, hH⟩ := hp
  unfold mH at hH
  by_cases h0 : wI w 154 3 = 0
  · skip
    refine hZ (fun u => Nat.beq u 35) 14 0 _ _ _ _ _ ?_
    simp only [sm_run, sm_blk, sm_get, sm_ent, sm_ents, sm_wds, sm_wd, sm_nl, sm_pop, sm_back, sm_cases, oK, oLK, oL, oI, oA, oJ, oIs, oAs, oJs, oInc, oAdd, oSub, oMul, oDiv, oRem, oNeg, oAnd, oAndB, oOr, oShl, oI2c, oI2l, oL2i, oLand, oLor, oLshl, oLshr, oLushr, oLcmp, oDup, oDup2, oPop, oGo, oFg, oEq, oNe, oLt, oGe, oGt, oLe, oEq0, oNe0, oLt0, oGe0, oGt0, oLe0, oSw, oGi, oGr, oPi, oPz, oPr, oLen, oIl, oZl, oCl, oRl, oIst, oZst, oCst, oRst, oCopy, oNew, oNa, oNa2, oObj, oCs, oCv, oCi, oIr, oZr, oVr, Nat.beq, List.getElem?_cons_zero, List.getElem?_cons_succ, List.set_cons_zero, List.set_cons_succ, List.length_cons, List.length_nil, List.nil_append, List.cons_append, List.append_nil, List.replicate_succ, List.replicate_zero, Nat.reduceAdd, Nat.reduceSub, Nat.reduceLT, Nat.reduceLeDiff, Nat.reduceBEq, true_and, and_true, Nat.zero_add, Nat.add_zero, Nat.le_refl, Option.some.injEq, exists_eq_left', true_or, or_true, or_false, false_or, reduceCtorEq, Prod.mk.injEq, Sum.inl.injEq, and_self, false_and, and_false, not_true_eq_false, not_false_eq_true, false_implies, true_implies, sm_r, Int.add_zero, Int.zero_add, wI_wsI, wS_wsI, wR_wsI, wI_wCp, wS_wCp, wR_wCp, Nat.reduceEqDiff, reduceIte, sT_iff, sT_iffC, wIf_ne, ne_eq, Bool.false_or, Bool.true_or, Bool.or_false, Bool.or_true, Bool.or_self, tb_X8_undo, p_X8_undo, f_X8_undo, sS_154 hT, hT, if_pos h0]
    repeat' (first | exact True.intro | with_reducible assumption | with_reducible refine And.intro ?_ ?_ | intro _)
    all_goals first
      | omega
      | assumption
      | rfl
      | (split <;> omega)
      | (have k9 := ih (by omega)
         (repeat' split at k9) <;> first | exact k9 | omega)
      | (have k9 := ih2 (by omega)
         (repeat' split at k9) <;> first | exact k9 | omega)
      | exact he (by omega)
      | (congr 1; omega)
      | (rw [if_pos (by omega)] at he; exact he)
      | exact hD1 (by omega)
      | exact hD2 (by omega)
      | grind
      | skip
  · have hs : 0 ≤ (wI w 154 2 + (wI w 154 3 - 1)) % 6 ∧ (wI w 154 2 + (wI w 154 3 - 1)) % 6 < 6 := by omega
    have hl := sm_loopI Z 35 0 57 (fun i => [some (.inr (.inl 154)), some (.inl ((wI w 154 2 + (wI w 154 3 - 1)) % 6)), some (.inl i)]) (fun i => itI (mUn1 ((wI w 154 2 + (wI w 154 3 - 1)) % 6)) (wsI w 154 3 (wI w 154 3 - 1)) i) 0 0 (by decide) (fun i g0 g1 ih => by
      obtain ⟨j1, j2⟩ := mUnL ((wI w 154 2 + (wI w 154 3 - 1)) % 6) (wsI w 154 3 (wI w 154 3 - 1)) i g0
      have hT := j2 (sT_wsI hT)
      rw [itI_s _ _ g0] at ih
      have j3 := congrFun (j1 154 (by decide)) 3
      rw [wI_wsI, if_pos ⟨rfl, rfl⟩] at j3
      have he : i = 57 → itI (mUn1 ((wI w 154 2 + (wI w 154 3 - 1)) % 6)) (wsI w 154 3 (wI w 154 3 - 1)) i = mUndo w := fun e => by rw [e]; rfl
      generalize itI (mUn1 ((wI w 154 2 + (wI w 154 3 - 1)) % 6)) (wsI w 154 3 (wI w 154 3 - 1)) i = u at *
      generalize (wI w 154 2 + (wI w 154 3 - 1)) % 6 = s at *
      unfold mUn1 at ih
      refine hZ (fun u => Nat.beq u 35) 14 35 _ _ _ _ _ ?_
      simp only [sm_run, sm_blk, sm_get, sm_ent, sm_ents, sm_wds, sm_wd, sm_nl, sm_pop, sm_back, sm_cases, oK, oLK, oL, oI, oA, oJ, oIs, oAs, oJs, oInc, oAdd, oSub, oMul, oDiv, oRem, oNeg, oAnd, oAndB, oOr, oShl, oI2c, oI2l, oL2i, oLand, oLor, oLshl, oLshr, oLushr, oLcmp, oDup, oDup2, oPop, oGo, oFg, oEq, oNe, oLt, oGe, oGt, oLe, oEq0, oNe0, oLt0, oGe0, oGt0, oLe0, oSw, oGi, oGr, oPi, oPz, oPr, oLen, oIl, oZl, oCl, oRl, oIst, oZst, oCst, oRst, oCopy, oNew, oNa, oNa2, oObj, oCs, oCv, oCi, oIr, oZr, oVr, Nat.beq, List.getElem?_cons_zero, List.getElem?_cons_succ, List.set_cons_zero, List.set_cons_succ, List.length_cons, List.length_nil, List.nil_append, List.cons_append, List.append_nil, List.replicate_succ, List.replicate_zero, Nat.reduceAdd, Nat.reduceSub, Nat.reduceLT, Nat.reduceLeDiff, Nat.reduceBEq, true_and, and_true, Nat.zero_add, Nat.add_zero, Nat.le_refl, Option.some.injEq, exists_eq_left', true_or, or_true, or_false, false_or, reduceCtorEq, Prod.mk.injEq, Sum.inl.injEq, and_self, false_and, and_false, not_true_eq_false, not_false_eq_true, false_implies, true_implies, sm_r, Int.add_zero, Int.zero_add, wI_wsI, wS_wsI, wR_wsI, wI_wCp, wS_wCp, wR_wCp, Nat.reduceEqDiff, reduceIte, sT_iff, sT_iffC, wIf_ne, ne_eq, Bool.false_or, Bool.true_or, Bool.or_false, Bool.or_true, Bool.or_self, tb_X8_undo, p_X8_undo, f_X8_undo, sS_154 hT, sR_154_0 hT, sS_155 hT, sR_154_1 hT, sS_156 hT, hT, j3, if_neg h0]
      repeat' (first | exact True.intro | with_reducible assumption | with_reducible refine And.intro ?_ ?_ | intro _)
      all_goals first
        | omega
        | assumption
        | rfl
        | (split <;> omega)
        | (have k9 := ih (by omega)
           (repeat' split at k9) <;> first | exact k9 | omega)
        | (have k9 := ih2 (by omega)
           (repeat' split at k9) <;> first | exact k9 | omega)
        | exact he (by omega)
        | (congr 1; omega)
        | (rw [if_pos (by omega)] at he; exact he)
        | exact hD1 (by omega)
        | exact hD2 (by omega)
        | grind
        | skip
      )
    rw [itI_0] at hl
    refine hZ (fun u => Nat.beq u 35) 14 0 _ _ _ _ _ ?_
    simp only [sm_run, sm_blk, sm_get, sm_ent, sm_ents, sm_wds, sm_wd, sm_nl, sm_pop, sm_back, sm_cases, oK, oLK, oL, oI, oA, oJ, oIs, oAs, oJs, oInc, oAdd, oSub, oMul, oDiv, oRem, oNeg, oAnd, oAndB, oOr, oShl, oI2c, oI2l, oL2i, oLand, oLor, oLshl, oLshr, oLushr, oLcmp, oDup, oDup2, oPop, oGo, oFg, oEq, oNe, oLt, oGe, oGt, oLe, oEq0, oNe0, oLt0, oGe0, oGt0, oLe0, oSw, oGi, oGr, oPi, oPz, oPr, oLen, oIl, oZl, oCl, oRl, oIst, oZst, oCst, oRst, oCopy, oNew, oNa, oNa2, oObj, oCs, oCv, oCi, oIr, oZr, oVr, Nat.beq, List.getElem?_cons_zero, List.getElem?_cons_succ, List.set_cons_zero, List.set_cons_succ, List.length_cons, List.length_nil, List.nil_append, List.cons_append, List.append_nil, List.replicate_succ, List.replicate_zero, Nat.reduceAdd, Nat.reduceSub, Nat.reduceLT, Nat.reduceLeDiff, Nat.reduceBEq, true_and, and_true, Nat.zero_add, Nat.add_zero, Nat.le_refl, Option.some.injEq, exists_eq_left', true_or, or_true, or_false, false_or, reduceCtorEq, Prod.mk.injEq, Sum.inl.injEq, and_self, false_and, and_false, not_true_eq_false, not_false_eq_true, false_implies, true_implies, sm_r, Int.add_zero, Int.zero_add, wI_wsI, wS_wsI, wR_wsI, wI_wCp, wS_wCp, wR_wCp, Nat.reduceEqDiff, reduceIte, sT_iff, sT_iffC, wIf_ne, ne_eq, Bool.false_or, Bool.true_or, Bool.or_false, Bool.or_true, Bool.or_self, tb_X8_undo, p_X8_undo, f_X8_undo, sS_154 hT, hT, sT_iff, Int.reduceEq]
    repeat' (first | exact True.intro | with_reducible assumption | with_reducible refine And.intro ?_ ?_ | intro _)
    all_goals first
      | omega
      | assumption
      | rfl
      | (split <;> omega)
      | (have k9 := ih (by omega)
         (repeat' split at k9) <;> first | exact k9 | omega)
      | (have k9 := ih2 (by omega)
         (repeat' split at k9) <;> first | exact k9 | omega)
      | exact he (by omega)
      | (congr 1; omega)
      | (rw [if_pos (by omega)] at he; exact he)
      | exact hD1 (by omega)
      | exact hD2 (by omega)
      | skip
theorem met_X8_undo (l : Launch) : sm_Met l yX8_undo cX8_undo 3 (some .int) 0 0 0 p_X8_undo f_X8_undo := sm_met 1 (Or.inr (Or.inl ⟨rfl, rfl⟩)) (by decide +kernel) (sn_X8_undo l) ok_X8_undo
def mSv1 (s k : Int) (w : sm_W) : sm_W := wsI w 157 (57 * s + k) (wI w 155 k)
def mSave (w : sm_W) (s : Int) : sm_W := wsI (itI (mSv1 s) w 57) 158 s 1
theorem mSvL (s : Int) (w : sm_W) (n : Int) (hn : 0 ≤ n) : (∀ a, a ≠ 157 → wI (itI (mSv1 s) w n) a = wI w a) ∧ (sT w → sT (itI (mSv1 s) w n)) :=
  itI_ind (f := mSv1 s) (fun _ r => (∀ a, a ≠ 157 → wI r a = wI w a) ∧ (sT w → sT r)) n ⟨fun _ _ => rfl, id⟩ (fun i r _ _ hr => ⟨fun a h => by unfold mSv1; rw [wIf_ne h, hr.1 a h], hr.2⟩) n hn (Int.le_refl _)
def p_X8_save : List sm_V → sm_W → Prop
  | [.inr (.inl m), .inl s], w => m = 154 ∧ sT w
  | _, _ => False
def f_X8_save : sm_F
  | [.inr (.inl m), .inl s], w => (some (.inl (if 0 ≤ s ∧ s ≤ 1 then wI w 155 1 else -2)), (if 0 ≤ s ∧ s ≤ 1 then mSave w s else w))
  | _, w => (none, w)
def tb_X8_save : List (Nat × List sm_O) := [(0, [oI 1, oK 0, oK 1, oCs p_X8_in f_X8_in 0 0 3, oNe0 12, oK (-2), oIr]),
  (12, [oK 0, oIs 2, oGo 14]),
  (14, [oI 2, oK 57, oGe 43, oA 0, oGr 8 30 4, oK 57, oI 1, oMul, oI 2, oAdd, oA 0, oGr 8 30 0, oI 2, oIl, oIst, oInc 2 1, oGo 14]),
  (43, [oA 0, oGr 8 30 5, oI 1, oK 1, oZst, oA 0, oGr 8 30 0, oK 1, oIl, oIr])]
set_option maxRecDepth 100000 in
theorem sb_X8_save_0 (l : Launch) : sm_SndB l RX8 "save" cX8_save 3 1 1 0 [oI 1, oK 0, oK 1, oCs p_X8_in f_X8_in 0 0 3, oNe0 12, oK (-2), oIr] := sb_cons (sd_iload_n (by decide +kernel : decode cX8_save 0 = .ok (.iload_n 1, 1)) rfl) (sb_cons (sd_iconst (by decide +kernel : decode cX8_save 1 = .ok (.iconst 0, 1)) ⟨by decide, by decide⟩) (sb_cons (sd_iconst (by decide +kernel : decode cX8_save 2 = .ok (.iconst 1, 1)) ⟨by decide, by decide⟩) (sb_cons (sd_calls (n := 3) (met_X8_in l) (by decide) (by decide) wm_710 wm_708 wm_10 ⟨by decide +kernel, by decide +kernel, by decide +kernel⟩ wm_709 (by decide +kernel : decode cX8_save 3 = .ok (.invokestatic 74, 3))) (sb_cons (sd_ne0 (by decide +kernel : decode cX8_save 6 = .ok (.ifCond .ne 6, 3)) (by decide)) (sb_cons (sd_bipush (by decide +kernel : decode cX8_save 9 = .ok (.bipush (-2), 2)) ⟨by decide, by decide⟩ (by decide)) (sb_cons (sd_ireturn (x := 0) rfl (by decide +kernel : decode cX8_save 11 = .ok (.ireturn, 1))) sb_nil))))))
set_option maxRecDepth 100000 in
theorem sb_X8_save_12 (l : Launch) : sm_SndB l RX8 "save" cX8_save 3 1 1 12 [oK 0, oIs 2, oGo 14] := sb_cons (sd_iconst (by decide +kernel : decode cX8_save 12 = .ok (.iconst 0, 1)) ⟨by decide, by decide⟩) (sb_cons (sd_istore_n (by decide +kernel : decode cX8_save 13 = .ok (.istore_n 2, 1)) rfl) (sb_cons (sd_fall (x := 0)) sb_nil))
set_option maxRecDepth 100000 in
theorem sb_X8_save_14 (l : Launch) : sm_SndB l RX8 "save" cX8_save 3 1 1 14 [oI 2, oK 57, oGe 43, oA 0, oGr 8 30 4, oK 57, oI 1, oMul, oI 2, oAdd, oA 0, oGr 8 30 0, oI 2, oIl, oIst, oInc 2 1, oGo 14] := sb_cons (sd_iload_n (by decide +kernel : decode cX8_save 14 = .ok (.iload_n 2, 1)) rfl) (sb_cons (sd_bipush (by decide +kernel : decode cX8_save 15 = .ok (.bipush 57, 2)) ⟨by decide, by decide⟩ (by decide)) (sb_cons (sd_ge (by decide +kernel : decode cX8_save 17 = .ok (.if_icmp .ge 26, 3)) (by decide)) (sb_cons (sd_aload_n (by decide +kernel : decode cX8_save 20 = .ok (.aload_n 0, 1)) rfl) (sb_cons (sd_getr (k := 4) kl_8 (by decide) rfl wm_677 (by decide +kernel : decode cX8_save 21 = .ok (.getfield 16, 3))) (sb_cons (sd_bipush (by decide +kernel : decode cX8_save 24 = .ok (.bipush 57, 2)) ⟨by decide, by decide⟩ (by decide)) (sb_cons (sd_iload_n (by decide +kernel : decode cX8_save 26 = .ok (.iload_n 1, 1)) rfl) (sb_cons (sd_imul (by decide +kernel : decode cX8_save 27 = .ok (.imul, 1))) (sb_cons (sd_iload_n (by decide +kernel : decode cX8_save 28 = .ok (.iload_n 2, 1)) rfl) (sb_cons (sd_iadd (by decide +kernel : decode cX8_save 29 = .ok (.iadd, 1))) (sb_cons (sd_aload_n (by decide +kernel : decode cX8_save 30 = .ok (.aload_n 0, 1)) rfl) (sb_cons (sd_getr (k := 0) kl_8 (by decide) rfl wm_673 (by decide +kernel : decode cX8_save 31 = .ok (.getfield 7, 3))) (sb_cons (sd_iload_n (by decide +kernel : decode cX8_save 34 = .ok (.iload_n 2, 1)) rfl) (sb_cons (sd_iaload (by decide +kernel : decode cX8_save 35 = .ok (.iaload, 1))) (sb_cons (sd_iastore (by decide +kernel : decode cX8_save 36 = .ok (.iastore, 1))) (sb_cons (sd_iinc (by decide +kernel : decode cX8_save 37 = .ok (.iinc 2 1, 3))) (sb_cons (sd_goto (x := 0) (by decide +kernel : decode cX8_save 40 = .ok (.goto (-26), 3)) (by decide)) sb_nil))))))))))))))))
set_option maxRecDepth 100000 in
theorem sb_X8_save_43 (l : Launch) : sm_SndB l RX8 "save" cX8_save 3 1 1 43 [oA 0, oGr 8 30 5, oI 1, oK 1, oZst, oA 0, oGr 8 30 0, oK 1, oIl, oIr] := sb_cons (sd_aload_n (by decide +kernel : decode cX8_save 43 = .ok (.aload_n 0, 1)) rfl) (sb_cons (sd_getr (k := 5) kl_8 (by decide) rfl wm_678 (by decide +kernel : decode cX8_save 44 = .ok (.getfield 19, 3))) (sb_cons (sd_iload_n (by decide +kernel : decode cX8_save 47 = .ok (.iload_n 1, 1)) rfl) (sb_cons (sd_iconst (by decide +kernel : decode cX8_save 48 = .ok (.iconst 1, 1)) ⟨by decide, by decide⟩) (sb_cons (sd_bastore (by decide +kernel : decode cX8_save 49 = .ok (.bastore, 1))) (sb_cons (sd_aload_n (by decide +kernel : decode cX8_save 50 = .ok (.aload_n 0, 1)) rfl) (sb_cons (sd_getr (k := 0) kl_8 (by decide) rfl wm_673 (by decide +kernel : decode cX8_save 51 = .ok (.getfield 7, 3))) (sb_cons (sd_iconst (by decide +kernel : decode cX8_save 54 = .ok (.iconst 1, 1)) ⟨by decide, by decide⟩) (sb_cons (sd_iaload (by decide +kernel : decode cX8_save 55 = .ok (.iaload, 1))) (sb_cons (sd_ireturn (x := 0) rfl (by decide +kernel : decode cX8_save 56 = .ok (.ireturn, 1))) sb_nil)))))))))
theorem sn_X8_save (l : Launch) : sm_SndT l RX8 "save" cX8_save 3 1 1 tb_X8_save := st_cons (sb_X8_save_0 l) (st_cons (sb_X8_save_12 l) (st_cons (sb_X8_save_14 l) (st_cons (sb_X8_save_43 l) (st_nil))))
set_option maxRecDepth 100000 in
set_option maxHeartbeats 4000000 in
theorem ok_X8_save : sm_Ok tb_X8_save 3 0 0 p_X8_save f_X8_save := by
  intro as w hp ha hw
  match as, hp with
  | [.inr (.inl m), .inl s], hp =>
  refine ⟨Nat.le_of_ble_eq_true rfl, fun Z hZ => ?_⟩
  obtain ⟨rfl, hT⟩ := hp
  by_cases hs : 0 ≤ s ∧ s ≤ 1
  · have hl := sm_loopI Z 14 0 57 (fun i => [some (.inr (.inl 154)), some (.inl s), some (.inl i)]) (fun i => itI (mSv1 s) w i) 0 0 (by decide) (fun i g0 g1 ih => by
      obtain ⟨j1, j2⟩ := mSvL s w i g0
      have hT := j2 hT
      rw [itI_s _ _ g0] at ih
      have j3 := congrFun (j1 155 (by decide)) 1
      have he : i = 57 → wsI (itI (mSv1 s) w i) 158 s 1 = mSave w s := fun e => by rw [e]; rfl
      generalize itI (mSv1 s) w i = u at *
      unfold mSv1 at ih
      refine hZ (fun u => Nat.beq u 14) 14 14 _ _ _ _ _ ?_
      simp only [sm_run, sm_blk, sm_get, sm_ent, sm_ents, sm_wds, sm_wd, sm_nl, sm_pop, sm_back, sm_cases, oK, oLK, oL, oI, oA, oJ, oIs, oAs, oJs, oInc, oAdd, oSub, oMul, oDiv, oRem, oNeg, oAnd, oAndB, oOr, oShl, oI2c, oI2l, oL2i, oLand, oLor, oLshl, oLshr, oLushr, oLcmp, oDup, oDup2, oPop, oGo, oFg, oEq, oNe, oLt, oGe, oGt, oLe, oEq0, oNe0, oLt0, oGe0, oGt0, oLe0, oSw, oGi, oGr, oPi, oPz, oPr, oLen, oIl, oZl, oCl, oRl, oIst, oZst, oCst, oRst, oCopy, oNew, oNa, oNa2, oObj, oCs, oCv, oCi, oIr, oZr, oVr, Nat.beq, List.getElem?_cons_zero, List.getElem?_cons_succ, List.set_cons_zero, List.set_cons_succ, List.length_cons, List.length_nil, List.nil_append, List.cons_append, List.append_nil, List.replicate_succ, List.replicate_zero, Nat.reduceAdd, Nat.reduceSub, Nat.reduceLT, Nat.reduceLeDiff, Nat.reduceBEq, true_and, and_true, Nat.zero_add, Nat.add_zero, Nat.le_refl, Option.some.injEq, exists_eq_left', true_or, or_true, or_false, false_or, reduceCtorEq, Prod.mk.injEq, Sum.inl.injEq, and_self, false_and, and_false, not_true_eq_false, not_false_eq_true, false_implies, true_implies, sm_r, Int.add_zero, Int.zero_add, wI_wsI, wS_wsI, wR_wsI, wI_wCp, wS_wCp, wR_wCp, Nat.reduceEqDiff, reduceIte, sT_iff, sT_iffC, wIf_ne, ne_eq, Bool.false_or, Bool.true_or, Bool.or_false, Bool.or_true, Bool.or_self, tb_X8_save, p_X8_in, f_X8_in, p_X8_save, f_X8_save, sS_154 hT, sR_154_0 hT, sS_155 hT, sR_154_4 hT, sS_157 hT, sR_154_5 hT, sS_158 hT, hT, j3, if_pos hs]
      repeat' (first | exact True.intro | with_reducible assumption | with_reducible refine And.intro ?_ ?_ | intro _)
      all_goals first
        | omega
        | assumption
        | rfl
        | (split <;> omega)
        | (have k9 := ih (by omega)
           (repeat' split at k9) <;> first | exact k9 | omega)
        | (have k9 := ih2 (by omega)
           (repeat' split at k9) <;> first | exact k9 | omega)
        | exact he (by omega)
        | (congr 1; omega)
        | (rw [if_pos (by omega)] at he; exact he)
        | exact hD1 (by omega)
        | exact hD2 (by omega)
        | grind
        | skip
      )
    rw [itI_0] at hl
    refine hZ (fun u => Nat.beq u 14) 14 0 _ _ _ _ _ ?_
    simp only [sm_run, sm_blk, sm_get, sm_ent, sm_ents, sm_wds, sm_wd, sm_nl, sm_pop, sm_back, sm_cases, oK, oLK, oL, oI, oA, oJ, oIs, oAs, oJs, oInc, oAdd, oSub, oMul, oDiv, oRem, oNeg, oAnd, oAndB, oOr, oShl, oI2c, oI2l, oL2i, oLand, oLor, oLshl, oLshr, oLushr, oLcmp, oDup, oDup2, oPop, oGo, oFg, oEq, oNe, oLt, oGe, oGt, oLe, oEq0, oNe0, oLt0, oGe0, oGt0, oLe0, oSw, oGi, oGr, oPi, oPz, oPr, oLen, oIl, oZl, oCl, oRl, oIst, oZst, oCst, oRst, oCopy, oNew, oNa, oNa2, oObj, oCs, oCv, oCi, oIr, oZr, oVr, Nat.beq, List.getElem?_cons_zero, List.getElem?_cons_succ, List.set_cons_zero, List.set_cons_succ, List.length_cons, List.length_nil, List.nil_append, List.cons_append, List.append_nil, List.replicate_succ, List.replicate_zero, Nat.reduceAdd, Nat.reduceSub, Nat.reduceLT, Nat.reduceLeDiff, Nat.reduceBEq, true_and, and_true, Nat.zero_add, Nat.add_zero, Nat.le_refl, Option.some.injEq, exists_eq_left', true_or, or_true, or_false, false_or, reduceCtorEq, Prod.mk.injEq, Sum.inl.injEq, and_self, false_and, and_false, not_true_eq_false, not_false_eq_true, false_implies, true_implies, sm_r, Int.add_zero, Int.zero_add, wI_wsI, wS_wsI, wR_wsI, wI_wCp, wS_wCp, wR_wCp, Nat.reduceEqDiff, reduceIte, sT_iff, sT_iffC, wIf_ne, ne_eq, Bool.false_or, Bool.true_or, Bool.or_false, Bool.or_true, Bool.or_self, tb_X8_save, p_X8_in, f_X8_in, p_X8_save, f_X8_save, b01, if_pos hs]
    repeat' (first | exact True.intro | with_reducible assumption | with_reducible refine And.intro ?_ ?_ | intro _)
    all_goals first
      | omega
      | assumption
      | rfl
      | (split <;> omega)
      | (have k9 := ih (by omega)
         (repeat' split at k9) <;> first | exact k9 | omega)
      | (have k9 := ih2 (by omega)
         (repeat' split at k9) <;> first | exact k9 | omega)
      | exact he (by omega)
      | (congr 1; omega)
      | (rw [if_pos (by omega)] at he; exact he)
      | exact hD1 (by omega)
      | exact hD2 (by omega)
      | skip
  · skip
    refine hZ (fun u => Nat.beq u 14) 14 0 _ _ _ _ _ ?_
    simp only [sm_run, sm_blk, sm_get, sm_ent, sm_ents, sm_wds, sm_wd, sm_nl, sm_pop, sm_back, sm_cases, oK, oLK, oL, oI, oA, oJ, oIs, oAs, oJs, oInc, oAdd, oSub, oMul, oDiv, oRem, oNeg, oAnd, oAndB, oOr, oShl, oI2c, oI2l, oL2i, oLand, oLor, oLshl, oLshr, oLushr, oLcmp, oDup, oDup2, oPop, oGo, oFg, oEq, oNe, oLt, oGe, oGt, oLe, oEq0, oNe0, oLt0, oGe0, oGt0, oLe0, oSw, oGi, oGr, oPi, oPz, oPr, oLen, oIl, oZl, oCl, oRl, oIst, oZst, oCst, oRst, oCopy, oNew, oNa, oNa2, oObj, oCs, oCv, oCi, oIr, oZr, oVr, Nat.beq, List.getElem?_cons_zero, List.getElem?_cons_succ, List.set_cons_zero, List.set_cons_succ, List.length_cons, List.length_nil, List.nil_append, List.cons_append, List.append_nil, List.replicate_succ, List.replicate_zero, Nat.reduceAdd, Nat.reduceSub, Nat.reduceLT, Nat.reduceLeDiff, Nat.reduceBEq, true_and, and_true, Nat.zero_add, Nat.add_zero, Nat.le_refl, Option.some.injEq, exists_eq_left', true_or, or_true, or_false, false_or, reduceCtorEq, Prod.mk.injEq, Sum.inl.injEq, and_self, false_and, and_false, not_true_eq_false, not_false_eq_true, false_implies, true_implies, sm_r, Int.add_zero, Int.zero_add, wI_wsI, wS_wsI, wR_wsI, wI_wCp, wS_wCp, wR_wCp, Nat.reduceEqDiff, reduceIte, sT_iff, sT_iffC, wIf_ne, ne_eq, Bool.false_or, Bool.true_or, Bool.or_false, Bool.or_true, Bool.or_self, tb_X8_save, p_X8_in, f_X8_in, p_X8_save, f_X8_save, b01, if_neg hs]
    repeat' (first | exact True.intro | with_reducible assumption | with_reducible refine And.intro ?_ ?_ | intro _)
    all_goals first
      | omega
      | assumption
      | rfl
      | (split <;> omega)
      | (have k9 := ih (by omega)
         (repeat' split at k9) <;> first | exact k9 | omega)
      | (have k9 := ih2 (by omega)
         (repeat' split at k9) <;> first | exact k9 | omega)
      | exact he (by omega)
      | (congr 1; omega)
      | (rw [if_pos (by omega)] at he; exact he)
      | exact hD1 (by omega)
      | exact hD2 (by omega)
      | skip
theorem met_X8_save (l : Launch) : sm_Met l yX8_save cX8_save 3 (some .int) 1 0 0 p_X8_save f_X8_save := sm_met 1 (Or.inr (Or.inl ⟨rfl, rfl⟩)) (by decide +kernel) (sn_X8_save l) ok_X8_save
def mRs1 (s k : Int) (w : sm_W) : sm_W := wsI w 155 k (wI w 157 (57 * s + k))
def mRest (w : sm_W) (s : Int) : sm_W := itI (mRs1 s) (mKeep w) 57
theorem mRsL (s : Int) (w : sm_W) (n : Int) (hn : 0 ≤ n) : (∀ a, a ≠ 155 → wI (itI (mRs1 s) w n) a = wI w a) ∧ (sT w → sT (itI (mRs1 s) w n)) :=
  itI_ind (f := mRs1 s) (fun _ r => (∀ a, a ≠ 155 → wI r a = wI w a) ∧ (sT w → sT r)) n ⟨fun _ _ => rfl, id⟩ (fun i r _ _ hr => ⟨fun a h => by unfold mRs1; rw [wIf_ne h, hr.1 a h], hr.2⟩) n hn (Int.le_refl _)
def p_X8_restore : List sm_V → sm_W → Prop
  | [.inr (.inl m), .inl s], w => m = 154 ∧ sT w ∧ mH w
  | _, _ => False
def f_X8_restore : sm_F
  | [.inr (.inl m), .inl s], w => (some (.inl (if 0 ≤ s ∧ s ≤ 1 then (if wI w 158 s = 0 then -5 else wI (mRest w s) 155 1) else -2)), (if 0 ≤ s ∧ s ≤ 1 then (if wI w 158 s = 0 then w else mRest w s) else w))
  | _, w => (none, w)
def tb_X8_restore : List (Nat × List sm_O) := [(0, [oI 1, oK 0, oK 1, oCs p_X8_in f_X8_in 0 0 3, oNe0 12, oK (-2), oIr]),
  (12, [oA 0, oGr 8 30 5, oI 1, oZl, oNe0 24, oK (-5), oIr]),
  (24, [oA 0, oCv 8 30 p_X8_keep f_X8_keep 0 0 1, oK 0, oIs 2, oGo 30]),
  (30, [oI 2, oK 57, oGe 59, oA 0, oGr 8 30 0, oI 2, oA 0, oGr 8 30 4, oK 57, oI 1, oMul, oI 2, oAdd, oIl, oIst, oInc 2 1, oGo 30]),
  (59, [oA 0, oGr 8 30 0, oK 1, oIl, oIr])]
set_option maxRecDepth 100000 in
theorem sb_X8_restore_0 (l : Launch) : sm_SndB l RX8 "restore" cX8_restore 3 1 1 0 [oI 1, oK 0, oK 1, oCs p_X8_in f_X8_in 0 0 3, oNe0 12, oK (-2), oIr] := sb_cons (sd_iload_n (by decide +kernel : decode cX8_restore 0 = .ok (.iload_n 1, 1)) rfl) (sb_cons (sd_iconst (by decide +kernel : decode cX8_restore 1 = .ok (.iconst 0, 1)) ⟨by decide, by decide⟩) (sb_cons (sd_iconst (by decide +kernel : decode cX8_restore 2 = .ok (.iconst 1, 1)) ⟨by decide, by decide⟩) (sb_cons (sd_calls (n := 3) (met_X8_in l) (by decide) (by decide) wm_710 wm_708 wm_10 ⟨by decide +kernel, by decide +kernel, by decide +kernel⟩ wm_709 (by decide +kernel : decode cX8_restore 3 = .ok (.invokestatic 74, 3))) (sb_cons (sd_ne0 (by decide +kernel : decode cX8_restore 6 = .ok (.ifCond .ne 6, 3)) (by decide)) (sb_cons (sd_bipush (by decide +kernel : decode cX8_restore 9 = .ok (.bipush (-2), 2)) ⟨by decide, by decide⟩ (by decide)) (sb_cons (sd_ireturn (x := 0) rfl (by decide +kernel : decode cX8_restore 11 = .ok (.ireturn, 1))) sb_nil))))))
set_option maxRecDepth 100000 in
theorem sb_X8_restore_12 (l : Launch) : sm_SndB l RX8 "restore" cX8_restore 3 1 1 12 [oA 0, oGr 8 30 5, oI 1, oZl, oNe0 24, oK (-5), oIr] := sb_cons (sd_aload_n (by decide +kernel : decode cX8_restore 12 = .ok (.aload_n 0, 1)) rfl) (sb_cons (sd_getr (k := 5) kl_8 (by decide) rfl wm_678 (by decide +kernel : decode cX8_restore 13 = .ok (.getfield 19, 3))) (sb_cons (sd_iload_n (by decide +kernel : decode cX8_restore 16 = .ok (.iload_n 1, 1)) rfl) (sb_cons (sd_baload (by decide +kernel : decode cX8_restore 17 = .ok (.baload, 1))) (sb_cons (sd_ne0 (by decide +kernel : decode cX8_restore 18 = .ok (.ifCond .ne 6, 3)) (by decide)) (sb_cons (sd_bipush (by decide +kernel : decode cX8_restore 21 = .ok (.bipush (-5), 2)) ⟨by decide, by decide⟩ (by decide)) (sb_cons (sd_ireturn (x := 0) rfl (by decide +kernel : decode cX8_restore 23 = .ok (.ireturn, 1))) sb_nil))))))
set_option maxRecDepth 100000 in
theorem sb_X8_restore_24 (l : Launch) : sm_SndB l RX8 "restore" cX8_restore 3 1 1 24 [oA 0, oCv 8 30 p_X8_keep f_X8_keep 0 0 1, oK 0, oIs 2, oGo 30] := sb_cons (sd_aload_n (by decide +kernel : decode cX8_restore 24 = .ok (.aload_n 0, 1)) rfl) (sb_cons (sd_callv (n := 0) (met_X8_keep l) (by decide) (by decide) wm_714 wm_712 wm_10 ⟨by decide +kernel, by decide +kernel, by decide +kernel⟩ kl_8 wm_713 wm_1104 (by decide +kernel : decode cX8_restore 25 = .ok (.invokevirtual 89, 3))) (sb_cons (sd_iconst (by decide +kernel : decode cX8_restore 28 = .ok (.iconst 0, 1)) ⟨by decide, by decide⟩) (sb_cons (sd_istore_n (by decide +kernel : decode cX8_restore 29 = .ok (.istore_n 2, 1)) rfl) (sb_cons (sd_fall (x := 0)) sb_nil))))
set_option maxRecDepth 100000 in
theorem sb_X8_restore_30 (l : Launch) : sm_SndB l RX8 "restore" cX8_restore 3 1 1 30 [oI 2, oK 57, oGe 59, oA 0, oGr 8 30 0, oI 2, oA 0, oGr 8 30 4, oK 57, oI 1, oMul, oI 2, oAdd, oIl, oIst, oInc 2 1, oGo 30] := sb_cons (sd_iload_n (by decide +kernel : decode cX8_restore 30 = .ok (.iload_n 2, 1)) rfl) (sb_cons (sd_bipush (by decide +kernel : decode cX8_restore 31 = .ok (.bipush 57, 2)) ⟨by decide, by decide⟩ (by decide)) (sb_cons (sd_ge (by decide +kernel : decode cX8_restore 33 = .ok (.if_icmp .ge 26, 3)) (by decide)) (sb_cons (sd_aload_n (by decide +kernel : decode cX8_restore 36 = .ok (.aload_n 0, 1)) rfl) (sb_cons (sd_getr (k := 0) kl_8 (by decide) rfl wm_673 (by decide +kernel : decode cX8_restore 37 = .ok (.getfield 7, 3))) (sb_cons (sd_iload_n (by decide +kernel : decode cX8_restore 40 = .ok (.iload_n 2, 1)) rfl) (sb_cons (sd_aload_n (by decide +kernel : decode cX8_restore 41 = .ok (.aload_n 0, 1)) rfl) (sb_cons (sd_getr (k := 4) kl_8 (by decide) rfl wm_677 (by decide +kernel : decode cX8_restore 42 = .ok (.getfield 16, 3))) (sb_cons (sd_bipush (by decide +kernel : decode cX8_restore 45 = .ok (.bipush 57, 2)) ⟨by decide, by decide⟩ (by decide)) (sb_cons (sd_iload_n (by decide +kernel : decode cX8_restore 47 = .ok (.iload_n 1, 1)) rfl) (sb_cons (sd_imul (by decide +kernel : decode cX8_restore 48 = .ok (.imul, 1))) (sb_cons (sd_iload_n (by decide +kernel : decode cX8_restore 49 = .ok (.iload_n 2, 1)) rfl) (sb_cons (sd_iadd (by decide +kernel : decode cX8_restore 50 = .ok (.iadd, 1))) (sb_cons (sd_iaload (by decide +kernel : decode cX8_restore 51 = .ok (.iaload, 1))) (sb_cons (sd_iastore (by decide +kernel : decode cX8_restore 52 = .ok (.iastore, 1))) (sb_cons (sd_iinc (by decide +kernel : decode cX8_restore 53 = .ok (.iinc 2 1, 3))) (sb_cons (sd_goto (x := 0) (by decide +kernel : decode cX8_restore 56 = .ok (.goto (-26), 3)) (by decide)) sb_nil))))))))))))))))
set_option maxRecDepth 100000 in
theorem sb_X8_restore_59 (l : Launch) : sm_SndB l RX8 "restore" cX8_restore 3 1 1 59 [oA 0, oGr 8 30 0, oK 1, oIl, oIr] := sb_cons (sd_aload_n (by decide +kernel : decode cX8_restore 59 = .ok (.aload_n 0, 1)) rfl) (sb_cons (sd_getr (k := 0) kl_8 (by decide) rfl wm_673 (by decide +kernel : decode cX8_restore 60 = .ok (.getfield 7, 3))) (sb_cons (sd_iconst (by decide +kernel : decode cX8_restore 63 = .ok (.iconst 1, 1)) ⟨by decide, by decide⟩) (sb_cons (sd_iaload (by decide +kernel : decode cX8_restore 64 = .ok (.iaload, 1))) (sb_cons (sd_ireturn (x := 0) rfl (by decide +kernel : decode cX8_restore 65 = .ok (.ireturn, 1))) sb_nil))))
theorem sn_X8_restore (l : Launch) : sm_SndT l RX8 "restore" cX8_restore 3 1 1 tb_X8_restore := st_cons (sb_X8_restore_0 l) (st_cons (sb_X8_restore_12 l) (st_cons (sb_X8_restore_24 l) (st_cons (sb_X8_restore_30 l) (st_cons (sb_X8_restore_59 l) (st_nil)))))
set_option maxRecDepth 100000 in
set_option maxHeartbeats 4000000 in
theorem ok_X8_restore : sm_Ok tb_X8_restore 3 0 0 p_X8_restore f_X8_restore := by
  intro as w hp ha hw
  match as, hp with
  | [.inr (.inl m), .inl s], hp =>
  refine ⟨Nat.le_of_ble_eq_true rfl, fun Z hZ => ?_⟩
  obtain ⟨rfl, hT, hH⟩ := hp
  have hT2 := (mKeep_keep (w := w)).2 hT
  by_cases hs : 0 ≤ s ∧ s ≤ 1
  · by_cases hz : wI w 158 s = 0
    · skip
      refine hZ (fun u => Nat.beq u 30) 14 0 _ _ _ _ _ ?_
      simp only [sm_run, sm_blk, sm_get, sm_ent, sm_ents, sm_wds, sm_wd, sm_nl, sm_pop, sm_back, sm_cases, oK, oLK, oL, oI, oA, oJ, oIs, oAs, oJs, oInc, oAdd, oSub, oMul, oDiv, oRem, oNeg, oAnd, oAndB, oOr, oShl, oI2c, oI2l, oL2i, oLand, oLor, oLshl, oLshr, oLushr, oLcmp, oDup, oDup2, oPop, oGo, oFg, oEq, oNe, oLt, oGe, oGt, oLe, oEq0, oNe0, oLt0, oGe0, oGt0, oLe0, oSw, oGi, oGr, oPi, oPz, oPr, oLen, oIl, oZl, oCl, oRl, oIst, oZst, oCst, oRst, oCopy, oNew, oNa, oNa2, oObj, oCs, oCv, oCi, oIr, oZr, oVr, Nat.beq, List.getElem?_cons_zero, List.getElem?_cons_succ, List.set_cons_zero, List.set_cons_succ, List.length_cons, List.length_nil, List.nil_append, List.cons_append, List.append_nil, List.replicate_succ, List.replicate_zero, Nat.reduceAdd, Nat.reduceSub, Nat.reduceLT, Nat.reduceLeDiff, Nat.reduceBEq, true_and, and_true, Nat.zero_add, Nat.add_zero, Nat.le_refl, Option.some.injEq, exists_eq_left', true_or, or_true, or_false, false_or, reduceCtorEq, Prod.mk.injEq, Sum.inl.injEq, and_self, false_and, and_false, not_true_eq_false, not_false_eq_true, false_implies, true_implies, sm_r, Int.add_zero, Int.zero_add, wI_wsI, wS_wsI, wR_wsI, wI_wCp, wS_wCp, wR_wCp, Nat.reduceEqDiff, reduceIte, sT_iff, sT_iffC, wIf_ne, ne_eq, Bool.false_or, Bool.true_or, Bool.or_false, Bool.or_true, Bool.or_self, tb_X8_restore, p_X8_in, p_X8_keep, f_X8_in, f_X8_keep, p_X8_restore, f_X8_restore, sS_154 hT, sR_154_5 hT, sS_158 hT, b01, if_pos hs, if_pos hz]
      repeat' (first | exact True.intro | with_reducible assumption | with_reducible refine And.intro ?_ ?_ | intro _)
      all_goals first
        | omega
        | assumption
        | rfl
        | (split <;> omega)
        | (have k9 := ih (by omega)
           (repeat' split at k9) <;> first | exact k9 | omega)
        | (have k9 := ih2 (by omega)
           (repeat' split at k9) <;> first | exact k9 | omega)
        | exact he (by omega)
        | (congr 1; omega)
        | (rw [if_pos (by omega)] at he; exact he)
        | exact hD1 (by omega)
        | exact hD2 (by omega)
        | skip
    · have hl := sm_loopI Z 30 0 57 (fun i => [some (.inr (.inl 154)), some (.inl s), some (.inl i)]) (fun i => itI (mRs1 s) (mKeep w) i) 0 0 (by decide) (fun i g0 g1 ih => by
        obtain ⟨j1, j2⟩ := mRsL s (mKeep w) i g0
        have hT := j2 hT2
        rw [itI_s _ _ g0] at ih
        have he : i = 57 → itI (mRs1 s) (mKeep w) i = mRest w s := fun e => by rw [e]; rfl
        have he2 : i = 57 → wI (itI (mRs1 s) (mKeep w) i) 155 1 = wI (mRest w s) 155 1 := fun e => by rw [e]; rfl
        generalize itI (mRs1 s) (mKeep w) i = u at *
        unfold mRs1 at ih
        refine hZ (fun u => Nat.beq u 30) 14 30 _ _ _ _ _ ?_
        simp only [sm_run, sm_blk, sm_get, sm_ent, sm_ents, sm_wds, sm_wd, sm_nl, sm_pop, sm_back, sm_cases, oK, oLK, oL, oI, oA, oJ, oIs, oAs, oJs, oInc, oAdd, oSub, oMul, oDiv, oRem, oNeg, oAnd, oAndB, oOr, oShl, oI2c, oI2l, oL2i, oLand, oLor, oLshl, oLshr, oLushr, oLcmp, oDup, oDup2, oPop, oGo, oFg, oEq, oNe, oLt, oGe, oGt, oLe, oEq0, oNe0, oLt0, oGe0, oGt0, oLe0, oSw, oGi, oGr, oPi, oPz, oPr, oLen, oIl, oZl, oCl, oRl, oIst, oZst, oCst, oRst, oCopy, oNew, oNa, oNa2, oObj, oCs, oCv, oCi, oIr, oZr, oVr, Nat.beq, List.getElem?_cons_zero, List.getElem?_cons_succ, List.set_cons_zero, List.set_cons_succ, List.length_cons, List.length_nil, List.nil_append, List.cons_append, List.append_nil, List.replicate_succ, List.replicate_zero, Nat.reduceAdd, Nat.reduceSub, Nat.reduceLT, Nat.reduceLeDiff, Nat.reduceBEq, true_and, and_true, Nat.zero_add, Nat.add_zero, Nat.le_refl, Option.some.injEq, exists_eq_left', true_or, or_true, or_false, false_or, reduceCtorEq, Prod.mk.injEq, Sum.inl.injEq, and_self, false_and, and_false, not_true_eq_false, not_false_eq_true, false_implies, true_implies, sm_r, Int.add_zero, Int.zero_add, wI_wsI, wS_wsI, wR_wsI, wI_wCp, wS_wCp, wR_wCp, Nat.reduceEqDiff, reduceIte, sT_iff, sT_iffC, wIf_ne, ne_eq, Bool.false_or, Bool.true_or, Bool.or_false, Bool.or_true, Bool.or_self, tb_X8_restore, p_X8_in, p_X8_keep, f_X8_in, f_X8_keep, p_X8_restore, f_X8_restore, sS_154 hT, sR_154_0 hT, sS_155 hT, sR_154_4 hT, sS_157 hT, hT, if_pos hs, if_neg hz]
        repeat' (first | exact True.intro | with_reducible assumption | with_reducible refine And.intro ?_ ?_ | intro _)
        all_goals first
          | omega
          | assumption
          | rfl
          | (split <;> omega)
          | (have k9 := ih (by omega)
             (repeat' split at k9) <;> first | exact k9 | omega)
          | (have k9 := ih2 (by omega)
             (repeat' split at k9) <;> first | exact k9 | omega)
          | exact he (by omega)
          | (congr 1; omega)
          | (rw [if_pos (by omega)] at he; exact he)
          | exact hD1 (by omega)
          | exact hD2 (by omega)
          | grind
          | skip
        )
      rw [itI_0] at hl
      refine hZ (fun u => Nat.beq u 30) 14 0 _ _ _ _ _ ?_
      simp only [sm_run, sm_blk, sm_get, sm_ent, sm_ents, sm_wds, sm_wd, sm_nl, sm_pop, sm_back, sm_cases, oK, oLK, oL, oI, oA, oJ, oIs, oAs, oJs, oInc, oAdd, oSub, oMul, oDiv, oRem, oNeg, oAnd, oAndB, oOr, oShl, oI2c, oI2l, oL2i, oLand, oLor, oLshl, oLshr, oLushr, oLcmp, oDup, oDup2, oPop, oGo, oFg, oEq, oNe, oLt, oGe, oGt, oLe, oEq0, oNe0, oLt0, oGe0, oGt0, oLe0, oSw, oGi, oGr, oPi, oPz, oPr, oLen, oIl, oZl, oCl, oRl, oIst, oZst, oCst, oRst, oCopy, oNew, oNa, oNa2, oObj, oCs, oCv, oCi, oIr, oZr, oVr, Nat.beq, List.getElem?_cons_zero, List.getElem?_cons_succ, List.set_cons_zero, List.set_cons_succ, List.length_cons, List.length_nil, List.nil_append, List.cons_append, List.append_nil, List.replicate_succ, List.replicate_zero, Nat.reduceAdd, Nat.reduceSub, Nat.reduceLT, Nat.reduceLeDiff, Nat.reduceBEq, true_and, and_true, Nat.zero_add, Nat.add_zero, Nat.le_refl, Option.some.injEq, exists_eq_left', true_or, or_true, or_false, false_or, reduceCtorEq, Prod.mk.injEq, Sum.inl.injEq, and_self, false_and, and_false, not_true_eq_false, not_false_eq_true, false_implies, true_implies, sm_r, Int.add_zero, Int.zero_add, wI_wsI, wS_wsI, wR_wsI, wI_wCp, wS_wCp, wR_wCp, Nat.reduceEqDiff, reduceIte, sT_iff, sT_iffC, wIf_ne, ne_eq, Bool.false_or, Bool.true_or, Bool.or_false, Bool.or_true, Bool.or_self, tb_X8_restore, p_X8_in, p_X8_keep, f_X8_in, f_X8_keep, p_X8_restore, f_X8_restore, sS_154 hT, sR_154_5 hT, sS_158 hT, hT, hH, b01, if_pos hs]
      repeat' (first | exact True.intro | with_reducible assumption | with_reducible refine And.intro ?_ ?_ | intro _)
      all_goals first
        | omega
        | assumption
        | rfl
        | (split <;> omega)
        | (have k9 := ih (by omega)
           (repeat' split at k9) <;> first | exact k9 | omega)
        | (have k9 := ih2 (by omega)
           (repeat' split at k9) <;> first | exact k9 | omega)
        | exact he (by omega)
        | (congr 1; omega)
        | (rw [if_pos (by omega)] at he; exact he)
        | exact hD1 (by omega)
        | exact hD2 (by omega)
        | skip
  · skip
    refine hZ (fun u => Nat.beq u 30) 14 0 _ _ _ _ _ ?_
    simp only [sm_run, sm_blk, sm_get, sm_ent, sm_ents, sm_wds, sm_wd, sm_nl, sm_pop, sm_back, sm_cases, oK, oLK, oL, oI, oA, oJ, oIs, oAs, oJs, oInc, oAdd, oSub, oMul, oDiv, oRem, oNeg, oAnd, oAndB, oOr, oShl, oI2c, oI2l, oL2i, oLand, oLor, oLshl, oLshr, oLushr, oLcmp, oDup, oDup2, oPop, oGo, oFg, oEq, oNe, oLt, oGe, oGt, oLe, oEq0, oNe0, oLt0, oGe0, oGt0, oLe0, oSw, oGi, oGr, oPi, oPz, oPr, oLen, oIl, oZl, oCl, oRl, oIst, oZst, oCst, oRst, oCopy, oNew, oNa, oNa2, oObj, oCs, oCv, oCi, oIr, oZr, oVr, Nat.beq, List.getElem?_cons_zero, List.getElem?_cons_succ, List.set_cons_zero, List.set_cons_succ, List.length_cons, List.length_nil, List.nil_append, List.cons_append, List.append_nil, List.replicate_succ, List.replicate_zero, Nat.reduceAdd, Nat.reduceSub, Nat.reduceLT, Nat.reduceLeDiff, Nat.reduceBEq, true_and, and_true, Nat.zero_add, Nat.add_zero, Nat.le_refl, Option.some.injEq, exists_eq_left', true_or, or_true, or_false, false_or, reduceCtorEq, Prod.mk.injEq, Sum.inl.injEq, and_self, false_and, and_false, not_true_eq_false, not_false_eq_true, false_implies, true_implies, sm_r, Int.add_zero, Int.zero_add, wI_wsI, wS_wsI, wR_wsI, wI_wCp, wS_wCp, wR_wCp, Nat.reduceEqDiff, reduceIte, sT_iff, sT_iffC, wIf_ne, ne_eq, Bool.false_or, Bool.true_or, Bool.or_false, Bool.or_true, Bool.or_self, tb_X8_restore, p_X8_in, p_X8_keep, f_X8_in, f_X8_keep, p_X8_restore, f_X8_restore, b01, if_neg hs]
    repeat' (first | exact True.intro | with_reducible assumption | with_reducible refine And.intro ?_ ?_ | intro _)
    all_goals first
      | omega
      | assumption
      | rfl
      | (split <;> omega)
      | (have k9 := ih (by omega)
         (repeat' split at k9) <;> first | exact k9 | omega)
      | (have k9 := ih2 (by omega)
         (repeat' split at k9) <;> first | exact k9 | omega)
      | exact he (by omega)
      | (congr 1; omega)
      | (rw [if_pos (by omega)] at he; exact he)
      | exact hD1 (by omega)
      | exact hD2 (by omega)
      | skip
theorem met_X8_restore (l : Launch) : sm_Met l yX8_restore cX8_restore 3 (some .int) 1 0 0 p_X8_restore f_X8_restore := sm_met 1 (Or.inr (Or.inl ⟨rfl, rfl⟩)) (by decide +kernel) (sn_X8_restore l) ok_X8_restore
def p_X8_count : List sm_V → sm_W → Prop
  | [.inr (.inl m), .inl k], w => m = 154 ∧ sT w
  | _, _ => False
def f_X8_count : sm_F
  | [.inr (.inl m), .inl k], w => (some (.inl (if k = 0 then wI w 155 1 else (if k = 1 then wI w 155 0 else (if k = 2 then wI w 154 24 else (if k = 3 then wI w 154 3 else (if 4 ≤ k ∧ k ≤ 18 then wI w 155 (k - 2) else -2)))))), w)
  | _, w => (none, w)
def tb_X8_count : List (Nat × List sm_O) := [(0, [oI 1, oSw 0 [32, 39, 46, 51] 56]),
  (32, [oA 0, oGr 8 30 0, oK 1, oIl, oIr]),
  (39, [oA 0, oGr 8 30 0, oK 0, oIl, oIr]),
  (46, [oA 0, oGi 8 30 24, oIr]),
  (51, [oA 0, oGi 8 30 3, oIr]),
  (56, [oI 1, oK 4, oK 18, oCs p_X8_in f_X8_in 0 0 3, oEq0 77, oA 0, oGr 8 30 0, oI 1, oK 2, oSub, oIl, oGo 79]),
  (77, [oK (-2), oGo 79]),
  (79, [oIr])]
set_option maxRecDepth 100000 in
theorem sb_X8_count_0 (l : Launch) : sm_SndB l RX8 "count" cX8_count 2 1 1 0 [oI 1, oSw 0 [32, 39, 46, 51] 56] := sb_cons (sd_iload_n (by decide +kernel : decode cX8_count 0 = .ok (.iload_n 1, 1)) rfl) (sb_cons (sd_sw (x := 0) (by decide +kernel : decode cX8_count 1 = .ok (.tableswitch 55 0 3 #[31, 38, 45, 50], 31)) (by decide) (by decide) (by decide)) sb_nil)
set_option maxRecDepth 100000 in
theorem sb_X8_count_32 (l : Launch) : sm_SndB l RX8 "count" cX8_count 2 1 1 32 [oA 0, oGr 8 30 0, oK 1, oIl, oIr] := sb_cons (sd_aload_n (by decide +kernel : decode cX8_count 32 = .ok (.aload_n 0, 1)) rfl) (sb_cons (sd_getr (k := 0) kl_8 (by decide) rfl wm_673 (by decide +kernel : decode cX8_count 33 = .ok (.getfield 7, 3))) (sb_cons (sd_iconst (by decide +kernel : decode cX8_count 36 = .ok (.iconst 1, 1)) ⟨by decide, by decide⟩) (sb_cons (sd_iaload (by decide +kernel : decode cX8_count 37 = .ok (.iaload, 1))) (sb_cons (sd_ireturn (x := 0) rfl (by decide +kernel : decode cX8_count 38 = .ok (.ireturn, 1))) sb_nil))))
set_option maxRecDepth 100000 in
theorem sb_X8_count_39 (l : Launch) : sm_SndB l RX8 "count" cX8_count 2 1 1 39 [oA 0, oGr 8 30 0, oK 0, oIl, oIr] := sb_cons (sd_aload_n (by decide +kernel : decode cX8_count 39 = .ok (.aload_n 0, 1)) rfl) (sb_cons (sd_getr (k := 0) kl_8 (by decide) rfl wm_673 (by decide +kernel : decode cX8_count 40 = .ok (.getfield 7, 3))) (sb_cons (sd_iconst (by decide +kernel : decode cX8_count 43 = .ok (.iconst 0, 1)) ⟨by decide, by decide⟩) (sb_cons (sd_iaload (by decide +kernel : decode cX8_count 44 = .ok (.iaload, 1))) (sb_cons (sd_ireturn (x := 0) rfl (by decide +kernel : decode cX8_count 45 = .ok (.ireturn, 1))) sb_nil))))
set_option maxRecDepth 100000 in
theorem sb_X8_count_46 (l : Launch) : sm_SndB l RX8 "count" cX8_count 2 1 1 46 [oA 0, oGi 8 30 24, oIr] := sb_cons (sd_aload_n (by decide +kernel : decode cX8_count 46 = .ok (.aload_n 0, 1)) rfl) (sb_cons (sd_geti (k := 24) kl_8 (by decide) rfl wm_697 (by decide +kernel : decode cX8_count 47 = .ok (.getfield 220, 3))) (sb_cons (sd_ireturn (x := 0) rfl (by decide +kernel : decode cX8_count 50 = .ok (.ireturn, 1))) sb_nil))
set_option maxRecDepth 100000 in
theorem sb_X8_count_51 (l : Launch) : sm_SndB l RX8 "count" cX8_count 2 1 1 51 [oA 0, oGi 8 30 3, oIr] := sb_cons (sd_aload_n (by decide +kernel : decode cX8_count 51 = .ok (.aload_n 0, 1)) rfl) (sb_cons (sd_geti (k := 3) kl_8 (by decide) rfl wm_676 (by decide +kernel : decode cX8_count 52 = .ok (.getfield 82, 3))) (sb_cons (sd_ireturn (x := 0) rfl (by decide +kernel : decode cX8_count 55 = .ok (.ireturn, 1))) sb_nil))
set_option maxRecDepth 100000 in
theorem sb_X8_count_56 (l : Launch) : sm_SndB l RX8 "count" cX8_count 2 1 1 56 [oI 1, oK 4, oK 18, oCs p_X8_in f_X8_in 0 0 3, oEq0 77, oA 0, oGr 8 30 0, oI 1, oK 2, oSub, oIl, oGo 79] := sb_cons (sd_iload_n (by decide +kernel : decode cX8_count 56 = .ok (.iload_n 1, 1)) rfl) (sb_cons (sd_iconst (by decide +kernel : decode cX8_count 57 = .ok (.iconst 4, 1)) ⟨by decide, by decide⟩) (sb_cons (sd_bipush (by decide +kernel : decode cX8_count 58 = .ok (.bipush 18, 2)) ⟨by decide, by decide⟩ (by decide)) (sb_cons (sd_calls (n := 3) (met_X8_in l) (by decide) (by decide) wm_710 wm_708 wm_10 ⟨by decide +kernel, by decide +kernel, by decide +kernel⟩ wm_709 (by decide +kernel : decode cX8_count 60 = .ok (.invokestatic 74, 3))) (sb_cons (sd_eq0 (by decide +kernel : decode cX8_count 63 = .ok (.ifCond .eq 14, 3)) (by decide)) (sb_cons (sd_aload_n (by decide +kernel : decode cX8_count 66 = .ok (.aload_n 0, 1)) rfl) (sb_cons (sd_getr (k := 0) kl_8 (by decide) rfl wm_673 (by decide +kernel : decode cX8_count 67 = .ok (.getfield 7, 3))) (sb_cons (sd_iload_n (by decide +kernel : decode cX8_count 70 = .ok (.iload_n 1, 1)) rfl) (sb_cons (sd_iconst (by decide +kernel : decode cX8_count 71 = .ok (.iconst 2, 1)) ⟨by decide, by decide⟩) (sb_cons (sd_isub (by decide +kernel : decode cX8_count 72 = .ok (.isub, 1))) (sb_cons (sd_iaload (by decide +kernel : decode cX8_count 73 = .ok (.iaload, 1))) (sb_cons (sd_goto (x := 0) (by decide +kernel : decode cX8_count 74 = .ok (.goto 5, 3)) (by decide)) sb_nil)))))))))))
set_option maxRecDepth 100000 in
theorem sb_X8_count_77 (l : Launch) : sm_SndB l RX8 "count" cX8_count 2 1 1 77 [oK (-2), oGo 79] := sb_cons (sd_bipush (by decide +kernel : decode cX8_count 77 = .ok (.bipush (-2), 2)) ⟨by decide, by decide⟩ (by decide)) (sb_cons (sd_fall (x := 0)) sb_nil)
set_option maxRecDepth 100000 in
theorem sb_X8_count_79 (l : Launch) : sm_SndB l RX8 "count" cX8_count 2 1 1 79 [oIr] := sb_cons (sd_ireturn (x := 0) rfl (by decide +kernel : decode cX8_count 79 = .ok (.ireturn, 1))) sb_nil
theorem sn_X8_count (l : Launch) : sm_SndT l RX8 "count" cX8_count 2 1 1 tb_X8_count := st_cons (sb_X8_count_0 l) (st_cons (sb_X8_count_32 l) (st_cons (sb_X8_count_39 l) (st_cons (sb_X8_count_46 l) (st_cons (sb_X8_count_51 l) (st_cons (sb_X8_count_56 l) (st_cons (sb_X8_count_77 l) (st_cons (sb_X8_count_79 l) (st_nil))))))))
set_option maxRecDepth 100000 in
set_option maxHeartbeats 4000000 in
theorem ok_X8_count : sm_Ok tb_X8_count 2 0 0 p_X8_count f_X8_count := by
  intro as w hp ha hw
  match as, hp with
  | [.inr (.inl m), .inl k], hp =>
  refine ⟨Nat.le_of_ble_eq_true rfl, fun Z hZ => ?_⟩
  obtain ⟨rfl, hT⟩ := hp
  refine hZ (fun _ => false) 16 0 _ _ _ _ _ ?_
  simp only [sm_run, sm_blk, sm_get, sm_ent, sm_ents, sm_wds, sm_wd, sm_nl, sm_pop, sm_back, sm_cases, oK, oLK, oL, oI, oA, oJ, oIs, oAs, oJs, oInc, oAdd, oSub, oMul, oDiv, oRem, oNeg, oAnd, oAndB, oOr, oShl, oI2c, oI2l, oL2i, oLand, oLor, oLshl, oLshr, oLushr, oLcmp, oDup, oDup2, oPop, oGo, oFg, oEq, oNe, oLt, oGe, oGt, oLe, oEq0, oNe0, oLt0, oGe0, oGt0, oLe0, oSw, oGi, oGr, oPi, oPz, oPr, oLen, oIl, oZl, oCl, oRl, oIst, oZst, oCst, oRst, oCopy, oNew, oNa, oNa2, oObj, oCs, oCv, oCi, oIr, oZr, oVr, Nat.beq, List.getElem?_cons_zero, List.getElem?_cons_succ, List.set_cons_zero, List.set_cons_succ, List.length_cons, List.length_nil, List.nil_append, List.cons_append, List.append_nil, List.replicate_succ, List.replicate_zero, Nat.reduceAdd, Nat.reduceSub, Nat.reduceLT, Nat.reduceLeDiff, Nat.reduceBEq, true_and, and_true, Nat.zero_add, Nat.add_zero, Nat.le_refl, Option.some.injEq, exists_eq_left', true_or, or_true, or_false, false_or, reduceCtorEq, Prod.mk.injEq, Sum.inl.injEq, and_self, false_and, and_false, not_true_eq_false, not_false_eq_true, false_implies, true_implies, sm_r, Int.add_zero, Int.zero_add, wI_wsI, wS_wsI, wR_wsI, wI_wCp, wS_wCp, wR_wCp, Nat.reduceEqDiff, reduceIte, sT_iff, sT_iffC, wIf_ne, ne_eq, Bool.false_or, Bool.true_or, Bool.or_false, Bool.or_true, Bool.or_self, tb_X8_count, p_X8_in, f_X8_in, p_X8_count, f_X8_count, sS_154 hT, sR_154_0 hT, sS_155 hT, b01, Int.reduceAdd]
  repeat' (first | exact True.intro | with_reducible assumption | with_reducible refine And.intro ?_ ?_ | intro _)
  all_goals first
    | omega
    | assumption
    | rfl
    | (split <;> omega)
    | grind
    | skip
theorem met_X8_count (l : Launch) : sm_Met l yX8_count cX8_count 2 (some .int) 1 0 0 p_X8_count f_X8_count := sm_met 1 (Or.inr (Or.inl ⟨rfl, rfl⟩)) (by decide +kernel) (sn_X8_count l) ok_X8_count
def mCpA (src dst : Nat) (k : Int) (w : sm_W) : sm_W := wsI w dst k (wI w src k)
theorem mCpAL {src dst : Nat} (w : sm_W) (n : Int) (hn : 0 ≤ n) : (∀ a, a ≠ dst → wI (itI (mCpA src dst) w n) a = wI w a) ∧ (sT w → sT (itI (mCpA src dst) w n)) :=
  itI_ind (f := mCpA src dst) (fun _ r => (∀ a, a ≠ dst → wI r a = wI w a) ∧ (sT w → sT r)) n ⟨fun _ _ => rfl, id⟩ (fun i r _ _ hr => ⟨fun a h => by unfold mCpA; rw [wIf_ne h, hr.1 a h], hr.2⟩) n hn (Int.le_refl _)
def p_X8_layAside : List sm_V → sm_W → Prop
  | [.inr (.inl m)], w => m = 154 ∧ sT w
  | _, _ => False
def f_X8_layAside : sm_F
  | [.inr (.inl m)], w => (none, itI (mCpA 155 159) w 57)
  | _, w => (none, w)
def tb_X8_layAside : List (Nat × List sm_O) := [(0, [oK 0, oIs 1, oGo 2]),
  (2, [oI 1, oK 57, oGe 26, oA 0, oGr 8 30 6, oI 1, oA 0, oGr 8 30 0, oI 1, oIl, oIst, oInc 1 1, oGo 2]),
  (26, [oVr])]
set_option maxRecDepth 100000 in
theorem sb_X8_layAside_0 (l : Launch) : sm_SndB l RX8 "layAside" cX8_layAside 2 0 0 0 [oK 0, oIs 1, oGo 2] := sb_cons (sd_iconst (by decide +kernel : decode cX8_layAside 0 = .ok (.iconst 0, 1)) ⟨by decide, by decide⟩) (sb_cons (sd_istore_n (by decide +kernel : decode cX8_layAside 1 = .ok (.istore_n 1, 1)) rfl) (sb_cons (sd_fall (x := 0)) sb_nil))
set_option maxRecDepth 100000 in
theorem sb_X8_layAside_2 (l : Launch) : sm_SndB l RX8 "layAside" cX8_layAside 2 0 0 2 [oI 1, oK 57, oGe 26, oA 0, oGr 8 30 6, oI 1, oA 0, oGr 8 30 0, oI 1, oIl, oIst, oInc 1 1, oGo 2] := sb_cons (sd_iload_n (by decide +kernel : decode cX8_layAside 2 = .ok (.iload_n 1, 1)) rfl) (sb_cons (sd_bipush (by decide +kernel : decode cX8_layAside 3 = .ok (.bipush 57, 2)) ⟨by decide, by decide⟩ (by decide)) (sb_cons (sd_ge (by decide +kernel : decode cX8_layAside 5 = .ok (.if_icmp .ge 21, 3)) (by decide)) (sb_cons (sd_aload_n (by decide +kernel : decode cX8_layAside 8 = .ok (.aload_n 0, 1)) rfl) (sb_cons (sd_getr (k := 6) kl_8 (by decide) rfl wm_679 (by decide +kernel : decode cX8_layAside 9 = .ok (.getfield 23, 3))) (sb_cons (sd_iload_n (by decide +kernel : decode cX8_layAside 12 = .ok (.iload_n 1, 1)) rfl) (sb_cons (sd_aload_n (by decide +kernel : decode cX8_layAside 13 = .ok (.aload_n 0, 1)) rfl) (sb_cons (sd_getr (k := 0) kl_8 (by decide) rfl wm_673 (by decide +kernel : decode cX8_layAside 14 = .ok (.getfield 7, 3))) (sb_cons (sd_iload_n (by decide +kernel : decode cX8_layAside 17 = .ok (.iload_n 1, 1)) rfl) (sb_cons (sd_iaload (by decide +kernel : decode cX8_layAside 18 = .ok (.iaload, 1))) (sb_cons (sd_iastore (by decide +kernel : decode cX8_layAside 19 = .ok (.iastore, 1))) (sb_cons (sd_iinc (by decide +kernel : decode cX8_layAside 20 = .ok (.iinc 1 1, 3))) (sb_cons (sd_goto (x := 0) (by decide +kernel : decode cX8_layAside 23 = .ok (.goto (-21), 3)) (by decide)) sb_nil))))))))))))
set_option maxRecDepth 100000 in
theorem sb_X8_layAside_26 (l : Launch) : sm_SndB l RX8 "layAside" cX8_layAside 2 0 0 26 [oVr] := sb_cons (sd_return (x := 0) rfl (by decide +kernel : decode cX8_layAside 26 = .ok (.return_, 1))) sb_nil
theorem sn_X8_layAside (l : Launch) : sm_SndT l RX8 "layAside" cX8_layAside 2 0 0 tb_X8_layAside := st_cons (sb_X8_layAside_0 l) (st_cons (sb_X8_layAside_2 l) (st_cons (sb_X8_layAside_26 l) (st_nil)))
set_option maxRecDepth 100000 in
set_option maxHeartbeats 4000000 in
theorem ok_X8_layAside : sm_Ok tb_X8_layAside 2 0 0 p_X8_layAside f_X8_layAside := by
  intro as w hp ha hw
  match as, hp with
  | [.inr (.inl m)], hp =>
  refine ⟨Nat.le_of_ble_eq_true rfl, fun Z hZ => ?_⟩
  obtain ⟨rfl, hT⟩ := hp
  have hl := sm_loopI Z 2 0 57 (fun i => [some (.inr (.inl 154)), some (.inl i)]) (fun i => itI (mCpA 155 159) w i) 0 0 (by decide) (fun i g0 g1 ih => by
    obtain ⟨j1, j2⟩ := mCpAL (src := 155) (dst := 159) w i g0
    have hT := j2 hT
    rw [itI_s _ _ g0] at ih
    have he : i = 57 → itI (mCpA 155 159) w i = itI (mCpA 155 159) w 57 := fun e => by rw [e]
    generalize itI (mCpA 155 159) w i = u at *
    unfold mCpA at ih
    refine hZ (fun u => Nat.beq u 2) 14 2 _ _ _ _ _ ?_
    simp only [sm_run, sm_blk, sm_get, sm_ent, sm_ents, sm_wds, sm_wd, sm_nl, sm_pop, sm_back, sm_cases, oK, oLK, oL, oI, oA, oJ, oIs, oAs, oJs, oInc, oAdd, oSub, oMul, oDiv, oRem, oNeg, oAnd, oAndB, oOr, oShl, oI2c, oI2l, oL2i, oLand, oLor, oLshl, oLshr, oLushr, oLcmp, oDup, oDup2, oPop, oGo, oFg, oEq, oNe, oLt, oGe, oGt, oLe, oEq0, oNe0, oLt0, oGe0, oGt0, oLe0, oSw, oGi, oGr, oPi, oPz, oPr, oLen, oIl, oZl, oCl, oRl, oIst, oZst, oCst, oRst, oCopy, oNew, oNa, oNa2, oObj, oCs, oCv, oCi, oIr, oZr, oVr, Nat.beq, List.getElem?_cons_zero, List.getElem?_cons_succ, List.set_cons_zero, List.set_cons_succ, List.length_cons, List.length_nil, List.nil_append, List.cons_append, List.append_nil, List.replicate_succ, List.replicate_zero, Nat.reduceAdd, Nat.reduceSub, Nat.reduceLT, Nat.reduceLeDiff, Nat.reduceBEq, true_and, and_true, Nat.zero_add, Nat.add_zero, Nat.le_refl, Option.some.injEq, exists_eq_left', true_or, or_true, or_false, false_or, reduceCtorEq, Prod.mk.injEq, Sum.inl.injEq, and_self, false_and, and_false, not_true_eq_false, not_false_eq_true, false_implies, true_implies, sm_r, Int.add_zero, Int.zero_add, wI_wsI, wS_wsI, wR_wsI, wI_wCp, wS_wCp, wR_wCp, Nat.reduceEqDiff, reduceIte, sT_iff, sT_iffC, wIf_ne, ne_eq, Bool.false_or, Bool.true_or, Bool.or_false, Bool.or_true, Bool.or_self, tb_X8_layAside, p_X8_layAside, f_X8_layAside, sS_154 hT, sR_154_0 hT, sS_155 hT, sR_154_6 hT, sS_159 hT, hT]
    repeat' (first | exact True.intro | with_reducible assumption | with_reducible refine And.intro ?_ ?_ | intro _)
    all_goals first
      | omega
      | assumption
      | rfl
      | (split <;> omega)
      | (have k9 := ih (by omega)
         (repeat' split at k9) <;> first | exact k9 | omega)
      | (have k9 := ih2 (by omega)
         (repeat' split at k9) <;> first | exact k9 | omega)
      | exact he (by omega)
      | (congr 1; omega)
      | (rw [if_pos (by omega)] at he; exact he)
      | exact hD1 (by omega)
      | exact hD2 (by omega)
      | grind
      | skip
    )
  rw [itI_0] at hl
  refine hZ (fun u => Nat.beq u 2) 14 0 _ _ _ _ _ ?_
  simp only [sm_run, sm_blk, sm_get, sm_ent, sm_ents, sm_wds, sm_wd, sm_nl, sm_pop, sm_back, sm_cases, oK, oLK, oL, oI, oA, oJ, oIs, oAs, oJs, oInc, oAdd, oSub, oMul, oDiv, oRem, oNeg, oAnd, oAndB, oOr, oShl, oI2c, oI2l, oL2i, oLand, oLor, oLshl, oLshr, oLushr, oLcmp, oDup, oDup2, oPop, oGo, oFg, oEq, oNe, oLt, oGe, oGt, oLe, oEq0, oNe0, oLt0, oGe0, oGt0, oLe0, oSw, oGi, oGr, oPi, oPz, oPr, oLen, oIl, oZl, oCl, oRl, oIst, oZst, oCst, oRst, oCopy, oNew, oNa, oNa2, oObj, oCs, oCv, oCi, oIr, oZr, oVr, Nat.beq, List.getElem?_cons_zero, List.getElem?_cons_succ, List.set_cons_zero, List.set_cons_succ, List.length_cons, List.length_nil, List.nil_append, List.cons_append, List.append_nil, List.replicate_succ, List.replicate_zero, Nat.reduceAdd, Nat.reduceSub, Nat.reduceLT, Nat.reduceLeDiff, Nat.reduceBEq, true_and, and_true, Nat.zero_add, Nat.add_zero, Nat.le_refl, Option.some.injEq, exists_eq_left', true_or, or_true, or_false, false_or, reduceCtorEq, Prod.mk.injEq, Sum.inl.injEq, and_self, false_and, and_false, not_true_eq_false, not_false_eq_true, false_implies, true_implies, sm_r, Int.add_zero, Int.zero_add, wI_wsI, wS_wsI, wR_wsI, wI_wCp, wS_wCp, wR_wCp, Nat.reduceEqDiff, reduceIte, sT_iff, sT_iffC, wIf_ne, ne_eq, Bool.false_or, Bool.true_or, Bool.or_false, Bool.or_true, Bool.or_self, tb_X8_layAside, p_X8_layAside, f_X8_layAside]
  repeat' (first | exact True.intro | with_reducible assumption | with_reducible refine And.intro ?_ ?_ | intro _)
  all_goals first
    | omega
    | assumption
    | rfl
    | (split <;> omega)
    | (have k9 := ih (by omega)
       (repeat' split at k9) <;> first | exact k9 | omega)
    | (have k9 := ih2 (by omega)
       (repeat' split at k9) <;> first | exact k9 | omega)
    | exact he (by omega)
    | (congr 1; omega)
    | (rw [if_pos (by omega)] at he; exact he)
    | exact hD1 (by omega)
    | exact hD2 (by omega)
    | skip
theorem met_X8_layAside (l : Launch) : sm_Met l yX8_layAside cX8_layAside 2 none 0 0 0 p_X8_layAside f_X8_layAside := sm_met 0 (Or.inl ⟨rfl, rfl⟩) (by decide +kernel) (sn_X8_layAside l) ok_X8_layAside
def p_X8_layBack : List sm_V → sm_W → Prop
  | [.inr (.inl m)], w => m = 154 ∧ sT w
  | _, _ => False
def f_X8_layBack : sm_F
  | [.inr (.inl m)], w => (none, itI (mCpA 159 155) w 57)
  | _, w => (none, w)
def tb_X8_layBack : List (Nat × List sm_O) := [(0, [oK 0, oIs 1, oGo 2]),
  (2, [oI 1, oK 57, oGe 26, oA 0, oGr 8 30 0, oI 1, oA 0, oGr 8 30 6, oI 1, oIl, oIst, oInc 1 1, oGo 2]),
  (26, [oVr])]
set_option maxRecDepth 100000 in
theorem sb_X8_layBack_0 (l : Launch) : sm_SndB l RX8 "layBack" cX8_layBack 2 0 0 0 [oK 0, oIs 1, oGo 2] := sb_cons (sd_iconst (by decide +kernel : decode cX8_layBack 0 = .ok (.iconst 0, 1)) ⟨by decide, by decide⟩) (sb_cons (sd_istore_n (by decide +kernel : decode cX8_layBack 1 = .ok (.istore_n 1, 1)) rfl) (sb_cons (sd_fall (x := 0)) sb_nil))
set_option maxRecDepth 100000 in
theorem sb_X8_layBack_2 (l : Launch) : sm_SndB l RX8 "layBack" cX8_layBack 2 0 0 2 [oI 1, oK 57, oGe 26, oA 0, oGr 8 30 0, oI 1, oA 0, oGr 8 30 6, oI 1, oIl, oIst, oInc 1 1, oGo 2] := sb_cons (sd_iload_n (by decide +kernel : decode cX8_layBack 2 = .ok (.iload_n 1, 1)) rfl) (sb_cons (sd_bipush (by decide +kernel : decode cX8_layBack 3 = .ok (.bipush 57, 2)) ⟨by decide, by decide⟩ (by decide)) (sb_cons (sd_ge (by decide +kernel : decode cX8_layBack 5 = .ok (.if_icmp .ge 21, 3)) (by decide)) (sb_cons (sd_aload_n (by decide +kernel : decode cX8_layBack 8 = .ok (.aload_n 0, 1)) rfl) (sb_cons (sd_getr (k := 0) kl_8 (by decide) rfl wm_673 (by decide +kernel : decode cX8_layBack 9 = .ok (.getfield 7, 3))) (sb_cons (sd_iload_n (by decide +kernel : decode cX8_layBack 12 = .ok (.iload_n 1, 1)) rfl) (sb_cons (sd_aload_n (by decide +kernel : decode cX8_layBack 13 = .ok (.aload_n 0, 1)) rfl) (sb_cons (sd_getr (k := 6) kl_8 (by decide) rfl wm_679 (by decide +kernel : decode cX8_layBack 14 = .ok (.getfield 23, 3))) (sb_cons (sd_iload_n (by decide +kernel : decode cX8_layBack 17 = .ok (.iload_n 1, 1)) rfl) (sb_cons (sd_iaload (by decide +kernel : decode cX8_layBack 18 = .ok (.iaload, 1))) (sb_cons (sd_iastore (by decide +kernel : decode cX8_layBack 19 = .ok (.iastore, 1))) (sb_cons (sd_iinc (by decide +kernel : decode cX8_layBack 20 = .ok (.iinc 1 1, 3))) (sb_cons (sd_goto (x := 0) (by decide +kernel : decode cX8_layBack 23 = .ok (.goto (-21), 3)) (by decide)) sb_nil))))))))))))
set_option maxRecDepth 100000 in
theorem sb_X8_layBack_26 (l : Launch) : sm_SndB l RX8 "layBack" cX8_layBack 2 0 0 26 [oVr] := sb_cons (sd_return (x := 0) rfl (by decide +kernel : decode cX8_layBack 26 = .ok (.return_, 1))) sb_nil
theorem sn_X8_layBack (l : Launch) : sm_SndT l RX8 "layBack" cX8_layBack 2 0 0 tb_X8_layBack := st_cons (sb_X8_layBack_0 l) (st_cons (sb_X8_layBack_2 l) (st_cons (sb_X8_layBack_26 l) (st_nil)))
set_option maxRecDepth 100000 in
set_option maxHeartbeats 4000000 in
theorem ok_X8_layBack : sm_Ok tb_X8_layBack 2 0 0 p_X8_layBack f_X8_layBack := by
  intro as w hp ha hw
  match as, hp with
  | [.inr (.inl m)], hp =>
  refine ⟨Nat.le_of_ble_eq_true rfl, fun Z hZ => ?_⟩
  obtain ⟨rfl, hT⟩ := hp
  have hl := sm_loopI Z 2 0 57 (fun i => [some (.inr (.inl 154)), some (.inl i)]) (fun i => itI (mCpA 159 155) w i) 0 0 (by decide) (fun i g0 g1 ih => by
    obtain ⟨j1, j2⟩ := mCpAL (src := 159) (dst := 155) w i g0
    have hT := j2 hT
    rw [itI_s _ _ g0] at ih
    have he : i = 57 → itI (mCpA 159 155) w i = itI (mCpA 159 155) w 57 := fun e => by rw [e]
    generalize itI (mCpA 159 155) w i = u at *
    unfold mCpA at ih
    refine hZ (fun u => Nat.beq u 2) 14 2 _ _ _ _ _ ?_
    simp only [sm_run, sm_blk, sm_get, sm_ent, sm_ents, sm_wds, sm_wd, sm_nl, sm_pop, sm_back, sm_cases, oK, oLK, oL, oI, oA, oJ, oIs, oAs, oJs, oInc, oAdd, oSub, oMul, oDiv, oRem, oNeg, oAnd, oAndB, oOr, oShl, oI2c, oI2l, oL2i, oLand, oLor, oLshl, oLshr, oLushr, oLcmp, oDup, oDup2, oPop, oGo, oFg, oEq, oNe, oLt, oGe, oGt, oLe, oEq0, oNe0, oLt0, oGe0, oGt0, oLe0, oSw, oGi, oGr, oPi, oPz, oPr, oLen, oIl, oZl, oCl, oRl, oIst, oZst, oCst, oRst, oCopy, oNew, oNa, oNa2, oObj, oCs, oCv, oCi, oIr, oZr, oVr, Nat.beq, List.getElem?_cons_zero, List.getElem?_cons_succ, List.set_cons_zero, List.set_cons_succ, List.length_cons, List.length_nil, List.nil_append, List.cons_append, List.append_nil, List.replicate_succ, List.replicate_zero, Nat.reduceAdd, Nat.reduceSub, Nat.reduceLT, Nat.reduceLeDiff, Nat.reduceBEq, true_and, and_true, Nat.zero_add, Nat.add_zero, Nat.le_refl, Option.some.injEq, exists_eq_left', true_or, or_true, or_false, false_or, reduceCtorEq, Prod.mk.injEq, Sum.inl.injEq, and_self, false_and, and_false, not_true_eq_false, not_false_eq_true, false_implies, true_implies, sm_r, Int.add_zero, Int.zero_add, wI_wsI, wS_wsI, wR_wsI, wI_wCp, wS_wCp, wR_wCp, Nat.reduceEqDiff, reduceIte, sT_iff, sT_iffC, wIf_ne, ne_eq, Bool.false_or, Bool.true_or, Bool.or_false, Bool.or_true, Bool.or_self, tb_X8_layBack, p_X8_layBack, f_X8_layBack, sS_154 hT, sR_154_0 hT, sS_155 hT, sR_154_6 hT, sS_159 hT, hT]
    repeat' (first | exact True.intro | with_reducible assumption | with_reducible refine And.intro ?_ ?_ | intro _)
    all_goals first
      | omega
      | assumption
      | rfl
      | (split <;> omega)
      | (have k9 := ih (by omega)
         (repeat' split at k9) <;> first | exact k9 | omega)
      | (have k9 := ih2 (by omega)
         (repeat' split at k9) <;> first | exact k9 | omega)
      | exact he (by omega)
      | (congr 1; omega)
      | (rw [if_pos (by omega)] at he; exact he)
      | exact hD1 (by omega)
      | exact hD2 (by omega)
      | grind
      | skip
    )
  rw [itI_0] at hl
  refine hZ (fun u => Nat.beq u 2) 14 0 _ _ _ _ _ ?_
  simp only [sm_run, sm_blk, sm_get, sm_ent, sm_ents, sm_wds, sm_wd, sm_nl, sm_pop, sm_back, sm_cases, oK, oLK, oL, oI, oA, oJ, oIs, oAs, oJs, oInc, oAdd, oSub, oMul, oDiv, oRem, oNeg, oAnd, oAndB, oOr, oShl, oI2c, oI2l, oL2i, oLand, oLor, oLshl, oLshr, oLushr, oLcmp, oDup, oDup2, oPop, oGo, oFg, oEq, oNe, oLt, oGe, oGt, oLe, oEq0, oNe0, oLt0, oGe0, oGt0, oLe0, oSw, oGi, oGr, oPi, oPz, oPr, oLen, oIl, oZl, oCl, oRl, oIst, oZst, oCst, oRst, oCopy, oNew, oNa, oNa2, oObj, oCs, oCv, oCi, oIr, oZr, oVr, Nat.beq, List.getElem?_cons_zero, List.getElem?_cons_succ, List.set_cons_zero, List.set_cons_succ, List.length_cons, List.length_nil, List.nil_append, List.cons_append, List.append_nil, List.replicate_succ, List.replicate_zero, Nat.reduceAdd, Nat.reduceSub, Nat.reduceLT, Nat.reduceLeDiff, Nat.reduceBEq, true_and, and_true, Nat.zero_add, Nat.add_zero, Nat.le_refl, Option.some.injEq, exists_eq_left', true_or, or_true, or_false, false_or, reduceCtorEq, Prod.mk.injEq, Sum.inl.injEq, and_self, false_and, and_false, not_true_eq_false, not_false_eq_true, false_implies, true_implies, sm_r, Int.add_zero, Int.zero_add, wI_wsI, wS_wsI, wR_wsI, wI_wCp, wS_wCp, wR_wCp, Nat.reduceEqDiff, reduceIte, sT_iff, sT_iffC, wIf_ne, ne_eq, Bool.false_or, Bool.true_or, Bool.or_false, Bool.or_true, Bool.or_self, tb_X8_layBack, p_X8_layBack, f_X8_layBack]
  repeat' (first | exact True.intro | with_reducible assumption | with_reducible refine And.intro ?_ ?_ | intro _)
  all_goals first
    | omega
    | assumption
    | rfl
    | (split <;> omega)
    | (have k9 := ih (by omega)
       (repeat' split at k9) <;> first | exact k9 | omega)
    | (have k9 := ih2 (by omega)
       (repeat' split at k9) <;> first | exact k9 | omega)
    | exact he (by omega)
    | (congr 1; omega)
    | (rw [if_pos (by omega)] at he; exact he)
    | exact hD1 (by omega)
    | exact hD2 (by omega)
    | skip
theorem met_X8_layBack (l : Launch) : sm_Met l yX8_layBack cX8_layBack 2 none 0 0 0 p_X8_layBack f_X8_layBack := sm_met 0 (Or.inl ⟨rfl, rfl⟩) (by decide +kernel) (sn_X8_layBack l) ok_X8_layBack
def mOrds (n : Int) : Int → Int := itI (fun _ r => r * n) 1
theorem mOrds_b {n : Int} (h0 : 0 ≤ n) (h5 : n ≤ 5) {i : Int} (i0 : 0 ≤ i) (i5 : i ≤ n) : 0 ≤ mOrds n i ∧ mOrds n i ≤ 3125 ∧ 0 ≤ mOrds n i * n ∧ (i < n → mOrds n i * n ≤ 3125) := by
  have hn : n = 0 ∨ n = 1 ∨ n = 2 ∨ n = 3 ∨ n = 4 ∨ n = 5 := by omega
  have hi : i = 0 ∨ i = 1 ∨ i = 2 ∨ i = 3 ∨ i = 4 ∨ i = 5 := by omega
  rcases hn with rfl | rfl | rfl | rfl | rfl | rfl <;> rcases hi with rfl | rfl | rfl | rfl | rfl | rfl <;> first | omega | decide
def p_X8_orders : List sm_V → sm_W → Prop
  | [.inr (.inl m)], w => m = 154 ∧ mOK w ∧ wI w 155 1 ≤ 5
  | _, _ => False
def f_X8_orders : sm_F
  | [.inr (.inl m)], w => (some (.inl (mOrds (wI w 155 1) (wI w 155 1))), w)
  | _, w => (none, w)
def tb_X8_orders : List (Nat × List sm_O) := [(0, [oK 1, oIs 1, oK 0, oIs 2, oGo 4]),
  (4, [oI 2, oA 0, oGr 8 30 0, oK 1, oIl, oGe 29, oI 1, oA 0, oGr 8 30 0, oK 1, oIl, oMul, oIs 1, oInc 2 1, oGo 4]),
  (29, [oI 1, oIr])]
set_option maxRecDepth 100000 in
theorem sb_X8_orders_0 (l : Launch) : sm_SndB l RX8 "orders" cX8_orders 3 1 0 0 [oK 1, oIs 1, oK 0, oIs 2, oGo 4] := sb_cons (sd_iconst (by decide +kernel : decode cX8_orders 0 = .ok (.iconst 1, 1)) ⟨by decide, by decide⟩) (sb_cons (sd_istore_n (by decide +kernel : decode cX8_orders 1 = .ok (.istore_n 1, 1)) rfl) (sb_cons (sd_iconst (by decide +kernel : decode cX8_orders 2 = .ok (.iconst 0, 1)) ⟨by decide, by decide⟩) (sb_cons (sd_istore_n (by decide +kernel : decode cX8_orders 3 = .ok (.istore_n 2, 1)) rfl) (sb_cons (sd_fall (x := 0)) sb_nil))))
set_option maxRecDepth 100000 in
theorem sb_X8_orders_4 (l : Launch) : sm_SndB l RX8 "orders" cX8_orders 3 1 0 4 [oI 2, oA 0, oGr 8 30 0, oK 1, oIl, oGe 29, oI 1, oA 0, oGr 8 30 0, oK 1, oIl, oMul, oIs 1, oInc 2 1, oGo 4] := sb_cons (sd_iload_n (by decide +kernel : decode cX8_orders 4 = .ok (.iload_n 2, 1)) rfl) (sb_cons (sd_aload_n (by decide +kernel : decode cX8_orders 5 = .ok (.aload_n 0, 1)) rfl) (sb_cons (sd_getr (k := 0) kl_8 (by decide) rfl wm_673 (by decide +kernel : decode cX8_orders 6 = .ok (.getfield 7, 3))) (sb_cons (sd_iconst (by decide +kernel : decode cX8_orders 9 = .ok (.iconst 1, 1)) ⟨by decide, by decide⟩) (sb_cons (sd_iaload (by decide +kernel : decode cX8_orders 10 = .ok (.iaload, 1))) (sb_cons (sd_ge (by decide +kernel : decode cX8_orders 11 = .ok (.if_icmp .ge 18, 3)) (by decide)) (sb_cons (sd_iload_n (by decide +kernel : decode cX8_orders 14 = .ok (.iload_n 1, 1)) rfl) (sb_cons (sd_aload_n (by decide +kernel : decode cX8_orders 15 = .ok (.aload_n 0, 1)) rfl) (sb_cons (sd_getr (k := 0) kl_8 (by decide) rfl wm_673 (by decide +kernel : decode cX8_orders 16 = .ok (.getfield 7, 3))) (sb_cons (sd_iconst (by decide +kernel : decode cX8_orders 19 = .ok (.iconst 1, 1)) ⟨by decide, by decide⟩) (sb_cons (sd_iaload (by decide +kernel : decode cX8_orders 20 = .ok (.iaload, 1))) (sb_cons (sd_imul (by decide +kernel : decode cX8_orders 21 = .ok (.imul, 1))) (sb_cons (sd_istore_n (by decide +kernel : decode cX8_orders 22 = .ok (.istore_n 1, 1)) rfl) (sb_cons (sd_iinc (by decide +kernel : decode cX8_orders 23 = .ok (.iinc 2 1, 3))) (sb_cons (sd_goto (x := 0) (by decide +kernel : decode cX8_orders 26 = .ok (.goto (-22), 3)) (by decide)) sb_nil))))))))))))))
set_option maxRecDepth 100000 in
theorem sb_X8_orders_29 (l : Launch) : sm_SndB l RX8 "orders" cX8_orders 3 1 0 29 [oI 1, oIr] := sb_cons (sd_iload_n (by decide +kernel : decode cX8_orders 29 = .ok (.iload_n 1, 1)) rfl) (sb_cons (sd_ireturn (x := 0) rfl (by decide +kernel : decode cX8_orders 30 = .ok (.ireturn, 1))) sb_nil)
theorem sn_X8_orders (l : Launch) : sm_SndT l RX8 "orders" cX8_orders 3 1 0 tb_X8_orders := st_cons (sb_X8_orders_0 l) (st_cons (sb_X8_orders_4 l) (st_cons (sb_X8_orders_29 l) (st_nil)))
set_option maxRecDepth 100000 in
set_option maxHeartbeats 4000000 in
theorem ok_X8_orders : sm_Ok tb_X8_orders 3 0 0 p_X8_orders f_X8_orders := by
  intro as w hp ha hw
  match as, hp with
  | [.inr (.inl m)], hp =>
  refine ⟨Nat.le_of_ble_eq_true rfl, fun Z hZ => ?_⟩
  obtain ⟨rfl, ⟨hT, hv⟩, h5⟩ := hp
  have hm := vOK_many hv
  have hl := sm_loopI Z 4 0 (wI w 155 1) (fun i => [some (.inr (.inl 154)), some (.inl (mOrds (wI w 155 1) i)), some (.inl i)]) (fun _ => w) 0 0 hm.1 (fun i g0 g1 ih => by
    have hb := mOrds_b hm.1 h5 g0 g1
    have hu : mOrds (wI w 155 1) (i + 1) = mOrds (wI w 155 1) i * wI w 155 1 := itI_s _ _ g0
    have hx : i = wI w 155 1 → mOrds (wI w 155 1) i = mOrds (wI w 155 1) (wI w 155 1) := fun e => congrArg _ e
    rw [hu] at ih
    refine hZ (fun u => Nat.beq u 4) 14 4 _ _ _ _ _ ?_
    simp only [sm_run, sm_blk, sm_get, sm_ent, sm_ents, sm_wds, sm_wd, sm_nl, sm_pop, sm_back, sm_cases, oK, oLK, oL, oI, oA, oJ, oIs, oAs, oJs, oInc, oAdd, oSub, oMul, oDiv, oRem, oNeg, oAnd, oAndB, oOr, oShl, oI2c, oI2l, oL2i, oLand, oLor, oLshl, oLshr, oLushr, oLcmp, oDup, oDup2, oPop, oGo, oFg, oEq, oNe, oLt, oGe, oGt, oLe, oEq0, oNe0, oLt0, oGe0, oGt0, oLe0, oSw, oGi, oGr, oPi, oPz, oPr, oLen, oIl, oZl, oCl, oRl, oIst, oZst, oCst, oRst, oCopy, oNew, oNa, oNa2, oObj, oCs, oCv, oCi, oIr, oZr, oVr, Nat.beq, List.getElem?_cons_zero, List.getElem?_cons_succ, List.set_cons_zero, List.set_cons_succ, List.length_cons, List.length_nil, List.nil_append, List.cons_append, List.append_nil, List.replicate_succ, List.replicate_zero, Nat.reduceAdd, Nat.reduceSub, Nat.reduceLT, Nat.reduceLeDiff, Nat.reduceBEq, true_and, and_true, Nat.zero_add, Nat.add_zero, Nat.le_refl, Option.some.injEq, exists_eq_left', true_or, or_true, or_false, false_or, reduceCtorEq, Prod.mk.injEq, Sum.inl.injEq, and_self, false_and, and_false, not_true_eq_false, not_false_eq_true, false_implies, true_implies, sm_r, Int.add_zero, Int.zero_add, wI_wsI, wS_wsI, wR_wsI, wI_wCp, wS_wCp, wR_wCp, Nat.reduceEqDiff, reduceIte, sT_iff, sT_iffC, wIf_ne, ne_eq, Bool.false_or, Bool.true_or, Bool.or_false, Bool.or_true, Bool.or_self, tb_X8_orders, p_X8_orders, f_X8_orders, sS_154 hT, sR_154_0 hT, sS_155 hT]
    repeat' (first | exact True.intro | with_reducible assumption | with_reducible refine And.intro ?_ ?_ | intro _)
    all_goals first
      | omega
      | assumption
      | rfl
      | (split <;> omega)
      | (have k9 := ih (by omega)
         (repeat' split at k9) <;> first | exact k9 | omega)
      | (have k9 := ih2 (by omega)
         (repeat' split at k9) <;> first | exact k9 | omega)
      | exact he (by omega)
      | (congr 1; omega)
      | (rw [if_pos (by omega)] at he; exact he)
      | exact hD1 (by omega)
      | exact hD2 (by omega)
      | grind
      | skip
    )
  refine hZ (fun u => Nat.beq u 4) 14 0 _ _ _ _ _ ?_
  simp only [sm_run, sm_blk, sm_get, sm_ent, sm_ents, sm_wds, sm_wd, sm_nl, sm_pop, sm_back, sm_cases, oK, oLK, oL, oI, oA, oJ, oIs, oAs, oJs, oInc, oAdd, oSub, oMul, oDiv, oRem, oNeg, oAnd, oAndB, oOr, oShl, oI2c, oI2l, oL2i, oLand, oLor, oLshl, oLshr, oLushr, oLcmp, oDup, oDup2, oPop, oGo, oFg, oEq, oNe, oLt, oGe, oGt, oLe, oEq0, oNe0, oLt0, oGe0, oGt0, oLe0, oSw, oGi, oGr, oPi, oPz, oPr, oLen, oIl, oZl, oCl, oRl, oIst, oZst, oCst, oRst, oCopy, oNew, oNa, oNa2, oObj, oCs, oCv, oCi, oIr, oZr, oVr, Nat.beq, List.getElem?_cons_zero, List.getElem?_cons_succ, List.set_cons_zero, List.set_cons_succ, List.length_cons, List.length_nil, List.nil_append, List.cons_append, List.append_nil, List.replicate_succ, List.replicate_zero, Nat.reduceAdd, Nat.reduceSub, Nat.reduceLT, Nat.reduceLeDiff, Nat.reduceBEq, true_and, and_true, Nat.zero_add, Nat.add_zero, Nat.le_refl, Option.some.injEq, exists_eq_left', true_or, or_true, or_false, false_or, reduceCtorEq, Prod.mk.injEq, Sum.inl.injEq, and_self, false_and, and_false, not_true_eq_false, not_false_eq_true, false_implies, true_implies, sm_r, Int.add_zero, Int.zero_add, wI_wsI, wS_wsI, wR_wsI, wI_wCp, wS_wCp, wR_wCp, Nat.reduceEqDiff, reduceIte, sT_iff, sT_iffC, wIf_ne, ne_eq, Bool.false_or, Bool.true_or, Bool.or_false, Bool.or_true, Bool.or_self, tb_X8_orders, p_X8_orders, f_X8_orders]
  repeat' (first | exact True.intro | with_reducible assumption | with_reducible refine And.intro ?_ ?_ | intro _)
  all_goals first
    | omega
    | assumption
    | rfl
    | (split <;> omega)
    | (have k9 := ih (by omega)
       (repeat' split at k9) <;> first | exact k9 | omega)
    | (have k9 := ih2 (by omega)
       (repeat' split at k9) <;> first | exact k9 | omega)
    | exact he (by omega)
    | (congr 1; omega)
    | (rw [if_pos (by omega)] at he; exact he)
    | exact hD1 (by omega)
    | exact hD2 (by omega)
    | skip
theorem met_X8_orders (l : Launch) : sm_Met l yX8_orders cX8_orders 3 (some .int) 0 0 0 p_X8_orders f_X8_orders := sm_met 1 (Or.inr (Or.inl ⟨rfl, rfl⟩)) (by decide +kernel) (sn_X8_orders l) ok_X8_orders
/-- the digits of a number, the last one the last shuttle's; whether all differ -/
def mDf1 (w : sm_W) (k i r : Int) : Int := if wI w 171 i = wI w 171 k then 0 else r
def mDf (w : sm_W) (k d : Int) : Int → Int := itI (fun j => mDf1 w k (k + 1 + j)) d
theorem mDf_01 {w : sm_W} {k d : Int} (h : d = 0 ∨ d = 1) (n : Int) (hn : 0 ≤ n) : mDf w k d n = 0 ∨ mDf w k d n = 1 := by
  refine itI_ind (fun _ r => r = 0 ∨ r = 1) n h (fun i r _ _ hr => ?_) n hn (Int.le_refl _)
  unfold mDf1
  grind
def mLo1 (n j : Int) (s : sm_W × Int × Int) : sm_W × Int × Int := (wsI s.1 171 (n - 1 - j) (s.2.1 % n), s.2.1 / n, mDf (wsI s.1 171 (n - 1 - j) (s.2.1 % n)) (n - 1 - j) s.2.2 (n - (n - 1 - j + 1)))
def mLo (w : sm_W) (n num : Int) : Int → sm_W × Int × Int := itI (mLo1 n) (w, num, 1)
theorem mLo_inv {w : sm_W} {n num : Int} (hn : 0 ≤ n) (h0 : 0 ≤ num) (j : Int) (j0 : 0 ≤ j) (j1 : j ≤ n) : (∀ a, a ≠ 171 → wI (mLo w n num j).1 a = wI w a) ∧ (sT w → sT (mLo w n num j).1) ∧ 0 ≤ (mLo w n num j).2.1 ∧ ((mLo w n num j).2.2 = 0 ∨ (mLo w n num j).2.2 = 1) := by
  refine itI_ind (f := mLo1 n) (fun _ s => (∀ a, a ≠ 171 → wI s.1 a = wI w a) ∧ (sT w → sT s.1) ∧ 0 ≤ s.2.1 ∧ (s.2.2 = 0 ∨ s.2.2 = 1)) n ⟨fun _ _ => rfl, id, h0, Or.inr rfl⟩ (fun i s i0 i1 hs => ⟨fun a h => by unfold mLo1; dsimp only; rw [wIf_ne h, hs.1 a h], fun h => sT_wsI (hs.2.1 h), Int.ediv_nonneg hs.2.2.1 hn, mDf_01 hs.2.2.2 _ (by omega)⟩) j j0 j1
def p_X8_layOrder : List sm_V → sm_W → Prop
  | [.inr (.inl m), .inl num], w => m = 154 ∧ mOK w ∧ wI w 155 1 ≤ 5 ∧ 0 ≤ num
  | _, _ => False
def f_X8_layOrder : sm_F
  | [.inr (.inl m), .inl num], w => (some (.inl (mLo w (wI w 155 1) num (wI w 155 1)).2.2), (mLo w (wI w 155 1) num (wI w 155 1)).1)
  | _, w => (none, w)
def tb_X8_layOrder : List (Nat × List sm_O) := [(0, [oI 1, oIs 2, oK 1, oIs 3, oA 0, oGr 8 30 0, oK 1, oIl, oK 1, oSub, oIs 4, oFg 1, oFg 5, oGo 14]),
  (14, [oI 4, oLt0 97, oA 0, oGr 8 30 21, oI 4, oI 2, oA 0, oGr 8 30 0, oK 1, oIl, oRem, oIst, oI 2, oA 0, oGr 8 30 0, oK 1, oIl, oDiv, oIs 2, oI 4, oK 1, oAdd, oIs 5, oFg 1, oGo 49]),
  (49, [oI 5, oA 0, oGr 8 30 0, oK 1, oIl, oGe 91, oI 3, oA 0, oGr 8 30 21, oI 5, oIl, oA 0, oGr 8 30 21, oI 4, oIl, oEq 82, oK 1, oGo 83]),
  (82, [oK 0, oGo 83]),
  (83, [oAndB, oIs 3, oInc 5 1, oFg 1, oGo 49]),
  (91, [oInc 4 (-1), oFg 1, oFg 5, oGo 14]),
  (97, [oI 3, oZr])]
set_option maxRecDepth 100000 in
theorem sb_X8_layOrder_0 (l : Launch) : sm_SndB l RX8 "layOrder" cX8_layOrder 6 2 0 0 [oI 1, oIs 2, oK 1, oIs 3, oA 0, oGr 8 30 0, oK 1, oIl, oK 1, oSub, oIs 4, oFg 1, oFg 5, oGo 14] := sb_cons (sd_iload_n (by decide +kernel : decode cX8_layOrder 0 = .ok (.iload_n 1, 1)) rfl) (sb_cons (sd_istore_n (by decide +kernel : decode cX8_layOrder 1 = .ok (.istore_n 2, 1)) rfl) (sb_cons (sd_iconst (by decide +kernel : decode cX8_layOrder 2 = .ok (.iconst 1, 1)) ⟨by decide, by decide⟩) (sb_cons (sd_istore_n (by decide +kernel : decode cX8_layOrder 3 = .ok (.istore_n 3, 1)) rfl) (sb_cons (sd_aload_n (by decide +kernel : decode cX8_layOrder 4 = .ok (.aload_n 0, 1)) rfl) (sb_cons (sd_getr (k := 0) kl_8 (by decide) rfl wm_673 (by decide +kernel : decode cX8_layOrder 5 = .ok (.getfield 7, 3))) (sb_cons (sd_iconst (by decide +kernel : decode cX8_layOrder 8 = .ok (.iconst 1, 1)) ⟨by decide, by decide⟩) (sb_cons (sd_iaload (by decide +kernel : decode cX8_layOrder 9 = .ok (.iaload, 1))) (sb_cons (sd_iconst (by decide +kernel : decode cX8_layOrder 10 = .ok (.iconst 1, 1)) ⟨by decide, by decide⟩) (sb_cons (sd_isub (by decide +kernel : decode cX8_layOrder 11 = .ok (.isub, 1))) (sb_cons (sd_istore (by decide +kernel : decode cX8_layOrder 12 = .ok (.istore 4, 2))) (sb_cons (sd_fg) (sb_cons (sd_fg) (sb_cons (sd_fall (x := 0)) sb_nil)))))))))))))
set_option maxRecDepth 100000 in
theorem sb_X8_layOrder_14 (l : Launch) : sm_SndB l RX8 "layOrder" cX8_layOrder 6 2 0 14 [oI 4, oLt0 97, oA 0, oGr 8 30 21, oI 4, oI 2, oA 0, oGr 8 30 0, oK 1, oIl, oRem, oIst, oI 2, oA 0, oGr 8 30 0, oK 1, oIl, oDiv, oIs 2, oI 4, oK 1, oAdd, oIs 5, oFg 1, oGo 49] := sb_cons (sd_iload (by decide +kernel : decode cX8_layOrder 14 = .ok (.iload 4, 2))) (sb_cons (sd_lt0 (by decide +kernel : decode cX8_layOrder 16 = .ok (.ifCond .lt 81, 3)) (by decide)) (sb_cons (sd_aload_n (by decide +kernel : decode cX8_layOrder 19 = .ok (.aload_n 0, 1)) rfl) (sb_cons (sd_getr (k := 21) kl_8 (by decide) rfl wm_694 (by decide +kernel : decode cX8_layOrder 20 = .ok (.getfield 59, 3))) (sb_cons (sd_iload (by decide +kernel : decode cX8_layOrder 23 = .ok (.iload 4, 2))) (sb_cons (sd_iload_n (by decide +kernel : decode cX8_layOrder 25 = .ok (.iload_n 2, 1)) rfl) (sb_cons (sd_aload_n (by decide +kernel : decode cX8_layOrder 26 = .ok (.aload_n 0, 1)) rfl) (sb_cons (sd_getr (k := 0) kl_8 (by decide) rfl wm_673 (by decide +kernel : decode cX8_layOrder 27 = .ok (.getfield 7, 3))) (sb_cons (sd_iconst (by decide +kernel : decode cX8_layOrder 30 = .ok (.iconst 1, 1)) ⟨by decide, by decide⟩) (sb_cons (sd_iaload (by decide +kernel : decode cX8_layOrder 31 = .ok (.iaload, 1))) (sb_cons (sd_irem (by decide +kernel : decode cX8_layOrder 32 = .ok (.irem, 1))) (sb_cons (sd_iastore (by decide +kernel : decode cX8_layOrder 33 = .ok (.iastore, 1))) (sb_cons (sd_iload_n (by decide +kernel : decode cX8_layOrder 34 = .ok (.iload_n 2, 1)) rfl) (sb_cons (sd_aload_n (by decide +kernel : decode cX8_layOrder 35 = .ok (.aload_n 0, 1)) rfl) (sb_cons (sd_getr (k := 0) kl_8 (by decide) rfl wm_673 (by decide +kernel : decode cX8_layOrder 36 = .ok (.getfield 7, 3))) (sb_cons (sd_iconst (by decide +kernel : decode cX8_layOrder 39 = .ok (.iconst 1, 1)) ⟨by decide, by decide⟩) (sb_cons (sd_iaload (by decide +kernel : decode cX8_layOrder 40 = .ok (.iaload, 1))) (sb_cons (sd_idiv (by decide +kernel : decode cX8_layOrder 41 = .ok (.idiv, 1))) (sb_cons (sd_istore_n (by decide +kernel : decode cX8_layOrder 42 = .ok (.istore_n 2, 1)) rfl) (sb_cons (sd_iload (by decide +kernel : decode cX8_layOrder 43 = .ok (.iload 4, 2))) (sb_cons (sd_iconst (by decide +kernel : decode cX8_layOrder 45 = .ok (.iconst 1, 1)) ⟨by decide, by decide⟩) (sb_cons (sd_iadd (by decide +kernel : decode cX8_layOrder 46 = .ok (.iadd, 1))) (sb_cons (sd_istore (by decide +kernel : decode cX8_layOrder 47 = .ok (.istore 5, 2))) (sb_cons (sd_fg) (sb_cons (sd_fall (x := 0)) sb_nil))))))))))))))))))))))))
set_option maxRecDepth 100000 in
theorem sb_X8_layOrder_49 (l : Launch) : sm_SndB l RX8 "layOrder" cX8_layOrder 6 2 0 49 [oI 5, oA 0, oGr 8 30 0, oK 1, oIl, oGe 91, oI 3, oA 0, oGr 8 30 21, oI 5, oIl, oA 0, oGr 8 30 21, oI 4, oIl, oEq 82, oK 1, oGo 83] := sb_cons (sd_iload (by decide +kernel : decode cX8_layOrder 49 = .ok (.iload 5, 2))) (sb_cons (sd_aload_n (by decide +kernel : decode cX8_layOrder 51 = .ok (.aload_n 0, 1)) rfl) (sb_cons (sd_getr (k := 0) kl_8 (by decide) rfl wm_673 (by decide +kernel : decode cX8_layOrder 52 = .ok (.getfield 7, 3))) (sb_cons (sd_iconst (by decide +kernel : decode cX8_layOrder 55 = .ok (.iconst 1, 1)) ⟨by decide, by decide⟩) (sb_cons (sd_iaload (by decide +kernel : decode cX8_layOrder 56 = .ok (.iaload, 1))) (sb_cons (sd_ge (by decide +kernel : decode cX8_layOrder 57 = .ok (.if_icmp .ge 34, 3)) (by decide)) (sb_cons (sd_iload_n (by decide +kernel : decode cX8_layOrder 60 = .ok (.iload_n 3, 1)) rfl) (sb_cons (sd_aload_n (by decide +kernel : decode cX8_layOrder 61 = .ok (.aload_n 0, 1)) rfl) (sb_cons (sd_getr (k := 21) kl_8 (by decide) rfl wm_694 (by decide +kernel : decode cX8_layOrder 62 = .ok (.getfield 59, 3))) (sb_cons (sd_iload (by decide +kernel : decode cX8_layOrder 65 = .ok (.iload 5, 2))) (sb_cons (sd_iaload (by decide +kernel : decode cX8_layOrder 67 = .ok (.iaload, 1))) (sb_cons (sd_aload_n (by decide +kernel : decode cX8_layOrder 68 = .ok (.aload_n 0, 1)) rfl) (sb_cons (sd_getr (k := 21) kl_8 (by decide) rfl wm_694 (by decide +kernel : decode cX8_layOrder 69 = .ok (.getfield 59, 3))) (sb_cons (sd_iload (by decide +kernel : decode cX8_layOrder 72 = .ok (.iload 4, 2))) (sb_cons (sd_iaload (by decide +kernel : decode cX8_layOrder 74 = .ok (.iaload, 1))) (sb_cons (sd_eq (by decide +kernel : decode cX8_layOrder 75 = .ok (.if_icmp .eq 7, 3)) (by decide)) (sb_cons (sd_iconst (by decide +kernel : decode cX8_layOrder 78 = .ok (.iconst 1, 1)) ⟨by decide, by decide⟩) (sb_cons (sd_goto (x := 0) (by decide +kernel : decode cX8_layOrder 79 = .ok (.goto 4, 3)) (by decide)) sb_nil)))))))))))))))))
set_option maxRecDepth 100000 in
theorem sb_X8_layOrder_82 (l : Launch) : sm_SndB l RX8 "layOrder" cX8_layOrder 6 2 0 82 [oK 0, oGo 83] := sb_cons (sd_iconst (by decide +kernel : decode cX8_layOrder 82 = .ok (.iconst 0, 1)) ⟨by decide, by decide⟩) (sb_cons (sd_fall (x := 0)) sb_nil)
set_option maxRecDepth 100000 in
theorem sb_X8_layOrder_83 (l : Launch) : sm_SndB l RX8 "layOrder" cX8_layOrder 6 2 0 83 [oAndB, oIs 3, oInc 5 1, oFg 1, oGo 49] := sb_cons (sd_iandb (by decide +kernel : decode cX8_layOrder 83 = .ok (.iand, 1))) (sb_cons (sd_istore_n (by decide +kernel : decode cX8_layOrder 84 = .ok (.istore_n 3, 1)) rfl) (sb_cons (sd_iinc (by decide +kernel : decode cX8_layOrder 85 = .ok (.iinc 5 1, 3))) (sb_cons (sd_fg) (sb_cons (sd_goto (x := 0) (by decide +kernel : decode cX8_layOrder 88 = .ok (.goto (-39), 3)) (by decide)) sb_nil))))
set_option maxRecDepth 100000 in
theorem sb_X8_layOrder_91 (l : Launch) : sm_SndB l RX8 "layOrder" cX8_layOrder 6 2 0 91 [oInc 4 (-1), oFg 1, oFg 5, oGo 14] := sb_cons (sd_iinc (by decide +kernel : decode cX8_layOrder 91 = .ok (.iinc 4 (-1), 3))) (sb_cons (sd_fg) (sb_cons (sd_fg) (sb_cons (sd_goto (x := 0) (by decide +kernel : decode cX8_layOrder 94 = .ok (.goto (-80), 3)) (by decide)) sb_nil)))
set_option maxRecDepth 100000 in
theorem sb_X8_layOrder_97 (l : Launch) : sm_SndB l RX8 "layOrder" cX8_layOrder 6 2 0 97 [oI 3, oZr] := sb_cons (sd_iload_n (by decide +kernel : decode cX8_layOrder 97 = .ok (.iload_n 3, 1)) rfl) (sb_cons (sd_zreturn (x := 0) rfl (by decide +kernel : decode cX8_layOrder 98 = .ok (.ireturn, 1))) sb_nil)
theorem sn_X8_layOrder (l : Launch) : sm_SndT l RX8 "layOrder" cX8_layOrder 6 2 0 tb_X8_layOrder := st_cons (sb_X8_layOrder_0 l) (st_cons (sb_X8_layOrder_14 l) (st_cons (sb_X8_layOrder_49 l) (st_cons (sb_X8_layOrder_82 l) (st_cons (sb_X8_layOrder_83 l) (st_cons (sb_X8_layOrder_91 l) (st_cons (sb_X8_layOrder_97 l) (st_nil)))))))
set_option maxRecDepth 100000 in
set_option maxHeartbeats 4000000 in
theorem ok_X8_layOrder : sm_Ok tb_X8_layOrder 6 0 0 p_X8_layOrder f_X8_layOrder := by
  intro as w hp ha hw
  match as, hp with
  | [.inr (.inl m), .inl num], hp =>
  refine ⟨Nat.le_of_ble_eq_true rfl, fun Z hZ => ?_⟩
  obtain ⟨rfl, ⟨hT, hv⟩, h5, hnum⟩ := hp
  have hm := vOK_many hv
  have hl := sm_loopI Z 14 0 (wI w 155 1) (fun j => [some (.inr (.inl 154)), none, some (.inl (mLo w (wI w 155 1) num j).2.1), some (.inl (mLo w (wI w 155 1) num j).2.2), some (.inl (wI w 155 1 - 1 - j)), none]) (fun j => (mLo w (wI w 155 1) num j).1) 0 0 hm.1 (fun j g0 g1 ih => by
    obtain ⟨j1, j2, j3, j4⟩ := mLo_inv (w := w) hm.1 hnum j g0 g1
    have hT := j2 hT
    have hat : wI (mLo w (wI w 155 1) num j).1 155 = wI w 155 := j1 _ (by decide)
    have hu : mLo w (wI w 155 1) num (j + 1) = mLo1 (wI w 155 1) j (mLo w (wI w 155 1) num j) := itI_s _ _ g0
    have he : j = wI w 155 1 → (mLo w (wI w 155 1) num j).1 = (mLo w (wI w 155 1) num (wI w 155 1)).1 := fun e => by rw [← e]
    have hx : j = wI w 155 1 → (mLo w (wI w 155 1) num j).2.2 = (mLo w (wI w 155 1) num (wI w 155 1)).2.2 := fun e => by rw [← e]
    rw [hu] at ih
    generalize hn : wI w 155 1 = n at *
    generalize mLo w n num j = s at *
    obtain ⟨u, rest, d⟩ := s
    unfold mLo1 at ih
    dsimp only at *
    have hat1 : wI u 155 1 = n := by rw [hat, hn]
    generalize hq : n - 1 - j = q at *
    have hT2 : sT (wsI u 171 q (rest % n)) := sT_wsI hT
    have hat2 : wI (wsI u 171 q (rest % n)) 155 1 = n := hat1
    have l2 : j < n → Z 49 [some (.inr (.inl 154)), none, some (.inl (rest / n)), some (.inl (mDf (wsI u 171 q (rest % n)) q d (q + 1 - (q + 1)))), some (.inl q), some (.inl (q + 1))] [] (wsI u 171 q (rest % n)) 0 0 := fun hlt => sm_loopI Z 49 (q + 1) n (fun i => [some (.inr (.inl 154)), none, some (.inl (rest / n)), some (.inl (mDf (wsI u 171 q (rest % n)) q d (i - (q + 1)))), some (.inl q), some (.inl i)]) (fun _ => wsI u 171 q (rest % n)) 0 0 (by omega) (fun i f0 f1 ih2 => by
      have hd := mDf_01 (w := wsI u 171 q (rest % n)) (k := q) j4 (i - (q + 1)) (by omega)
      have hv : mDf (wsI u 171 q (rest % n)) q d (i + 1 - (q + 1)) = mDf1 (wsI u 171 q (rest % n)) q i (mDf (wsI u 171 q (rest % n)) q d (i - (q + 1))) := by
        rw [show i + 1 - (q + 1) = (i - (q + 1)) + 1 by omega]
        unfold mDf
        rw [itI_s _ _ (by omega), show q + 1 + (i - (q + 1)) = i by omega]
      have ih := ih hlt
      rw [show n - 1 - (j + 1) = q - 1 by omega] at ih
      have ih : i = n → Z 14 [some (.inr (.inl 154)), none, some (.inl (rest / n)), some (.inl (mDf (wsI u 171 q (rest % n)) q d (i - (q + 1)))), some (.inl (q + -1)), none] [] (wsI u 171 q (rest % n)) 0 0 := fun e => by rw [e]; exact ih
      rw [hv] at ih2
      unfold mDf1 at ih2
      generalize mDf (wsI u 171 q (rest % n)) q d (i - (q + 1)) = dd at *
      generalize wsI u 171 q (rest % n) = v at *
      refine hZ (fun u => Nat.beq u 14 || Nat.beq u 49) 14 49 _ _ _ _ _ ?_
      simp only [sm_run, sm_blk, sm_get, sm_ent, sm_ents, sm_wds, sm_wd, sm_nl, sm_pop, sm_back, sm_cases, oK, oLK, oL, oI, oA, oJ, oIs, oAs, oJs, oInc, oAdd, oSub, oMul, oDiv, oRem, oNeg, oAnd, oAndB, oOr, oShl, oI2c, oI2l, oL2i, oLand, oLor, oLshl, oLshr, oLushr, oLcmp, oDup, oDup2, oPop, oGo, oFg, oEq, oNe, oLt, oGe, oGt, oLe, oEq0, oNe0, oLt0, oGe0, oGt0, oLe0, oSw, oGi, oGr, oPi, oPz, oPr, oLen, oIl, oZl, oCl, oRl, oIst, oZst, oCst, oRst, oCopy, oNew, oNa, oNa2, oObj, oCs, oCv, oCi, oIr, oZr, oVr, Nat.beq, List.getElem?_cons_zero, List.getElem?_cons_succ, List.set_cons_zero, List.set_cons_succ, List.length_cons, List.length_nil, List.nil_append, List.cons_append, List.append_nil, List.replicate_succ, List.replicate_zero, Nat.reduceAdd, Nat.reduceSub, Nat.reduceLT, Nat.reduceLeDiff, Nat.reduceBEq, true_and, and_true, Nat.zero_add, Nat.add_zero, Nat.le_refl, Option.some.injEq, exists_eq_left', true_or, or_true, or_false, false_or, reduceCtorEq, Prod.mk.injEq, Sum.inl.injEq, and_self, false_and, and_false, not_true_eq_false, not_false_eq_true, false_implies, true_implies, sm_r, Int.add_zero, Int.zero_add, wI_wsI, wS_wsI, wR_wsI, wI_wCp, wS_wCp, wR_wCp, Nat.reduceEqDiff, reduceIte, sT_iff, sT_iffC, wIf_ne, ne_eq, Bool.false_or, Bool.true_or, Bool.or_false, Bool.or_true, Bool.or_self, tb_X8_layOrder, p_X8_layOrder, f_X8_layOrder, sS_154 hT2, sR_154_0 hT2, sS_155 hT2, sR_154_21 hT2, sS_171 hT2, hat2, Int.mul_one, Int.mul_zero]
      repeat' (first | exact True.intro | with_reducible assumption | with_reducible refine And.intro ?_ ?_ | intro _)
      all_goals first
        | omega
        | assumption
        | rfl
        | (split <;> omega)
        | (have k9 := ih (by omega)
           (repeat' split at k9) <;> first | exact k9 | omega)
        | (have k9 := ih2 (by omega)
           (repeat' split at k9) <;> first | exact k9 | omega)
        | exact he (by omega)
        | (congr 1; omega)
        | (rw [if_pos (by omega)] at he; exact he)
        | exact hD1 (by omega)
        | exact hD2 (by omega)
        | grind
        | skip
      )
    clear ih
    rw [Int.sub_self] at l2
    have l2 : j < n → Z 49 [some (.inr (.inl 154)), none, some (.inl (rest / n)), some (.inl d), some (.inl q), some (.inl (q + 1))] [] (wsI u 171 q (rest % n)) 0 0 := l2
    refine hZ (fun u => Nat.beq u 14 || Nat.beq u 49) 14 14 _ _ _ _ _ ?_
    simp only [sm_run, sm_blk, sm_get, sm_ent, sm_ents, sm_wds, sm_wd, sm_nl, sm_pop, sm_back, sm_cases, oK, oLK, oL, oI, oA, oJ, oIs, oAs, oJs, oInc, oAdd, oSub, oMul, oDiv, oRem, oNeg, oAnd, oAndB, oOr, oShl, oI2c, oI2l, oL2i, oLand, oLor, oLshl, oLshr, oLushr, oLcmp, oDup, oDup2, oPop, oGo, oFg, oEq, oNe, oLt, oGe, oGt, oLe, oEq0, oNe0, oLt0, oGe0, oGt0, oLe0, oSw, oGi, oGr, oPi, oPz, oPr, oLen, oIl, oZl, oCl, oRl, oIst, oZst, oCst, oRst, oCopy, oNew, oNa, oNa2, oObj, oCs, oCv, oCi, oIr, oZr, oVr, Nat.beq, List.getElem?_cons_zero, List.getElem?_cons_succ, List.set_cons_zero, List.set_cons_succ, List.length_cons, List.length_nil, List.nil_append, List.cons_append, List.append_nil, List.replicate_succ, List.replicate_zero, Nat.reduceAdd, Nat.reduceSub, Nat.reduceLT, Nat.reduceLeDiff, Nat.reduceBEq, true_and, and_true, Nat.zero_add, Nat.add_zero, Nat.le_refl, Option.some.injEq, exists_eq_left', true_or, or_true, or_false, false_or, reduceCtorEq, Prod.mk.injEq, Sum.inl.injEq, and_self, false_and, and_false, not_true_eq_false, not_false_eq_true, false_implies, true_implies, sm_r, Int.add_zero, Int.zero_add, wI_wsI, wS_wsI, wR_wsI, wI_wCp, wS_wCp, wR_wCp, Nat.reduceEqDiff, reduceIte, sT_iff, sT_iffC, wIf_ne, ne_eq, Bool.false_or, Bool.true_or, Bool.or_false, Bool.or_true, Bool.or_self, tb_X8_layOrder, p_X8_layOrder, f_X8_layOrder, sS_154 hT, sR_154_0 hT, sS_155 hT, sR_154_21 hT, sS_171 hT, hat1, sT_iff]
    repeat' (first | exact True.intro | with_reducible assumption | with_reducible refine And.intro ?_ ?_ | intro _)
    all_goals first
      | omega
      | assumption
      | rfl
      | (split <;> omega)
      | (have k9 := ih (by omega)
         (repeat' split at k9) <;> first | exact k9 | omega)
      | (have k9 := ih2 (by omega)
         (repeat' split at k9) <;> first | exact k9 | omega)
      | exact he (by omega)
      | (congr 1; omega)
      | (rw [if_pos (by omega)] at he; exact he)
      | exact hD1 (by omega)
      | exact hD2 (by omega)
      | grind
      | skip
    )
  have hl : Z 14 [some (.inr (.inl 154)), none, some (.inl num), some (.inl 1), some (.inl (wI w 155 1 - 1)), none] [] w 0 0 := by
    have h9 := hl
    rw [Int.sub_zero] at h9
    exact h9
  refine hZ (fun u => Nat.beq u 14) 14 0 _ _ _ _ _ ?_
  simp only [sm_run, sm_blk, sm_get, sm_ent, sm_ents, sm_wds, sm_wd, sm_nl, sm_pop, sm_back, sm_cases, oK, oLK, oL, oI, oA, oJ, oIs, oAs, oJs, oInc, oAdd, oSub, oMul, oDiv, oRem, oNeg, oAnd, oAndB, oOr, oShl, oI2c, oI2l, oL2i, oLand, oLor, oLshl, oLshr, oLushr, oLcmp, oDup, oDup2, oPop, oGo, oFg, oEq, oNe, oLt, oGe, oGt, oLe, oEq0, oNe0, oLt0, oGe0, oGt0, oLe0, oSw, oGi, oGr, oPi, oPz, oPr, oLen, oIl, oZl, oCl, oRl, oIst, oZst, oCst, oRst, oCopy, oNew, oNa, oNa2, oObj, oCs, oCv, oCi, oIr, oZr, oVr, Nat.beq, List.getElem?_cons_zero, List.getElem?_cons_succ, List.set_cons_zero, List.set_cons_succ, List.length_cons, List.length_nil, List.nil_append, List.cons_append, List.append_nil, List.replicate_succ, List.replicate_zero, Nat.reduceAdd, Nat.reduceSub, Nat.reduceLT, Nat.reduceLeDiff, Nat.reduceBEq, true_and, and_true, Nat.zero_add, Nat.add_zero, Nat.le_refl, Option.some.injEq, exists_eq_left', true_or, or_true, or_false, false_or, reduceCtorEq, Prod.mk.injEq, Sum.inl.injEq, and_self, false_and, and_false, not_true_eq_false, not_false_eq_true, false_implies, true_implies, sm_r, Int.add_zero, Int.zero_add, wI_wsI, wS_wsI, wR_wsI, wI_wCp, wS_wCp, wR_wCp, Nat.reduceEqDiff, reduceIte, sT_iff, sT_iffC, wIf_ne, ne_eq, Bool.false_or, Bool.true_or, Bool.or_false, Bool.or_true, Bool.or_self, tb_X8_layOrder, p_X8_layOrder, f_X8_layOrder, sS_154 hT, sR_154_0 hT, sS_155 hT]
  repeat' (first | exact True.intro | with_reducible assumption | with_reducible refine And.intro ?_ ?_ | intro _)
  all_goals first
    | omega
    | assumption
    | rfl
    | (split <;> omega)
    | (have k9 := ih (by omega)
       (repeat' split at k9) <;> first | exact k9 | omega)
    | (have k9 := ih2 (by omega)
       (repeat' split at k9) <;> first | exact k9 | omega)
    | exact he (by omega)
    | (congr 1; omega)
    | (rw [if_pos (by omega)] at he; exact he)
    | exact hD1 (by omega)
    | exact hD2 (by omega)
    | skip

theorem met_X8_layOrder (l : Launch) : sm_Met l yX8_layOrder cX8_layOrder 6 (some .boolean) 0 0 0 p_X8_layOrder f_X8_layOrder := sm_met 2 (Or.inr (Or.inr ⟨rfl, rfl⟩)) (by decide +kernel) (sn_X8_layOrder l) ok_X8_layOrder