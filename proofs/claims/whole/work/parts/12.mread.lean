/-! THE REFERENCE: small reads -/
def mOK (w : sm_W) : Prop := sT w ∧ vOK (wI w 155)
def b01 (p : Prop) [Decidable p] : Int := if p then 1 else 0
def p_X8_in : List sm_V → sm_W → Prop
  | [.inl v, .inl a, .inl b], w => True
  | _, _ => False
def f_X8_in : sm_F
  | [.inl v, .inl a, .inl b], w => (some (.inl (b01 (a ≤ v ∧ v ≤ b))), w)
  | _, w => (none, w)
def tb_X8_in : List (Nat × List sm_O) := [(0, [oI 0, oI 1, oLt 14, oI 0, oI 2, oGt 14, oK 1, oGo 15]),
  (14, [oK 0, oGo 15]),
  (15, [oZr])]
set_option maxRecDepth 100000 in
theorem sb_X8_in_0 (l : Launch) : sm_SndB l RX8 "in" cX8_in 3 2 0 0 [oI 0, oI 1, oLt 14, oI 0, oI 2, oGt 14, oK 1, oGo 15] := sb_cons (sd_iload_n (by decide +kernel : decode cX8_in 0 = .ok (.iload_n 0, 1)) rfl) (sb_cons (sd_iload_n (by decide +kernel : decode cX8_in 1 = .ok (.iload_n 1, 1)) rfl) (sb_cons (sd_lt (by decide +kernel : decode cX8_in 2 = .ok (.if_icmp .lt 12, 3)) (by decide)) (sb_cons (sd_iload_n (by decide +kernel : decode cX8_in 5 = .ok (.iload_n 0, 1)) rfl) (sb_cons (sd_iload_n (by decide +kernel : decode cX8_in 6 = .ok (.iload_n 2, 1)) rfl) (sb_cons (sd_gt (by decide +kernel : decode cX8_in 7 = .ok (.if_icmp .gt 7, 3)) (by decide)) (sb_cons (sd_iconst (by decide +kernel : decode cX8_in 10 = .ok (.iconst 1, 1)) ⟨by decide, by decide⟩) (sb_cons (sd_goto (x := 0) (by decide +kernel : decode cX8_in 11 = .ok (.goto 4, 3)) (by decide)) sb_nil)))))))
set_option maxRecDepth 100000 in
theorem sb_X8_in_14 (l : Launch) : sm_SndB l RX8 "in" cX8_in 3 2 0 14 [oK 0, oGo 15] := sb_cons (sd_iconst (by decide +kernel : decode cX8_in 14 = .ok (.iconst 0, 1)) ⟨by decide, by decide⟩) (sb_cons (sd_fall (x := 0)) sb_nil)
set_option maxRecDepth 100000 in
theorem sb_X8_in_15 (l : Launch) : sm_SndB l RX8 "in" cX8_in 3 2 0 15 [oZr] := sb_cons (sd_zreturn (x := 0) rfl (by decide +kernel : decode cX8_in 15 = .ok (.ireturn, 1))) sb_nil
theorem sn_X8_in (l : Launch) : sm_SndT l RX8 "in" cX8_in 3 2 0 tb_X8_in := st_cons (sb_X8_in_0 l) (st_cons (sb_X8_in_14 l) (st_cons (sb_X8_in_15 l) (st_nil)))
set_option maxRecDepth 100000 in
set_option maxHeartbeats 4000000 in
theorem ok_X8_in : sm_Ok tb_X8_in 3 0 0 p_X8_in f_X8_in := by
  intro as w hp ha hw
  match as, hp with
  | [.inl v, .inl a, .inl b], hp =>
  refine ⟨Nat.le_of_ble_eq_true rfl, fun Z hZ => ?_⟩
  refine hZ (fun _ => false) 40 0 _ _ _ _ _ ?_
  simp only [sm_run, sm_blk, sm_get, sm_ent, sm_ents, sm_wds, sm_wd, sm_nl, sm_pop, sm_back, sm_cases, oK, oLK, oL, oI, oA, oJ, oIs, oAs, oJs, oInc, oAdd, oSub, oMul, oDiv, oRem, oNeg, oAnd, oOr, oShl, oI2c, oI2l, oL2i, oLand, oLor, oLshl, oLshr, oLushr, oLcmp, oDup, oDup2, oPop, oGo, oFg, oEq, oNe, oLt, oGe, oGt, oLe, oEq0, oNe0, oLt0, oGe0, oGt0, oLe0, oSw, oGi, oGr, oPi, oPz, oPr, oLen, oIl, oZl, oCl, oRl, oIst, oZst, oCst, oRst, oCopy, oNew, oNa, oNa2, oObj, oCs, oCv, oCi, oIr, oZr, oVr, Nat.beq, List.getElem?_cons_zero, List.getElem?_cons_succ, List.set_cons_zero, List.set_cons_succ, List.length_cons, List.length_nil, List.nil_append, List.cons_append, List.append_nil, List.replicate_succ, List.replicate_zero, Nat.reduceAdd, Nat.reduceSub, Nat.reduceLT, Nat.reduceLeDiff, Nat.reduceBEq, true_and, and_true, Nat.zero_add, Nat.add_zero, Nat.le_refl, Option.some.injEq, exists_eq_left', true_or, or_true, or_false, false_or, reduceCtorEq, Prod.mk.injEq, Sum.inl.injEq, and_self, false_and, and_false, not_true_eq_false, not_false_eq_true, false_implies, true_implies, sm_r, Int.add_zero, Int.zero_add, wI_wsI, wS_wsI, wR_wsI, wI_wCp, wS_wCp, wR_wCp, Nat.reduceEqDiff, reduceIte, sT_iff, sT_iffC, wIf_ne, ne_eq, tb_X8_in, p_X8_in, f_X8_in, b01]
  repeat' (first | assumption | with_reducible refine And.intro ?_ ?_ | intro _)
  all_goals first
    | omega
    | rfl
    | (split <;> omega)
    | skip
theorem met_X8_in (l : Launch) : sm_Met l yX8_in cX8_in 3 (some .boolean) 0 0 0 p_X8_in f_X8_in := sm_met 2 (Or.inr (Or.inr ⟨rfl, rfl⟩)) (by decide +kernel) (sn_X8_in l) ok_X8_in
def p_X8_of : List sm_V → sm_W → Prop
  | [.inr (.inl m), .inl x, .inl k], w => m = 154 ∧ sT w ∧ 0 ≤ x ∧ x < 8 ∧ 0 ≤ k ∧ k < 5
  | _, _ => False
def f_X8_of : sm_F
  | [.inr (.inl m), .inl x, .inl k], w => (some (.inl (wI w 155 (17 + 5 * x + k))), w)
  | _, w => (none, w)
def tb_X8_of : List (Nat × List sm_O) := [(0, [oA 0, oGr 8 30 0, oK 17, oK 5, oI 1, oMul, oAdd, oI 2, oAdd, oIl, oIr])]
set_option maxRecDepth 100000 in
theorem sb_X8_of_0 (l : Launch) : sm_SndB l RX8 "of" cX8_of 3 1 0 0 [oA 0, oGr 8 30 0, oK 17, oK 5, oI 1, oMul, oAdd, oI 2, oAdd, oIl, oIr] := sb_cons (sd_aload_n (by decide +kernel : decode cX8_of 0 = .ok (.aload_n 0, 1)) rfl) (sb_cons (sd_getr (k := 0) kl_8 (by decide) rfl wm_673 (by decide +kernel : decode cX8_of 1 = .ok (.getfield 7, 3))) (sb_cons (sd_bipush (by decide +kernel : decode cX8_of 4 = .ok (.bipush 17, 2)) ⟨by decide, by decide⟩ (by decide)) (sb_cons (sd_iconst (by decide +kernel : decode cX8_of 6 = .ok (.iconst 5, 1)) ⟨by decide, by decide⟩) (sb_cons (sd_iload_n (by decide +kernel : decode cX8_of 7 = .ok (.iload_n 1, 1)) rfl) (sb_cons (sd_imul (by decide +kernel : decode cX8_of 8 = .ok (.imul, 1))) (sb_cons (sd_iadd (by decide +kernel : decode cX8_of 9 = .ok (.iadd, 1))) (sb_cons (sd_iload_n (by decide +kernel : decode cX8_of 10 = .ok (.iload_n 2, 1)) rfl) (sb_cons (sd_iadd (by decide +kernel : decode cX8_of 11 = .ok (.iadd, 1))) (sb_cons (sd_iaload (by decide +kernel : decode cX8_of 12 = .ok (.iaload, 1))) (sb_cons (sd_ireturn (x := 0) rfl (by decide +kernel : decode cX8_of 13 = .ok (.ireturn, 1))) sb_nil))))))))))
theorem sn_X8_of (l : Launch) : sm_SndT l RX8 "of" cX8_of 3 1 0 tb_X8_of := st_cons (sb_X8_of_0 l) (st_nil)
set_option maxRecDepth 100000 in
set_option maxHeartbeats 4000000 in
theorem ok_X8_of : sm_Ok tb_X8_of 3 0 0 p_X8_of f_X8_of := by
  intro as w hp ha hw
  match as, hp with
  | [.inr (.inl m), .inl x, .inl k], hp =>
  refine ⟨Nat.le_of_ble_eq_true rfl, fun Z hZ => ?_⟩
  obtain ⟨rfl, hT, h1, h2, h3, h4⟩ := hp
  refine hZ (fun _ => false) 40 0 _ _ _ _ _ ?_
  simp only [sm_run, sm_blk, sm_get, sm_ent, sm_ents, sm_wds, sm_wd, sm_nl, sm_pop, sm_back, sm_cases, oK, oLK, oL, oI, oA, oJ, oIs, oAs, oJs, oInc, oAdd, oSub, oMul, oDiv, oRem, oNeg, oAnd, oOr, oShl, oI2c, oI2l, oL2i, oLand, oLor, oLshl, oLshr, oLushr, oLcmp, oDup, oDup2, oPop, oGo, oFg, oEq, oNe, oLt, oGe, oGt, oLe, oEq0, oNe0, oLt0, oGe0, oGt0, oLe0, oSw, oGi, oGr, oPi, oPz, oPr, oLen, oIl, oZl, oCl, oRl, oIst, oZst, oCst, oRst, oCopy, oNew, oNa, oNa2, oObj, oCs, oCv, oCi, oIr, oZr, oVr, Nat.beq, List.getElem?_cons_zero, List.getElem?_cons_succ, List.set_cons_zero, List.set_cons_succ, List.length_cons, List.length_nil, List.nil_append, List.cons_append, List.append_nil, List.replicate_succ, List.replicate_zero, Nat.reduceAdd, Nat.reduceSub, Nat.reduceLT, Nat.reduceLeDiff, Nat.reduceBEq, true_and, and_true, Nat.zero_add, Nat.add_zero, Nat.le_refl, Option.some.injEq, exists_eq_left', true_or, or_true, or_false, false_or, reduceCtorEq, Prod.mk.injEq, Sum.inl.injEq, and_self, false_and, and_false, not_true_eq_false, not_false_eq_true, false_implies, true_implies, sm_r, Int.add_zero, Int.zero_add, wI_wsI, wS_wsI, wR_wsI, wI_wCp, wS_wCp, wR_wCp, Nat.reduceEqDiff, reduceIte, sT_iff, sT_iffC, wIf_ne, ne_eq, tb_X8_of, p_X8_of, f_X8_of, sS_154 hT, sR_154_0 hT, sS_155 hT]
  repeat' (first | assumption | with_reducible refine And.intro ?_ ?_ | intro _)
  all_goals first
    | omega
    | rfl
    | (split <;> omega)
    | skip
theorem met_X8_of (l : Launch) : sm_Met l yX8_of cX8_of 3 (some .int) 0 0 0 p_X8_of f_X8_of := sm_met 1 (Or.inr (Or.inl ⟨rfl, rfl⟩)) (by decide +kernel) (sn_X8_of l) ok_X8_of
def p_X8_isStation : List sm_V → sm_W → Prop
  | [.inl x], w => True
  | _, _ => False
def f_X8_isStation : sm_F
  | [.inl x], w => (some (.inl (b01 (0 ≤ x ∧ x ≤ 7))), w)
  | _, w => (none, w)
def tb_X8_isStation : List (Nat × List sm_O) := [(0, [oI 0, oK 0, oK 7, oCs p_X8_in f_X8_in 0 0 3, oZr])]
set_option maxRecDepth 100000 in
theorem sb_X8_isStation_0 (l : Launch) : sm_SndB l RX8 "isStation" cX8_isStation 1 2 1 0 [oI 0, oK 0, oK 7, oCs p_X8_in f_X8_in 0 0 3, oZr] := sb_cons (sd_iload_n (by decide +kernel : decode cX8_isStation 0 = .ok (.iload_n 0, 1)) rfl) (sb_cons (sd_iconst (by decide +kernel : decode cX8_isStation 1 = .ok (.iconst 0, 1)) ⟨by decide, by decide⟩) (sb_cons (sd_bipush (by decide +kernel : decode cX8_isStation 2 = .ok (.bipush 7, 2)) ⟨by decide, by decide⟩ (by decide)) (sb_cons (sd_calls (n := 3) (met_X8_in l) (by decide) (by decide) wm_710 wm_708 wm_10 ⟨by decide +kernel, by decide +kernel, by decide +kernel⟩ wm_709 (by decide +kernel : decode cX8_isStation 4 = .ok (.invokestatic 74, 3))) (sb_cons (sd_zreturn (x := 0) rfl (by decide +kernel : decode cX8_isStation 7 = .ok (.ireturn, 1))) sb_nil))))
theorem sn_X8_isStation (l : Launch) : sm_SndT l RX8 "isStation" cX8_isStation 1 2 1 tb_X8_isStation := st_cons (sb_X8_isStation_0 l) (st_nil)
set_option maxRecDepth 100000 in
set_option maxHeartbeats 4000000 in
theorem ok_X8_isStation : sm_Ok tb_X8_isStation 1 0 0 p_X8_isStation f_X8_isStation := by
  intro as w hp ha hw
  match as, hp with
  | [.inl x], hp =>
  refine ⟨Nat.le_of_ble_eq_true rfl, fun Z hZ => ?_⟩
  refine hZ (fun _ => false) 40 0 _ _ _ _ _ ?_
  simp only [sm_run, sm_blk, sm_get, sm_ent, sm_ents, sm_wds, sm_wd, sm_nl, sm_pop, sm_back, sm_cases, oK, oLK, oL, oI, oA, oJ, oIs, oAs, oJs, oInc, oAdd, oSub, oMul, oDiv, oRem, oNeg, oAnd, oOr, oShl, oI2c, oI2l, oL2i, oLand, oLor, oLshl, oLshr, oLushr, oLcmp, oDup, oDup2, oPop, oGo, oFg, oEq, oNe, oLt, oGe, oGt, oLe, oEq0, oNe0, oLt0, oGe0, oGt0, oLe0, oSw, oGi, oGr, oPi, oPz, oPr, oLen, oIl, oZl, oCl, oRl, oIst, oZst, oCst, oRst, oCopy, oNew, oNa, oNa2, oObj, oCs, oCv, oCi, oIr, oZr, oVr, Nat.beq, List.getElem?_cons_zero, List.getElem?_cons_succ, List.set_cons_zero, List.set_cons_succ, List.length_cons, List.length_nil, List.nil_append, List.cons_append, List.append_nil, List.replicate_succ, List.replicate_zero, Nat.reduceAdd, Nat.reduceSub, Nat.reduceLT, Nat.reduceLeDiff, Nat.reduceBEq, true_and, and_true, Nat.zero_add, Nat.add_zero, Nat.le_refl, Option.some.injEq, exists_eq_left', true_or, or_true, or_false, false_or, reduceCtorEq, Prod.mk.injEq, Sum.inl.injEq, and_self, false_and, and_false, not_true_eq_false, not_false_eq_true, false_implies, true_implies, sm_r, Int.add_zero, Int.zero_add, wI_wsI, wS_wsI, wR_wsI, wI_wCp, wS_wCp, wR_wCp, Nat.reduceEqDiff, reduceIte, sT_iff, sT_iffC, wIf_ne, ne_eq, tb_X8_isStation, p_X8_in, f_X8_in, p_X8_isStation, f_X8_isStation, b01]
  repeat' (first | assumption | with_reducible refine And.intro ?_ ?_ | intro _)
  all_goals first
    | omega
    | rfl
    | (split <;> omega)
    | skip
theorem met_X8_isStation (l : Launch) : sm_Met l yX8_isStation cX8_isStation 1 (some .boolean) 1 0 0 p_X8_isStation f_X8_isStation := sm_met 2 (Or.inr (Or.inr ⟨rfl, rfl⟩)) (by decide +kernel) (sn_X8_isStation l) ok_X8_isStation
def p_X8_isShuttle : List sm_V → sm_W → Prop
  | [.inr (.inl m), .inl x], w => m = 154 ∧ mOK w
  | _, _ => False
def f_X8_isShuttle : sm_F
  | [.inr (.inl m), .inl x], w => (some (.inl (b01 (0 ≤ x ∧ x < wI w 155 1))), w)
  | _, w => (none, w)
def tb_X8_isShuttle : List (Nat × List sm_O) := [(0, [oI 1, oK 0, oA 0, oGr 8 30 0, oK 1, oIl, oK 1, oSub, oCs p_X8_in f_X8_in 0 0 3, oZr])]
set_option maxRecDepth 100000 in
theorem sb_X8_isShuttle_0 (l : Launch) : sm_SndB l RX8 "isShuttle" cX8_isShuttle 2 2 1 0 [oI 1, oK 0, oA 0, oGr 8 30 0, oK 1, oIl, oK 1, oSub, oCs p_X8_in f_X8_in 0 0 3, oZr] := sb_cons (sd_iload_n (by decide +kernel : decode cX8_isShuttle 0 = .ok (.iload_n 1, 1)) rfl) (sb_cons (sd_iconst (by decide +kernel : decode cX8_isShuttle 1 = .ok (.iconst 0, 1)) ⟨by decide, by decide⟩) (sb_cons (sd_aload_n (by decide +kernel : decode cX8_isShuttle 2 = .ok (.aload_n 0, 1)) rfl) (sb_cons (sd_getr (k := 0) kl_8 (by decide) rfl wm_673 (by decide +kernel : decode cX8_isShuttle 3 = .ok (.getfield 7, 3))) (sb_cons (sd_iconst (by decide +kernel : decode cX8_isShuttle 6 = .ok (.iconst 1, 1)) ⟨by decide, by decide⟩) (sb_cons (sd_iaload (by decide +kernel : decode cX8_isShuttle 7 = .ok (.iaload, 1))) (sb_cons (sd_iconst (by decide +kernel : decode cX8_isShuttle 8 = .ok (.iconst 1, 1)) ⟨by decide, by decide⟩) (sb_cons (sd_isub (by decide +kernel : decode cX8_isShuttle 9 = .ok (.isub, 1))) (sb_cons (sd_calls (n := 3) (met_X8_in l) (by decide) (by decide) wm_710 wm_708 wm_10 ⟨by decide +kernel, by decide +kernel, by decide +kernel⟩ wm_709 (by decide +kernel : decode cX8_isShuttle 10 = .ok (.invokestatic 74, 3))) (sb_cons (sd_zreturn (x := 0) rfl (by decide +kernel : decode cX8_isShuttle 13 = .ok (.ireturn, 1))) sb_nil)))))))))
theorem sn_X8_isShuttle (l : Launch) : sm_SndT l RX8 "isShuttle" cX8_isShuttle 2 2 1 tb_X8_isShuttle := st_cons (sb_X8_isShuttle_0 l) (st_nil)
set_option maxRecDepth 100000 in
set_option maxHeartbeats 4000000 in
theorem ok_X8_isShuttle : sm_Ok tb_X8_isShuttle 2 0 0 p_X8_isShuttle f_X8_isShuttle := by
  intro as w hp ha hw
  match as, hp with
  | [.inr (.inl m), .inl x], hp =>
  refine ⟨Nat.le_of_ble_eq_true rfl, fun Z hZ => ?_⟩
  obtain ⟨rfl, hT, hv⟩ := hp
  have h1 := vOK_many hv
  refine hZ (fun _ => false) 40 0 _ _ _ _ _ ?_
  simp only [sm_run, sm_blk, sm_get, sm_ent, sm_ents, sm_wds, sm_wd, sm_nl, sm_pop, sm_back, sm_cases, oK, oLK, oL, oI, oA, oJ, oIs, oAs, oJs, oInc, oAdd, oSub, oMul, oDiv, oRem, oNeg, oAnd, oOr, oShl, oI2c, oI2l, oL2i, oLand, oLor, oLshl, oLshr, oLushr, oLcmp, oDup, oDup2, oPop, oGo, oFg, oEq, oNe, oLt, oGe, oGt, oLe, oEq0, oNe0, oLt0, oGe0, oGt0, oLe0, oSw, oGi, oGr, oPi, oPz, oPr, oLen, oIl, oZl, oCl, oRl, oIst, oZst, oCst, oRst, oCopy, oNew, oNa, oNa2, oObj, oCs, oCv, oCi, oIr, oZr, oVr, Nat.beq, List.getElem?_cons_zero, List.getElem?_cons_succ, List.set_cons_zero, List.set_cons_succ, List.length_cons, List.length_nil, List.nil_append, List.cons_append, List.append_nil, List.replicate_succ, List.replicate_zero, Nat.reduceAdd, Nat.reduceSub, Nat.reduceLT, Nat.reduceLeDiff, Nat.reduceBEq, true_and, and_true, Nat.zero_add, Nat.add_zero, Nat.le_refl, Option.some.injEq, exists_eq_left', true_or, or_true, or_false, false_or, reduceCtorEq, Prod.mk.injEq, Sum.inl.injEq, and_self, false_and, and_false, not_true_eq_false, not_false_eq_true, false_implies, true_implies, sm_r, Int.add_zero, Int.zero_add, wI_wsI, wS_wsI, wR_wsI, wI_wCp, wS_wCp, wR_wCp, Nat.reduceEqDiff, reduceIte, sT_iff, sT_iffC, wIf_ne, ne_eq, tb_X8_isShuttle, p_X8_in, f_X8_in, p_X8_isShuttle, f_X8_isShuttle, sS_154 hT, sR_154_0 hT, sS_155 hT, b01]
  repeat' (first | assumption | with_reducible refine And.intro ?_ ?_ | intro _)
  all_goals first
    | omega
    | rfl
    | (split <;> omega)
    | skip
theorem met_X8_isShuttle (l : Launch) : sm_Met l yX8_isShuttle cX8_isShuttle 2 (some .boolean) 1 0 0 p_X8_isShuttle f_X8_isShuttle := sm_met 2 (Or.inr (Or.inr ⟨rfl, rfl⟩)) (by decide +kernel) (sn_X8_isShuttle l) ok_X8_isShuttle
def mWay (v : Int → Int) (x : Int) : Int := if v (17 + 5 * x) < v (17 + 5 * x + 1) then 1 else -1
def p_X8_way : List sm_V → sm_W → Prop
  | [.inr (.inl m), .inl x], w => m = 154 ∧ sT w ∧ 0 ≤ x ∧ x < 8
  | _, _ => False
def f_X8_way : sm_F
  | [.inr (.inl m), .inl x], w => (some (.inl (mWay (wI w 155) x)), w)
  | _, w => (none, w)
def tb_X8_way : List (Nat × List sm_O) := [(0, [oA 0, oI 1, oK 1, oCv 8 30 p_X8_of f_X8_of 0 0 3, oA 0, oI 1, oK 0, oCv 8 30 p_X8_of f_X8_of 0 0 3, oLe 19, oK 1, oGo 20]),
  (19, [oK (-1), oGo 20]),
  (20, [oIr])]
set_option maxRecDepth 100000 in
theorem sb_X8_way_0 (l : Launch) : sm_SndB l RX8 "way" cX8_way 2 1 1 0 [oA 0, oI 1, oK 1, oCv 8 30 p_X8_of f_X8_of 0 0 3, oA 0, oI 1, oK 0, oCv 8 30 p_X8_of f_X8_of 0 0 3, oLe 19, oK 1, oGo 20] := sb_cons (sd_aload_n (by decide +kernel : decode cX8_way 0 = .ok (.aload_n 0, 1)) rfl) (sb_cons (sd_iload_n (by decide +kernel : decode cX8_way 1 = .ok (.iload_n 1, 1)) rfl) (sb_cons (sd_iconst (by decide +kernel : decode cX8_way 2 = .ok (.iconst 1, 1)) ⟨by decide, by decide⟩) (sb_cons (sd_callv (n := 2) (met_X8_of l) (by decide) (by decide) wm_778 wm_776 wm_10 ⟨by decide +kernel, by decide +kernel, by decide +kernel⟩ kl_8 wm_777 wm_1113 (by decide +kernel : decode cX8_way 3 = .ok (.invokevirtual 78, 3))) (sb_cons (sd_aload_n (by decide +kernel : decode cX8_way 6 = .ok (.aload_n 0, 1)) rfl) (sb_cons (sd_iload_n (by decide +kernel : decode cX8_way 7 = .ok (.iload_n 1, 1)) rfl) (sb_cons (sd_iconst (by decide +kernel : decode cX8_way 8 = .ok (.iconst 0, 1)) ⟨by decide, by decide⟩) (sb_cons (sd_callv (n := 2) (met_X8_of l) (by decide) (by decide) wm_778 wm_776 wm_10 ⟨by decide +kernel, by decide +kernel, by decide +kernel⟩ kl_8 wm_777 wm_1113 (by decide +kernel : decode cX8_way 9 = .ok (.invokevirtual 78, 3))) (sb_cons (sd_le (by decide +kernel : decode cX8_way 12 = .ok (.if_icmp .le 7, 3)) (by decide)) (sb_cons (sd_iconst (by decide +kernel : decode cX8_way 15 = .ok (.iconst 1, 1)) ⟨by decide, by decide⟩) (sb_cons (sd_goto (x := 0) (by decide +kernel : decode cX8_way 16 = .ok (.goto 4, 3)) (by decide)) sb_nil))))))))))
set_option maxRecDepth 100000 in
theorem sb_X8_way_19 (l : Launch) : sm_SndB l RX8 "way" cX8_way 2 1 1 19 [oK (-1), oGo 20] := sb_cons (sd_iconst (by decide +kernel : decode cX8_way 19 = .ok (.iconst (-1), 1)) ⟨by decide, by decide⟩) (sb_cons (sd_fall (x := 0)) sb_nil)
set_option maxRecDepth 100000 in
theorem sb_X8_way_20 (l : Launch) : sm_SndB l RX8 "way" cX8_way 2 1 1 20 [oIr] := sb_cons (sd_ireturn (x := 0) rfl (by decide +kernel : decode cX8_way 20 = .ok (.ireturn, 1))) sb_nil
theorem sn_X8_way (l : Launch) : sm_SndT l RX8 "way" cX8_way 2 1 1 tb_X8_way := st_cons (sb_X8_way_0 l) (st_cons (sb_X8_way_19 l) (st_cons (sb_X8_way_20 l) (st_nil)))
set_option maxRecDepth 100000 in
set_option maxHeartbeats 4000000 in
theorem ok_X8_way : sm_Ok tb_X8_way 2 0 0 p_X8_way f_X8_way := by
  intro as w hp ha hw
  match as, hp with
  | [.inr (.inl m), .inl x], hp =>
  refine ⟨Nat.le_of_ble_eq_true rfl, fun Z hZ => ?_⟩
  obtain ⟨rfl, hT, h1, h2⟩ := hp
  refine hZ (fun _ => false) 40 0 _ _ _ _ _ ?_
  simp only [sm_run, sm_blk, sm_get, sm_ent, sm_ents, sm_wds, sm_wd, sm_nl, sm_pop, sm_back, sm_cases, oK, oLK, oL, oI, oA, oJ, oIs, oAs, oJs, oInc, oAdd, oSub, oMul, oDiv, oRem, oNeg, oAnd, oOr, oShl, oI2c, oI2l, oL2i, oLand, oLor, oLshl, oLshr, oLushr, oLcmp, oDup, oDup2, oPop, oGo, oFg, oEq, oNe, oLt, oGe, oGt, oLe, oEq0, oNe0, oLt0, oGe0, oGt0, oLe0, oSw, oGi, oGr, oPi, oPz, oPr, oLen, oIl, oZl, oCl, oRl, oIst, oZst, oCst, oRst, oCopy, oNew, oNa, oNa2, oObj, oCs, oCv, oCi, oIr, oZr, oVr, Nat.beq, List.getElem?_cons_zero, List.getElem?_cons_succ, List.set_cons_zero, List.set_cons_succ, List.length_cons, List.length_nil, List.nil_append, List.cons_append, List.append_nil, List.replicate_succ, List.replicate_zero, Nat.reduceAdd, Nat.reduceSub, Nat.reduceLT, Nat.reduceLeDiff, Nat.reduceBEq, true_and, and_true, Nat.zero_add, Nat.add_zero, Nat.le_refl, Option.some.injEq, exists_eq_left', true_or, or_true, or_false, false_or, reduceCtorEq, Prod.mk.injEq, Sum.inl.injEq, and_self, false_and, and_false, not_true_eq_false, not_false_eq_true, false_implies, true_implies, sm_r, Int.add_zero, Int.zero_add, wI_wsI, wS_wsI, wR_wsI, wI_wCp, wS_wCp, wR_wCp, Nat.reduceEqDiff, reduceIte, sT_iff, sT_iffC, wIf_ne, ne_eq, tb_X8_way, p_X8_of, f_X8_of, p_X8_way, f_X8_way, sS_154 hT, sR_154_0 hT, sS_155 hT, mWay]
  repeat' (first | assumption | with_reducible refine And.intro ?_ ?_ | intro _)
  all_goals first
    | omega
    | rfl
    | (split <;> omega)
    | skip
theorem met_X8_way (l : Launch) : sm_Met l yX8_way cX8_way 2 (some .int) 1 0 0 p_X8_way f_X8_way := sm_met 1 (Or.inr (Or.inl ⟨rfl, rfl⟩)) (by decide +kernel) (sn_X8_way l) ok_X8_way
def sFrom (st wy : Int) : Int := if 0 < wy then st else st - 1
def p_X8_stretchFrom : List sm_V → sm_W → Prop
  | [.inl st, .inl wy], w => -100 ≤ st ∧ st ≤ 100
  | _, _ => False
def f_X8_stretchFrom : sm_F
  | [.inl st, .inl wy], w => (some (.inl (sFrom st wy)), w)
  | _, w => (none, w)
def tb_X8_stretchFrom : List (Nat × List sm_O) := [(0, [oI 1, oLe0 8, oI 0, oGo 11]),
  (8, [oI 0, oK 1, oSub, oGo 11]),
  (11, [oIr])]
set_option maxRecDepth 100000 in
theorem sb_X8_stretchFrom_0 (l : Launch) : sm_SndB l RX8 "stretchFrom" cX8_stretchFrom 2 1 0 0 [oI 1, oLe0 8, oI 0, oGo 11] := sb_cons (sd_iload_n (by decide +kernel : decode cX8_stretchFrom 0 = .ok (.iload_n 1, 1)) rfl) (sb_cons (sd_le0 (by decide +kernel : decode cX8_stretchFrom 1 = .ok (.ifCond .le 7, 3)) (by decide)) (sb_cons (sd_iload_n (by decide +kernel : decode cX8_stretchFrom 4 = .ok (.iload_n 0, 1)) rfl) (sb_cons (sd_goto (x := 0) (by decide +kernel : decode cX8_stretchFrom 5 = .ok (.goto 6, 3)) (by decide)) sb_nil)))
set_option maxRecDepth 100000 in
theorem sb_X8_stretchFrom_8 (l : Launch) : sm_SndB l RX8 "stretchFrom" cX8_stretchFrom 2 1 0 8 [oI 0, oK 1, oSub, oGo 11] := sb_cons (sd_iload_n (by decide +kernel : decode cX8_stretchFrom 8 = .ok (.iload_n 0, 1)) rfl) (sb_cons (sd_iconst (by decide +kernel : decode cX8_stretchFrom 9 = .ok (.iconst 1, 1)) ⟨by decide, by decide⟩) (sb_cons (sd_isub (by decide +kernel : decode cX8_stretchFrom 10 = .ok (.isub, 1))) (sb_cons (sd_fall (x := 0)) sb_nil)))
set_option maxRecDepth 100000 in
theorem sb_X8_stretchFrom_11 (l : Launch) : sm_SndB l RX8 "stretchFrom" cX8_stretchFrom 2 1 0 11 [oIr] := sb_cons (sd_ireturn (x := 0) rfl (by decide +kernel : decode cX8_stretchFrom 11 = .ok (.ireturn, 1))) sb_nil
theorem sn_X8_stretchFrom (l : Launch) : sm_SndT l RX8 "stretchFrom" cX8_stretchFrom 2 1 0 tb_X8_stretchFrom := st_cons (sb_X8_stretchFrom_0 l) (st_cons (sb_X8_stretchFrom_8 l) (st_cons (sb_X8_stretchFrom_11 l) (st_nil)))
set_option maxRecDepth 100000 in
set_option maxHeartbeats 4000000 in
theorem ok_X8_stretchFrom : sm_Ok tb_X8_stretchFrom 2 0 0 p_X8_stretchFrom f_X8_stretchFrom := by
  intro as w hp ha hw
  match as, hp with
  | [.inl st, .inl wy], hp =>
  refine ⟨Nat.le_of_ble_eq_true rfl, fun Z hZ => ?_⟩
  obtain ⟨h1, h2⟩ := hp
  refine hZ (fun _ => false) 40 0 _ _ _ _ _ ?_
  simp only [sm_run, sm_blk, sm_get, sm_ent, sm_ents, sm_wds, sm_wd, sm_nl, sm_pop, sm_back, sm_cases, oK, oLK, oL, oI, oA, oJ, oIs, oAs, oJs, oInc, oAdd, oSub, oMul, oDiv, oRem, oNeg, oAnd, oOr, oShl, oI2c, oI2l, oL2i, oLand, oLor, oLshl, oLshr, oLushr, oLcmp, oDup, oDup2, oPop, oGo, oFg, oEq, oNe, oLt, oGe, oGt, oLe, oEq0, oNe0, oLt0, oGe0, oGt0, oLe0, oSw, oGi, oGr, oPi, oPz, oPr, oLen, oIl, oZl, oCl, oRl, oIst, oZst, oCst, oRst, oCopy, oNew, oNa, oNa2, oObj, oCs, oCv, oCi, oIr, oZr, oVr, Nat.beq, List.getElem?_cons_zero, List.getElem?_cons_succ, List.set_cons_zero, List.set_cons_succ, List.length_cons, List.length_nil, List.nil_append, List.cons_append, List.append_nil, List.replicate_succ, List.replicate_zero, Nat.reduceAdd, Nat.reduceSub, Nat.reduceLT, Nat.reduceLeDiff, Nat.reduceBEq, true_and, and_true, Nat.zero_add, Nat.add_zero, Nat.le_refl, Option.some.injEq, exists_eq_left', true_or, or_true, or_false, false_or, reduceCtorEq, Prod.mk.injEq, Sum.inl.injEq, and_self, false_and, and_false, not_true_eq_false, not_false_eq_true, false_implies, true_implies, sm_r, Int.add_zero, Int.zero_add, wI_wsI, wS_wsI, wR_wsI, wI_wCp, wS_wCp, wR_wCp, Nat.reduceEqDiff, reduceIte, sT_iff, sT_iffC, wIf_ne, ne_eq, tb_X8_stretchFrom, p_X8_stretchFrom, f_X8_stretchFrom, sFrom]
  repeat' (first | assumption | with_reducible refine And.intro ?_ ?_ | intro _)
  all_goals first
    | omega
    | rfl
    | (split <;> omega)
    | skip
theorem met_X8_stretchFrom (l : Launch) : sm_Met l yX8_stretchFrom cX8_stretchFrom 2 (some .int) 0 0 0 p_X8_stretchFrom f_X8_stretchFrom := sm_met 1 (Or.inr (Or.inl ⟨rfl, rfl⟩)) (by decide +kernel) (sn_X8_stretchFrom l) ok_X8_stretchFrom
def mReady (w : sm_W) (x : Int) : Int := if wI w 160 x = 0 then wI w 155 (17 + 5 * x + 2) else wI w 162 x + wI w 155 (17 + 5 * x + 3)
def p_X8_readyAt : List sm_V → sm_W → Prop
  | [.inr (.inl m), .inl x], w => m = 154 ∧ mOK w ∧ 0 ≤ x ∧ x < wI w 155 1 ∧ 0 ≤ wI w 162 x ∧ wI w 162 x ≤ 100000
  | _, _ => False
def f_X8_readyAt : sm_F
  | [.inr (.inl m), .inl x], w => (some (.inl (mReady w x)), w)
  | _, w => (none, w)
def tb_X8_readyAt : List (Nat × List sm_O) := [(0, [oA 0, oGr 8 30 7, oI 1, oIl, oNe0 18, oA 0, oI 1, oK 2, oCv 8 30 p_X8_of f_X8_of 0 0 3, oGo 31]),
  (18, [oA 0, oGr 8 30 9, oI 1, oIl, oA 0, oI 1, oK 3, oCv 8 30 p_X8_of f_X8_of 0 0 3, oAdd, oGo 31]),
  (31, [oIr])]
set_option maxRecDepth 100000 in
theorem sb_X8_readyAt_0 (l : Launch) : sm_SndB l RX8 "readyAt" cX8_readyAt 2 1 1 0 [oA 0, oGr 8 30 7, oI 1, oIl, oNe0 18, oA 0, oI 1, oK 2, oCv 8 30 p_X8_of f_X8_of 0 0 3, oGo 31] := sb_cons (sd_aload_n (by decide +kernel : decode cX8_readyAt 0 = .ok (.aload_n 0, 1)) rfl) (sb_cons (sd_getr (k := 7) kl_8 (by decide) rfl wm_680 (by decide +kernel : decode cX8_readyAt 1 = .ok (.getfield 26, 3))) (sb_cons (sd_iload_n (by decide +kernel : decode cX8_readyAt 4 = .ok (.iload_n 1, 1)) rfl) (sb_cons (sd_iaload (by decide +kernel : decode cX8_readyAt 5 = .ok (.iaload, 1))) (sb_cons (sd_ne0 (by decide +kernel : decode cX8_readyAt 6 = .ok (.ifCond .ne 12, 3)) (by decide)) (sb_cons (sd_aload_n (by decide +kernel : decode cX8_readyAt 9 = .ok (.aload_n 0, 1)) rfl) (sb_cons (sd_iload_n (by decide +kernel : decode cX8_readyAt 10 = .ok (.iload_n 1, 1)) rfl) (sb_cons (sd_iconst (by decide +kernel : decode cX8_readyAt 11 = .ok (.iconst 2, 1)) ⟨by decide, by decide⟩) (sb_cons (sd_callv (n := 2) (met_X8_of l) (by decide) (by decide) wm_778 wm_776 wm_10 ⟨by decide +kernel, by decide +kernel, by decide +kernel⟩ kl_8 wm_777 wm_1113 (by decide +kernel : decode cX8_readyAt 12 = .ok (.invokevirtual 78, 3))) (sb_cons (sd_goto (x := 0) (by decide +kernel : decode cX8_readyAt 15 = .ok (.goto 16, 3)) (by decide)) sb_nil)))))))))
set_option maxRecDepth 100000 in
theorem sb_X8_readyAt_18 (l : Launch) : sm_SndB l RX8 "readyAt" cX8_readyAt 2 1 1 18 [oA 0, oGr 8 30 9, oI 1, oIl, oA 0, oI 1, oK 3, oCv 8 30 p_X8_of f_X8_of 0 0 3, oAdd, oGo 31] := sb_cons (sd_aload_n (by decide +kernel : decode cX8_readyAt 18 = .ok (.aload_n 0, 1)) rfl) (sb_cons (sd_getr (k := 9) kl_8 (by decide) rfl wm_682 (by decide +kernel : decode cX8_readyAt 19 = .ok (.getfield 32, 3))) (sb_cons (sd_iload_n (by decide +kernel : decode cX8_readyAt 22 = .ok (.iload_n 1, 1)) rfl) (sb_cons (sd_iaload (by decide +kernel : decode cX8_readyAt 23 = .ok (.iaload, 1))) (sb_cons (sd_aload_n (by decide +kernel : decode cX8_readyAt 24 = .ok (.aload_n 0, 1)) rfl) (sb_cons (sd_iload_n (by decide +kernel : decode cX8_readyAt 25 = .ok (.iload_n 1, 1)) rfl) (sb_cons (sd_iconst (by decide +kernel : decode cX8_readyAt 26 = .ok (.iconst 3, 1)) ⟨by decide, by decide⟩) (sb_cons (sd_callv (n := 2) (met_X8_of l) (by decide) (by decide) wm_778 wm_776 wm_10 ⟨by decide +kernel, by decide +kernel, by decide +kernel⟩ kl_8 wm_777 wm_1113 (by decide +kernel : decode cX8_readyAt 27 = .ok (.invokevirtual 78, 3))) (sb_cons (sd_iadd (by decide +kernel : decode cX8_readyAt 30 = .ok (.iadd, 1))) (sb_cons (sd_fall (x := 0)) sb_nil)))))))))
set_option maxRecDepth 100000 in
theorem sb_X8_readyAt_31 (l : Launch) : sm_SndB l RX8 "readyAt" cX8_readyAt 2 1 1 31 [oIr] := sb_cons (sd_ireturn (x := 0) rfl (by decide +kernel : decode cX8_readyAt 31 = .ok (.ireturn, 1))) sb_nil
theorem sn_X8_readyAt (l : Launch) : sm_SndT l RX8 "readyAt" cX8_readyAt 2 1 1 tb_X8_readyAt := st_cons (sb_X8_readyAt_0 l) (st_cons (sb_X8_readyAt_18 l) (st_cons (sb_X8_readyAt_31 l) (st_nil)))
set_option maxRecDepth 100000 in
set_option maxHeartbeats 4000000 in
theorem ok_X8_readyAt : sm_Ok tb_X8_readyAt 2 0 0 p_X8_readyAt f_X8_readyAt := by
  intro as w hp ha hw
  match as, hp with
  | [.inr (.inl m), .inl x], hp =>
  refine ⟨Nat.le_of_ble_eq_true rfl, fun Z hZ => ?_⟩
  obtain ⟨rfl, ⟨hT, hv⟩, h1, h2, h3, h4⟩ := hp
  have hm := vOK_many hv
  have hx := vOK_sh hv h1 h2
  refine hZ (fun _ => false) 40 0 _ _ _ _ _ ?_
  simp only [sm_run, sm_blk, sm_get, sm_ent, sm_ents, sm_wds, sm_wd, sm_nl, sm_pop, sm_back, sm_cases, oK, oLK, oL, oI, oA, oJ, oIs, oAs, oJs, oInc, oAdd, oSub, oMul, oDiv, oRem, oNeg, oAnd, oOr, oShl, oI2c, oI2l, oL2i, oLand, oLor, oLshl, oLshr, oLushr, oLcmp, oDup, oDup2, oPop, oGo, oFg, oEq, oNe, oLt, oGe, oGt, oLe, oEq0, oNe0, oLt0, oGe0, oGt0, oLe0, oSw, oGi, oGr, oPi, oPz, oPr, oLen, oIl, oZl, oCl, oRl, oIst, oZst, oCst, oRst, oCopy, oNew, oNa, oNa2, oObj, oCs, oCv, oCi, oIr, oZr, oVr, Nat.beq, List.getElem?_cons_zero, List.getElem?_cons_succ, List.set_cons_zero, List.set_cons_succ, List.length_cons, List.length_nil, List.nil_append, List.cons_append, List.append_nil, List.replicate_succ, List.replicate_zero, Nat.reduceAdd, Nat.reduceSub, Nat.reduceLT, Nat.reduceLeDiff, Nat.reduceBEq, true_and, and_true, Nat.zero_add, Nat.add_zero, Nat.le_refl, Option.some.injEq, exists_eq_left', true_or, or_true, or_false, false_or, reduceCtorEq, Prod.mk.injEq, Sum.inl.injEq, and_self, false_and, and_false, not_true_eq_false, not_false_eq_true, false_implies, true_implies, sm_r, Int.add_zero, Int.zero_add, wI_wsI, wS_wsI, wR_wsI, wI_wCp, wS_wCp, wR_wCp, Nat.reduceEqDiff, reduceIte, sT_iff, sT_iffC, wIf_ne, ne_eq, tb_X8_readyAt, p_X8_of, f_X8_of, p_X8_readyAt, f_X8_readyAt, sS_154 hT, sR_154_0 hT, sS_155 hT, sR_154_7 hT, sS_160 hT, sR_154_9 hT, sS_162 hT, mReady]
  repeat' (first | assumption | with_reducible refine And.intro ?_ ?_ | intro _)
  all_goals first
    | omega
    | rfl
    | (split <;> omega)
    | skip
theorem met_X8_readyAt (l : Launch) : sm_Met l yX8_readyAt cX8_readyAt 2 (some .int) 1 0 0 p_X8_readyAt f_X8_readyAt := sm_met 1 (Or.inr (Or.inl ⟨rfl, rfl⟩)) (by decide +kernel) (sn_X8_readyAt l) ok_X8_readyAt
def mIsReady (w : sm_W) (x t : Int) : Prop := wI w 160 x ≤ 1 ∧ mReady w x ≤ t
def mIsReadyD (w : sm_W) (x t : Int) : Decidable (mIsReady w x t) := inferInstanceAs (Decidable (_ ∧ _))
def p_X8_isReady : List sm_V → sm_W → Prop
  | [.inr (.inl m), .inl x, .inl t], w => m = 154 ∧ mOK w ∧ 0 ≤ x ∧ x < wI w 155 1 ∧ 0 ≤ wI w 162 x ∧ wI w 162 x ≤ 100000
  | _, _ => False
def f_X8_isReady : sm_F
  | [.inr (.inl m), .inl x, .inl t], w => (some (.inl (if wI w 160 x ≤ 1 ∧ mReady w x ≤ t then 1 else 0)), w)
  | _, w => (none, w)
def tb_X8_isReady : List (Nat × List sm_O) := [(0, [oA 0, oGr 8 30 7, oI 1, oIl, oK 1, oGt 23, oI 2, oA 0, oI 1, oCv 8 30 p_X8_readyAt f_X8_readyAt 0 0 2, oLt 23, oK 1, oGo 24]),
  (23, [oK 0, oGo 24]),
  (24, [oZr])]
set_option maxRecDepth 100000 in
theorem sb_X8_isReady_0 (l : Launch) : sm_SndB l RX8 "isReady" cX8_isReady 3 2 2 0 [oA 0, oGr 8 30 7, oI 1, oIl, oK 1, oGt 23, oI 2, oA 0, oI 1, oCv 8 30 p_X8_readyAt f_X8_readyAt 0 0 2, oLt 23, oK 1, oGo 24] := sb_cons (sd_aload_n (by decide +kernel : decode cX8_isReady 0 = .ok (.aload_n 0, 1)) rfl) (sb_cons (sd_getr (k := 7) kl_8 (by decide) rfl wm_680 (by decide +kernel : decode cX8_isReady 1 = .ok (.getfield 26, 3))) (sb_cons (sd_iload_n (by decide +kernel : decode cX8_isReady 4 = .ok (.iload_n 1, 1)) rfl) (sb_cons (sd_iaload (by decide +kernel : decode cX8_isReady 5 = .ok (.iaload, 1))) (sb_cons (sd_iconst (by decide +kernel : decode cX8_isReady 6 = .ok (.iconst 1, 1)) ⟨by decide, by decide⟩) (sb_cons (sd_gt (by decide +kernel : decode cX8_isReady 7 = .ok (.if_icmp .gt 16, 3)) (by decide)) (sb_cons (sd_iload_n (by decide +kernel : decode cX8_isReady 10 = .ok (.iload_n 2, 1)) rfl) (sb_cons (sd_aload_n (by decide +kernel : decode cX8_isReady 11 = .ok (.aload_n 0, 1)) rfl) (sb_cons (sd_iload_n (by decide +kernel : decode cX8_isReady 12 = .ok (.iload_n 1, 1)) rfl) (sb_cons (sd_callv (n := 1) (met_X8_readyAt l) (by decide) (by decide) wm_845 wm_843 wm_10 ⟨by decide +kernel, by decide +kernel, by decide +kernel⟩ kl_8 wm_844 wm_1126 (by decide +kernel : decode cX8_isReady 13 = .ok (.invokevirtual 99, 3))) (sb_cons (sd_lt (by decide +kernel : decode cX8_isReady 16 = .ok (.if_icmp .lt 7, 3)) (by decide)) (sb_cons (sd_iconst (by decide +kernel : decode cX8_isReady 19 = .ok (.iconst 1, 1)) ⟨by decide, by decide⟩) (sb_cons (sd_goto (x := 0) (by decide +kernel : decode cX8_isReady 20 = .ok (.goto 4, 3)) (by decide)) sb_nil))))))))))))
set_option maxRecDepth 100000 in
theorem sb_X8_isReady_23 (l : Launch) : sm_SndB l RX8 "isReady" cX8_isReady 3 2 2 23 [oK 0, oGo 24] := sb_cons (sd_iconst (by decide +kernel : decode cX8_isReady 23 = .ok (.iconst 0, 1)) ⟨by decide, by decide⟩) (sb_cons (sd_fall (x := 0)) sb_nil)
set_option maxRecDepth 100000 in
theorem sb_X8_isReady_24 (l : Launch) : sm_SndB l RX8 "isReady" cX8_isReady 3 2 2 24 [oZr] := sb_cons (sd_zreturn (x := 0) rfl (by decide +kernel : decode cX8_isReady 24 = .ok (.ireturn, 1))) sb_nil
theorem sn_X8_isReady (l : Launch) : sm_SndT l RX8 "isReady" cX8_isReady 3 2 2 tb_X8_isReady := st_cons (sb_X8_isReady_0 l) (st_cons (sb_X8_isReady_23 l) (st_cons (sb_X8_isReady_24 l) (st_nil)))
set_option maxRecDepth 100000 in
set_option maxHeartbeats 4000000 in
theorem ok_X8_isReady : sm_Ok tb_X8_isReady 3 0 0 p_X8_isReady f_X8_isReady := by
  intro as w hp ha hw
  match as, hp with
  | [.inr (.inl m), .inl x, .inl t], hp =>
  refine ⟨Nat.le_of_ble_eq_true rfl, fun Z hZ => ?_⟩
  obtain ⟨rfl, ⟨hT, hv⟩, h1, h2, h3, h4⟩ := hp
  have hm := vOK_many hv
  refine hZ (fun _ => false) 40 0 _ _ _ _ _ ?_
  simp only [sm_run, sm_blk, sm_get, sm_ent, sm_ents, sm_wds, sm_wd, sm_nl, sm_pop, sm_back, sm_cases, oK, oLK, oL, oI, oA, oJ, oIs, oAs, oJs, oInc, oAdd, oSub, oMul, oDiv, oRem, oNeg, oAnd, oOr, oShl, oI2c, oI2l, oL2i, oLand, oLor, oLshl, oLshr, oLushr, oLcmp, oDup, oDup2, oPop, oGo, oFg, oEq, oNe, oLt, oGe, oGt, oLe, oEq0, oNe0, oLt0, oGe0, oGt0, oLe0, oSw, oGi, oGr, oPi, oPz, oPr, oLen, oIl, oZl, oCl, oRl, oIst, oZst, oCst, oRst, oCopy, oNew, oNa, oNa2, oObj, oCs, oCv, oCi, oIr, oZr, oVr, Nat.beq, List.getElem?_cons_zero, List.getElem?_cons_succ, List.set_cons_zero, List.set_cons_succ, List.length_cons, List.length_nil, List.nil_append, List.cons_append, List.append_nil, List.replicate_succ, List.replicate_zero, Nat.reduceAdd, Nat.reduceSub, Nat.reduceLT, Nat.reduceLeDiff, Nat.reduceBEq, true_and, and_true, Nat.zero_add, Nat.add_zero, Nat.le_refl, Option.some.injEq, exists_eq_left', true_or, or_true, or_false, false_or, reduceCtorEq, Prod.mk.injEq, Sum.inl.injEq, and_self, false_and, and_false, not_true_eq_false, not_false_eq_true, false_implies, true_implies, sm_r, Int.add_zero, Int.zero_add, wI_wsI, wS_wsI, wR_wsI, wI_wCp, wS_wCp, wR_wCp, Nat.reduceEqDiff, reduceIte, sT_iff, sT_iffC, wIf_ne, ne_eq, tb_X8_isReady, p_X8_readyAt, f_X8_readyAt, p_X8_isReady, f_X8_isReady, sS_154 hT, sR_154_7 hT, sS_160 hT, mOK, hT, hv]
  repeat' (first | assumption | with_reducible refine And.intro ?_ ?_ | intro _)
  all_goals first
    | omega
    | rfl
    | (split <;> omega)
    | skip
theorem met_X8_isReady (l : Launch) : sm_Met l yX8_isReady cX8_isReady 3 (some .boolean) 2 0 0 p_X8_isReady f_X8_isReady := sm_met 2 (Or.inr (Or.inr ⟨rfl, rfl⟩)) (by decide +kernel) (sn_X8_isReady l) ok_X8_isReady
def mWho (w : sm_W) (s : Int) : Int → Int := itI (fun x r => if wI w 160 x = 2 then (if wI w 161 x = s then x else r) else r) (-6)
def p_X8_whoIsOn : List sm_V → sm_W → Prop
  | [.inr (.inl m), .inl s], w => m = 154 ∧ mOK w
  | _, _ => False
def f_X8_whoIsOn : sm_F
  | [.inr (.inl m), .inl s], w => (some (.inl (mWho w s (wI w 155 1))), w)
  | _, w => (none, w)
def tb_X8_whoIsOn : List (Nat × List sm_O) := [(0, [oK (-6), oIs 2, oK 0, oIs 3, oGo 5]),
  (5, [oI 3, oA 0, oGr 8 30 0, oK 1, oIl, oGe 47, oA 0, oGr 8 30 7, oI 3, oIl, oK 2, oNe 39, oA 0, oGr 8 30 8, oI 3, oIl, oI 1, oNe 39, oI 3, oGo 40]),
  (39, [oI 2, oGo 40]),
  (40, [oIs 2, oInc 3 1, oGo 5]),
  (47, [oI 2, oIr])]
set_option maxRecDepth 100000 in
theorem sb_X8_whoIsOn_0 (l : Launch) : sm_SndB l RX8 "whoIsOn" cX8_whoIsOn 4 1 0 0 [oK (-6), oIs 2, oK 0, oIs 3, oGo 5] := sb_cons (sd_bipush (by decide +kernel : decode cX8_whoIsOn 0 = .ok (.bipush (-6), 2)) ⟨by decide, by decide⟩ (by decide)) (sb_cons (sd_istore_n (by decide +kernel : decode cX8_whoIsOn 2 = .ok (.istore_n 2, 1)) rfl) (sb_cons (sd_iconst (by decide +kernel : decode cX8_whoIsOn 3 = .ok (.iconst 0, 1)) ⟨by decide, by decide⟩) (sb_cons (sd_istore_n (by decide +kernel : decode cX8_whoIsOn 4 = .ok (.istore_n 3, 1)) rfl) (sb_cons (sd_fall (x := 0)) sb_nil))))
set_option maxRecDepth 100000 in
theorem sb_X8_whoIsOn_5 (l : Launch) : sm_SndB l RX8 "whoIsOn" cX8_whoIsOn 4 1 0 5 [oI 3, oA 0, oGr 8 30 0, oK 1, oIl, oGe 47, oA 0, oGr 8 30 7, oI 3, oIl, oK 2, oNe 39, oA 0, oGr 8 30 8, oI 3, oIl, oI 1, oNe 39, oI 3, oGo 40] := sb_cons (sd_iload_n (by decide +kernel : decode cX8_whoIsOn 5 = .ok (.iload_n 3, 1)) rfl) (sb_cons (sd_aload_n (by decide +kernel : decode cX8_whoIsOn 6 = .ok (.aload_n 0, 1)) rfl) (sb_cons (sd_getr (k := 0) kl_8 (by decide) rfl wm_673 (by decide +kernel : decode cX8_whoIsOn 7 = .ok (.getfield 7, 3))) (sb_cons (sd_iconst (by decide +kernel : decode cX8_whoIsOn 10 = .ok (.iconst 1, 1)) ⟨by decide, by decide⟩) (sb_cons (sd_iaload (by decide +kernel : decode cX8_whoIsOn 11 = .ok (.iaload, 1))) (sb_cons (sd_ge (by decide +kernel : decode cX8_whoIsOn 12 = .ok (.if_icmp .ge 35, 3)) (by decide)) (sb_cons (sd_aload_n (by decide +kernel : decode cX8_whoIsOn 15 = .ok (.aload_n 0, 1)) rfl) (sb_cons (sd_getr (k := 7) kl_8 (by decide) rfl wm_680 (by decide +kernel : decode cX8_whoIsOn 16 = .ok (.getfield 26, 3))) (sb_cons (sd_iload_n (by decide +kernel : decode cX8_whoIsOn 19 = .ok (.iload_n 3, 1)) rfl) (sb_cons (sd_iaload (by decide +kernel : decode cX8_whoIsOn 20 = .ok (.iaload, 1))) (sb_cons (sd_iconst (by decide +kernel : decode cX8_whoIsOn 21 = .ok (.iconst 2, 1)) ⟨by decide, by decide⟩) (sb_cons (sd_ne (by decide +kernel : decode cX8_whoIsOn 22 = .ok (.if_icmp .ne 17, 3)) (by decide)) (sb_cons (sd_aload_n (by decide +kernel : decode cX8_whoIsOn 25 = .ok (.aload_n 0, 1)) rfl) (sb_cons (sd_getr (k := 8) kl_8 (by decide) rfl wm_681 (by decide +kernel : decode cX8_whoIsOn 26 = .ok (.getfield 29, 3))) (sb_cons (sd_iload_n (by decide +kernel : decode cX8_whoIsOn 29 = .ok (.iload_n 3, 1)) rfl) (sb_cons (sd_iaload (by decide +kernel : decode cX8_whoIsOn 30 = .ok (.iaload, 1))) (sb_cons (sd_iload_n (by decide +kernel : decode cX8_whoIsOn 31 = .ok (.iload_n 1, 1)) rfl) (sb_cons (sd_ne (by decide +kernel : decode cX8_whoIsOn 32 = .ok (.if_icmp .ne 7, 3)) (by decide)) (sb_cons (sd_iload_n (by decide +kernel : decode cX8_whoIsOn 35 = .ok (.iload_n 3, 1)) rfl) (sb_cons (sd_goto (x := 0) (by decide +kernel : decode cX8_whoIsOn 36 = .ok (.goto 4, 3)) (by decide)) sb_nil)))))))))))))))))))
set_option maxRecDepth 100000 in
theorem sb_X8_whoIsOn_39 (l : Launch) : sm_SndB l RX8 "whoIsOn" cX8_whoIsOn 4 1 0 39 [oI 2, oGo 40] := sb_cons (sd_iload_n (by decide +kernel : decode cX8_whoIsOn 39 = .ok (.iload_n 2, 1)) rfl) (sb_cons (sd_fall (x := 0)) sb_nil)
set_option maxRecDepth 100000 in
theorem sb_X8_whoIsOn_40 (l : Launch) : sm_SndB l RX8 "whoIsOn" cX8_whoIsOn 4 1 0 40 [oIs 2, oInc 3 1, oGo 5] := sb_cons (sd_istore_n (by decide +kernel : decode cX8_whoIsOn 40 = .ok (.istore_n 2, 1)) rfl) (sb_cons (sd_iinc (by decide +kernel : decode cX8_whoIsOn 41 = .ok (.iinc 3 1, 3))) (sb_cons (sd_goto (x := 0) (by decide +kernel : decode cX8_whoIsOn 44 = .ok (.goto (-39), 3)) (by decide)) sb_nil))
set_option maxRecDepth 100000 in
theorem sb_X8_whoIsOn_47 (l : Launch) : sm_SndB l RX8 "whoIsOn" cX8_whoIsOn 4 1 0 47 [oI 2, oIr] := sb_cons (sd_iload_n (by decide +kernel : decode cX8_whoIsOn 47 = .ok (.iload_n 2, 1)) rfl) (sb_cons (sd_ireturn (x := 0) rfl (by decide +kernel : decode cX8_whoIsOn 48 = .ok (.ireturn, 1))) sb_nil)
theorem sn_X8_whoIsOn (l : Launch) : sm_SndT l RX8 "whoIsOn" cX8_whoIsOn 4 1 0 tb_X8_whoIsOn := st_cons (sb_X8_whoIsOn_0 l) (st_cons (sb_X8_whoIsOn_5 l) (st_cons (sb_X8_whoIsOn_39 l) (st_cons (sb_X8_whoIsOn_40 l) (st_cons (sb_X8_whoIsOn_47 l) (st_nil)))))
set_option maxRecDepth 100000 in
set_option maxHeartbeats 4000000 in
theorem ok_X8_whoIsOn : sm_Ok tb_X8_whoIsOn 4 0 0 p_X8_whoIsOn f_X8_whoIsOn := by
  intro as w hp ha hw
  match as, hp with
  | [.inr (.inl m), .inl s], hp =>
  refine ⟨Nat.le_of_ble_eq_true rfl, fun Z hZ => ?_⟩
  obtain ⟨rfl, hT, hv⟩ := hp
  have hm := vOK_many hv
  have hl := sm_loopI Z 5 0 (wI w 155 1) (fun i => [some (.inr (.inl 154)), some (.inl s), some (.inl (mWho w s i)), some (.inl i)]) (fun _ => w) 0 0 hm.1 (fun i h0 h1 ih => by
  unfold mWho at ih
  rw [itI_s _ _ h0] at ih
  refine hZ (fun u => Nat.beq u 5) 40 5 _ _ _ _ _ ?_
  simp only [sm_run, sm_blk, sm_get, sm_ent, sm_ents, sm_wds, sm_wd, sm_nl, sm_pop, sm_back, sm_cases, oK, oLK, oL, oI, oA, oJ, oIs, oAs, oJs, oInc, oAdd, oSub, oMul, oDiv, oRem, oNeg, oAnd, oOr, oShl, oI2c, oI2l, oL2i, oLand, oLor, oLshl, oLshr, oLushr, oLcmp, oDup, oDup2, oPop, oGo, oFg, oEq, oNe, oLt, oGe, oGt, oLe, oEq0, oNe0, oLt0, oGe0, oGt0, oLe0, oSw, oGi, oGr, oPi, oPz, oPr, oLen, oIl, oZl, oCl, oRl, oIst, oZst, oCst, oRst, oCopy, oNew, oNa, oNa2, oObj, oCs, oCv, oCi, oIr, oZr, oVr, Nat.beq, List.getElem?_cons_zero, List.getElem?_cons_succ, List.set_cons_zero, List.set_cons_succ, List.length_cons, List.length_nil, List.nil_append, List.cons_append, List.append_nil, List.replicate_succ, List.replicate_zero, Nat.reduceAdd, Nat.reduceSub, Nat.reduceLT, Nat.reduceLeDiff, Nat.reduceBEq, true_and, and_true, Nat.zero_add, Nat.add_zero, Nat.le_refl, Option.some.injEq, exists_eq_left', true_or, or_true, or_false, false_or, reduceCtorEq, Prod.mk.injEq, Sum.inl.injEq, and_self, false_and, and_false, not_true_eq_false, not_false_eq_true, false_implies, true_implies, sm_r, Int.add_zero, Int.zero_add, wI_wsI, wS_wsI, wR_wsI, wI_wCp, wS_wCp, wR_wCp, Nat.reduceEqDiff, reduceIte, sT_iff, sT_iffC, wIf_ne, ne_eq, tb_X8_whoIsOn, p_X8_whoIsOn, f_X8_whoIsOn, sS_154 hT, sR_154_0 hT, sS_155 hT, sR_154_7 hT, sS_160 hT, sR_154_8 hT, sS_161 hT]
  repeat' (first | assumption | with_reducible refine And.intro ?_ ?_ | intro _)
  all_goals first
    | omega
    | rfl
    | (split <;> omega)
    | (have k9 := ih (by omega)
       (repeat' split at k9) <;> first | exact k9 | omega)
    | (congr 1; omega)
    | skip
  )
  refine hZ (fun u => Nat.beq u 5) 40 0 _ _ _ _ _ ?_
  simp only [sm_run, sm_blk, sm_get, sm_ent, sm_ents, sm_wds, sm_wd, sm_nl, sm_pop, sm_back, sm_cases, oK, oLK, oL, oI, oA, oJ, oIs, oAs, oJs, oInc, oAdd, oSub, oMul, oDiv, oRem, oNeg, oAnd, oOr, oShl, oI2c, oI2l, oL2i, oLand, oLor, oLshl, oLshr, oLushr, oLcmp, oDup, oDup2, oPop, oGo, oFg, oEq, oNe, oLt, oGe, oGt, oLe, oEq0, oNe0, oLt0, oGe0, oGt0, oLe0, oSw, oGi, oGr, oPi, oPz, oPr, oLen, oIl, oZl, oCl, oRl, oIst, oZst, oCst, oRst, oCopy, oNew, oNa, oNa2, oObj, oCs, oCv, oCi, oIr, oZr, oVr, Nat.beq, List.getElem?_cons_zero, List.getElem?_cons_succ, List.set_cons_zero, List.set_cons_succ, List.length_cons, List.length_nil, List.nil_append, List.cons_append, List.append_nil, List.replicate_succ, List.replicate_zero, Nat.reduceAdd, Nat.reduceSub, Nat.reduceLT, Nat.reduceLeDiff, Nat.reduceBEq, true_and, and_true, Nat.zero_add, Nat.add_zero, Nat.le_refl, Option.some.injEq, exists_eq_left', true_or, or_true, or_false, false_or, reduceCtorEq, Prod.mk.injEq, Sum.inl.injEq, and_self, false_and, and_false, not_true_eq_false, not_false_eq_true, false_implies, true_implies, sm_r, Int.add_zero, Int.zero_add, wI_wsI, wS_wsI, wR_wsI, wI_wCp, wS_wCp, wR_wCp, Nat.reduceEqDiff, reduceIte, sT_iff, sT_iffC, wIf_ne, ne_eq, tb_X8_whoIsOn, p_X8_whoIsOn, f_X8_whoIsOn]
  repeat' (first | assumption | with_reducible refine And.intro ?_ ?_ | intro _)
  all_goals first
    | omega
    | rfl
    | (split <;> omega)
    | (have k9 := ih (by omega)
       (repeat' split at k9) <;> first | exact k9 | omega)
    | (congr 1; omega)
    | skip

theorem met_X8_whoIsOn (l : Launch) : sm_Met l yX8_whoIsOn cX8_whoIsOn 4 (some .int) 0 0 0 p_X8_whoIsOn f_X8_whoIsOn := sm_met 1 (Or.inr (Or.inl ⟨rfl, rfl⟩)) (by decide +kernel) (sn_X8_whoIsOn l) ok_X8_whoIsOn