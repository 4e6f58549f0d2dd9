/-! the reference: small reads -/
def p_X8_in : List sm_V → sm_W → Prop
  | [.inl _, .inl _, .inl _], _ => True
  | _, _ => False
def f_X8_in : sm_F
  | [.inl v, .inl a, .inl b], w => (some (.inl (if a ≤ v ∧ v ≤ b then 1 else 0)), w)
  | _, w => (none, w)
def tb_X8_in : List (Nat × List sm_O) := [(0, [oI 0, oI 1, oLt 14, oI 0, oI 2, oGt 14, oK 1, oGo 15]),
  (14, [oK 0, oGo 15]),
  (15, [oZr])]
set_option maxRecDepth 100000 in
theorem sb_X8_in_0 (l : Launch) : sm_SndB l RX8 "in" cX8_in 3 2 0 0 [oI 0, oI 1, oLt 14, oI 0, oI 2, oGt 14, oK 1, oGo 15] := sb_cons (sd_iload_n (by decide +kernel : decode cX8_in 0 = .ok (.iload_n 0, 1)) rfl) (sb_cons (sd_iload_n (by decide +kernel : decode cX8_in 1 = .ok (.iload_n 1, 1)) rfl) (sb_cons (sd_lt (by decide +kernel : decode cX8_in 2 = .ok (.if_icmp .lt 12, 3)) (by decide)) (sb_cons (sd_iload_n (by decide +kernel : decode cX8_in 5 = .ok (.iload_n 0, 1)) rfl) (sb_cons (sd_iload_n (by decide +kernel : decode cX8_in 6 = .ok (.iload_n 2, 1)) rfl) (sb_cons (sd_gt (by decide +kernel : decode cX8_in 7 = .ok (.if_icmp .gt 7, 3)) (by decide)) (sb_cons (sd_iconst (by decide +kernel : decode cX8_in 10 = .ok (.iconst 1, 1)) ⟨by decide, by decide⟩) (sb_cons (sd_goto (x := 0) (by decide +kernel : decode cX8_in 11 = .ok (.goto 4, 3)) (by decide)) sb_nil)))))))
set_option maxRecDepth 100000 in
theorem sb_X8_in_14 (l : Launch) : sm_SndB l RX8 "in" cX8_in 3 2 0 14 [oK 0, oGo 15] := sb_cons (sd_iconst (by decide +kernel : decode cX8_in 14 = .ok (.iconst 0, 1)) ⟨by decide, by decide⟩) (sb_cons (sd_fall (x := 0)) sb_nil)
set_option maxRecDepth 100000 in
theorem sb_X8_in_15 (l : Launch) : sm_SndB l RX8 "in" cX8_in 3 2 0 15 [oZr] := sb_cons (sd_zreturn (x := 0) rfl (by decide +kernel : decode cX8_in 15 = .ok (.ireturn, 1))) sb_nil
theorem sn_X8_in (l : Launch) : sm_SndT l RX8 "in" cX8_in 3 2 0 tb_X8_in := st_cons (sb_X8_in_0 l) (st_cons (sb_X8_in_14 l) (st_cons (sb_X8_in_15 l) (st_nil)))
theorem ok_X8_in : sm_Ok tb_X8_in 3 0 0 p_X8_in f_X8_in := by
  intro as w hp ha hw
  match as, hp with
  | [.inl v, .inl a, .inl b], hp =>
    refine ⟨Nat.le_of_ble_eq_true rfl, fun Z hZ => hZ (fun _ => false) 20 0 _ _ _ _ _ ?_⟩
    simp only [sm_run, sm_blk, sm_get, sm_ent, sm_ents, sm_wds, sm_wd, sm_nl, sm_pop, sm_back, sm_cases, oK, oLK, oL, oI, oA, oJ, oIs, oAs, oJs, oInc, oAdd, oSub, oMul, oDiv, oRem, oNeg, oAnd, oOr, oShl, oI2c, oI2l, oL2i, oLand, oLor, oLshl, oLshr, oLushr, oLcmp, oDup, oDup2, oPop, oGo, oEq, oNe, oLt, oGe, oGt, oLe, oEq0, oNe0, oLt0, oGe0, oGt0, oLe0, oSw, oGi, oGr, oPi, oPz, oPr, oLen, oIl, oZl, oCl, oRl, oIst, oZst, oCst, oRst, oCopy, oNew, oNa, oNa2, oObj, oCs, oCv, oCi, oIr, oZr, oVr, Nat.beq, List.getElem?_cons_zero, List.getElem?_cons_succ, List.set_cons_zero, List.set_cons_succ, List.length_cons, List.length_nil, List.nil_append, List.cons_append, List.append_nil, List.replicate_succ, List.replicate_zero, Nat.reduceAdd, Nat.reduceSub, Nat.reduceLT, Nat.reduceLeDiff, Nat.reduceBEq, true_and, and_true, Nat.zero_add, Nat.add_zero, Nat.le_refl, tb_X8_in, p_X8_in, f_X8_in]
    trace_state
    sorry
theorem met_X8_in (l : Launch) : sm_Met l yX8_in cX8_in 3 (some .boolean) 0 0 0 p_X8_in f_X8_in := sm_met 2 (Or.inr (Or.inr ⟨rfl, rfl⟩)) (by decide +kernel) (sn_X8_in l) ok_X8_in
def p_X8_of : List sm_V → sm_W → Prop
  | [.inr (.inl m), .inl x, .inl k], w => m = 154 ∧ sT w ∧ 0 ≤ x ∧ x < 8 ∧ 0 ≤ k ∧ k < 5
  | _, _ => False
def f_X8_of : sm_F
  | [_, .inl x, .inl k], w => (some (.inl (wI w 155 (17 + 5 * x + k))), w)
  | _, w => (none, w)
def tb_X8_of : List (Nat × List sm_O) := [(0, [oA 0, oGr 8 30 0, oK 17, oK 5, oI 1, oMul, oAdd, oI 2, oAdd, oIl, oIr])]
set_option maxRecDepth 100000 in
theorem sb_X8_of_0 (l : Launch) : sm_SndB l RX8 "of" cX8_of 3 1 0 0 [oA 0, oGr 8 30 0, oK 17, oK 5, oI 1, oMul, oAdd, oI 2, oAdd, oIl, oIr] := sb_cons (sd_aload_n (by decide +kernel : decode cX8_of 0 = .ok (.aload_n 0, 1)) rfl) (sb_cons (sd_getr (k := 0) kl_8 (by decide) rfl wm_673 (by decide +kernel : decode cX8_of 1 = .ok (.getfield 7, 3))) (sb_cons (sd_bipush (by decide +kernel : decode cX8_of 4 = .ok (.bipush 17, 2)) ⟨by decide, by decide⟩ (by decide)) (sb_cons (sd_iconst (by decide +kernel : decode cX8_of 6 = .ok (.iconst 5, 1)) ⟨by decide, by decide⟩) (sb_cons (sd_iload_n (by decide +kernel : decode cX8_of 7 = .ok (.iload_n 1, 1)) rfl) (sb_cons (sd_imul (by decide +kernel : decode cX8_of 8 = .ok (.imul, 1))) (sb_cons (sd_iadd (by decide +kernel : decode cX8_of 9 = .ok (.iadd, 1))) (sb_cons (sd_iload_n (by decide +kernel : decode cX8_of 10 = .ok (.iload_n 2, 1)) rfl) (sb_cons (sd_iadd (by decide +kernel : decode cX8_of 11 = .ok (.iadd, 1))) (sb_cons (sd_iaload (by decide +kernel : decode cX8_of 12 = .ok (.iaload, 1))) (sb_cons (sd_ireturn (x := 0) rfl (by decide +kernel : decode cX8_of 13 = .ok (.ireturn, 1))) sb_nil))))))))))
theorem sn_X8_of (l : Launch) : sm_SndT l RX8 "of" cX8_of 3 1 0 tb_X8_of := st_cons (sb_X8_of_0 l) (st_nil)
theorem ok_X8_of : sm_Ok tb_X8_of 3 0 0 p_X8_of f_X8_of := by
  intro as w hp ha hw
  match as, hp with
  | [.inr (.inl m), .inl x, .inl k], hp =>
    obtain ⟨rfl, hT, h1, h2, h3, h4⟩ := hp
    refine ⟨Nat.le_of_ble_eq_true rfl, fun Z hZ => hZ (fun _ => false) 20 0 _ _ _ _ _ ?_⟩
    simp only [sm_run, sm_blk, sm_get, sm_ent, sm_ents, sm_wds, sm_wd, sm_nl, sm_pop, sm_back, sm_cases, oK, oLK, oL, oI, oA, oJ, oIs, oAs, oJs, oInc, oAdd, oSub, oMul, oDiv, oRem, oNeg, oAnd, oOr, oShl, oI2c, oI2l, oL2i, oLand, oLor, oLshl, oLshr, oLushr, oLcmp, oDup, oDup2, oPop, oGo, oEq, oNe, oLt, oGe, oGt, oLe, oEq0, oNe0, oLt0, oGe0, oGt0, oLe0, oSw, oGi, oGr, oPi, oPz, oPr, oLen, oIl, oZl, oCl, oRl, oIst, oZst, oCst, oRst, oCopy, oNew, oNa, oNa2, oObj, oCs, oCv, oCi, oIr, oZr, oVr, Nat.beq, List.getElem?_cons_zero, List.getElem?_cons_succ, List.set_cons_zero, List.set_cons_succ, List.length_cons, List.length_nil, List.nil_append, List.cons_append, List.append_nil, List.replicate_succ, List.replicate_zero, Nat.reduceAdd, Nat.reduceSub, Nat.reduceLT, Nat.reduceLeDiff, Nat.reduceBEq, true_and, and_true, Nat.zero_add, Nat.add_zero, Nat.le_refl, tb_X8_of, p_X8_of, f_X8_of, sS_154 hT, sR_154_0 hT, sS_155 hT]
    trace_state
    sorry
theorem met_X8_of (l : Launch) : sm_Met l yX8_of cX8_of 3 (some .int) 0 0 0 p_X8_of f_X8_of := sm_met 1 (Or.inr (Or.inl ⟨rfl, rfl⟩)) (by decide +kernel) (sn_X8_of l) ok_X8_of
