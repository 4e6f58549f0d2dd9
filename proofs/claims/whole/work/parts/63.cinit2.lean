/-! CONSTRUCTORS: the others -/

def opsX6 : List iOp := [(0, 9, 0, 4), (1, 75, 0, 76), (0, 9, 0, 8), (1, 75, 1, 77)]
theorem on_X6 (w : sm_W) : (iW opsX6 w).1 = w.1 + 2 := rfl
def p_X6_init : List sm_V → sm_W → Prop
  | [.inr (.inl a)], w => a = 75 ∧ w.1 = 76 ∧ wS w 75 = (6, 2)
  | _, _ => False
def f_X6_init : sm_F
  | [.inr (.inl a)], w => (none, iW opsX6 w)
  | _, w => (none, w)
def tb_X6_init : List (Nat × List sm_O) := [(0, [oA 0, oObj, oA 0, oK 4, oNa 9, oPr 6 2 0, oA 0, oK 8, oNa 9, oPr 6 2 1, oVr])]
set_option maxRecDepth 100000 in
theorem sb_X6_init_0 (l : Launch) : sm_SndB l RX6 "<init>" cX6_init 1 0 1 0 [oA 0, oObj, oA 0, oK 4, oNa 9, oPr 6 2 0, oA 0, oK 8, oNa 9, oPr 6 2 1, oVr] := sb_cons (sd_aload_n (by decide +kernel : decode cX6_init 0 = .ok (.aload_n 0, 1)) rfl) (sb_cons (sd_obj (by decide) wm_97 wm_20 wm_21 (by decide +kernel : decode cX6_init 1 = .ok (.invokespecial 3, 3))) (sb_cons (sd_aload_n (by decide +kernel : decode cX6_init 4 = .ok (.aload_n 0, 1)) rfl) (sb_cons (sd_iconst (by decide +kernel : decode cX6_init 5 = .ok (.iconst 4, 1)) ⟨by decide, by decide⟩) (sb_cons (sd_newa_i wm_66 (by decide +kernel : decode cX6_init 6 = .ok (.newarray .int, 2))) (sb_cons (sd_putr (k := 0) kl_6 (by decide) rfl (fun _ => ⟨rfl, rfl⟩) (Or.inr ⟨rfl, rfl⟩) wm_98 (by decide +kernel : decode cX6_init 8 = .ok (.putfield 9, 3))) (sb_cons (sd_aload_n (by decide +kernel : decode cX6_init 11 = .ok (.aload_n 0, 1)) rfl) (sb_cons (sd_bipush (by decide +kernel : decode cX6_init 12 = .ok (.bipush 8, 2)) ⟨by decide, by decide⟩ (by decide)) (sb_cons (sd_newa_i wm_66 (by decide +kernel : decode cX6_init 14 = .ok (.newarray .int, 2))) (sb_cons (sd_putr (k := 1) kl_6 (by decide) rfl (fun _ => ⟨rfl, rfl⟩) (Or.inr ⟨rfl, rfl⟩) wm_99 (by decide +kernel : decode cX6_init 16 = .ok (.putfield 15, 3))) (sb_cons (sd_return (x := 0) rfl (by decide +kernel : decode cX6_init 19 = .ok (.return_, 1))) sb_nil))))))))))
theorem sn_X6_init (l : Launch) : sm_SndT l RX6 "<init>" cX6_init 1 0 1 tb_X6_init := st_cons (sb_X6_init_0 l) (st_nil)
set_option maxRecDepth 100000 in
set_option maxHeartbeats 4000000 in
theorem ok_X6_init : sm_Ok tb_X6_init 1 2 12 p_X6_init f_X6_init := by
  intro as w hp ha hw
  match as, hp with
  | [.inr (.inl a)], hp =>
  refine ⟨Nat.le_of_ble_eq_true rfl, fun Z hZ => ?_⟩
  obtain ⟨rfl, hn, hs⟩ := hp
  refine hZ (fun _ => false) 16 0 _ _ _ _ _ ?_
  simp only [sm_run, sm_blk, sm_get, sm_ent, sm_ents, sm_wds, sm_wd, sm_nl, sm_pop, sm_back, sm_cases, oK, oLK, oL, oI, oA, oJ, oIs, oAs, oJs, oInc, oAdd, oSub, oMul, oDiv, oRem, oNeg, oAnd, oAndB, oOr, oShl, oI2c, oI2l, oL2i, oLand, oLor, oLshl, oLshr, oLushr, oLcmp, oDup, oDup2, oPop, oGo, oFg, oEq, oNe, oLt, oGe, oGt, oLe, oEq0, oNe0, oLt0, oGe0, oGt0, oLe0, oSw, oGi, oGr, oPi, oPz, oPr, oLen, oIl, oZl, oCl, oRl, oIst, oZst, oCst, oRst, oCopy, oNew, oNa, oNa2, oObj, oCs, oCv, oCi, oIr, oZr, oVr, Nat.beq, List.getElem?_cons_zero, List.getElem?_cons_succ, List.set_cons_zero, List.set_cons_succ, List.length_cons, List.length_nil, List.nil_append, List.cons_append, List.append_nil, List.replicate_succ, List.replicate_zero, Nat.reduceAdd, Nat.reduceSub, Nat.reduceLT, Nat.reduceLeDiff, Nat.reduceBEq, true_and, and_true, Nat.zero_add, Nat.add_zero, Nat.le_refl, Option.some.injEq, exists_eq_left', true_or, or_true, or_false, false_or, reduceCtorEq, Prod.mk.injEq, Sum.inl.injEq, and_self, false_and, and_false, not_true_eq_false, not_false_eq_true, false_implies, true_implies, sm_r, Int.add_zero, Int.zero_add, wI_wsI, wS_wsI, wR_wsI, wI_wCp, wS_wCp, wR_wCp, Nat.reduceEqDiff, reduceIte, sT_iff, sT_iffC, wIf_ne, ne_eq, Bool.false_or, Bool.true_or, Bool.or_false, Bool.or_true, Bool.or_self, Nat.left_eq_add, Nat.add_eq_left, Nat.add_left_inj, oMax, oMin, oAbs, tb_X6_init, p_X6_init, f_X6_init, hs, hn, wsR_n, wNw_n, wS_wNw, wS_wsR, Nat.reduceAdd, Int.reduceToNat]
  repeat' (first | exact True.intro | with_reducible assumption | with_reducible refine And.intro ?_ ?_ | intro _)
  all_goals first
    | omega
    | assumption
    | rfl
    | (split <;> omega)
    | grind
    | skip
theorem met_X6_init (l : Launch) : sm_Met l yX6_init cX6_init 1 none 1 2 12 p_X6_init f_X6_init := sm_met 0 (Or.inl ⟨rfl, rfl⟩) (by decide +kernel) (sn_X6_init l) ok_X6_init
def opsX3 : List iOp := [(0, 9, 0, 64), (1, 78, 0, 79)]
theorem on_X3 (w : sm_W) : (iW opsX3 w).1 = w.1 + 1 := rfl
def p_X3_init : List sm_V → sm_W → Prop
  | [.inr (.inl a)], w => a = 78 ∧ w.1 = 79 ∧ wS w 78 = (3, 2)
  | _, _ => False
def f_X3_init : sm_F
  | [.inr (.inl a)], w => (none, iW opsX3 w)
  | _, w => (none, w)
def tb_X3_init : List (Nat × List sm_O) := [(0, [oA 0, oObj, oA 0, oK 64, oNa 9, oPr 3 2 0, oVr])]
set_option maxRecDepth 100000 in
theorem sb_X3_init_0 (l : Launch) : sm_SndB l RX3 "<init>" cX3_init 1 0 1 0 [oA 0, oObj, oA 0, oK 64, oNa 9, oPr 3 2 0, oVr] := sb_cons (sd_aload_n (by decide +kernel : decode cX3_init 0 = .ok (.aload_n 0, 1)) rfl) (sb_cons (sd_obj (by decide) wm_105 wm_20 wm_21 (by decide +kernel : decode cX3_init 1 = .ok (.invokespecial 3, 3))) (sb_cons (sd_aload_n (by decide +kernel : decode cX3_init 4 = .ok (.aload_n 0, 1)) rfl) (sb_cons (sd_bipush (by decide +kernel : decode cX3_init 5 = .ok (.bipush 64, 2)) ⟨by decide, by decide⟩ (by decide)) (sb_cons (sd_newa_i wm_66 (by decide +kernel : decode cX3_init 7 = .ok (.newarray .int, 2))) (sb_cons (sd_putr (k := 0) kl_3 (by decide) rfl (fun _ => ⟨rfl, rfl⟩) (Or.inr ⟨rfl, rfl⟩) wm_106 (by decide +kernel : decode cX3_init 9 = .ok (.putfield 9, 3))) (sb_cons (sd_return (x := 0) rfl (by decide +kernel : decode cX3_init 12 = .ok (.return_, 1))) sb_nil))))))
theorem sn_X3_init (l : Launch) : sm_SndT l RX3 "<init>" cX3_init 1 0 1 tb_X3_init := st_cons (sb_X3_init_0 l) (st_nil)
set_option maxRecDepth 100000 in
set_option maxHeartbeats 4000000 in
theorem ok_X3_init : sm_Ok tb_X3_init 1 1 64 p_X3_init f_X3_init := by
  intro as w hp ha hw
  match as, hp with
  | [.inr (.inl a)], hp =>
  refine ⟨Nat.le_of_ble_eq_true rfl, fun Z hZ => ?_⟩
  obtain ⟨rfl, hn, hs⟩ := hp
  refine hZ (fun _ => false) 16 0 _ _ _ _ _ ?_
  simp only [sm_run, sm_blk, sm_get, sm_ent, sm_ents, sm_wds, sm_wd, sm_nl, sm_pop, sm_back, sm_cases, oK, oLK, oL, oI, oA, oJ, oIs, oAs, oJs, oInc, oAdd, oSub, oMul, oDiv, oRem, oNeg, oAnd, oAndB, oOr, oShl, oI2c, oI2l, oL2i, oLand, oLor, oLshl, oLshr, oLushr, oLcmp, oDup, oDup2, oPop, oGo, oFg, oEq, oNe, oLt, oGe, oGt, oLe, oEq0, oNe0, oLt0, oGe0, oGt0, oLe0, oSw, oGi, oGr, oPi, oPz, oPr, oLen, oIl, oZl, oCl, oRl, oIst, oZst, oCst, oRst, oCopy, oNew, oNa, oNa2, oObj, oCs, oCv, oCi, oIr, oZr, oVr, Nat.beq, List.getElem?_cons_zero, List.getElem?_cons_succ, List.set_cons_zero, List.set_cons_succ, List.length_cons, List.length_nil, List.nil_append, List.cons_append, List.append_nil, List.replicate_succ, List.replicate_zero, Nat.reduceAdd, Nat.reduceSub, Nat.reduceLT, Nat.reduceLeDiff, Nat.reduceBEq, true_and, and_true, Nat.zero_add, Nat.add_zero, Nat.le_refl, Option.some.injEq, exists_eq_left', true_or, or_true, or_false, false_or, reduceCtorEq, Prod.mk.injEq, Sum.inl.injEq, and_self, false_and, and_false, not_true_eq_false, not_false_eq_true, false_implies, true_implies, sm_r, Int.add_zero, Int.zero_add, wI_wsI, wS_wsI, wR_wsI, wI_wCp, wS_wCp, wR_wCp, Nat.reduceEqDiff, reduceIte, sT_iff, sT_iffC, wIf_ne, ne_eq, Bool.false_or, Bool.true_or, Bool.or_false, Bool.or_true, Bool.or_self, Nat.left_eq_add, Nat.add_eq_left, Nat.add_left_inj, oMax, oMin, oAbs, tb_X3_init, p_X3_init, f_X3_init, hs, hn, wsR_n, wNw_n, wS_wNw, wS_wsR, Nat.reduceAdd, Int.reduceToNat]
  repeat' (first | exact True.intro | with_reducible assumption | with_reducible refine And.intro ?_ ?_ | intro _)
  all_goals first
    | omega
    | assumption
    | rfl
    | (split <;> omega)
    | grind
    | skip
theorem met_X3_init (l : Launch) : sm_Met l yX3_init cX3_init 1 none 1 1 64 p_X3_init f_X3_init := sm_met 0 (Or.inl ⟨rfl, rfl⟩) (by decide +kernel) (sn_X3_init l) ok_X3_init
def opsX4 : List iOp := [(0, 9, 0, 5), (1, 80, 0, 81), (0, 9, 0, 5), (1, 80, 2, 82)]
theorem on_X4 (w : sm_W) : (iW opsX4 w).1 = w.1 + 2 := rfl
def p_X4_init : List sm_V → sm_W → Prop
  | [.inr (.inl a)], w => a = 80 ∧ w.1 = 81 ∧ wS w 80 = (4, 3)
  | _, _ => False
def f_X4_init : sm_F
  | [.inr (.inl a)], w => (none, iW opsX4 w)
  | _, w => (none, w)
def tb_X4_init : List (Nat × List sm_O) := [(0, [oA 0, oObj, oA 0, oK 5, oNa 9, oPr 4 3 0, oA 0, oK 5, oNa 9, oPr 4 3 2, oVr])]
set_option maxRecDepth 100000 in
theorem sb_X4_init_0 (l : Launch) : sm_SndB l RX4 "<init>" cX4_init 1 0 1 0 [oA 0, oObj, oA 0, oK 5, oNa 9, oPr 4 3 0, oA 0, oK 5, oNa 9, oPr 4 3 2, oVr] := sb_cons (sd_aload_n (by decide +kernel : decode cX4_init 0 = .ok (.aload_n 0, 1)) rfl) (sb_cons (sd_obj (by decide) wm_114 wm_20 wm_21 (by decide +kernel : decode cX4_init 1 = .ok (.invokespecial 3, 3))) (sb_cons (sd_aload_n (by decide +kernel : decode cX4_init 4 = .ok (.aload_n 0, 1)) rfl) (sb_cons (sd_iconst (by decide +kernel : decode cX4_init 5 = .ok (.iconst 5, 1)) ⟨by decide, by decide⟩) (sb_cons (sd_newa_i wm_66 (by decide +kernel : decode cX4_init 6 = .ok (.newarray .int, 2))) (sb_cons (sd_putr (k := 0) kl_4 (by decide) rfl (fun _ => ⟨rfl, rfl⟩) (Or.inr ⟨rfl, rfl⟩) wm_115 (by decide +kernel : decode cX4_init 8 = .ok (.putfield 9, 3))) (sb_cons (sd_aload_n (by decide +kernel : decode cX4_init 11 = .ok (.aload_n 0, 1)) rfl) (sb_cons (sd_iconst (by decide +kernel : decode cX4_init 12 = .ok (.iconst 5, 1)) ⟨by decide, by decide⟩) (sb_cons (sd_newa_i wm_66 (by decide +kernel : decode cX4_init 13 = .ok (.newarray .int, 2))) (sb_cons (sd_putr (k := 2) kl_4 (by decide) rfl (fun _ => ⟨rfl, rfl⟩) (Or.inr ⟨rfl, rfl⟩) wm_119 (by decide +kernel : decode cX4_init 15 = .ok (.putfield 15, 3))) (sb_cons (sd_return (x := 0) rfl (by decide +kernel : decode cX4_init 18 = .ok (.return_, 1))) sb_nil))))))))))
theorem sn_X4_init (l : Launch) : sm_SndT l RX4 "<init>" cX4_init 1 0 1 tb_X4_init := st_cons (sb_X4_init_0 l) (st_nil)
set_option maxRecDepth 100000 in
set_option maxHeartbeats 4000000 in
theorem ok_X4_init : sm_Ok tb_X4_init 1 2 10 p_X4_init f_X4_init := by
  intro as w hp ha hw
  match as, hp with
  | [.inr (.inl a)], hp =>
  refine ⟨Nat.le_of_ble_eq_true rfl, fun Z hZ => ?_⟩
  obtain ⟨rfl, hn, hs⟩ := hp
  refine hZ (fun _ => false) 16 0 _ _ _ _ _ ?_
  simp only [sm_run, sm_blk, sm_get, sm_ent, sm_ents, sm_wds, sm_wd, sm_nl, sm_pop, sm_back, sm_cases, oK, oLK, oL, oI, oA, oJ, oIs, oAs, oJs, oInc, oAdd, oSub, oMul, oDiv, oRem, oNeg, oAnd, oAndB, oOr, oShl, oI2c, oI2l, oL2i, oLand, oLor, oLshl, oLshr, oLushr, oLcmp, oDup, oDup2, oPop, oGo, oFg, oEq, oNe, oLt, oGe, oGt, oLe, oEq0, oNe0, oLt0, oGe0, oGt0, oLe0, oSw, oGi, oGr, oPi, oPz, oPr, oLen, oIl, oZl, oCl, oRl, oIst, oZst, oCst, oRst, oCopy, oNew, oNa, oNa2, oObj, oCs, oCv, oCi, oIr, oZr, oVr, Nat.beq, List.getElem?_cons_zero, List.getElem?_cons_succ, List.set_cons_zero, List.set_cons_succ, List.length_cons, List.length_nil, List.nil_append, List.cons_append, List.append_nil, List.replicate_succ, List.replicate_zero, Nat.reduceAdd, Nat.reduceSub, Nat.reduceLT, Nat.reduceLeDiff, Nat.reduceBEq, true_and, and_true, Nat.zero_add, Nat.add_zero, Nat.le_refl, Option.some.injEq, exists_eq_left', true_or, or_true, or_false, false_or, reduceCtorEq, Prod.mk.injEq, Sum.inl.injEq, and_self, false_and, and_false, not_true_eq_false, not_false_eq_true, false_implies, true_implies, sm_r, Int.add_zero, Int.zero_add, wI_wsI, wS_wsI, wR_wsI, wI_wCp, wS_wCp, wR_wCp, Nat.reduceEqDiff, reduceIte, sT_iff, sT_iffC, wIf_ne, ne_eq, Bool.false_or, Bool.true_or, Bool.or_false, Bool.or_true, Bool.or_self, Nat.left_eq_add, Nat.add_eq_left, Nat.add_left_inj, oMax, oMin, oAbs, tb_X4_init, p_X4_init, f_X4_init, hs, hn, wsR_n, wNw_n, wS_wNw, wS_wsR, Nat.reduceAdd, Int.reduceToNat]
  repeat' (first | exact True.intro | with_reducible assumption | with_reducible refine And.intro ?_ ?_ | intro _)
  all_goals first
    | omega
    | assumption
    | rfl
    | (split <;> omega)
    | grind
    | skip
theorem met_X4_init (l : Launch) : sm_Met l yX4_init cX4_init 1 none 1 2 10 p_X4_init f_X4_init := sm_met 0 (Or.inl ⟨rfl, rfl⟩) (by decide +kernel) (sn_X4_init l) ok_X4_init
def opsX5 : List iOp := [(0, 11, 0, 80), (1, 83, 1, 84), (0, 9, 0, 5), (1, 83, 4, 85)]
theorem on_X5 (w : sm_W) : (iW opsX5 w).1 = w.1 + 2 := rfl
def p_X5_init : List sm_V → sm_W → Prop
  | [.inr (.inl a)], w => a = 83 ∧ w.1 = 84 ∧ wS w 83 = (5, 5)
  | _, _ => False
def f_X5_init : sm_F
  | [.inr (.inl a)], w => (none, iW opsX5 w)
  | _, w => (none, w)
def tb_X5_init : List (Nat × List sm_O) := [(0, [oA 0, oObj, oA 0, oK 80, oNa 11, oPr 5 5 1, oA 0, oK 5, oNa 9, oPr 5 5 4, oVr])]
set_option maxRecDepth 100000 in
theorem sb_X5_init_0 (l : Launch) : sm_SndB l RX5 "<init>" cX5_init 1 0 1 0 [oA 0, oObj, oA 0, oK 80, oNa 11, oPr 5 5 1, oA 0, oK 5, oNa 9, oPr 5 5 4, oVr] := sb_cons (sd_aload_n (by decide +kernel : decode cX5_init 0 = .ok (.aload_n 0, 1)) rfl) (sb_cons (sd_obj (by decide) wm_125 wm_20 wm_21 (by decide +kernel : decode cX5_init 1 = .ok (.invokespecial 3, 3))) (sb_cons (sd_aload_n (by decide +kernel : decode cX5_init 4 = .ok (.aload_n 0, 1)) rfl) (sb_cons (sd_bipush (by decide +kernel : decode cX5_init 5 = .ok (.bipush 80, 2)) ⟨by decide, by decide⟩ (by decide)) (sb_cons (sd_newa_c wm_132 (by decide +kernel : decode cX5_init 7 = .ok (.newarray .char, 2))) (sb_cons (sd_putr (k := 1) kl_5 (by decide) rfl (fun _ => ⟨rfl, rfl⟩) (Or.inr ⟨rfl, rfl⟩) wm_128 (by decide +kernel : decode cX5_init 9 = .ok (.putfield 9, 3))) (sb_cons (sd_aload_n (by decide +kernel : decode cX5_init 12 = .ok (.aload_n 0, 1)) rfl) (sb_cons (sd_iconst (by decide +kernel : decode cX5_init 13 = .ok (.iconst 5, 1)) ⟨by decide, by decide⟩) (sb_cons (sd_newa_i wm_66 (by decide +kernel : decode cX5_init 14 = .ok (.newarray .int, 2))) (sb_cons (sd_putr (k := 4) kl_5 (by decide) rfl (fun _ => ⟨rfl, rfl⟩) (Or.inr ⟨rfl, rfl⟩) wm_131 (by decide +kernel : decode cX5_init 16 = .ok (.putfield 15, 3))) (sb_cons (sd_return (x := 0) rfl (by decide +kernel : decode cX5_init 19 = .ok (.return_, 1))) sb_nil))))))))))
theorem sn_X5_init (l : Launch) : sm_SndT l RX5 "<init>" cX5_init 1 0 1 tb_X5_init := st_cons (sb_X5_init_0 l) (st_nil)
set_option maxRecDepth 100000 in
set_option maxHeartbeats 4000000 in
theorem ok_X5_init : sm_Ok tb_X5_init 1 2 85 p_X5_init f_X5_init := by
  intro as w hp ha hw
  match as, hp with
  | [.inr (.inl a)], hp =>
  refine ⟨Nat.le_of_ble_eq_true rfl, fun Z hZ => ?_⟩
  obtain ⟨rfl, hn, hs⟩ := hp
  refine hZ (fun _ => false) 16 0 _ _ _ _ _ ?_
  simp only [sm_run, sm_blk, sm_get, sm_ent, sm_ents, sm_wds, sm_wd, sm_nl, sm_pop, sm_back, sm_cases, oK, oLK, oL, oI, oA, oJ, oIs, oAs, oJs, oInc, oAdd, oSub, oMul, oDiv, oRem, oNeg, oAnd, oAndB, oOr, oShl, oI2c, oI2l, oL2i, oLand, oLor, oLshl, oLshr, oLushr, oLcmp, oDup, oDup2, oPop, oGo, oFg, oEq, oNe, oLt, oGe, oGt, oLe, oEq0, oNe0, oLt0, oGe0, oGt0, oLe0, oSw, oGi, oGr, oPi, oPz, oPr, oLen, oIl, oZl, oCl, oRl, oIst, oZst, oCst, oRst, oCopy, oNew, oNa, oNa2, oObj, oCs, oCv, oCi, oIr, oZr, oVr, Nat.beq, List.getElem?_cons_zero, List.getElem?_cons_succ, List.set_cons_zero, List.set_cons_succ, List.length_cons, List.length_nil, List.nil_append, List.cons_append, List.append_nil, List.replicate_succ, List.replicate_zero, Nat.reduceAdd, Nat.reduceSub, Nat.reduceLT, Nat.reduceLeDiff, Nat.reduceBEq, true_and, and_true, Nat.zero_add, Nat.add_zero, Nat.le_refl, Option.some.injEq, exists_eq_left', true_or, or_true, or_false, false_or, reduceCtorEq, Prod.mk.injEq, Sum.inl.injEq, and_self, false_and, and_false, not_true_eq_false, not_false_eq_true, false_implies, true_implies, sm_r, Int.add_zero, Int.zero_add, wI_wsI, wS_wsI, wR_wsI, wI_wCp, wS_wCp, wR_wCp, Nat.reduceEqDiff, reduceIte, sT_iff, sT_iffC, wIf_ne, ne_eq, Bool.false_or, Bool.true_or, Bool.or_false, Bool.or_true, Bool.or_self, Nat.left_eq_add, Nat.add_eq_left, Nat.add_left_inj, oMax, oMin, oAbs, tb_X5_init, p_X5_init, f_X5_init, hs, hn, wsR_n, wNw_n, wS_wNw, wS_wsR, Nat.reduceAdd, Int.reduceToNat]
  repeat' (first | exact True.intro | with_reducible assumption | with_reducible refine And.intro ?_ ?_ | intro _)
  all_goals first
    | omega
    | assumption
    | rfl
    | (split <;> omega)
    | grind
    | skip
theorem met_X5_init (l : Launch) : sm_Met l yX5_init cX5_init 1 none 1 2 85 p_X5_init f_X5_init := sm_met 0 (Or.inl ⟨rfl, rfl⟩) (by decide +kernel) (sn_X5_init l) ok_X5_init
theorem iW_app : ∀ (l1 l2 : List iOp) (w : sm_W), iW (l1 ++ l2) w = iW l2 (iW l1 w)
  | [], _, _ => rfl
  | o :: r, l2, w => iW_app r l2 (iO o w)
theorem lnR {w : sm_W} {a x : Nat} {j : Int} (h : x < w.1) (ha : x ≠ a) : wR (iW (opsLine a) w) x j = wR w x j := iW_R _ _ h (by
  unfold opsLine
  simp [Ne.symm ha]) j
theorem lnS {w : sm_W} {a x : Nat} (h : x < w.1) : wS (iW (opsLine a) w) x = wS w x := iW_S _ _ h
/-- n lines in a row r, the first of them the object b -/
def opsLns (b r : Nat) : Nat → List iOp
  | 0 => []
  | n + 1 => opsLns b r n ++ ((0, 2, 0, 9) :: opsLine (b + 8 * n) ++ [(1, r, (n : Int), b + 8 * n)])
theorem lns_s (b r n : Nat) (w : sm_W) : iW (opsLns b r (n + 1)) w = wsR (iW (opsLine (b + 8 * n)) (wNw (iW (opsLns b r n) w) 2 9)) r n (b + 8 * n) := by
  show iW (opsLns b r n ++ ((0, 2, 0, 9) :: opsLine (b + 8 * n) ++ [(1, r, (n : Int), b + 8 * n)])) w = _
  rw [iW_app, iW_app]
  rfl
theorem lns_in (b r : Nat) (w : sm_W) (hw : w.1 = b) (hr : r < b) : ∀ n : Nat, (iW (opsLns b r n) w).1 = b + 8 * n ∧ (∀ x, x < b → wS (iW (opsLns b r n) w) x = wS w x) ∧ (∀ x j, x < b → x ≠ r → wR (iW (opsLns b r n) w) x j = wR w x j)
  | 0 => ⟨by show w.1 = _; omega, fun _ _ => rfl, fun _ _ _ _ => rfl⟩
  | n + 1 => by
    have ih := lns_in b r w hw hr n
    rw [lns_s]
    generalize iW (opsLns b r n) w = u at *
    refine ⟨by rw [wsR_n, ln_n, wNw_n]; omega, fun x hx => ?_, fun x j hx hxr => ?_⟩
    · rw [wS_wsR, lnS (by rw [wNw_n]; omega), wS_wNw, if_neg (by omega)]
      exact ih.2.1 x hx
    · rw [wR_wsR, if_neg (fun e => hxr e.1), lnR (by rw [wNw_n]; omega) (by omega), wR_wNw, if_neg (by omega)]
      exact ih.2.2 x j hx hxr
def opsHist : List iOp := [(0, 12, 0, 6), (1, 86, 1, 87)] ++ opsLns 88 87 6
def hist0 (w : sm_W) : sm_W := wsR (wNw w 12 6) 86 1 87
theorem hist_eq (w : sm_W) : iW opsHist w = iW (opsLns 88 87 6) (hist0 w) := by
  unfold opsHist
  rw [iW_app]
  rfl
def p_X1_init : List sm_V → sm_W → Prop
  | [.inr (.inl a)], w => a = 86 ∧ w.1 = 87 ∧ wS w 86 = (1, 2)
  | _, _ => False
def f_X1_init : sm_F
  | [.inr (.inl a)], w => (none, iW opsHist w)
  | _, w => (none, w)
def tb_X1_init : List (Nat × List sm_O) := [(0, [oA 0, oObj, oA 0, oK 6, oNa 12, oPr 1 2 1, oK 0, oIs 1, oGo 15]),
  (15, [oI 1, oK 6, oGe 40, oA 0, oGr 1 2 1, oI 1, oNew 2 9, oDup, oCi p_X2_init f_X2_init 7 55 1, oRst, oInc 1 1, oGo 15]),
  (40, [oVr])]
set_option maxRecDepth 100000 in
theorem sb_X1_init_0 (l : Launch) : sm_SndB l RX1 "<init>" cX1_init 2 0 2 0 [oA 0, oObj, oA 0, oK 6, oNa 12, oPr 1 2 1, oK 0, oIs 1, oGo 15] := sb_cons (sd_aload_n (by decide +kernel : decode cX1_init 0 = .ok (.aload_n 0, 1)) rfl) (sb_cons (sd_obj (by decide) wm_139 wm_20 wm_21 (by decide +kernel : decode cX1_init 1 = .ok (.invokespecial 3, 3))) (sb_cons (sd_aload_n (by decide +kernel : decode cX1_init 4 = .ok (.aload_n 0, 1)) rfl) (sb_cons (sd_bipush (by decide +kernel : decode cX1_init 5 = .ok (.bipush 6, 2)) ⟨by decide, by decide⟩ (by decide)) (sb_cons (sd_anew wm_140 (by decide +kernel : decode cX1_init 7 = .ok (.anewarray 9, 3))) (sb_cons (sd_putr (k := 1) kl_1 (by decide) rfl (fun _ => ⟨rfl, rfl⟩) (Or.inr ⟨rfl, rfl⟩) wm_144 (by decide +kernel : decode cX1_init 10 = .ok (.putfield 11, 3))) (sb_cons (sd_iconst (by decide +kernel : decode cX1_init 13 = .ok (.iconst 0, 1)) ⟨by decide, by decide⟩) (sb_cons (sd_istore_n (by decide +kernel : decode cX1_init 14 = .ok (.istore_n 1, 1)) rfl) (sb_cons (sd_fall (x := 0)) sb_nil))))))))
set_option maxRecDepth 100000 in
theorem sb_X1_init_15 (l : Launch) : sm_SndB l RX1 "<init>" cX1_init 2 0 2 15 [oI 1, oK 6, oGe 40, oA 0, oGr 1 2 1, oI 1, oNew 2 9, oDup, oCi p_X2_init f_X2_init 7 55 1, oRst, oInc 1 1, oGo 15] := sb_cons (sd_iload_n (by decide +kernel : decode cX1_init 15 = .ok (.iload_n 1, 1)) rfl) (sb_cons (sd_bipush (by decide +kernel : decode cX1_init 16 = .ok (.bipush 6, 2)) ⟨by decide, by decide⟩ (by decide)) (sb_cons (sd_ge (by decide +kernel : decode cX1_init 18 = .ok (.if_icmp .ge 22, 3)) (by decide)) (sb_cons (sd_aload_n (by decide +kernel : decode cX1_init 21 = .ok (.aload_n 0, 1)) rfl) (sb_cons (sd_getr (k := 1) kl_1 (by decide) rfl wm_144 (by decide +kernel : decode cX1_init 22 = .ok (.getfield 11, 3))) (sb_cons (sd_iload_n (by decide +kernel : decode cX1_init 25 = .ok (.iload_n 1, 1)) rfl) (sb_cons (sd_new kl_2 wm_140 wm_29 wm_3 (by decide +kernel : decode cX1_init 26 = .ok (.new 9, 3))) (sb_cons (sd_dup (by decide +kernel : decode cX1_init 29 = .ok (.dup, 1))) (sb_cons (sd_calli (n := 0) (met_X2_init l) (by decide) (by decide) wm_32 wm_141 wm_3 ⟨by decide +kernel, by decide +kernel, by decide +kernel⟩ rfl wm_31 (by decide +kernel : decode cX1_init 30 = .ok (.invokespecial 17, 3))) (sb_cons (sd_aastore (by decide +kernel : decode cX1_init 33 = .ok (.aastore, 1))) (sb_cons (sd_iinc (by decide +kernel : decode cX1_init 34 = .ok (.iinc 1 1, 3))) (sb_cons (sd_goto (x := 0) (by decide +kernel : decode cX1_init 37 = .ok (.goto (-22), 3)) (by decide)) sb_nil)))))))))))
set_option maxRecDepth 100000 in
theorem sb_X1_init_40 (l : Launch) : sm_SndB l RX1 "<init>" cX1_init 2 0 2 40 [oVr] := sb_cons (sd_return (x := 0) rfl (by decide +kernel : decode cX1_init 40 = .ok (.return_, 1))) sb_nil
theorem sn_X1_init (l : Launch) : sm_SndT l RX1 "<init>" cX1_init 2 0 2 tb_X1_init := st_cons (sb_X1_init_0 l) (st_cons (sb_X1_init_15 l) (st_cons (sb_X1_init_40 l) (st_nil)))
set_option maxRecDepth 100000 in
set_option maxHeartbeats 4000000 in
theorem ok_X1_init : sm_Ok tb_X1_init 2 49 390 p_X1_init f_X1_init := by
  intro as w hp ha hw
  match as, hp with
  | [.inr (.inl a)], hp =>
  refine ⟨Nat.le_of_ble_eq_true rfl, fun Z hZ => ?_⟩
  obtain ⟨rfl, hn, hs⟩ := hp
  have hE := hist_eq w
  have h0n : (hist0 w).1 = 88 := by
    show w.1 + 1 = 88
    omega
  have h0s : wS (hist0 w) 86 = (1, 2) := by
    show (if 86 = w.1 then (12, 6) else wS w 86) = _
    rw [if_neg (by omega), hs]
  have h0t : wS (hist0 w) 87 = (12, 6) := by
    show (if 87 = w.1 then (12, 6) else wS w 87) = _
    rw [if_pos hn.symm]
  have h0r : wR (hist0 w) 86 1 = some 87 := by
    unfold hist0
    rw [wR_wsR, if_pos ⟨rfl, rfl⟩]
  generalize hEe : iW opsHist w = E at *
  have main : ∀ n s : Nat, s + n = 6 → Z 15 [some (.inr (.inl 86)), some (.inl (s : Int))] [] (iW (opsLns 88 87 s) (hist0 w)) (1 + 8 * s) (6 + 64 * s) := by
    intro n
    induction n with
    | zero =>
      intro s hsn
      have hs6 : s = 6 := by omega
      subst hs6
      rw [← hE]
      refine hZ (fun u => Nat.beq u 15) 14 15 _ _ _ _ _ ?_
      simp only [sm_run, sm_blk, sm_get, sm_ent, sm_ents, sm_wds, sm_wd, sm_nl, sm_pop, sm_back, sm_cases, oK, oLK, oL, oI, oA, oJ, oIs, oAs, oJs, oInc, oAdd, oSub, oMul, oDiv, oRem, oNeg, oAnd, oAndB, oOr, oShl, oI2c, oI2l, oL2i, oLand, oLor, oLshl, oLshr, oLushr, oLcmp, oDup, oDup2, oPop, oGo, oFg, oEq, oNe, oLt, oGe, oGt, oLe, oEq0, oNe0, oLt0, oGe0, oGt0, oLe0, oSw, oGi, oGr, oPi, oPz, oPr, oLen, oIl, oZl, oCl, oRl, oIst, oZst, oCst, oRst, oCopy, oNew, oNa, oNa2, oObj, oCs, oCv, oCi, oIr, oZr, oVr, Nat.beq, List.getElem?_cons_zero, List.getElem?_cons_succ, List.set_cons_zero, List.set_cons_succ, List.length_cons, List.length_nil, List.nil_append, List.cons_append, List.append_nil, List.replicate_succ, List.replicate_zero, Nat.reduceAdd, Nat.reduceSub, Nat.reduceLT, Nat.reduceLeDiff, Nat.reduceBEq, true_and, and_true, Nat.zero_add, Nat.add_zero, Nat.le_refl, Option.some.injEq, exists_eq_left', true_or, or_true, or_false, false_or, reduceCtorEq, Prod.mk.injEq, Sum.inl.injEq, and_self, false_and, and_false, not_true_eq_false, not_false_eq_true, false_implies, true_implies, sm_r, Int.add_zero, Int.zero_add, wI_wsI, wS_wsI, wR_wsI, wI_wCp, wS_wCp, wR_wCp, Nat.reduceEqDiff, reduceIte, sT_iff, sT_iffC, wIf_ne, ne_eq, Bool.false_or, Bool.true_or, Bool.or_false, Bool.or_true, Bool.or_self, Nat.left_eq_add, Nat.add_eq_left, Nat.add_left_inj, oMax, oMin, oAbs, tb_X1_init, p_X2_init, f_X2_init, p_X1_init, f_X1_init, hEe]
      repeat' (first | exact True.intro | with_reducible assumption | with_reducible refine And.intro ?_ ?_ | intro _)
      all_goals first
        | omega
        | assumption
        | rfl
        | (split <;> omega)
        | (have k9 := ih (by omega)
           (repeat' split at k9) <;> first | exact k9 | omega)
        | (have k9 := ih2 (by omega)
           (repeat' split at k9) <;> first | exact k9 | omega)
        | exact he (by omega)
        | ((with_reducible congr 1) <;> omega)
        | (rw [if_pos (by omega)] at he; exact he)
        | exact hD1 (by omega)
        | exact hD2 (by omega)
        | grind
        | skip
    | succ n ihn =>
      intro s hsn
      have ih := ihn (s + 1) (by omega)
      clear ihn
      have hin := lns_in 88 87 (hist0 w) h0n (by decide) s
      rw [lns_s, show 1 + 8 * (s + 1) = 1 + 8 * s + 1 + 7 by omega, show 6 + 64 * (s + 1) = 6 + 64 * s + 9 + 55 by omega, show ((s + 1 : Nat) : Int) = (s : Int) + 1 by omega] at ih
      have g86 : wS (iW (opsLns 88 87 s) (hist0 w)) 86 = (1, 2) := (hin.2.1 86 (by decide)).trans h0s
      have g87 : wS (iW (opsLns 88 87 s) (hist0 w)) 87 = (12, 6) := (hin.2.1 87 (by decide)).trans h0t
      have gr : wR (iW (opsLns 88 87 s) (hist0 w)) 86 1 = some 87 := (hin.2.2 86 1 (by decide) (by decide)).trans h0r
      have gn := hin.1
      clear hE
      generalize iW (opsLns 88 87 s) (hist0 w) = u at *
      have v1 : (wNw u 2 9).1 = 88 + 8 * s + 1 := by rw [wNw_n, gn]
      have vS : wS (wNw u 2 9) (88 + 8 * s) = (2, 9) := by rw [wS_wNw, if_pos gn.symm]
      have v86 : wS (wNw u 2 9) 86 = (1, 2) := by rw [wS_wNw, if_neg (by omega), g86]
      have v87 : wS (wNw u 2 9) 87 = (12, 6) := by rw [wS_wNw, if_neg (by omega), g87]
      have vr : wR (wNw u 2 9) 86 1 = some 87 := by rw [wR_wNw, if_neg (by omega), gr]
      have x87 : wS (iW (opsLine (88 + 8 * s)) (wNw u 2 9)) 87 = (12, 6) := (lnS (by omega)).trans v87
      have xS : wS (iW (opsLine (88 + 8 * s)) (wNw u 2 9)) (88 + 8 * s) = (2, 9) := (lnS (by omega)).trans vS
      refine hZ (fun u => Nat.beq u 15) 14 15 _ _ _ _ _ ?_
      simp only [sm_run, sm_blk, sm_get, sm_ent, sm_ents, sm_wds, sm_wd, sm_nl, sm_pop, sm_back, sm_cases, oK, oLK, oL, oI, oA, oJ, oIs, oAs, oJs, oInc, oAdd, oSub, oMul, oDiv, oRem, oNeg, oAnd, oAndB, oOr, oShl, oI2c, oI2l, oL2i, oLand, oLor, oLshl, oLshr, oLushr, oLcmp, oDup, oDup2, oPop, oGo, oFg, oEq, oNe, oLt, oGe, oGt, oLe, oEq0, oNe0, oLt0, oGe0, oGt0, oLe0, oSw, oGi, oGr, oPi, oPz, oPr, oLen, oIl, oZl, oCl, oRl, oIst, oZst, oCst, oRst, oCopy, oNew, oNa, oNa2, oObj, oCs, oCv, oCi, oIr, oZr, oVr, Nat.beq, List.getElem?_cons_zero, List.getElem?_cons_succ, List.set_cons_zero, List.set_cons_succ, List.length_cons, List.length_nil, List.nil_append, List.cons_append, List.append_nil, List.replicate_succ, List.replicate_zero, Nat.reduceAdd, Nat.reduceSub, Nat.reduceLT, Nat.reduceLeDiff, Nat.reduceBEq, true_and, and_true, Nat.zero_add, Nat.add_zero, Nat.le_refl, Option.some.injEq, exists_eq_left', true_or, or_true, or_false, false_or, reduceCtorEq, Prod.mk.injEq, Sum.inl.injEq, and_self, false_and, and_false, not_true_eq_false, not_false_eq_true, false_implies, true_implies, sm_r, Int.add_zero, Int.zero_add, wI_wsI, wS_wsI, wR_wsI, wI_wCp, wS_wCp, wR_wCp, Nat.reduceEqDiff, reduceIte, sT_iff, sT_iffC, wIf_ne, ne_eq, Bool.false_or, Bool.true_or, Bool.or_false, Bool.or_true, Bool.or_self, Nat.left_eq_add, Nat.add_eq_left, Nat.add_left_inj, oMax, oMin, oAbs, tb_X1_init, p_X2_init, f_X2_init, p_X1_init, f_X1_init, g86, gr, gn, v1, vS, x87, xS]
      repeat' (first | exact True.intro | with_reducible assumption | with_reducible refine And.intro ?_ ?_ | intro _)
      all_goals first
        | omega
        | assumption
        | rfl
        | (split <;> omega)
        | (have k9 := ih (by omega)
           (repeat' split at k9) <;> first | exact k9 | omega)
        | (have k9 := ih2 (by omega)
           (repeat' split at k9) <;> first | exact k9 | omega)
        | exact he (by omega)
        | ((with_reducible congr 1) <;> omega)
        | (rw [if_pos (by omega)] at he; exact he)
        | exact hD1 (by omega)
        | exact hD2 (by omega)
        | grind
        | skip
  have h9 := main 6 0 rfl
  have h9 : Z 15 [some (.inr (.inl 86)), some (.inl 0)] [] (hist0 w) 1 6 := h9
  unfold hist0 at h9
  clear main
  refine hZ (fun u => Nat.beq u 15) 14 0 _ _ _ _ _ ?_
  simp only [sm_run, sm_blk, sm_get, sm_ent, sm_ents, sm_wds, sm_wd, sm_nl, sm_pop, sm_back, sm_cases, oK, oLK, oL, oI, oA, oJ, oIs, oAs, oJs, oInc, oAdd, oSub, oMul, oDiv, oRem, oNeg, oAnd, oAndB, oOr, oShl, oI2c, oI2l, oL2i, oLand, oLor, oLshl, oLshr, oLushr, oLcmp, oDup, oDup2, oPop, oGo, oFg, oEq, oNe, oLt, oGe, oGt, oLe, oEq0, oNe0, oLt0, oGe0, oGt0, oLe0, oSw, oGi, oGr, oPi, oPz, oPr, oLen, oIl, oZl, oCl, oRl, oIst, oZst, oCst, oRst, oCopy, oNew, oNa, oNa2, oObj, oCs, oCv, oCi, oIr, oZr, oVr, Nat.beq, List.getElem?_cons_zero, List.getElem?_cons_succ, List.set_cons_zero, List.set_cons_succ, List.length_cons, List.length_nil, List.nil_append, List.cons_append, List.append_nil, List.replicate_succ, List.replicate_zero, Nat.reduceAdd, Nat.reduceSub, Nat.reduceLT, Nat.reduceLeDiff, Nat.reduceBEq, true_and, and_true, Nat.zero_add, Nat.add_zero, Nat.le_refl, Option.some.injEq, exists_eq_left', true_or, or_true, or_false, false_or, reduceCtorEq, Prod.mk.injEq, Sum.inl.injEq, and_self, false_and, and_false, not_true_eq_false, not_false_eq_true, false_implies, true_implies, sm_r, Int.add_zero, Int.zero_add, wI_wsI, wS_wsI, wR_wsI, wI_wCp, wS_wCp, wR_wCp, Nat.reduceEqDiff, reduceIte, sT_iff, sT_iffC, wIf_ne, ne_eq, Bool.false_or, Bool.true_or, Bool.or_false, Bool.or_true, Bool.or_self, Nat.left_eq_add, Nat.add_eq_left, Nat.add_left_inj, oMax, oMin, oAbs, tb_X1_init, p_X2_init, f_X2_init, p_X1_init, f_X1_init, hs, hn, wNw_n, wS_wNw, Nat.reduceAdd, Int.reduceToNat]
  repeat' (first | exact True.intro | with_reducible assumption | with_reducible refine And.intro ?_ ?_ | intro _)
  all_goals first
    | omega
    | assumption
    | rfl
    | (split <;> omega)
    | (have k9 := ih (by omega)
       (repeat' split at k9) <;> first | exact k9 | omega)
    | (have k9 := ih2 (by omega)
       (repeat' split at k9) <;> first | exact k9 | omega)
    | exact he (by omega)
    | ((with_reducible congr 1) <;> omega)
    | (rw [if_pos (by omega)] at he; exact he)
    | exact hD1 (by omega)
    | exact hD2 (by omega)
    | skip

theorem met_X1_init (l : Launch) : sm_Met l yX1_init cX1_init 2 none 2 49 390 p_X1_init f_X1_init := sm_met 0 (Or.inl ⟨rfl, rfl⟩) (by decide +kernel) (sn_X1_init l) ok_X1_init