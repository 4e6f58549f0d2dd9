/-! THE LAW: its loop -/
section
variable {PL : Option sm_V → sm_W → Prop} {mc ms : Nat} {Z : Nat → sm_K} {k0 q0 : Nat} {L : Nat} {w : sm_W} {i : Int}
set_option maxRecDepth 100000 in
set_option maxHeartbeats 4000000 in
theorem zl_first (hZ : ∀ stop n t ls st w' k q, sm_run (sm_get tb_L_law) (PL, mc, ms) stop Z n t ls st w' k q → Z t ls st w' k q) (hk : k0 ≤ mc) (hq : q0 ≤ ms) (h : Rel w w) (hS : wS w 1000 = (14, L)) (hL : L ≤ 3072) (i0 : 0 ≤ i) (i1 : i + 6 ≤ L) (ih : ∀ z, Rel z z → wS z 1000 = (14, L) → wI z 1000 = wI w 1000 → Z 873 [some (.inr (.inl 1000)), some (.inr (.inl 0)), some (.inr (.inl 154)), some (.inl i)] [] z k0 q0) : Z 148 [some (.inr (.inl 1000)), some (.inr (.inl 0)), some (.inr (.inl 154)), some (.inl i)] [] w k0 q0 := by
  have hT := h.1.1.1.1
  obtain ⟨p1, A, u, z, e1, tu, su, iu, p2, e2, hR, sz, iz⟩ := lw_first h (wI w 1000 (i + 1))
  have ih := ih z hR (by rw [sz]; exact hS) iz
  have s1 : wS u 1000 = (14, L) := by rw [su]; exact hS
  refine hZ (fun u => Nat.beq u 873) 14 148 _ _ _ _ _ ?_
  simp only [sm_run, sm_blk, sm_get, sm_ent, sm_ents, sm_wds, sm_wd, sm_nl, sm_pop, sm_back, sm_cases, oK, oLK, oL, oI, oA, oJ, oIs, oAs, oJs, oInc, oAdd, oSub, oMul, oDiv, oRem, oNeg, oAnd, oAndB, oOr, oShl, oI2c, oI2l, oL2i, oLand, oLor, oLshl, oLshr, oLushr, oLcmp, oDup, oDup2, oPop, oGo, oFg, oEq, oNe, oLt, oGe, oGt, oLe, oEq0, oNe0, oLt0, oGe0, oGt0, oLe0, oSw, oGi, oGr, oPi, oPz, oPr, oLen, oIl, oZl, oCl, oRl, oIst, oZst, oCst, oRst, oCopy, oNew, oNa, oNa2, oObj, oCs, oCv, oCi, oIr, oZr, oVr, Nat.beq, List.getElem?_cons_zero, List.getElem?_cons_succ, List.set_cons_zero, List.set_cons_succ, List.length_cons, List.length_nil, List.nil_append, List.cons_append, List.append_nil, List.replicate_succ, List.replicate_zero, Nat.reduceAdd, Nat.reduceSub, Nat.reduceLT, Nat.reduceLeDiff, Nat.reduceBEq, true_and, and_true, Nat.zero_add, Nat.add_zero, Nat.le_refl, Option.some.injEq, exists_eq_left', true_or, or_true, or_false, false_or, reduceCtorEq, Prod.mk.injEq, Sum.inl.injEq, and_self, false_and, and_false, not_true_eq_false, not_false_eq_true, false_implies, true_implies, sm_r, Int.add_zero, Int.zero_add, wI_wsI, wS_wsI, wR_wsI, wI_wCp, wS_wCp, wR_wCp, Nat.reduceEqDiff, reduceIte, sT_iff, sT_iffC, wIf_ne, ne_eq, Bool.false_or, Bool.true_or, Bool.or_false, Bool.or_true, Bool.or_self, Nat.left_eq_add, Nat.add_eq_left, Nat.add_left_inj, oMax, oMin, oAbs, tb_L_law, sS_0 hT, sS_154 tu, hS, s1, p1, e1, p2, e2, iu, Nat.reduceEqDiff]
  repeat' (first | exact True.intro | with_reducible assumption | with_reducible refine And.intro ?_ ?_ | intro _)
  all_goals first
    | omega
    | assumption
    | rfl
    | (split <;> omega)
    | (have k9 := ih (by omega)
       (repeat' split at k9) <;> first | exact k9 | omega)
    | (have k9 := ih2 (by omega)
       (repeat' split at k9) <;> first | exact k9 | omega)
    | exact he (by omega)
    | ((with_reducible congr 1) <;> omega)
    | (rw [if_pos (by omega)] at he; exact he)
    | exact hD1 (by omega)
    | exact hD2 (by omega)
    | skip
set_option maxRecDepth 100000 in
set_option maxHeartbeats 4000000 in
theorem zl_tracks (hZ : ∀ stop n t ls st w' k q, sm_run (sm_get tb_L_law) (PL, mc, ms) stop Z n t ls st w' k q → Z t ls st w' k q) (hk : k0 ≤ mc) (hq : q0 ≤ ms) (h : Rel w w) (hS : wS w 1000 = (14, L)) (hL : L ≤ 3072) (i0 : 0 ≤ i) (i1 : i + 6 ≤ L) (ih : ∀ z, Rel z z → wS z 1000 = (14, L) → wI z 1000 = wI w 1000 → Z 873 [some (.inr (.inl 1000)), some (.inr (.inl 0)), some (.inr (.inl 154)), some (.inl i)] [] z k0 q0) : Z 171 [some (.inr (.inl 1000)), some (.inr (.inl 0)), some (.inr (.inl 154)), some (.inl i)] [] w k0 q0 := by
  have hT := h.1.1.1.1
  obtain ⟨p1, A, u, z, e1, tu, su, iu, p2, e2, hR, sz, iz⟩ := lw_tracks h (wI w 1000 (i + 1)) (wI w 1000 (i + 2))
  have ih := ih z hR (by rw [sz]; exact hS) iz
  have s1 : wS u 1000 = (14, L) := by rw [su]; exact hS
  refine hZ (fun u => Nat.beq u 873) 14 171 _ _ _ _ _ ?_
  simp only [sm_run, sm_blk, sm_get, sm_ent, sm_ents, sm_wds, sm_wd, sm_nl, sm_pop, sm_back, sm_cases, oK, oLK, oL, oI, oA, oJ, oIs, oAs, oJs, oInc, oAdd, oSub, oMul, oDiv, oRem, oNeg, oAnd, oAndB, oOr, oShl, oI2c, oI2l, oL2i, oLand, oLor, oLshl, oLshr, oLushr, oLcmp, oDup, oDup2, oPop, oGo, oFg, oEq, oNe, oLt, oGe, oGt, oLe, oEq0, oNe0, oLt0, oGe0, oGt0, oLe0, oSw, oGi, oGr, oPi, oPz, oPr, oLen, oIl, oZl, oCl, oRl, oIst, oZst, oCst, oRst, oCopy, oNew, oNa, oNa2, oObj, oCs, oCv, oCi, oIr, oZr, oVr, Nat.beq, List.getElem?_cons_zero, List.getElem?_cons_succ, List.set_cons_zero, List.set_cons_succ, List.length_cons, List.length_nil, List.nil_append, List.cons_append, List.append_nil, List.replicate_succ, List.replicate_zero, Nat.reduceAdd, Nat.reduceSub, Nat.reduceLT, Nat.reduceLeDiff, Nat.reduceBEq, true_and, and_true, Nat.zero_add, Nat.add_zero, Nat.le_refl, Option.some.injEq, exists_eq_left', true_or, or_true, or_false, false_or, reduceCtorEq, Prod.mk.injEq, Sum.inl.injEq, and_self, false_and, and_false, not_true_eq_false, not_false_eq_true, false_implies, true_implies, sm_r, Int.add_zero, Int.zero_add, wI_wsI, wS_wsI, wR_wsI, wI_wCp, wS_wCp, wR_wCp, Nat.reduceEqDiff, reduceIte, sT_iff, sT_iffC, wIf_ne, ne_eq, Bool.false_or, Bool.true_or, Bool.or_false, Bool.or_true, Bool.or_self, Nat.left_eq_add, Nat.add_eq_left, Nat.add_left_inj, oMax, oMin, oAbs, tb_L_law, sS_0 hT, sS_154 tu, hS, s1, p1, e1, p2, e2, iu, Nat.reduceEqDiff]
  repeat' (first | exact True.intro | with_reducible assumption | with_reducible refine And.intro ?_ ?_ | intro _)
  all_goals first
    | omega
    | assumption
    | rfl
    | (split <;> omega)
    | (have k9 := ih (by omega)
       (repeat' split at k9) <;> first | exact k9 | omega)
    | (have k9 := ih2 (by omega)
       (repeat' split at k9) <;> first | exact k9 | omega)
    | exact he (by omega)
    | ((with_reducible congr 1) <;> omega)
    | (rw [if_pos (by omega)] at he; exact he)
    | exact hD1 (by omega)
    | exact hD2 (by omega)
    | skip
set_option maxRecDepth 100000 in
set_option maxHeartbeats 4000000 in
theorem zl_running (hZ : ∀ stop n t ls st w' k q, sm_run (sm_get tb_L_law) (PL, mc, ms) stop Z n t ls st w' k q → Z t ls st w' k q) (hk : k0 ≤ mc) (hq : q0 ≤ ms) (h : Rel w w) (hS : wS w 1000 = (14, L)) (hL : L ≤ 3072) (i0 : 0 ≤ i) (i1 : i + 6 ≤ L) (ih : ∀ z, Rel z z → wS z 1000 = (14, L) → wI z 1000 = wI w 1000 → Z 873 [some (.inr (.inl 1000)), some (.inr (.inl 0)), some (.inr (.inl 154)), some (.inl i)] [] z k0 q0) : Z 204 [some (.inr (.inl 1000)), some (.inr (.inl 0)), some (.inr (.inl 154)), some (.inl i)] [] w k0 q0 := by
  have hT := h.1.1.1.1
  obtain ⟨p1, A, u, z, e1, tu, su, iu, p2, e2, hR, sz, iz⟩ := lw_running h (wI w 1000 (i + 1)) (wI w 1000 (i + 2))
  have ih := ih z hR (by rw [sz]; exact hS) iz
  have s1 : wS u 1000 = (14, L) := by rw [su]; exact hS
  refine hZ (fun u => Nat.beq u 873) 14 204 _ _ _ _ _ ?_
  simp only [sm_run, sm_blk, sm_get, sm_ent, sm_ents, sm_wds, sm_wd, sm_nl, sm_pop, sm_back, sm_cases, oK, oLK, oL, oI, oA, oJ, oIs, oAs, oJs, oInc, oAdd, oSub, oMul, oDiv, oRem, oNeg, oAnd, oAndB, oOr, oShl, oI2c, oI2l, oL2i, oLand, oLor, oLshl, oLshr, oLushr, oLcmp, oDup, oDup2, oPop, oGo, oFg, oEq, oNe, oLt, oGe, oGt, oLe, oEq0, oNe0, oLt0, oGe0, oGt0, oLe0, oSw, oGi, oGr, oPi, oPz, oPr, oLen, oIl, oZl, oCl, oRl, oIst, oZst, oCst, oRst, oCopy, oNew, oNa, oNa2, oObj, oCs, oCv, oCi, oIr, oZr, oVr, Nat.beq, List.getElem?_cons_zero, List.getElem?_cons_succ, List.set_cons_zero, List.set_cons_succ, List.length_cons, List.length_nil, List.nil_append, List.cons_append, List.append_nil, List.replicate_succ, List.replicate_zero, Nat.reduceAdd, Nat.reduceSub, Nat.reduceLT, Nat.reduceLeDiff, Nat.reduceBEq, true_and, and_true, Nat.zero_add, Nat.add_zero, Nat.le_refl, Option.some.injEq, exists_eq_left', true_or, or_true, or_false, false_or, reduceCtorEq, Prod.mk.injEq, Sum.inl.injEq, and_self, false_and, and_false, not_true_eq_false, not_false_eq_true, false_implies, true_implies, sm_r, Int.add_zero, Int.zero_add, wI_wsI, wS_wsI, wR_wsI, wI_wCp, wS_wCp, wR_wCp, Nat.reduceEqDiff, reduceIte, sT_iff, sT_iffC, wIf_ne, ne_eq, Bool.false_or, Bool.true_or, Bool.or_false, Bool.or_true, Bool.or_self, Nat.left_eq_add, Nat.add_eq_left, Nat.add_left_inj, oMax, oMin, oAbs, tb_L_law, sS_0 hT, sS_154 tu, hS, s1, p1, e1, p2, e2, iu, Nat.reduceEqDiff]
  repeat' (first | exact True.intro | with_reducible assumption | with_reducible refine And.intro ?_ ?_ | intro _)
  all_goals first
    | omega
    | assumption
    | rfl
    | (split <;> omega)
    | (have k9 := ih (by omega)
       (repeat' split at k9) <;> first | exact k9 | omega)
    | (have k9 := ih2 (by omega)
       (repeat' split at k9) <;> first | exact k9 | omega)
    | exact he (by omega)
    | ((with_reducible congr 1) <;> omega)
    | (rw [if_pos (by omega)] at he; exact he)
    | exact hD1 (by omega)
    | exact hD2 (by omega)
    | skip
set_option maxRecDepth 100000 in
set_option maxHeartbeats 4000000 in
theorem zl_shuttle (hZ : ∀ stop n t ls st w' k q, sm_run (sm_get tb_L_law) (PL, mc, ms) stop Z n t ls st w' k q → Z t ls st w' k q) (hk : k0 ≤ mc) (hq : q0 ≤ ms) (h : Rel w w) (hS : wS w 1000 = (14, L)) (hL : L ≤ 3072) (i0 : 0 ≤ i) (i1 : i + 6 ≤ L) (ih : ∀ z, Rel z z → wS z 1000 = (14, L) → wI z 1000 = wI w 1000 → Z 873 [some (.inr (.inl 1000)), some (.inr (.inl 0)), some (.inr (.inl 154)), some (.inl i)] [] z k0 q0) : Z 237 [some (.inr (.inl 1000)), some (.inr (.inl 0)), some (.inr (.inl 154)), some (.inl i)] [] w k0 q0 := by
  have hT := h.1.1.1.1
  obtain ⟨p1, A, u, z, e1, tu, su, iu, p2, e2, hR, sz, iz⟩ := lw_shuttle h (wI w 1000 (i + 1)) (wI w 1000 (i + 2)) (wI w 1000 (i + 3)) (wI w 1000 (i + 4)) (wI w 1000 (i + 5))
  have ih := ih z hR (by rw [sz]; exact hS) iz
  have s1 : wS u 1000 = (14, L) := by rw [su]; exact hS
  refine hZ (fun u => Nat.beq u 873) 14 237 _ _ _ _ _ ?_
  simp only [sm_run, sm_blk, sm_get, sm_ent, sm_ents, sm_wds, sm_wd, sm_nl, sm_pop, sm_back, sm_cases, oK, oLK, oL, oI, oA, oJ, oIs, oAs, oJs, oInc, oAdd, oSub, oMul, oDiv, oRem, oNeg, oAnd, oAndB, oOr, oShl, oI2c, oI2l, oL2i, oLand, oLor, oLshl, oLshr, oLushr, oLcmp, oDup, oDup2, oPop, oGo, oFg, oEq, oNe, oLt, oGe, oGt, oLe, oEq0, oNe0, oLt0, oGe0, oGt0, oLe0, oSw, oGi, oGr, oPi, oPz, oPr, oLen, oIl, oZl, oCl, oRl, oIst, oZst, oCst, oRst, oCopy, oNew, oNa, oNa2, oObj, oCs, oCv, oCi, oIr, oZr, oVr, Nat.beq, List.getElem?_cons_zero, List.getElem?_cons_succ, List.set_cons_zero, List.set_cons_succ, List.length_cons, List.length_nil, List.nil_append, List.cons_append, List.append_nil, List.replicate_succ, List.replicate_zero, Nat.reduceAdd, Nat.reduceSub, Nat.reduceLT, Nat.reduceLeDiff, Nat.reduceBEq, true_and, and_true, Nat.zero_add, Nat.add_zero, Nat.le_refl, Option.some.injEq, exists_eq_left', true_or, or_true, or_false, false_or, reduceCtorEq, Prod.mk.injEq, Sum.inl.injEq, and_self, false_and, and_false, not_true_eq_false, not_false_eq_true, false_implies, true_implies, sm_r, Int.add_zero, Int.zero_add, wI_wsI, wS_wsI, wR_wsI, wI_wCp, wS_wCp, wR_wCp, Nat.reduceEqDiff, reduceIte, sT_iff, sT_iffC, wIf_ne, ne_eq, Bool.false_or, Bool.true_or, Bool.or_false, Bool.or_true, Bool.or_self, Nat.left_eq_add, Nat.add_eq_left, Nat.add_left_inj, oMax, oMin, oAbs, tb_L_law, sS_0 hT, sS_154 tu, hS, s1, p1, e1, p2, e2, iu, Nat.reduceEqDiff]
  repeat' (first | exact True.intro | with_reducible assumption | with_reducible refine And.intro ?_ ?_ | intro _)
  all_goals first
    | omega
    | assumption
    | rfl
    | (split <;> omega)
    | (have k9 := ih (by omega)
       (repeat' split at k9) <;> first | exact k9 | omega)
    | (have k9 := ih2 (by omega)
       (repeat' split at k9) <;> first | exact k9 | omega)
    | exact he (by omega)
    | ((with_reducible congr 1) <;> omega)
    | (rw [if_pos (by omega)] at he; exact he)
    | exact hD1 (by omega)
    | exact hD2 (by omega)
    | skip
set_option maxRecDepth 100000 in
set_option maxHeartbeats 4000000 in
theorem zl_late (hZ : ∀ stop n t ls st w' k q, sm_run (sm_get tb_L_law) (PL, mc, ms) stop Z n t ls st w' k q → Z t ls st w' k q) (hk : k0 ≤ mc) (hq : q0 ≤ ms) (h : Rel w w) (hS : wS w 1000 = (14, L)) (hL : L ≤ 3072) (i0 : 0 ≤ i) (i1 : i + 6 ≤ L) (ih : ∀ z, Rel z z → wS z 1000 = (14, L) → wI z 1000 = wI w 1000 → Z 873 [some (.inr (.inl 1000)), some (.inr (.inl 0)), some (.inr (.inl 154)), some (.inl i)] [] z k0 q0) : Z 300 [some (.inr (.inl 1000)), some (.inr (.inl 0)), some (.inr (.inl 154)), some (.inl i)] [] w k0 q0 := by
  have hT := h.1.1.1.1
  obtain ⟨p1, A, u, z, e1, tu, su, iu, p2, e2, hR, sz, iz⟩ := lw_late h (wI w 1000 (i + 1)) (wI w 1000 (i + 2))
  have ih := ih z hR (by rw [sz]; exact hS) iz
  have s1 : wS u 1000 = (14, L) := by rw [su]; exact hS
  refine hZ (fun u => Nat.beq u 873) 14 300 _ _ _ _ _ ?_
  simp only [sm_run, sm_blk, sm_get, sm_ent, sm_ents, sm_wds, sm_wd, sm_nl, sm_pop, sm_back, sm_cases, oK, oLK, oL, oI, oA, oJ, oIs, oAs, oJs, oInc, oAdd, oSub, oMul, oDiv, oRem, oNeg, oAnd, oAndB, oOr, oShl, oI2c, oI2l, oL2i, oLand, oLor, oLshl, oLshr, oLushr, oLcmp, oDup, oDup2, oPop, oGo, oFg, oEq, oNe, oLt, oGe, oGt, oLe, oEq0, oNe0, oLt0, oGe0, oGt0, oLe0, oSw, oGi, oGr, oPi, oPz, oPr, oLen, oIl, oZl, oCl, oRl, oIst, oZst, oCst, oRst, oCopy, oNew, oNa, oNa2, oObj, oCs, oCv, oCi, oIr, oZr, oVr, Nat.beq, List.getElem?_cons_zero, List.getElem?_cons_succ, List.set_cons_zero, List.set_cons_succ, List.length_cons, List.length_nil, List.nil_append, List.cons_append, List.append_nil, List.replicate_succ, List.replicate_zero, Nat.reduceAdd, Nat.reduceSub, Nat.reduceLT, Nat.reduceLeDiff, Nat.reduceBEq, true_and, and_true, Nat.zero_add, Nat.add_zero, Nat.le_refl, Option.some.injEq, exists_eq_left', true_or, or_true, or_false, false_or, reduceCtorEq, Prod.mk.injEq, Sum.inl.injEq, and_self, false_and, and_false, not_true_eq_false, not_false_eq_true, false_implies, true_implies, sm_r, Int.add_zero, Int.zero_add, wI_wsI, wS_wsI, wR_wsI, wI_wCp, wS_wCp, wR_wCp, Nat.reduceEqDiff, reduceIte, sT_iff, sT_iffC, wIf_ne, ne_eq, Bool.false_or, Bool.true_or, Bool.or_false, Bool.or_true, Bool.or_self, Nat.left_eq_add, Nat.add_eq_left, Nat.add_left_inj, oMax, oMin, oAbs, tb_L_law, sS_0 hT, sS_154 tu, hS, s1, p1, e1, p2, e2, iu, Nat.reduceEqDiff]
  repeat' (first | exact True.intro | with_reducible assumption | with_reducible refine And.intro ?_ ?_ | intro _)
  all_goals first
    | omega
    | assumption
    | rfl
    | (split <;> omega)
    | (have k9 := ih (by omega)
       (repeat' split at k9) <;> first | exact k9 | omega)
    | (have k9 := ih2 (by omega)
       (repeat' split at k9) <;> first | exact k9 | omega)
    | exact he (by omega)
    | ((with_reducible congr 1) <;> omega)
    | (rw [if_pos (by omega)] at he; exact he)
    | exact hD1 (by omega)
    | exact hD2 (by omega)
    | skip
set_option maxRecDepth 100000 in
set_option maxHeartbeats 4000000 in
theorem zl_prefer (hZ : ∀ stop n t ls st w' k q, sm_run (sm_get tb_L_law) (PL, mc, ms) stop Z n t ls st w' k q → Z t ls st w' k q) (hk : k0 ≤ mc) (hq : q0 ≤ ms) (h : Rel w w) (hS : wS w 1000 = (14, L)) (hL : L ≤ 3072) (i0 : 0 ≤ i) (i1 : i + 6 ≤ L) (ih : ∀ z, Rel z z → wS z 1000 = (14, L) → wI z 1000 = wI w 1000 → Z 873 [some (.inr (.inl 1000)), some (.inr (.inl 0)), some (.inr (.inl 154)), some (.inl i)] [] z k0 q0) : Z 333 [some (.inr (.inl 1000)), some (.inr (.inl 0)), some (.inr (.inl 154)), some (.inl i)] [] w k0 q0 := by
  have hT := h.1.1.1.1
  obtain ⟨p1, A, u, z, e1, tu, su, iu, p2, e2, hR, sz, iz⟩ := lw_prefer h (wI w 1000 (i + 1)) (wI w 1000 (i + 2))
  have ih := ih z hR (by rw [sz]; exact hS) iz
  have s1 : wS u 1000 = (14, L) := by rw [su]; exact hS
  refine hZ (fun u => Nat.beq u 873) 14 333 _ _ _ _ _ ?_
  simp only [sm_run, sm_blk, sm_get, sm_ent, sm_ents, sm_wds, sm_wd, sm_nl, sm_pop, sm_back, sm_cases, oK, oLK, oL, oI, oA, oJ, oIs, oAs, oJs, oInc, oAdd, oSub, oMul, oDiv, oRem, oNeg, oAnd, oAndB, oOr, oShl, oI2c, oI2l, oL2i, oLand, oLor, oLshl, oLshr, oLushr, oLcmp, oDup, oDup2, oPop, oGo, oFg, oEq, oNe, oLt, oGe, oGt, oLe, oEq0, oNe0, oLt0, oGe0, oGt0, oLe0, oSw, oGi, oGr, oPi, oPz, oPr, oLen, oIl, oZl, oCl, oRl, oIst, oZst, oCst, oRst, oCopy, oNew, oNa, oNa2, oObj, oCs, oCv, oCi, oIr, oZr, oVr, Nat.beq, List.getElem?_cons_zero, List.getElem?_cons_succ, List.set_cons_zero, List.set_cons_succ, List.length_cons, List.length_nil, List.nil_append, List.cons_append, List.append_nil, List.replicate_succ, List.replicate_zero, Nat.reduceAdd, Nat.reduceSub, Nat.reduceLT, Nat.reduceLeDiff, Nat.reduceBEq, true_and, and_true, Nat.zero_add, Nat.add_zero, Nat.le_refl, Option.some.injEq, exists_eq_left', true_or, or_true, or_false, false_or, reduceCtorEq, Prod.mk.injEq, Sum.inl.injEq, and_self, false_and, and_false, not_true_eq_false, not_false_eq_true, false_implies, true_implies, sm_r, Int.add_zero, Int.zero_add, wI_wsI, wS_wsI, wR_wsI, wI_wCp, wS_wCp, wR_wCp, Nat.reduceEqDiff, reduceIte, sT_iff, sT_iffC, wIf_ne, ne_eq, Bool.false_or, Bool.true_or, Bool.or_false, Bool.or_true, Bool.or_self, Nat.left_eq_add, Nat.add_eq_left, Nat.add_left_inj, oMax, oMin, oAbs, tb_L_law, sS_0 hT, sS_154 tu, hS, s1, p1, e1, p2, e2, iu, Nat.reduceEqDiff]
  repeat' (first | exact True.intro | with_reducible assumption | with_reducible refine And.intro ?_ ?_ | intro _)
  all_goals first
    | omega
    | assumption
    | rfl
    | (split <;> omega)
    | (have k9 := ih (by omega)
       (repeat' split at k9) <;> first | exact k9 | omega)
    | (have k9 := ih2 (by omega)
       (repeat' split at k9) <;> first | exact k9 | omega)
    | exact he (by omega)
    | ((with_reducible congr 1) <;> omega)
    | (rw [if_pos (by omega)] at he; exact he)
    | exact hD1 (by omega)
    | exact hD2 (by omega)
    | skip
set_option maxRecDepth 100000 in
set_option maxHeartbeats 4000000 in
theorem zl_remove (hZ : ∀ stop n t ls st w' k q, sm_run (sm_get tb_L_law) (PL, mc, ms) stop Z n t ls st w' k q → Z t ls st w' k q) (hk : k0 ≤ mc) (hq : q0 ≤ ms) (h : Rel w w) (hS : wS w 1000 = (14, L)) (hL : L ≤ 3072) (i0 : 0 ≤ i) (i1 : i + 6 ≤ L) (ih : ∀ z, Rel z z → wS z 1000 = (14, L) → wI z 1000 = wI w 1000 → Z 873 [some (.inr (.inl 1000)), some (.inr (.inl 0)), some (.inr (.inl 154)), some (.inl i)] [] z k0 q0) : Z 366 [some (.inr (.inl 1000)), some (.inr (.inl 0)), some (.inr (.inl 154)), some (.inl i)] [] w k0 q0 := by
  have hT := h.1.1.1.1
  obtain ⟨p1, A, u, z, e1, tu, su, iu, p2, e2, hR, sz, iz⟩ := lw_remove h (wI w 1000 (i + 1))
  have ih := ih z hR (by rw [sz]; exact hS) iz
  have s1 : wS u 1000 = (14, L) := by rw [su]; exact hS
  refine hZ (fun u => Nat.beq u 873) 14 366 _ _ _ _ _ ?_
  simp only [sm_run, sm_blk, sm_get, sm_ent, sm_ents, sm_wds, sm_wd, sm_nl, sm_pop, sm_back, sm_cases, oK, oLK, oL, oI, oA, oJ, oIs, oAs, oJs, oInc, oAdd, oSub, oMul, oDiv, oRem, oNeg, oAnd, oAndB, oOr, oShl, oI2c, oI2l, oL2i, oLand, oLor, oLshl, oLshr, oLushr, oLcmp, oDup, oDup2, oPop, oGo, oFg, oEq, oNe, oLt, oGe, oGt, oLe, oEq0, oNe0, oLt0, oGe0, oGt0, oLe0, oSw, oGi, oGr, oPi, oPz, oPr, oLen, oIl, oZl, oCl, oRl, oIst, oZst, oCst, oRst, oCopy, oNew, oNa, oNa2, oObj, oCs, oCv, oCi, oIr, oZr, oVr, Nat.beq, List.getElem?_cons_zero, List.getElem?_cons_succ, List.set_cons_zero, List.set_cons_succ, List.length_cons, List.length_nil, List.nil_append, List.cons_append, List.append_nil, List.replicate_succ, List.replicate_zero, Nat.reduceAdd, Nat.reduceSub, Nat.reduceLT, Nat.reduceLeDiff, Nat.reduceBEq, true_and, and_true, Nat.zero_add, Nat.add_zero, Nat.le_refl, Option.some.injEq, exists_eq_left', true_or, or_true, or_false, false_or, reduceCtorEq, Prod.mk.injEq, Sum.inl.injEq, and_self, false_and, and_false, not_true_eq_false, not_false_eq_true, false_implies, true_implies, sm_r, Int.add_zero, Int.zero_add, wI_wsI, wS_wsI, wR_wsI, wI_wCp, wS_wCp, wR_wCp, Nat.reduceEqDiff, reduceIte, sT_iff, sT_iffC, wIf_ne, ne_eq, Bool.false_or, Bool.true_or, Bool.or_false, Bool.or_true, Bool.or_self, Nat.left_eq_add, Nat.add_eq_left, Nat.add_left_inj, oMax, oMin, oAbs, tb_L_law, sS_0 hT, sS_154 tu, hS, s1, p1, e1, p2, e2, iu, Nat.reduceEqDiff]
  repeat' (first | exact True.intro | with_reducible assumption | with_reducible refine And.intro ?_ ?_ | intro _)
  all_goals first
    | omega
    | assumption
    | rfl
    | (split <;> omega)
    | (have k9 := ih (by omega)
       (repeat' split at k9) <;> first | exact k9 | omega)
    | (have k9 := ih2 (by omega)
       (repeat' split at k9) <;> first | exact k9 | omega)
    | exact he (by omega)
    | ((with_reducible congr 1) <;> omega)
    | (rw [if_pos (by omega)] at he; exact he)
    | exact hD1 (by omega)
    | exact hD2 (by omega)
    | skip
set_option maxRecDepth 100000 in
set_option maxHeartbeats 4000000 in
theorem zl_ofShuttle (hZ : ∀ stop n t ls st w' k q, sm_run (sm_get tb_L_law) (PL, mc, ms) stop Z n t ls st w' k q → Z t ls st w' k q) (hk : k0 ≤ mc) (hq : q0 ≤ ms) (h : Rel w w) (hS : wS w 1000 = (14, L)) (hL : L ≤ 3072) (i0 : 0 ≤ i) (i1 : i + 6 ≤ L) (ih : ∀ z, Rel z z → wS z 1000 = (14, L) → wI z 1000 = wI w 1000 → Z 873 [some (.inr (.inl 1000)), some (.inr (.inl 0)), some (.inr (.inl 154)), some (.inl i)] [] z k0 q0) : Z 389 [some (.inr (.inl 1000)), some (.inr (.inl 0)), some (.inr (.inl 154)), some (.inl i)] [] w k0 q0 := by
  have hT := h.1.1.1.1
  obtain ⟨p1, A, u, z, e1, tu, su, iu, p2, e2, hR, sz, iz⟩ := lw_ofShuttle h (wI w 1000 (i + 1)) (wI w 1000 (i + 2))
  have ih := ih z hR (by rw [sz]; exact hS) iz
  have s1 : wS u 1000 = (14, L) := by rw [su]; exact hS
  refine hZ (fun u => Nat.beq u 873) 14 389 _ _ _ _ _ ?_
  simp only [sm_run, sm_blk, sm_get, sm_ent, sm_ents, sm_wds, sm_wd, sm_nl, sm_pop, sm_back, sm_cases, oK, oLK, oL, oI, oA, oJ, oIs, oAs, oJs, oInc, oAdd, oSub, oMul, oDiv, oRem, oNeg, oAnd, oAndB, oOr, oShl, oI2c, oI2l, oL2i, oLand, oLor, oLshl, oLshr, oLushr, oLcmp, oDup, oDup2, oPop, oGo, oFg, oEq, oNe, oLt, oGe, oGt, oLe, oEq0, oNe0, oLt0, oGe0, oGt0, oLe0, oSw, oGi, oGr, oPi, oPz, oPr, oLen, oIl, oZl, oCl, oRl, oIst, oZst, oCst, oRst, oCopy, oNew, oNa, oNa2, oObj, oCs, oCv, oCi, oIr, oZr, oVr, Nat.beq, List.getElem?_cons_zero, List.getElem?_cons_succ, List.set_cons_zero, List.set_cons_succ, List.length_cons, List.length_nil, List.nil_append, List.cons_append, List.append_nil, List.replicate_succ, List.replicate_zero, Nat.reduceAdd, Nat.reduceSub, Nat.reduceLT, Nat.reduceLeDiff, Nat.reduceBEq, true_and, and_true, Nat.zero_add, Nat.add_zero, Nat.le_refl, Option.some.injEq, exists_eq_left', true_or, or_true, or_false, false_or, reduceCtorEq, Prod.mk.injEq, Sum.inl.injEq, and_self, false_and, and_false, not_true_eq_false, not_false_eq_true, false_implies, true_implies, sm_r, Int.add_zero, Int.zero_add, wI_wsI, wS_wsI, wR_wsI, wI_wCp, wS_wCp, wR_wCp, Nat.reduceEqDiff, reduceIte, sT_iff, sT_iffC, wIf_ne, ne_eq, Bool.false_or, Bool.true_or, Bool.or_false, Bool.or_true, Bool.or_self, Nat.left_eq_add, Nat.add_eq_left, Nat.add_left_inj, oMax, oMin, oAbs, tb_L_law, sS_0 hT, sS_154 tu, hS, s1, p1, e1, p2, e2, iu, Nat.reduceEqDiff]
  repeat' (first | exact True.intro | with_reducible assumption | with_reducible refine And.intro ?_ ?_ | intro _)
  all_goals first
    | omega
    | assumption
    | rfl
    | (split <;> omega)
    | (have k9 := ih (by omega)
       (repeat' split at k9) <;> first | exact k9 | omega)
    | (have k9 := ih2 (by omega)
       (repeat' split at k9) <;> first | exact k9 | omega)
    | exact he (by omega)
    | ((with_reducible congr 1) <;> omega)
    | (rw [if_pos (by omega)] at he; exact he)
    | exact hD1 (by omega)
    | exact hD2 (by omega)
    | skip
set_option maxRecDepth 100000 in
set_option maxHeartbeats 4000000 in
theorem zl_count (hZ : ∀ stop n t ls st w' k q, sm_run (sm_get tb_L_law) (PL, mc, ms) stop Z n t ls st w' k q → Z t ls st w' k q) (hk : k0 ≤ mc) (hq : q0 ≤ ms) (h : Rel w w) (hS : wS w 1000 = (14, L)) (hL : L ≤ 3072) (i0 : 0 ≤ i) (i1 : i + 6 ≤ L) (ih : ∀ z, Rel z z → wS z 1000 = (14, L) → wI z 1000 = wI w 1000 → Z 873 [some (.inr (.inl 1000)), some (.inr (.inl 0)), some (.inr (.inl 154)), some (.inl i)] [] z k0 q0) : Z 422 [some (.inr (.inl 1000)), some (.inr (.inl 0)), some (.inr (.inl 154)), some (.inl i)] [] w k0 q0 := by
  have hT := h.1.1.1.1
  obtain ⟨p1, A, u, z, e1, tu, su, iu, p2, e2, hR, sz, iz⟩ := lw_count h (wI w 1000 (i + 1))
  have ih := ih z hR (by rw [sz]; exact hS) iz
  have s1 : wS u 1000 = (14, L) := by rw [su]; exact hS
  refine hZ (fun u => Nat.beq u 873) 14 422 _ _ _ _ _ ?_
  simp only [sm_run, sm_blk, sm_get, sm_ent, sm_ents, sm_wds, sm_wd, sm_nl, sm_pop, sm_back, sm_cases, oK, oLK, oL, oI, oA, oJ, oIs, oAs, oJs, oInc, oAdd, oSub, oMul, oDiv, oRem, oNeg, oAnd, oAndB, oOr, oShl, oI2c, oI2l, oL2i, oLand, oLor, oLshl, oLshr, oLushr, oLcmp, oDup, oDup2, oPop, oGo, oFg, oEq, oNe, oLt, oGe, oGt, oLe, oEq0, oNe0, oLt0, oGe0, oGt0, oLe0, oSw, oGi, oGr, oPi, oPz, oPr, oLen, oIl, oZl, oCl, oRl, oIst, oZst, oCst, oRst, oCopy, oNew, oNa, oNa2, oObj, oCs, oCv, oCi, oIr, oZr, oVr, Nat.beq, List.getElem?_cons_zero, List.getElem?_cons_succ, List.set_cons_zero, List.set_cons_succ, List.length_cons, List.length_nil, List.nil_append, List.cons_append, List.append_nil, List.replicate_succ, List.replicate_zero, Nat.reduceAdd, Nat.reduceSub, Nat.reduceLT, Nat.reduceLeDiff, Nat.reduceBEq, true_and, and_true, Nat.zero_add, Nat.add_zero, Nat.le_refl, Option.some.injEq, exists_eq_left', true_or, or_true, or_false, false_or, reduceCtorEq, Prod.mk.injEq, Sum.inl.injEq, and_self, false_and, and_false, not_true_eq_false, not_false_eq_true, false_implies, true_implies, sm_r, Int.add_zero, Int.zero_add, wI_wsI, wS_wsI, wR_wsI, wI_wCp, wS_wCp, wR_wCp, Nat.reduceEqDiff, reduceIte, sT_iff, sT_iffC, wIf_ne, ne_eq, Bool.false_or, Bool.true_or, Bool.or_false, Bool.or_true, Bool.or_self, Nat.left_eq_add, Nat.add_eq_left, Nat.add_left_inj, oMax, oMin, oAbs, tb_L_law, sS_0 hT, sS_154 tu, hS, s1, p1, e1, p2, e2, iu, Nat.reduceEqDiff]
  repeat' (first | exact True.intro | with_reducible assumption | with_reducible refine And.intro ?_ ?_ | intro _)
  all_goals first
    | omega
    | assumption
    | rfl
    | (split <;> omega)
    | (have k9 := ih (by omega)
       (repeat' split at k9) <;> first | exact k9 | omega)
    | (have k9 := ih2 (by omega)
       (repeat' split at k9) <;> first | exact k9 | omega)
    | exact he (by omega)
    | ((with_reducible congr 1) <;> omega)
    | (rw [if_pos (by omega)] at he; exact he)
    | exact hD1 (by omega)
    | exact hD2 (by omega)
    | skip
set_option maxRecDepth 100000 in
set_option maxHeartbeats 4000000 in
theorem zl_day (hZ : ∀ stop n t ls st w' k q, sm_run (sm_get tb_L_law) (PL, mc, ms) stop Z n t ls st w' k q → Z t ls st w' k q) (hk : k0 ≤ mc) (hq : q0 ≤ ms) (h : Rel w w) (hS : wS w 1000 = (14, L)) (hL : L ≤ 3072) (i0 : 0 ≤ i) (i1 : i + 6 ≤ L) (ih : ∀ z, Rel z z → wS z 1000 = (14, L) → wI z 1000 = wI w 1000 → Z 873 [some (.inr (.inl 1000)), some (.inr (.inl 0)), some (.inr (.inl 154)), some (.inl i)] [] z k0 q0) : Z 445 [some (.inr (.inl 1000)), some (.inr (.inl 0)), some (.inr (.inl 154)), some (.inl i)] [] w k0 q0 := by
  have hT := h.1.1.1.1
  obtain ⟨p1, A, u, z, e1, tu, su, iu, p2, e2, hR, sz, iz⟩ := lw_day h (wI w 1000 (i + 1))
  have ih := ih z hR (by rw [sz]; exact hS) iz
  have s1 : wS u 1000 = (14, L) := by rw [su]; exact hS
  refine hZ (fun u => Nat.beq u 873) 14 445 _ _ _ _ _ ?_
  simp only [sm_run, sm_blk, sm_get, sm_ent, sm_ents, sm_wds, sm_wd, sm_nl, sm_pop, sm_back, sm_cases, oK, oLK, oL, oI, oA, oJ, oIs, oAs, oJs, oInc, oAdd, oSub, oMul, oDiv, oRem, oNeg, oAnd, oAndB, oOr, oShl, oI2c, oI2l, oL2i, oLand, oLor, oLshl, oLshr, oLushr, oLcmp, oDup, oDup2, oPop, oGo, oFg, oEq, oNe, oLt, oGe, oGt, oLe, oEq0, oNe0, oLt0, oGe0, oGt0, oLe0, oSw, oGi, oGr, oPi, oPz, oPr, oLen, oIl, oZl, oCl, oRl, oIst, oZst, oCst, oRst, oCopy, oNew, oNa, oNa2, oObj, oCs, oCv, oCi, oIr, oZr, oVr, Nat.beq, List.getElem?_cons_zero, List.getElem?_cons_succ, List.set_cons_zero, List.set_cons_succ, List.length_cons, List.length_nil, List.nil_append, List.cons_append, List.append_nil, List.replicate_succ, List.replicate_zero, Nat.reduceAdd, Nat.reduceSub, Nat.reduceLT, Nat.reduceLeDiff, Nat.reduceBEq, true_and, and_true, Nat.zero_add, Nat.add_zero, Nat.le_refl, Option.some.injEq, exists_eq_left', true_or, or_true, or_false, false_or, reduceCtorEq, Prod.mk.injEq, Sum.inl.injEq, and_self, false_and, and_false, not_true_eq_false, not_false_eq_true, false_implies, true_implies, sm_r, Int.add_zero, Int.zero_add, wI_wsI, wS_wsI, wR_wsI, wI_wCp, wS_wCp, wR_wCp, Nat.reduceEqDiff, reduceIte, sT_iff, sT_iffC, wIf_ne, ne_eq, Bool.false_or, Bool.true_or, Bool.or_false, Bool.or_true, Bool.or_self, Nat.left_eq_add, Nat.add_eq_left, Nat.add_left_inj, oMax, oMin, oAbs, tb_L_law, sS_0 hT, sS_154 tu, hS, s1, p1, e1, p2, e2, iu, Nat.reduceEqDiff]
  repeat' (first | exact True.intro | with_reducible assumption | with_reducible refine And.intro ?_ ?_ | intro _)
  all_goals first
    | omega
    | assumption
    | rfl
    | (split <;> omega)
    | (have k9 := ih (by omega)
       (repeat' split at k9) <;> first | exact k9 | omega)
    | (have k9 := ih2 (by omega)
       (repeat' split at k9) <;> first | exact k9 | omega)
    | exact he (by omega)
    | ((with_reducible congr 1) <;> omega)
    | (rw [if_pos (by omega)] at he; exact he)
    | exact hD1 (by omega)
    | exact hD2 (by omega)
    | skip
set_option maxRecDepth 100000 in
set_option maxHeartbeats 4000000 in
theorem zl_at (hZ : ∀ stop n t ls st w' k q, sm_run (sm_get tb_L_law) (PL, mc, ms) stop Z n t ls st w' k q → Z t ls st w' k q) (hk : k0 ≤ mc) (hq : q0 ≤ ms) (h : Rel w w) (hS : wS w 1000 = (14, L)) (hL : L ≤ 3072) (i0 : 0 ≤ i) (i1 : i + 6 ≤ L) (ih : ∀ z, Rel z z → wS z 1000 = (14, L) → wI z 1000 = wI w 1000 → Z 873 [some (.inr (.inl 1000)), some (.inr (.inl 0)), some (.inr (.inl 154)), some (.inl i)] [] z k0 q0) : Z 468 [some (.inr (.inl 1000)), some (.inr (.inl 0)), some (.inr (.inl 154)), some (.inl i)] [] w k0 q0 := by
  have hT := h.1.1.1.1
  obtain ⟨p1, A, u, z, e1, tu, su, iu, p2, e2, hR, sz, iz⟩ := lw_at h (wI w 1000 (i + 1)) (wI w 1000 (i + 2))
  have ih := ih z hR (by rw [sz]; exact hS) iz
  have s1 : wS u 1000 = (14, L) := by rw [su]; exact hS
  refine hZ (fun u => Nat.beq u 873) 14 468 _ _ _ _ _ ?_
  simp only [sm_run, sm_blk, sm_get, sm_ent, sm_ents, sm_wds, sm_wd, sm_nl, sm_pop, sm_back, sm_cases, oK, oLK, oL, oI, oA, oJ, oIs, oAs, oJs, oInc, oAdd, oSub, oMul, oDiv, oRem, oNeg, oAnd, oAndB, oOr, oShl, oI2c, oI2l, oL2i, oLand, oLor, oLshl, oLshr, oLushr, oLcmp, oDup, oDup2, oPop, oGo, oFg, oEq, oNe, oLt, oGe, oGt, oLe, oEq0, oNe0, oLt0, oGe0, oGt0, oLe0, oSw, oGi, oGr, oPi, oPz, oPr, oLen, oIl, oZl, oCl, oRl, oIst, oZst, oCst, oRst, oCopy, oNew, oNa, oNa2, oObj, oCs, oCv, oCi, oIr, oZr, oVr, Nat.beq, List.getElem?_cons_zero, List.getElem?_cons_succ, List.set_cons_zero, List.set_cons_succ, List.length_cons, List.length_nil, List.nil_append, List.cons_append, List.append_nil, List.replicate_succ, List.replicate_zero, Nat.reduceAdd, Nat.reduceSub, Nat.reduceLT, Nat.reduceLeDiff, Nat.reduceBEq, true_and, and_true, Nat.zero_add, Nat.add_zero, Nat.le_refl, Option.some.injEq, exists_eq_left', true_or, or_true, or_false, false_or, reduceCtorEq, Prod.mk.injEq, Sum.inl.injEq, and_self, false_and, and_false, not_true_eq_false, not_false_eq_true, false_implies, true_implies, sm_r, Int.add_zero, Int.zero_add, wI_wsI, wS_wsI, wR_wsI, wI_wCp, wS_wCp, wR_wCp, Nat.reduceEqDiff, reduceIte, sT_iff, sT_iffC, wIf_ne, ne_eq, Bool.false_or, Bool.true_or, Bool.or_false, Bool.or_true, Bool.or_self, Nat.left_eq_add, Nat.add_eq_left, Nat.add_left_inj, oMax, oMin, oAbs, tb_L_law, sS_0 hT, sS_154 tu, hS, s1, p1, e1, p2, e2, iu, Nat.reduceEqDiff]
  repeat' (first | exact True.intro | with_reducible assumption | with_reducible refine And.intro ?_ ?_ | intro _)
  all_goals first
    | omega
    | assumption
    | rfl
    | (split <;> omega)
    | (have k9 := ih (by omega)
       (repeat' split at k9) <;> first | exact k9 | omega)
    | (have k9 := ih2 (by omega)
       (repeat' split at k9) <;> first | exact k9 | omega)
    | exact he (by omega)
    | ((with_reducible congr 1) <;> omega)
    | (rw [if_pos (by omega)] at he; exact he)
    | exact hD1 (by omega)
    | exact hD2 (by omega)
    | skip
set_option maxRecDepth 100000 in
set_option maxHeartbeats 4000000 in
theorem zl_when (hZ : ∀ stop n t ls st w' k q, sm_run (sm_get tb_L_law) (PL, mc, ms) stop Z n t ls st w' k q → Z t ls st w' k q) (hk : k0 ≤ mc) (hq : q0 ≤ ms) (h : Rel w w) (hS : wS w 1000 = (14, L)) (hL : L ≤ 3072) (i0 : 0 ≤ i) (i1 : i + 6 ≤ L) (ih : ∀ z, Rel z z → wS z 1000 = (14, L) → wI z 1000 = wI w 1000 → Z 873 [some (.inr (.inl 1000)), some (.inr (.inl 0)), some (.inr (.inl 154)), some (.inl i)] [] z k0 q0) : Z 501 [some (.inr (.inl 1000)), some (.inr (.inl 0)), some (.inr (.inl 154)), some (.inl i)] [] w k0 q0 := by
  have hT := h.1.1.1.1
  obtain ⟨p1, A, u, z, e1, tu, su, iu, p2, e2, hR, sz, iz⟩ := lw_when h (wI w 1000 (i + 1)) (wI w 1000 (i + 2)) (wI w 1000 (i + 3))
  have ih := ih z hR (by rw [sz]; exact hS) iz
  have s1 : wS u 1000 = (14, L) := by rw [su]; exact hS
  refine hZ (fun u => Nat.beq u 873) 14 501 _ _ _ _ _ ?_
  simp only [sm_run, sm_blk, sm_get, sm_ent, sm_ents, sm_wds, sm_wd, sm_nl, sm_pop, sm_back, sm_cases, oK, oLK, oL, oI, oA, oJ, oIs, oAs, oJs, oInc, oAdd, oSub, oMul, oDiv, oRem, oNeg, oAnd, oAndB, oOr, oShl, oI2c, oI2l, oL2i, oLand, oLor, oLshl, oLshr, oLushr, oLcmp, oDup, oDup2, oPop, oGo, oFg, oEq, oNe, oLt, oGe, oGt, oLe, oEq0, oNe0, oLt0, oGe0, oGt0, oLe0, oSw, oGi, oGr, oPi, oPz, oPr, oLen, oIl, oZl, oCl, oRl, oIst, oZst, oCst, oRst, oCopy, oNew, oNa, oNa2, oObj, oCs, oCv, oCi, oIr, oZr, oVr, Nat.beq, List.getElem?_cons_zero, List.getElem?_cons_succ, List.set_cons_zero, List.set_cons_succ, List.length_cons, List.length_nil, List.nil_append, List.cons_append, List.append_nil, List.replicate_succ, List.replicate_zero, Nat.reduceAdd, Nat.reduceSub, Nat.reduceLT, Nat.reduceLeDiff, Nat.reduceBEq, true_and, and_true, Nat.zero_add, Nat.add_zero, Nat.le_refl, Option.some.injEq, exists_eq_left', true_or, or_true, or_false, false_or, reduceCtorEq, Prod.mk.injEq, Sum.inl.injEq, and_self, false_and, and_false, not_true_eq_false, not_false_eq_true, false_implies, true_implies, sm_r, Int.add_zero, Int.zero_add, wI_wsI, wS_wsI, wR_wsI, wI_wCp, wS_wCp, wR_wCp, Nat.reduceEqDiff, reduceIte, sT_iff, sT_iffC, wIf_ne, ne_eq, Bool.false_or, Bool.true_or, Bool.or_false, Bool.or_true, Bool.or_self, Nat.left_eq_add, Nat.add_eq_left, Nat.add_left_inj, oMax, oMin, oAbs, tb_L_law, sS_0 hT, sS_154 tu, hS, s1, p1, e1, p2, e2, iu, Nat.reduceEqDiff]
  repeat' (first | exact True.intro | with_reducible assumption | with_reducible refine And.intro ?_ ?_ | intro _)
  all_goals first
    | omega
    | assumption
    | rfl
    | (split <;> omega)
    | (have k9 := ih (by omega)
       (repeat' split at k9) <;> first | exact k9 | omega)
    | (have k9 := ih2 (by omega)
       (repeat' split at k9) <;> first | exact k9 | omega)
    | exact he (by omega)
    | ((with_reducible congr 1) <;> omega)
    | (rw [if_pos (by omega)] at he; exact he)
    | exact hD1 (by omega)
    | exact hD2 (by omega)
    | skip
set_option maxRecDepth 100000 in
set_option maxHeartbeats 4000000 in
theorem zl_why (hZ : ∀ stop n t ls st w' k q, sm_run (sm_get tb_L_law) (PL, mc, ms) stop Z n t ls st w' k q → Z t ls st w' k q) (hk : k0 ≤ mc) (hq : q0 ≤ ms) (h : Rel w w) (hS : wS w 1000 = (14, L)) (hL : L ≤ 3072) (i0 : 0 ≤ i) (i1 : i + 6 ≤ L) (ih : ∀ z, Rel z z → wS z 1000 = (14, L) → wI z 1000 = wI w 1000 → Z 873 [some (.inr (.inl 1000)), some (.inr (.inl 0)), some (.inr (.inl 154)), some (.inl i)] [] z k0 q0) : Z 544 [some (.inr (.inl 1000)), some (.inr (.inl 0)), some (.inr (.inl 154)), some (.inl i)] [] w k0 q0 := by
  have hT := h.1.1.1.1
  obtain ⟨p1, A, u, z, e1, tu, su, iu, p2, e2, hR, sz, iz⟩ := lw_why h (wI w 1000 (i + 1)) (wI w 1000 (i + 2))
  have ih := ih z hR (by rw [sz]; exact hS) iz
  have s1 : wS u 1000 = (14, L) := by rw [su]; exact hS
  refine hZ (fun u => Nat.beq u 873) 14 544 _ _ _ _ _ ?_
  simp only [sm_run, sm_blk, sm_get, sm_ent, sm_ents, sm_wds, sm_wd, sm_nl, sm_pop, sm_back, sm_cases, oK, oLK, oL, oI, oA, oJ, oIs, oAs, oJs, oInc, oAdd, oSub, oMul, oDiv, oRem, oNeg, oAnd, oAndB, oOr, oShl, oI2c, oI2l, oL2i, oLand, oLor, oLshl, oLshr, oLushr, oLcmp, oDup, oDup2, oPop, oGo, oFg, oEq, oNe, oLt, oGe, oGt, oLe, oEq0, oNe0, oLt0, oGe0, oGt0, oLe0, oSw, oGi, oGr, oPi, oPz, oPr, oLen, oIl, oZl, oCl, oRl, oIst, oZst, oCst, oRst, oCopy, oNew, oNa, oNa2, oObj, oCs, oCv, oCi, oIr, oZr, oVr, Nat.beq, List.getElem?_cons_zero, List.getElem?_cons_succ, List.set_cons_zero, List.set_cons_succ, List.length_cons, List.length_nil, List.nil_append, List.cons_append, List.append_nil, List.replicate_succ, List.replicate_zero, Nat.reduceAdd, Nat.reduceSub, Nat.reduceLT, Nat.reduceLeDiff, Nat.reduceBEq, true_and, and_true, Nat.zero_add, Nat.add_zero, Nat.le_refl, Option.some.injEq, exists_eq_left', true_or, or_true, or_false, false_or, reduceCtorEq, Prod.mk.injEq, Sum.inl.injEq, and_self, false_and, and_false, not_true_eq_false, not_false_eq_true, false_implies, true_implies, sm_r, Int.add_zero, Int.zero_add, wI_wsI, wS_wsI, wR_wsI, wI_wCp, wS_wCp, wR_wCp, Nat.reduceEqDiff, reduceIte, sT_iff, sT_iffC, wIf_ne, ne_eq, Bool.false_or, Bool.true_or, Bool.or_false, Bool.or_true, Bool.or_self, Nat.left_eq_add, Nat.add_eq_left, Nat.add_left_inj, oMax, oMin, oAbs, tb_L_law, sS_0 hT, sS_154 tu, hS, s1, p1, e1, p2, e2, iu, Nat.reduceEqDiff]
  repeat' (first | exact True.intro | with_reducible assumption | with_reducible refine And.intro ?_ ?_ | intro _)
  all_goals first
    | omega
    | assumption
    | rfl
    | (split <;> omega)
    | (have k9 := ih (by omega)
       (repeat' split at k9) <;> first | exact k9 | omega)
    | (have k9 := ih2 (by omega)
       (repeat' split at k9) <;> first | exact k9 | omega)
    | exact he (by omega)
    | ((with_reducible congr 1) <;> omega)
    | (rw [if_pos (by omega)] at he; exact he)
    | exact hD1 (by omega)
    | exact hD2 (by omega)
    | skip
set_option maxRecDepth 100000 in
set_option maxHeartbeats 4000000 in
theorem zl_meeting (hZ : ∀ stop n t ls st w' k q, sm_run (sm_get tb_L_law) (PL, mc, ms) stop Z n t ls st w' k q → Z t ls st w' k q) (hk : k0 ≤ mc) (hq : q0 ≤ ms) (h : Rel w w) (hS : wS w 1000 = (14, L)) (hL : L ≤ 3072) (i0 : 0 ≤ i) (i1 : i + 6 ≤ L) (ih : ∀ z, Rel z z → wS z 1000 = (14, L) → wI z 1000 = wI w 1000 → Z 873 [some (.inr (.inl 1000)), some (.inr (.inl 0)), some (.inr (.inl 154)), some (.inl i)] [] z k0 q0) : Z 577 [some (.inr (.inl 1000)), some (.inr (.inl 0)), some (.inr (.inl 154)), some (.inl i)] [] w k0 q0 := by
  have hT := h.1.1.1.1
  obtain ⟨p1, A, u, z, e1, tu, su, iu, p2, e2, hR, sz, iz⟩ := lw_meeting h (wI w 1000 (i + 1)) (wI w 1000 (i + 2))
  have ih := ih z hR (by rw [sz]; exact hS) iz
  have s1 : wS u 1000 = (14, L) := by rw [su]; exact hS
  refine hZ (fun u => Nat.beq u 873) 14 577 _ _ _ _ _ ?_
  simp only [sm_run, sm_blk, sm_get, sm_ent, sm_ents, sm_wds, sm_wd, sm_nl, sm_pop, sm_back, sm_cases, oK, oLK, oL, oI, oA, oJ, oIs, oAs, oJs, oInc, oAdd, oSub, oMul, oDiv, oRem, oNeg, oAnd, oAndB, oOr, oShl, oI2c, oI2l, oL2i, oLand, oLor, oLshl, oLshr, oLushr, oLcmp, oDup, oDup2, oPop, oGo, oFg, oEq, oNe, oLt, oGe, oGt, oLe, oEq0, oNe0, oLt0, oGe0, oGt0, oLe0, oSw, oGi, oGr, oPi, oPz, oPr, oLen, oIl, oZl, oCl, oRl, oIst, oZst, oCst, oRst, oCopy, oNew, oNa, oNa2, oObj, oCs, oCv, oCi, oIr, oZr, oVr, Nat.beq, List.getElem?_cons_zero, List.getElem?_cons_succ, List.set_cons_zero, List.set_cons_succ, List.length_cons, List.length_nil, List.nil_append, List.cons_append, List.append_nil, List.replicate_succ, List.replicate_zero, Nat.reduceAdd, Nat.reduceSub, Nat.reduceLT, Nat.reduceLeDiff, Nat.reduceBEq, true_and, and_true, Nat.zero_add, Nat.add_zero, Nat.le_refl, Option.some.injEq, exists_eq_left', true_or, or_true, or_false, false_or, reduceCtorEq, Prod.mk.injEq, Sum.inl.injEq, and_self, false_and, and_false, not_true_eq_false, not_false_eq_true, false_implies, true_implies, sm_r, Int.add_zero, Int.zero_add, wI_wsI, wS_wsI, wR_wsI, wI_wCp, wS_wCp, wR_wCp, Nat.reduceEqDiff, reduceIte, sT_iff, sT_iffC, wIf_ne, ne_eq, Bool.false_or, Bool.true_or, Bool.or_false, Bool.or_true, Bool.or_self, Nat.left_eq_add, Nat.add_eq_left, Nat.add_left_inj, oMax, oMin, oAbs, tb_L_law, sS_0 hT, sS_154 tu, hS, s1, p1, e1, p2, e2, iu, Nat.reduceEqDiff]
  repeat' (first | exact True.intro | with_reducible assumption | with_reducible refine And.intro ?_ ?_ | intro _)
  all_goals first
    | omega
    | assumption
    | rfl
    | (split <;> omega)
    | (have k9 := ih (by omega)
       (repeat' split at k9) <;> first | exact k9 | omega)
    | (have k9 := ih2 (by omega)
       (repeat' split at k9) <;> first | exact k9 | omega)
    | exact he (by omega)
    | ((with_reducible congr 1) <;> omega)
    | (rw [if_pos (by omega)] at he; exact he)
    | exact hD1 (by omega)
    | exact hD2 (by omega)
    | skip
set_option maxRecDepth 100000 in
set_option maxHeartbeats 4000000 in
theorem zl_delayIfLate (hZ : ∀ stop n t ls st w' k q, sm_run (sm_get tb_L_law) (PL, mc, ms) stop Z n t ls st w' k q → Z t ls st w' k q) (hk : k0 ≤ mc) (hq : q0 ≤ ms) (h : Rel w w) (hS : wS w 1000 = (14, L)) (hL : L ≤ 3072) (i0 : 0 ≤ i) (i1 : i + 6 ≤ L) (ih : ∀ z, Rel z z → wS z 1000 = (14, L) → wI z 1000 = wI w 1000 → Z 873 [some (.inr (.inl 1000)), some (.inr (.inl 0)), some (.inr (.inl 154)), some (.inl i)] [] z k0 q0) : Z 610 [some (.inr (.inl 1000)), some (.inr (.inl 0)), some (.inr (.inl 154)), some (.inl i)] [] w k0 q0 := by
  have hT := h.1.1.1.1
  obtain ⟨p1, A, u, z, e1, tu, su, iu, p2, e2, hR, sz, iz⟩ := lw_delayIfLate h (wI w 1000 (i + 1)) (wI w 1000 (i + 2))
  have ih := ih z hR (by rw [sz]; exact hS) iz
  have s1 : wS u 1000 = (14, L) := by rw [su]; exact hS
  refine hZ (fun u => Nat.beq u 873) 14 610 _ _ _ _ _ ?_
  simp only [sm_run, sm_blk, sm_get, sm_ent, sm_ents, sm_wds, sm_wd, sm_nl, sm_pop, sm_back, sm_cases, oK, oLK, oL, oI, oA, oJ, oIs, oAs, oJs, oInc, oAdd, oSub, oMul, oDiv, oRem, oNeg, oAnd, oAndB, oOr, oShl, oI2c, oI2l, oL2i, oLand, oLor, oLshl, oLshr, oLushr, oLcmp, oDup, oDup2, oPop, oGo, oFg, oEq, oNe, oLt, oGe, oGt, oLe, oEq0, oNe0, oLt0, oGe0, oGt0, oLe0, oSw, oGi, oGr, oPi, oPz, oPr, oLen, oIl, oZl, oCl, oRl, oIst, oZst, oCst, oRst, oCopy, oNew, oNa, oNa2, oObj, oCs, oCv, oCi, oIr, oZr, oVr, Nat.beq, List.getElem?_cons_zero, List.getElem?_cons_succ, List.set_cons_zero, List.set_cons_succ, List.length_cons, List.length_nil, List.nil_append, List.cons_append, List.append_nil, List.replicate_succ, List.replicate_zero, Nat.reduceAdd, Nat.reduceSub, Nat.reduceLT, Nat.reduceLeDiff, Nat.reduceBEq, true_and, and_true, Nat.zero_add, Nat.add_zero, Nat.le_refl, Option.some.injEq, exists_eq_left', true_or, or_true, or_false, false_or, reduceCtorEq, Prod.mk.injEq, Sum.inl.injEq, and_self, false_and, and_false, not_true_eq_false, not_false_eq_true, false_implies, true_implies, sm_r, Int.add_zero, Int.zero_add, wI_wsI, wS_wsI, wR_wsI, wI_wCp, wS_wCp, wR_wCp, Nat.reduceEqDiff, reduceIte, sT_iff, sT_iffC, wIf_ne, ne_eq, Bool.false_or, Bool.true_or, Bool.or_false, Bool.or_true, Bool.or_self, Nat.left_eq_add, Nat.add_eq_left, Nat.add_left_inj, oMax, oMin, oAbs, tb_L_law, sS_0 hT, sS_154 tu, hS, s1, p1, e1, p2, e2, iu, Nat.reduceEqDiff]
  repeat' (first | exact True.intro | with_reducible assumption | with_reducible refine And.intro ?_ ?_ | intro _)
  all_goals first
    | omega
    | assumption
    | rfl
    | (split <;> omega)
    | (have k9 := ih (by omega)
       (repeat' split at k9) <;> first | exact k9 | omega)
    | (have k9 := ih2 (by omega)
       (repeat' split at k9) <;> first | exact k9 | omega)
    | exact he (by omega)
    | ((with_reducible congr 1) <;> omega)
    | (rw [if_pos (by omega)] at he; exact he)
    | exact hD1 (by omega)
    | exact hD2 (by omega)
    | skip
set_option maxRecDepth 100000 in
set_option maxHeartbeats 4000000 in
theorem zl_delayIfSlow (hZ : ∀ stop n t ls st w' k q, sm_run (sm_get tb_L_law) (PL, mc, ms) stop Z n t ls st w' k q → Z t ls st w' k q) (hk : k0 ≤ mc) (hq : q0 ≤ ms) (h : Rel w w) (hS : wS w 1000 = (14, L)) (hL : L ≤ 3072) (i0 : 0 ≤ i) (i1 : i + 6 ≤ L) (ih : ∀ z, Rel z z → wS z 1000 = (14, L) → wI z 1000 = wI w 1000 → Z 873 [some (.inr (.inl 1000)), some (.inr (.inl 0)), some (.inr (.inl 154)), some (.inl i)] [] z k0 q0) : Z 643 [some (.inr (.inl 1000)), some (.inr (.inl 0)), some (.inr (.inl 154)), some (.inl i)] [] w k0 q0 := by
  have hT := h.1.1.1.1
  obtain ⟨p1, A, u, z, e1, tu, su, iu, p2, e2, hR, sz, iz⟩ := lw_delayIfSlow h (wI w 1000 (i + 1)) (wI w 1000 (i + 2))
  have ih := ih z hR (by rw [sz]; exact hS) iz
  have s1 : wS u 1000 = (14, L) := by rw [su]; exact hS
  refine hZ (fun u => Nat.beq u 873) 14 643 _ _ _ _ _ ?_
  simp only [sm_run, sm_blk, sm_get, sm_ent, sm_ents, sm_wds, sm_wd, sm_nl, sm_pop, sm_back, sm_cases, oK, oLK, oL, oI, oA, oJ, oIs, oAs, oJs, oInc, oAdd, oSub, oMul, oDiv, oRem, oNeg, oAnd, oAndB, oOr, oShl, oI2c, oI2l, oL2i, oLand, oLor, oLshl, oLshr, oLushr, oLcmp, oDup, oDup2, oPop, oGo, oFg, oEq, oNe, oLt, oGe, oGt, oLe, oEq0, oNe0, oLt0, oGe0, oGt0, oLe0, oSw, oGi, oGr, oPi, oPz, oPr, oLen, oIl, oZl, oCl, oRl, oIst, oZst, oCst, oRst, oCopy, oNew, oNa, oNa2, oObj, oCs, oCv, oCi, oIr, oZr, oVr, Nat.beq, List.getElem?_cons_zero, List.getElem?_cons_succ, List.set_cons_zero, List.set_cons_succ, List.length_cons, List.length_nil, List.nil_append, List.cons_append, List.append_nil, List.replicate_succ, List.replicate_zero, Nat.reduceAdd, Nat.reduceSub, Nat.reduceLT, Nat.reduceLeDiff, Nat.reduceBEq, true_and, and_true, Nat.zero_add, Nat.add_zero, Nat.le_refl, Option.some.injEq, exists_eq_left', true_or, or_true, or_false, false_or, reduceCtorEq, Prod.mk.injEq, Sum.inl.injEq, and_self, false_and, and_false, not_true_eq_false, not_false_eq_true, false_implies, true_implies, sm_r, Int.add_zero, Int.zero_add, wI_wsI, wS_wsI, wR_wsI, wI_wCp, wS_wCp, wR_wCp, Nat.reduceEqDiff, reduceIte, sT_iff, sT_iffC, wIf_ne, ne_eq, Bool.false_or, Bool.true_or, Bool.or_false, Bool.or_true, Bool.or_self, Nat.left_eq_add, Nat.add_eq_left, Nat.add_left_inj, oMax, oMin, oAbs, tb_L_law, sS_0 hT, sS_154 tu, hS, s1, p1, e1, p2, e2, iu, Nat.reduceEqDiff]
  repeat' (first | exact True.intro | with_reducible assumption | with_reducible refine And.intro ?_ ?_ | intro _)
  all_goals first
    | omega
    | assumption
    | rfl
    | (split <;> omega)
    | (have k9 := ih (by omega)
       (repeat' split at k9) <;> first | exact k9 | omega)
    | (have k9 := ih2 (by omega)
       (repeat' split at k9) <;> first | exact k9 | omega)
    | exact he (by omega)
    | ((with_reducible congr 1) <;> omega)
    | (rw [if_pos (by omega)] at he; exact he)
    | exact hD1 (by omega)
    | exact hD2 (by omega)
    | skip
set_option maxRecDepth 100000 in
set_option maxHeartbeats 4000000 in
theorem zl_bestTrack (hZ : ∀ stop n t ls st w' k q, sm_run (sm_get tb_L_law) (PL, mc, ms) stop Z n t ls st w' k q → Z t ls st w' k q) (hk : k0 ≤ mc) (hq : q0 ≤ ms) (h : Rel w w) (hS : wS w 1000 = (14, L)) (hL : L ≤ 3072) (i0 : 0 ≤ i) (i1 : i + 6 ≤ L) (ih : ∀ z, Rel z z → wS z 1000 = (14, L) → wI z 1000 = wI w 1000 → Z 873 [some (.inr (.inl 1000)), some (.inr (.inl 0)), some (.inr (.inl 154)), some (.inl i)] [] z k0 q0) : Z 676 [some (.inr (.inl 1000)), some (.inr (.inl 0)), some (.inr (.inl 154)), some (.inl i)] [] w k0 q0 := by
  have hT := h.1.1.1.1
  obtain ⟨p1, A, u, z, e1, tu, su, iu, p2, e2, hR, sz, iz⟩ := lw_bestTrack h (wI w 1000 (i + 1))
  have ih := ih z hR (by rw [sz]; exact hS) iz
  have s1 : wS u 1000 = (14, L) := by rw [su]; exact hS
  refine hZ (fun u => Nat.beq u 873) 14 676 _ _ _ _ _ ?_
  simp only [sm_run, sm_blk, sm_get, sm_ent, sm_ents, sm_wds, sm_wd, sm_nl, sm_pop, sm_back, sm_cases, oK, oLK, oL, oI, oA, oJ, oIs, oAs, oJs, oInc, oAdd, oSub, oMul, oDiv, oRem, oNeg, oAnd, oAndB, oOr, oShl, oI2c, oI2l, oL2i, oLand, oLor, oLshl, oLshr, oLushr, oLcmp, oDup, oDup2, oPop, oGo, oFg, oEq, oNe, oLt, oGe, oGt, oLe, oEq0, oNe0, oLt0, oGe0, oGt0, oLe0, oSw, oGi, oGr, oPi, oPz, oPr, oLen, oIl, oZl, oCl, oRl, oIst, oZst, oCst, oRst, oCopy, oNew, oNa, oNa2, oObj, oCs, oCv, oCi, oIr, oZr, oVr, Nat.beq, List.getElem?_cons_zero, List.getElem?_cons_succ, List.set_cons_zero, List.set_cons_succ, List.length_cons, List.length_nil, List.nil_append, List.cons_append, List.append_nil, List.replicate_succ, List.replicate_zero, Nat.reduceAdd, Nat.reduceSub, Nat.reduceLT, Nat.reduceLeDiff, Nat.reduceBEq, true_and, and_true, Nat.zero_add, Nat.add_zero, Nat.le_refl, Option.some.injEq, exists_eq_left', true_or, or_true, or_false, false_or, reduceCtorEq, Prod.mk.injEq, Sum.inl.injEq, and_self, false_and, and_false, not_true_eq_false, not_false_eq_true, false_implies, true_implies, sm_r, Int.add_zero, Int.zero_add, wI_wsI, wS_wsI, wR_wsI, wI_wCp, wS_wCp, wR_wCp, Nat.reduceEqDiff, reduceIte, sT_iff, sT_iffC, wIf_ne, ne_eq, Bool.false_or, Bool.true_or, Bool.or_false, Bool.or_true, Bool.or_self, Nat.left_eq_add, Nat.add_eq_left, Nat.add_left_inj, oMax, oMin, oAbs, tb_L_law, sS_0 hT, sS_154 tu, hS, s1, p1, e1, p2, e2, iu, Nat.reduceEqDiff]
  repeat' (first | exact True.intro | with_reducible assumption | with_reducible refine And.intro ?_ ?_ | intro _)
  all_goals first
    | omega
    | assumption
    | rfl
    | (split <;> omega)
    | (have k9 := ih (by omega)
       (repeat' split at k9) <;> first | exact k9 | omega)
    | (have k9 := ih2 (by omega)
       (repeat' split at k9) <;> first | exact k9 | omega)
    | exact he (by omega)
    | ((with_reducible congr 1) <;> omega)
    | (rw [if_pos (by omega)] at he; exact he)
    | exact hD1 (by omega)
    | exact hD2 (by omega)
    | skip
set_option maxRecDepth 100000 in
set_option maxHeartbeats 4000000 in
theorem zl_bestOrder (hZ : ∀ stop n t ls st w' k q, sm_run (sm_get tb_L_law) (PL, mc, ms) stop Z n t ls st w' k q → Z t ls st w' k q) (hk : k0 ≤ mc) (hq : q0 ≤ ms) (h : Rel w w) (hS : wS w 1000 = (14, L)) (hL : L ≤ 3072) (i0 : 0 ≤ i) (i1 : i + 6 ≤ L) (ih : ∀ z, Rel z z → wS z 1000 = (14, L) → wI z 1000 = wI w 1000 → Z 873 [some (.inr (.inl 1000)), some (.inr (.inl 0)), some (.inr (.inl 154)), some (.inl i)] [] z k0 q0) : Z 699 [some (.inr (.inl 1000)), some (.inr (.inl 0)), some (.inr (.inl 154)), some (.inl i)] [] w k0 q0 := by
  have hT := h.1.1.1.1
  obtain ⟨p1, A, u, z, e1, tu, su, iu, p2, e2, hR, sz, iz⟩ := lw_bestOrder h (wI w 1000 (i + 1))
  have ih := ih z hR (by rw [sz]; exact hS) iz
  have s1 : wS u 1000 = (14, L) := by rw [su]; exact hS
  refine hZ (fun u => Nat.beq u 873) 14 699 _ _ _ _ _ ?_
  simp only [sm_run, sm_blk, sm_get, sm_ent, sm_ents, sm_wds, sm_wd, sm_nl, sm_pop, sm_back, sm_cases, oK, oLK, oL, oI, oA, oJ, oIs, oAs, oJs, oInc, oAdd, oSub, oMul, oDiv, oRem, oNeg, oAnd, oAndB, oOr, oShl, oI2c, oI2l, oL2i, oLand, oLor, oLshl, oLshr, oLushr, oLcmp, oDup, oDup2, oPop, oGo, oFg, oEq, oNe, oLt, oGe, oGt, oLe, oEq0, oNe0, oLt0, oGe0, oGt0, oLe0, oSw, oGi, oGr, oPi, oPz, oPr, oLen, oIl, oZl, oCl, oRl, oIst, oZst, oCst, oRst, oCopy, oNew, oNa, oNa2, oObj, oCs, oCv, oCi, oIr, oZr, oVr, Nat.beq, List.getElem?_cons_zero, List.getElem?_cons_succ, List.set_cons_zero, List.set_cons_succ, List.length_cons, List.length_nil, List.nil_append, List.cons_append, List.append_nil, List.replicate_succ, List.replicate_zero, Nat.reduceAdd, Nat.reduceSub, Nat.reduceLT, Nat.reduceLeDiff, Nat.reduceBEq, true_and, and_true, Nat.zero_add, Nat.add_zero, Nat.le_refl, Option.some.injEq, exists_eq_left', true_or, or_true, or_false, false_or, reduceCtorEq, Prod.mk.injEq, Sum.inl.injEq, and_self, false_and, and_false, not_true_eq_false, not_false_eq_true, false_implies, true_implies, sm_r, Int.add_zero, Int.zero_add, wI_wsI, wS_wsI, wR_wsI, wI_wCp, wS_wCp, wR_wCp, Nat.reduceEqDiff, reduceIte, sT_iff, sT_iffC, wIf_ne, ne_eq, Bool.false_or, Bool.true_or, Bool.or_false, Bool.or_true, Bool.or_self, Nat.left_eq_add, Nat.add_eq_left, Nat.add_left_inj, oMax, oMin, oAbs, tb_L_law, sS_0 hT, sS_154 tu, hS, s1, p1, e1, p2, e2, iu, Nat.reduceEqDiff]
  repeat' (first | exact True.intro | with_reducible assumption | with_reducible refine And.intro ?_ ?_ | intro _)
  all_goals first
    | omega
    | assumption
    | rfl
    | (split <;> omega)
    | (have k9 := ih (by omega)
       (repeat' split at k9) <;> first | exact k9 | omega)
    | (have k9 := ih2 (by omega)
       (repeat' split at k9) <;> first | exact k9 | omega)
    | exact he (by omega)
    | ((with_reducible congr 1) <;> omega)
    | (rw [if_pos (by omega)] at he; exact he)
    | exact hD1 (by omega)
    | exact hD2 (by omega)
    | skip
set_option maxRecDepth 100000 in
set_option maxHeartbeats 4000000 in
theorem zl_put (hZ : ∀ stop n t ls st w' k q, sm_run (sm_get tb_L_law) (PL, mc, ms) stop Z n t ls st w' k q → Z t ls st w' k q) (hk : k0 ≤ mc) (hq : q0 ≤ ms) (h : Rel w w) (hS : wS w 1000 = (14, L)) (hL : L ≤ 3072) (i0 : 0 ≤ i) (i1 : i + 6 ≤ L) (ih : ∀ z, Rel z z → wS z 1000 = (14, L) → wI z 1000 = wI w 1000 → Z 873 [some (.inr (.inl 1000)), some (.inr (.inl 0)), some (.inr (.inl 154)), some (.inl i)] [] z k0 q0) : Z 722 [some (.inr (.inl 1000)), some (.inr (.inl 0)), some (.inr (.inl 154)), some (.inl i)] [] w k0 q0 := by
  have hT := h.1.1.1.1
  obtain ⟨p1, A, u, z, e1, tu, su, iu, p2, e2, hR, sz, iz⟩ := lw_put h (((Int32.ofInt (wI w 1000 (i + 1))).toInt64 <<< ((Int32.ofInt 32).toInt64 &&& 63)) ||| ((Int32.ofInt (wI w 1000 (i + 2))).toInt64 &&& 4294967295))
  have ih := ih z hR (by rw [sz]; exact hS) iz
  have s1 : wS u 1000 = (14, L) := by rw [su]; exact hS
  refine hZ (fun u => Nat.beq u 873) 14 722 _ _ _ _ _ ?_
  simp only [sm_run, sm_blk, sm_get, sm_ent, sm_ents, sm_wds, sm_wd, sm_nl, sm_pop, sm_back, sm_cases, oK, oLK, oL, oI, oA, oJ, oIs, oAs, oJs, oInc, oAdd, oSub, oMul, oDiv, oRem, oNeg, oAnd, oAndB, oOr, oShl, oI2c, oI2l, oL2i, oLand, oLor, oLshl, oLshr, oLushr, oLcmp, oDup, oDup2, oPop, oGo, oFg, oEq, oNe, oLt, oGe, oGt, oLe, oEq0, oNe0, oLt0, oGe0, oGt0, oLe0, oSw, oGi, oGr, oPi, oPz, oPr, oLen, oIl, oZl, oCl, oRl, oIst, oZst, oCst, oRst, oCopy, oNew, oNa, oNa2, oObj, oCs, oCv, oCi, oIr, oZr, oVr, Nat.beq, List.getElem?_cons_zero, List.getElem?_cons_succ, List.set_cons_zero, List.set_cons_succ, List.length_cons, List.length_nil, List.nil_append, List.cons_append, List.append_nil, List.replicate_succ, List.replicate_zero, Nat.reduceAdd, Nat.reduceSub, Nat.reduceLT, Nat.reduceLeDiff, Nat.reduceBEq, true_and, and_true, Nat.zero_add, Nat.add_zero, Nat.le_refl, Option.some.injEq, exists_eq_left', true_or, or_true, or_false, false_or, reduceCtorEq, Prod.mk.injEq, Sum.inl.injEq, and_self, false_and, and_false, not_true_eq_false, not_false_eq_true, false_implies, true_implies, sm_r, Int.add_zero, Int.zero_add, wI_wsI, wS_wsI, wR_wsI, wI_wCp, wS_wCp, wR_wCp, Nat.reduceEqDiff, reduceIte, sT_iff, sT_iffC, wIf_ne, ne_eq, Bool.false_or, Bool.true_or, Bool.or_false, Bool.or_true, Bool.or_self, Nat.left_eq_add, Nat.add_eq_left, Nat.add_left_inj, oMax, oMin, oAbs, tb_L_law, sS_0 hT, sS_154 tu, hS, s1, p1, e1, p2, e2, iu, Nat.reduceEqDiff]
  repeat' (first | exact True.intro | with_reducible assumption | with_reducible refine And.intro ?_ ?_ | intro _)
  all_goals first
    | omega
    | assumption
    | rfl
    | (split <;> omega)
    | (have k9 := ih (by omega)
       (repeat' split at k9) <;> first | exact k9 | omega)
    | (have k9 := ih2 (by omega)
       (repeat' split at k9) <;> first | exact k9 | omega)
    | exact he (by omega)
    | ((with_reducible congr 1) <;> omega)
    | (rw [if_pos (by omega)] at he; exact he)
    | exact hD1 (by omega)
    | exact hD2 (by omega)
    | skip
set_option maxRecDepth 100000 in
set_option maxHeartbeats 4000000 in
theorem zl_wipe (hZ : ∀ stop n t ls st w' k q, sm_run (sm_get tb_L_law) (PL, mc, ms) stop Z n t ls st w' k q → Z t ls st w' k q) (hk : k0 ≤ mc) (hq : q0 ≤ ms) (h : Rel w w) (hS : wS w 1000 = (14, L)) (hL : L ≤ 3072) (i0 : 0 ≤ i) (i1 : i + 6 ≤ L) (ih : ∀ z, Rel z z → wS z 1000 = (14, L) → wI z 1000 = wI w 1000 → Z 873 [some (.inr (.inl 1000)), some (.inr (.inl 0)), some (.inr (.inl 154)), some (.inl i)] [] z k0 q0) : Z 775 [some (.inr (.inl 1000)), some (.inr (.inl 0)), some (.inr (.inl 154)), some (.inl i)] [] w k0 q0 := by
  have hT := h.1.1.1.1
  obtain ⟨p1, A, u, z, e1, tu, su, iu, p2, e2, hR, sz, iz⟩ := lw_wipe h 
  have ih := ih z hR (by rw [sz]; exact hS) iz
  have s1 : wS u 1000 = (14, L) := by rw [su]; exact hS
  refine hZ (fun u => Nat.beq u 873) 14 775 _ _ _ _ _ ?_
  simp only [sm_run, sm_blk, sm_get, sm_ent, sm_ents, sm_wds, sm_wd, sm_nl, sm_pop, sm_back, sm_cases, oK, oLK, oL, oI, oA, oJ, oIs, oAs, oJs, oInc, oAdd, oSub, oMul, oDiv, oRem, oNeg, oAnd, oAndB, oOr, oShl, oI2c, oI2l, oL2i, oLand, oLor, oLshl, oLshr, oLushr, oLcmp, oDup, oDup2, oPop, oGo, oFg, oEq, oNe, oLt, oGe, oGt, oLe, oEq0, oNe0, oLt0, oGe0, oGt0, oLe0, oSw, oGi, oGr, oPi, oPz, oPr, oLen, oIl, oZl, oCl, oRl, oIst, oZst, oCst, oRst, oCopy, oNew, oNa, oNa2, oObj, oCs, oCv, oCi, oIr, oZr, oVr, Nat.beq, List.getElem?_cons_zero, List.getElem?_cons_succ, List.set_cons_zero, List.set_cons_succ, List.length_cons, List.length_nil, List.nil_append, List.cons_append, List.append_nil, List.replicate_succ, List.replicate_zero, Nat.reduceAdd, Nat.reduceSub, Nat.reduceLT, Nat.reduceLeDiff, Nat.reduceBEq, true_and, and_true, Nat.zero_add, Nat.add_zero, Nat.le_refl, Option.some.injEq, exists_eq_left', true_or, or_true, or_false, false_or, reduceCtorEq, Prod.mk.injEq, Sum.inl.injEq, and_self, false_and, and_false, not_true_eq_false, not_false_eq_true, false_implies, true_implies, sm_r, Int.add_zero, Int.zero_add, wI_wsI, wS_wsI, wR_wsI, wI_wCp, wS_wCp, wR_wCp, Nat.reduceEqDiff, reduceIte, sT_iff, sT_iffC, wIf_ne, ne_eq, Bool.false_or, Bool.true_or, Bool.or_false, Bool.or_true, Bool.or_self, Nat.left_eq_add, Nat.add_eq_left, Nat.add_left_inj, oMax, oMin, oAbs, tb_L_law, sS_0 hT, sS_154 tu, hS, s1, p1, e1, p2, e2, iu, Nat.reduceEqDiff]
  repeat' (first | exact True.intro | with_reducible assumption | with_reducible refine And.intro ?_ ?_ | intro _)
  all_goals first
    | omega
    | assumption
    | rfl
    | (split <;> omega)
    | (have k9 := ih (by omega)
       (repeat' split at k9) <;> first | exact k9 | omega)
    | (have k9 := ih2 (by omega)
       (repeat' split at k9) <;> first | exact k9 | omega)
    | exact he (by omega)
    | ((with_reducible congr 1) <;> omega)
    | (rw [if_pos (by omega)] at he; exact he)
    | exact hD1 (by omega)
    | exact hD2 (by omega)
    | skip
set_option maxRecDepth 100000 in
set_option maxHeartbeats 4000000 in
theorem zl_fault (hZ : ∀ stop n t ls st w' k q, sm_run (sm_get tb_L_law) (PL, mc, ms) stop Z n t ls st w' k q → Z t ls st w' k q) (hk : k0 ≤ mc) (hq : q0 ≤ ms) (h : Rel w w) (hS : wS w 1000 = (14, L)) (hL : L ≤ 3072) (i0 : 0 ≤ i) (i1 : i + 6 ≤ L) (ih : ∀ z, Rel z z → wS z 1000 = (14, L) → wI z 1000 = wI w 1000 → Z 873 [some (.inr (.inl 1000)), some (.inr (.inl 0)), some (.inr (.inl 154)), some (.inl i)] [] z k0 q0) : Z 788 [some (.inr (.inl 1000)), some (.inr (.inl 0)), some (.inr (.inl 154)), some (.inl i)] [] w k0 q0 := by
  have hT := h.1.1.1.1
  obtain ⟨p1, A, u, z, e1, tu, su, iu, p2, e2, hR, sz, iz⟩ := lw_fault h 
  have ih := ih z hR (by rw [sz]; exact hS) iz
  have s1 : wS u 1000 = (14, L) := by rw [su]; exact hS
  refine hZ (fun u => Nat.beq u 873) 14 788 _ _ _ _ _ ?_
  simp only [sm_run, sm_blk, sm_get, sm_ent, sm_ents, sm_wds, sm_wd, sm_nl, sm_pop, sm_back, sm_cases, oK, oLK, oL, oI, oA, oJ, oIs, oAs, oJs, oInc, oAdd, oSub, oMul, oDiv, oRem, oNeg, oAnd, oAndB, oOr, oShl, oI2c, oI2l, oL2i, oLand, oLor, oLshl, oLshr, oLushr, oLcmp, oDup, oDup2, oPop, oGo, oFg, oEq, oNe, oLt, oGe, oGt, oLe, oEq0, oNe0, oLt0, oGe0, oGt0, oLe0, oSw, oGi, oGr, oPi, oPz, oPr, oLen, oIl, oZl, oCl, oRl, oIst, oZst, oCst, oRst, oCopy, oNew, oNa, oNa2, oObj, oCs, oCv, oCi, oIr, oZr, oVr, Nat.beq, List.getElem?_cons_zero, List.getElem?_cons_succ, List.set_cons_zero, List.set_cons_succ, List.length_cons, List.length_nil, List.nil_append, List.cons_append, List.append_nil, List.replicate_succ, List.replicate_zero, Nat.reduceAdd, Nat.reduceSub, Nat.reduceLT, Nat.reduceLeDiff, Nat.reduceBEq, true_and, and_true, Nat.zero_add, Nat.add_zero, Nat.le_refl, Option.some.injEq, exists_eq_left', true_or, or_true, or_false, false_or, reduceCtorEq, Prod.mk.injEq, Sum.inl.injEq, and_self, false_and, and_false, not_true_eq_false, not_false_eq_true, false_implies, true_implies, sm_r, Int.add_zero, Int.zero_add, wI_wsI, wS_wsI, wR_wsI, wI_wCp, wS_wCp, wR_wCp, Nat.reduceEqDiff, reduceIte, sT_iff, sT_iffC, wIf_ne, ne_eq, Bool.false_or, Bool.true_or, Bool.or_false, Bool.or_true, Bool.or_self, Nat.left_eq_add, Nat.add_eq_left, Nat.add_left_inj, oMax, oMin, oAbs, tb_L_law, sS_0 hT, sS_154 tu, hS, s1, p1, e1, p2, e2, iu, Nat.reduceEqDiff]
  repeat' (first | exact True.intro | with_reducible assumption | with_reducible refine And.intro ?_ ?_ | intro _)
  all_goals first
    | omega
    | assumption
    | rfl
    | (split <;> omega)
    | (have k9 := ih (by omega)
       (repeat' split at k9) <;> first | exact k9 | omega)
    | (have k9 := ih2 (by omega)
       (repeat' split at k9) <;> first | exact k9 | omega)
    | exact he (by omega)
    | ((with_reducible congr 1) <;> omega)
    | (rw [if_pos (by omega)] at he; exact he)
    | exact hD1 (by omega)
    | exact hD2 (by omega)
    | skip
set_option maxRecDepth 100000 in
set_option maxHeartbeats 4000000 in
theorem zl_carryOut (hZ : ∀ stop n t ls st w' k q, sm_run (sm_get tb_L_law) (PL, mc, ms) stop Z n t ls st w' k q → Z t ls st w' k q) (hk : k0 ≤ mc) (hq : q0 ≤ ms) (h : Rel w w) (hS : wS w 1000 = (14, L)) (hL : L ≤ 3072) (i0 : 0 ≤ i) (i1 : i + 6 ≤ L) (ih : ∀ z, Rel z z → wS z 1000 = (14, L) → wI z 1000 = wI w 1000 → Z 873 [some (.inr (.inl 1000)), some (.inr (.inl 0)), some (.inr (.inl 154)), some (.inl i)] [] z k0 q0) : Z 801 [some (.inr (.inl 1000)), some (.inr (.inl 0)), some (.inr (.inl 154)), some (.inl i)] [] w k0 q0 := by
  have hT := h.1.1.1.1
  obtain ⟨p1, A, u, z, e1, tu, su, iu, p2, e2, hR, sz, iz⟩ := lw_carryOut h 
  have ih := ih z hR (by rw [sz]; exact hS) iz
  have s1 : wS u 1000 = (14, L) := by rw [su]; exact hS
  refine hZ (fun u => Nat.beq u 873) 14 801 _ _ _ _ _ ?_
  simp only [sm_run, sm_blk, sm_get, sm_ent, sm_ents, sm_wds, sm_wd, sm_nl, sm_pop, sm_back, sm_cases, oK, oLK, oL, oI, oA, oJ, oIs, oAs, oJs, oInc, oAdd, oSub, oMul, oDiv, oRem, oNeg, oAnd, oAndB, oOr, oShl, oI2c, oI2l, oL2i, oLand, oLor, oLshl, oLshr, oLushr, oLcmp, oDup, oDup2, oPop, oGo, oFg, oEq, oNe, oLt, oGe, oGt, oLe, oEq0, oNe0, oLt0, oGe0, oGt0, oLe0, oSw, oGi, oGr, oPi, oPz, oPr, oLen, oIl, oZl, oCl, oRl, oIst, oZst, oCst, oRst, oCopy, oNew, oNa, oNa2, oObj, oCs, oCv, oCi, oIr, oZr, oVr, Nat.beq, List.getElem?_cons_zero, List.getElem?_cons_succ, List.set_cons_zero, List.set_cons_succ, List.length_cons, List.length_nil, List.nil_append, List.cons_append, List.append_nil, List.replicate_succ, List.replicate_zero, Nat.reduceAdd, Nat.reduceSub, Nat.reduceLT, Nat.reduceLeDiff, Nat.reduceBEq, true_and, and_true, Nat.zero_add, Nat.add_zero, Nat.le_refl, Option.some.injEq, exists_eq_left', true_or, or_true, or_false, false_or, reduceCtorEq, Prod.mk.injEq, Sum.inl.injEq, and_self, false_and, and_false, not_true_eq_false, not_false_eq_true, false_implies, true_implies, sm_r, Int.add_zero, Int.zero_add, wI_wsI, wS_wsI, wR_wsI, wI_wCp, wS_wCp, wR_wCp, Nat.reduceEqDiff, reduceIte, sT_iff, sT_iffC, wIf_ne, ne_eq, Bool.false_or, Bool.true_or, Bool.or_false, Bool.or_true, Bool.or_self, Nat.left_eq_add, Nat.add_eq_left, Nat.add_left_inj, oMax, oMin, oAbs, tb_L_law, sS_0 hT, sS_154 tu, hS, s1, p1, e1, p2, e2, iu, Nat.reduceEqDiff]
  repeat' (first | exact True.intro | with_reducible assumption | with_reducible refine And.intro ?_ ?_ | intro _)
  all_goals first
    | omega
    | assumption
    | rfl
    | (split <;> omega)
    | (have k9 := ih (by omega)
       (repeat' split at k9) <;> first | exact k9 | omega)
    | (have k9 := ih2 (by omega)
       (repeat' split at k9) <;> first | exact k9 | omega)
    | exact he (by omega)
    | ((with_reducible congr 1) <;> omega)
    | (rw [if_pos (by omega)] at he; exact he)
    | exact hD1 (by omega)
    | exact hD2 (by omega)
    | skip
set_option maxRecDepth 100000 in
set_option maxHeartbeats 4000000 in
theorem zl_undo (hZ : ∀ stop n t ls st w' k q, sm_run (sm_get tb_L_law) (PL, mc, ms) stop Z n t ls st w' k q → Z t ls st w' k q) (hk : k0 ≤ mc) (hq : q0 ≤ ms) (h : Rel w w) (hS : wS w 1000 = (14, L)) (hL : L ≤ 3072) (i0 : 0 ≤ i) (i1 : i + 6 ≤ L) (ih : ∀ z, Rel z z → wS z 1000 = (14, L) → wI z 1000 = wI w 1000 → Z 873 [some (.inr (.inl 1000)), some (.inr (.inl 0)), some (.inr (.inl 154)), some (.inl i)] [] z k0 q0) : Z 814 [some (.inr (.inl 1000)), some (.inr (.inl 0)), some (.inr (.inl 154)), some (.inl i)] [] w k0 q0 := by
  have hT := h.1.1.1.1
  obtain ⟨p1, A, u, z, e1, tu, su, iu, p2, e2, hR, sz, iz⟩ := lw_undo h 
  have ih := ih z hR (by rw [sz]; exact hS) iz
  have s1 : wS u 1000 = (14, L) := by rw [su]; exact hS
  refine hZ (fun u => Nat.beq u 873) 14 814 _ _ _ _ _ ?_
  simp only [sm_run, sm_blk, sm_get, sm_ent, sm_ents, sm_wds, sm_wd, sm_nl, sm_pop, sm_back, sm_cases, oK, oLK, oL, oI, oA, oJ, oIs, oAs, oJs, oInc, oAdd, oSub, oMul, oDiv, oRem, oNeg, oAnd, oAndB, oOr, oShl, oI2c, oI2l, oL2i, oLand, oLor, oLshl, oLshr, oLushr, oLcmp, oDup, oDup2, oPop, oGo, oFg, oEq, oNe, oLt, oGe, oGt, oLe, oEq0, oNe0, oLt0, oGe0, oGt0, oLe0, oSw, oGi, oGr, oPi, oPz, oPr, oLen, oIl, oZl, oCl, oRl, oIst, oZst, oCst, oRst, oCopy, oNew, oNa, oNa2, oObj, oCs, oCv, oCi, oIr, oZr, oVr, Nat.beq, List.getElem?_cons_zero, List.getElem?_cons_succ, List.set_cons_zero, List.set_cons_succ, List.length_cons, List.length_nil, List.nil_append, List.cons_append, List.append_nil, List.replicate_succ, List.replicate_zero, Nat.reduceAdd, Nat.reduceSub, Nat.reduceLT, Nat.reduceLeDiff, Nat.reduceBEq, true_and, and_true, Nat.zero_add, Nat.add_zero, Nat.le_refl, Option.some.injEq, exists_eq_left', true_or, or_true, or_false, false_or, reduceCtorEq, Prod.mk.injEq, Sum.inl.injEq, and_self, false_and, and_false, not_true_eq_false, not_false_eq_true, false_implies, true_implies, sm_r, Int.add_zero, Int.zero_add, wI_wsI, wS_wsI, wR_wsI, wI_wCp, wS_wCp, wR_wCp, Nat.reduceEqDiff, reduceIte, sT_iff, sT_iffC, wIf_ne, ne_eq, Bool.false_or, Bool.true_or, Bool.or_false, Bool.or_true, Bool.or_self, Nat.left_eq_add, Nat.add_eq_left, Nat.add_left_inj, oMax, oMin, oAbs, tb_L_law, sS_0 hT, sS_154 tu, hS, s1, p1, e1, p2, e2, iu, Nat.reduceEqDiff]
  repeat' (first | exact True.intro | with_reducible assumption | with_reducible refine And.intro ?_ ?_ | intro _)
  all_goals first
    | omega
    | assumption
    | rfl
    | (split <;> omega)
    | (have k9 := ih (by omega)
       (repeat' split at k9) <;> first | exact k9 | omega)
    | (have k9 := ih2 (by omega)
       (repeat' split at k9) <;> first | exact k9 | omega)
    | exact he (by omega)
    | ((with_reducible congr 1) <;> omega)
    | (rw [if_pos (by omega)] at he; exact he)
    | exact hD1 (by omega)
    | exact hD2 (by omega)
    | skip
set_option maxRecDepth 100000 in
set_option maxHeartbeats 4000000 in
theorem zl_save (hZ : ∀ stop n t ls st w' k q, sm_run (sm_get tb_L_law) (PL, mc, ms) stop Z n t ls st w' k q → Z t ls st w' k q) (hk : k0 ≤ mc) (hq : q0 ≤ ms) (h : Rel w w) (hS : wS w 1000 = (14, L)) (hL : L ≤ 3072) (i0 : 0 ≤ i) (i1 : i + 6 ≤ L) (ih : ∀ z, Rel z z → wS z 1000 = (14, L) → wI z 1000 = wI w 1000 → Z 873 [some (.inr (.inl 1000)), some (.inr (.inl 0)), some (.inr (.inl 154)), some (.inl i)] [] z k0 q0) : Z 827 [some (.inr (.inl 1000)), some (.inr (.inl 0)), some (.inr (.inl 154)), some (.inl i)] [] w k0 q0 := by
  have hT := h.1.1.1.1
  obtain ⟨p1, A, u, z, e1, tu, su, iu, p2, e2, hR, sz, iz⟩ := lw_save h (wI w 1000 (i + 1))
  have ih := ih z hR (by rw [sz]; exact hS) iz
  have s1 : wS u 1000 = (14, L) := by rw [su]; exact hS
  refine hZ (fun u => Nat.beq u 873) 14 827 _ _ _ _ _ ?_
  simp only [sm_run, sm_blk, sm_get, sm_ent, sm_ents, sm_wds, sm_wd, sm_nl, sm_pop, sm_back, sm_cases, oK, oLK, oL, oI, oA, oJ, oIs, oAs, oJs, oInc, oAdd, oSub, oMul, oDiv, oRem, oNeg, oAnd, oAndB, oOr, oShl, oI2c, oI2l, oL2i, oLand, oLor, oLshl, oLshr, oLushr, oLcmp, oDup, oDup2, oPop, oGo, oFg, oEq, oNe, oLt, oGe, oGt, oLe, oEq0, oNe0, oLt0, oGe0, oGt0, oLe0, oSw, oGi, oGr, oPi, oPz, oPr, oLen, oIl, oZl, oCl, oRl, oIst, oZst, oCst, oRst, oCopy, oNew, oNa, oNa2, oObj, oCs, oCv, oCi, oIr, oZr, oVr, Nat.beq, List.getElem?_cons_zero, List.getElem?_cons_succ, List.set_cons_zero, List.set_cons_succ, List.length_cons, List.length_nil, List.nil_append, List.cons_append, List.append_nil, List.replicate_succ, List.replicate_zero, Nat.reduceAdd, Nat.reduceSub, Nat.reduceLT, Nat.reduceLeDiff, Nat.reduceBEq, true_and, and_true, Nat.zero_add, Nat.add_zero, Nat.le_refl, Option.some.injEq, exists_eq_left', true_or, or_true, or_false, false_or, reduceCtorEq, Prod.mk.injEq, Sum.inl.injEq, and_self, false_and, and_false, not_true_eq_false, not_false_eq_true, false_implies, true_implies, sm_r, Int.add_zero, Int.zero_add, wI_wsI, wS_wsI, wR_wsI, wI_wCp, wS_wCp, wR_wCp, Nat.reduceEqDiff, reduceIte, sT_iff, sT_iffC, wIf_ne, ne_eq, Bool.false_or, Bool.true_or, Bool.or_false, Bool.or_true, Bool.or_self, Nat.left_eq_add, Nat.add_eq_left, Nat.add_left_inj, oMax, oMin, oAbs, tb_L_law, sS_0 hT, sS_154 tu, hS, s1, p1, e1, p2, e2, iu, Nat.reduceEqDiff]
  repeat' (first | exact True.intro | with_reducible assumption | with_reducible refine And.intro ?_ ?_ | intro _)
  all_goals first
    | omega
    | assumption
    | rfl
    | (split <;> omega)
    | (have k9 := ih (by omega)
       (repeat' split at k9) <;> first | exact k9 | omega)
    | (have k9 := ih2 (by omega)
       (repeat' split at k9) <;> first | exact k9 | omega)
    | exact he (by omega)
    | ((with_reducible congr 1) <;> omega)
    | (rw [if_pos (by omega)] at he; exact he)
    | exact hD1 (by omega)
    | exact hD2 (by omega)
    | skip
set_option maxRecDepth 100000 in
set_option maxHeartbeats 4000000 in
theorem zl_restore (hZ : ∀ stop n t ls st w' k q, sm_run (sm_get tb_L_law) (PL, mc, ms) stop Z n t ls st w' k q → Z t ls st w' k q) (hk : k0 ≤ mc) (hq : q0 ≤ ms) (h : Rel w w) (hS : wS w 1000 = (14, L)) (hL : L ≤ 3072) (i0 : 0 ≤ i) (i1 : i + 6 ≤ L) (ih : ∀ z, Rel z z → wS z 1000 = (14, L) → wI z 1000 = wI w 1000 → Z 873 [some (.inr (.inl 1000)), some (.inr (.inl 0)), some (.inr (.inl 154)), some (.inl i)] [] z k0 q0) : Z 850 [some (.inr (.inl 1000)), some (.inr (.inl 0)), some (.inr (.inl 154)), some (.inl i)] [] w k0 q0 := by
  have hT := h.1.1.1.1
  obtain ⟨p1, A, u, z, e1, tu, su, iu, p2, e2, hR, sz, iz⟩ := lw_restore h (wI w 1000 (i + 1))
  have ih := ih z hR (by rw [sz]; exact hS) iz
  have s1 : wS u 1000 = (14, L) := by rw [su]; exact hS
  refine hZ (fun u => Nat.beq u 873) 14 850 _ _ _ _ _ ?_
  simp only [sm_run, sm_blk, sm_get, sm_ent, sm_ents, sm_wds, sm_wd, sm_nl, sm_pop, sm_back, sm_cases, oK, oLK, oL, oI, oA, oJ, oIs, oAs, oJs, oInc, oAdd, oSub, oMul, oDiv, oRem, oNeg, oAnd, oAndB, oOr, oShl, oI2c, oI2l, oL2i, oLand, oLor, oLshl, oLshr, oLushr, oLcmp, oDup, oDup2, oPop, oGo, oFg, oEq, oNe, oLt, oGe, oGt, oLe, oEq0, oNe0, oLt0, oGe0, oGt0, oLe0, oSw, oGi, oGr, oPi, oPz, oPr, oLen, oIl, oZl, oCl, oRl, oIst, oZst, oCst, oRst, oCopy, oNew, oNa, oNa2, oObj, oCs, oCv, oCi, oIr, oZr, oVr, Nat.beq, List.getElem?_cons_zero, List.getElem?_cons_succ, List.set_cons_zero, List.set_cons_succ, List.length_cons, List.length_nil, List.nil_append, List.cons_append, List.append_nil, List.replicate_succ, List.replicate_zero, Nat.reduceAdd, Nat.reduceSub, Nat.reduceLT, Nat.reduceLeDiff, Nat.reduceBEq, true_and, and_true, Nat.zero_add, Nat.add_zero, Nat.le_refl, Option.some.injEq, exists_eq_left', true_or, or_true, or_false, false_or, reduceCtorEq, Prod.mk.injEq, Sum.inl.injEq, and_self, false_and, and_false, not_true_eq_false, not_false_eq_true, false_implies, true_implies, sm_r, Int.add_zero, Int.zero_add, wI_wsI, wS_wsI, wR_wsI, wI_wCp, wS_wCp, wR_wCp, Nat.reduceEqDiff, reduceIte, sT_iff, sT_iffC, wIf_ne, ne_eq, Bool.false_or, Bool.true_or, Bool.or_false, Bool.or_true, Bool.or_self, Nat.left_eq_add, Nat.add_eq_left, Nat.add_left_inj, oMax, oMin, oAbs, tb_L_law, sS_0 hT, sS_154 tu, hS, s1, p1, e1, p2, e2, iu, Nat.reduceEqDiff]
  repeat' (first | exact True.intro | with_reducible assumption | with_reducible refine And.intro ?_ ?_ | intro _)
  all_goals first
    | omega
    | assumption
    | rfl
    | (split <;> omega)
    | (have k9 := ih (by omega)
       (repeat' split at k9) <;> first | exact k9 | omega)
    | (have k9 := ih2 (by omega)
       (repeat' split at k9) <;> first | exact k9 | omega)
    | exact he (by omega)
    | ((with_reducible congr 1) <;> omega)
    | (rw [if_pos (by omega)] at he; exact he)
    | exact hD1 (by omega)
    | exact hD2 (by omega)
    | skip
end
