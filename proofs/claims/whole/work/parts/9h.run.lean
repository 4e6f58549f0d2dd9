/-! THE LAW: its whole run -/
section
variable {PL : Option sm_V → sm_W → Prop} {mc ms : Nat} {Z : Nat → sm_K} {k0 q0 : Nat} {L : Nat}
set_option maxRecDepth 100000 in
set_option maxHeartbeats 4000000 in
theorem zl_873 (hZ : ∀ stop n t ls st w' k q, sm_run (sm_get tb_L_law) (PL, mc, ms) stop Z n t ls st w' k q → Z t ls st w' k q) {w : sm_W} {i : Int} (hL : L ≤ 3072) (i0 : 0 ≤ i) (i1 : i + 6 ≤ L) (ih : Z 18 [some (.inr (.inl 1000)), some (.inr (.inl 0)), some (.inr (.inl 154)), some (.inl (i + 6))] [] w k0 q0) : Z 873 [some (.inr (.inl 1000)), some (.inr (.inl 0)), some (.inr (.inl 154)), some (.inl i)] [] w k0 q0 := by
  refine hZ (fun u => Nat.beq u 18) 14 873 _ _ _ _ _ ?_
  simp only [sm_run, sm_blk, sm_get, sm_ent, sm_ents, sm_wds, sm_wd, sm_nl, sm_pop, sm_back, sm_cases, oK, oLK, oL, oI, oA, oJ, oIs, oAs, oJs, oInc, oAdd, oSub, oMul, oDiv, oRem, oNeg, oAnd, oAndB, oOr, oShl, oI2c, oI2l, oL2i, oLand, oLor, oLshl, oLshr, oLushr, oLcmp, oDup, oDup2, oPop, oGo, oFg, oEq, oNe, oLt, oGe, oGt, oLe, oEq0, oNe0, oLt0, oGe0, oGt0, oLe0, oSw, oGi, oGr, oPi, oPz, oPr, oLen, oIl, oZl, oCl, oRl, oIst, oZst, oCst, oRst, oCopy, oNew, oNa, oNa2, oObj, oCs, oCv, oCi, oIr, oZr, oVr, Nat.beq, List.getElem?_cons_zero, List.getElem?_cons_succ, List.set_cons_zero, List.set_cons_succ, List.length_cons, List.length_nil, List.nil_append, List.cons_append, List.append_nil, List.replicate_succ, List.replicate_zero, Nat.reduceAdd, Nat.reduceSub, Nat.reduceLT, Nat.reduceLeDiff, Nat.reduceBEq, true_and, and_true, Nat.zero_add, Nat.add_zero, Nat.le_refl, Option.some.injEq, exists_eq_left', true_or, or_true, or_false, false_or, reduceCtorEq, Prod.mk.injEq, Sum.inl.injEq, and_self, false_and, and_false, not_true_eq_false, not_false_eq_true, false_implies, true_implies, sm_r, Int.add_zero, Int.zero_add, wI_wsI, wS_wsI, wR_wsI, wI_wCp, wS_wCp, wR_wCp, Nat.reduceEqDiff, reduceIte, sT_iff, sT_iffC, wIf_ne, ne_eq, Bool.false_or, Bool.true_or, Bool.or_false, Bool.or_true, Bool.or_self, Nat.left_eq_add, Nat.add_eq_left, Nat.add_left_inj, oMax, oMin, oAbs, tb_L_law, Nat.reduceEqDiff]
  repeat' (first | exact True.intro | with_reducible assumption | with_reducible refine And.intro ?_ ?_ | intro _)
  all_goals first
    | omega
    | assumption
    | rfl
    | (split <;> omega)
    | (have k9 := ih (by omega)
       (repeat' split at k9) <;> first | exact k9 | omega)
    | (have k9 := ih2 (by omega)
       (repeat' split at k9) <;> first | exact k9 | omega)
    | exact he (by omega)
    | ((with_reducible congr 1) <;> omega)
    | (rw [if_pos (by omega)] at he; exact he)
    | exact hD1 (by omega)
    | exact hD2 (by omega)
    | skip
set_option maxRecDepth 100000 in
set_option maxHeartbeats 4000000 in
theorem zl_879 (hZ : ∀ stop n t ls st w' k q, sm_run (sm_get tb_L_law) (PL, mc, ms) stop Z n t ls st w' k q → Z t ls st w' k q) (hk : k0 ≤ mc) (hq : q0 ≤ ms) {w : sm_W} {i : Int} (hP : PL (some (.inl 1)) w) : Z 879 [some (.inr (.inl 1000)), some (.inr (.inl 0)), some (.inr (.inl 154)), some (.inl i)] [] w k0 q0 := by
  refine hZ (fun u => Nat.beq u 18) 14 879 _ _ _ _ _ ?_
  simp only [sm_run, sm_blk, sm_get, sm_ent, sm_ents, sm_wds, sm_wd, sm_nl, sm_pop, sm_back, sm_cases, oK, oLK, oL, oI, oA, oJ, oIs, oAs, oJs, oInc, oAdd, oSub, oMul, oDiv, oRem, oNeg, oAnd, oAndB, oOr, oShl, oI2c, oI2l, oL2i, oLand, oLor, oLshl, oLshr, oLushr, oLcmp, oDup, oDup2, oPop, oGo, oFg, oEq, oNe, oLt, oGe, oGt, oLe, oEq0, oNe0, oLt0, oGe0, oGt0, oLe0, oSw, oGi, oGr, oPi, oPz, oPr, oLen, oIl, oZl, oCl, oRl, oIst, oZst, oCst, oRst, oCopy, oNew, oNa, oNa2, oObj, oCs, oCv, oCi, oIr, oZr, oVr, Nat.beq, List.getElem?_cons_zero, List.getElem?_cons_succ, List.set_cons_zero, List.set_cons_succ, List.length_cons, List.length_nil, List.nil_append, List.cons_append, List.append_nil, List.replicate_succ, List.replicate_zero, Nat.reduceAdd, Nat.reduceSub, Nat.reduceLT, Nat.reduceLeDiff, Nat.reduceBEq, true_and, and_true, Nat.zero_add, Nat.add_zero, Nat.le_refl, Option.some.injEq, exists_eq_left', true_or, or_true, or_false, false_or, reduceCtorEq, Prod.mk.injEq, Sum.inl.injEq, and_self, false_and, and_false, not_true_eq_false, not_false_eq_true, false_implies, true_implies, sm_r, Int.add_zero, Int.zero_add, wI_wsI, wS_wsI, wR_wsI, wI_wCp, wS_wCp, wR_wCp, Nat.reduceEqDiff, reduceIte, sT_iff, sT_iffC, wIf_ne, ne_eq, Bool.false_or, Bool.true_or, Bool.or_false, Bool.or_true, Bool.or_self, Nat.left_eq_add, Nat.add_eq_left, Nat.add_left_inj, oMax, oMin, oAbs, tb_L_law, Nat.reduceEqDiff]
  repeat' (first | exact True.intro | with_reducible assumption | with_reducible refine And.intro ?_ ?_ | intro _)
  all_goals first
    | omega
    | assumption
    | rfl
    | (split <;> omega)
    | (have k9 := ih (by omega)
       (repeat' split at k9) <;> first | exact k9 | omega)
    | (have k9 := ih2 (by omega)
       (repeat' split at k9) <;> first | exact k9 | omega)
    | exact he (by omega)
    | ((with_reducible congr 1) <;> omega)
    | (rw [if_pos (by omega)] at he; exact he)
    | exact hD1 (by omega)
    | exact hD2 (by omega)
    | skip
set_option maxRecDepth 100000 in
set_option maxHeartbeats 4000000 in
theorem zl_18 (hZ : ∀ stop n t ls st w' k q, sm_run (sm_get tb_L_law) (PL, mc, ms) stop Z n t ls st w' k q → Z t ls st w' k q) {w : sm_W} {i : Int} (hS : wS w 1000 = (14, L)) (hL : L ≤ 3072) (i0 : 0 ≤ i) (i1 : i ≤ L) (z879 : Z 879 [some (.inr (.inl 1000)), some (.inr (.inl 0)), some (.inr (.inl 154)), some (.inl i)] [] w k0 q0) (hz : i + 6 ≤ L → (∀ t ∈ [873, 148, 171, 204, 237, 300, 333, 366, 389, 422, 445, 468, 501, 544, 577, 610, 643, 676, 699, 722, 775, 788, 801, 814, 827, 850], Z t [some (.inr (.inl 1000)), some (.inr (.inl 0)), some (.inr (.inl 154)), some (.inl i)] [] w k0 q0)) : Z 18 [some (.inr (.inl 1000)), some (.inr (.inl 0)), some (.inr (.inl 154)), some (.inl i)] [] w k0 q0 := by
  by_cases c : i + 6 ≤ L
  · have hz := hz c
    have z873 := hz 873 (by decide)
    have z148 := hz 148 (by decide)
    have z171 := hz 171 (by decide)
    have z204 := hz 204 (by decide)
    have z237 := hz 237 (by decide)
    have z300 := hz 300 (by decide)
    have z333 := hz 333 (by decide)
    have z366 := hz 366 (by decide)
    have z389 := hz 389 (by decide)
    have z422 := hz 422 (by decide)
    have z445 := hz 445 (by decide)
    have z468 := hz 468 (by decide)
    have z501 := hz 501 (by decide)
    have z544 := hz 544 (by decide)
    have z577 := hz 577 (by decide)
    have z610 := hz 610 (by decide)
    have z643 := hz 643 (by decide)
    have z676 := hz 676 (by decide)
    have z699 := hz 699 (by decide)
    have z722 := hz 722 (by decide)
    have z775 := hz 775 (by decide)
    have z788 := hz 788 (by decide)
    have z801 := hz 801 (by decide)
    have z814 := hz 814 (by decide)
    have z827 := hz 827 (by decide)
    have z850 := hz 850 (by decide)
    clear hz
    refine hZ (fun _ => true) 14 18 _ _ _ _ _ ?_
    simp only [sm_run, sm_blk, sm_get, sm_ent, sm_ents, sm_wds, sm_wd, sm_nl, sm_pop, sm_back, sm_cases, oK, oLK, oL, oI, oA, oJ, oIs, oAs, oJs, oInc, oAdd, oSub, oMul, oDiv, oRem, oNeg, oAnd, oAndB, oOr, oShl, oI2c, oI2l, oL2i, oLand, oLor, oLshl, oLshr, oLushr, oLcmp, oDup, oDup2, oPop, oGo, oFg, oEq, oNe, oLt, oGe, oGt, oLe, oEq0, oNe0, oLt0, oGe0, oGt0, oLe0, oSw, oGi, oGr, oPi, oPz, oPr, oLen, oIl, oZl, oCl, oRl, oIst, oZst, oCst, oRst, oCopy, oNew, oNa, oNa2, oObj, oCs, oCv, oCi, oIr, oZr, oVr, Nat.beq, List.getElem?_cons_zero, List.getElem?_cons_succ, List.set_cons_zero, List.set_cons_succ, List.length_cons, List.length_nil, List.nil_append, List.cons_append, List.append_nil, List.replicate_succ, List.replicate_zero, Nat.reduceAdd, Nat.reduceSub, Nat.reduceLT, Nat.reduceLeDiff, Nat.reduceBEq, true_and, and_true, Nat.zero_add, Nat.add_zero, Nat.le_refl, Option.some.injEq, exists_eq_left', true_or, or_true, or_false, false_or, reduceCtorEq, Prod.mk.injEq, Sum.inl.injEq, and_self, false_and, and_false, not_true_eq_false, not_false_eq_true, false_implies, true_implies, sm_r, Int.add_zero, Int.zero_add, wI_wsI, wS_wsI, wR_wsI, wI_wCp, wS_wCp, wR_wCp, Nat.reduceEqDiff, reduceIte, sT_iff, sT_iffC, wIf_ne, ne_eq, Bool.false_or, Bool.true_or, Bool.or_false, Bool.or_true, Bool.or_self, Nat.left_eq_add, Nat.add_eq_left, Nat.add_left_inj, oMax, oMin, oAbs, tb_L_law, hS, Nat.reduceEqDiff]
    repeat' (first | exact True.intro | with_reducible assumption | with_reducible refine And.intro ?_ ?_ | intro _)
    all_goals first
      | omega
      | assumption
      | rfl
      | (split <;> omega)
      | (have k9 := ih (by omega)
         (repeat' split at k9) <;> first | exact k9 | omega)
      | (have k9 := ih2 (by omega)
         (repeat' split at k9) <;> first | exact k9 | omega)
      | exact he (by omega)
      | ((with_reducible congr 1) <;> omega)
      | (rw [if_pos (by omega)] at he; exact he)
      | exact hD1 (by omega)
      | exact hD2 (by omega)
      | skip
  · clear hz
    refine hZ (fun _ => true) 14 18 _ _ _ _ _ ?_
    simp only [sm_run, sm_blk, sm_get, sm_ent, sm_ents, sm_wds, sm_wd, sm_nl, sm_pop, sm_back, sm_cases, oK, oLK, oL, oI, oA, oJ, oIs, oAs, oJs, oInc, oAdd, oSub, oMul, oDiv, oRem, oNeg, oAnd, oAndB, oOr, oShl, oI2c, oI2l, oL2i, oLand, oLor, oLshl, oLshr, oLushr, oLcmp, oDup, oDup2, oPop, oGo, oFg, oEq, oNe, oLt, oGe, oGt, oLe, oEq0, oNe0, oLt0, oGe0, oGt0, oLe0, oSw, oGi, oGr, oPi, oPz, oPr, oLen, oIl, oZl, oCl, oRl, oIst, oZst, oCst, oRst, oCopy, oNew, oNa, oNa2, oObj, oCs, oCv, oCi, oIr, oZr, oVr, Nat.beq, List.getElem?_cons_zero, List.getElem?_cons_succ, List.set_cons_zero, List.set_cons_succ, List.length_cons, List.length_nil, List.nil_append, List.cons_append, List.append_nil, List.replicate_succ, List.replicate_zero, Nat.reduceAdd, Nat.reduceSub, Nat.reduceLT, Nat.reduceLeDiff, Nat.reduceBEq, true_and, and_true, Nat.zero_add, Nat.add_zero, Nat.le_refl, Option.some.injEq, exists_eq_left', true_or, or_true, or_false, false_or, reduceCtorEq, Prod.mk.injEq, Sum.inl.injEq, and_self, false_and, and_false, not_true_eq_false, not_false_eq_true, false_implies, true_implies, sm_r, Int.add_zero, Int.zero_add, wI_wsI, wS_wsI, wR_wsI, wI_wCp, wS_wCp, wR_wCp, Nat.reduceEqDiff, reduceIte, sT_iff, sT_iffC, wIf_ne, ne_eq, Bool.false_or, Bool.true_or, Bool.or_false, Bool.or_true, Bool.or_self, Nat.left_eq_add, Nat.add_eq_left, Nat.add_left_inj, oMax, oMin, oAbs, tb_L_law, hS, Nat.reduceEqDiff]
    repeat' (first | exact True.intro | with_reducible assumption | with_reducible refine And.intro ?_ ?_ | intro _)
    all_goals first
      | omega
      | assumption
      | rfl
      | (split <;> omega)
      | (have k9 := ih (by omega)
         (repeat' split at k9) <;> first | exact k9 | omega)
      | (have k9 := ih2 (by omega)
         (repeat' split at k9) <;> first | exact k9 | omega)
      | exact he (by omega)
      | ((with_reducible congr 1) <;> omega)
      | (rw [if_pos (by omega)] at he; exact he)
      | exact hD1 (by omega)
      | exact hD2 (by omega)
      | skip
theorem zl_loop (hZ : ∀ stop n t ls st w' k q, sm_run (sm_get tb_L_law) (PL, mc, ms) stop Z n t ls st w' k q → Z t ls st w' k q) (hk : k0 ≤ mc) (hq : q0 ≤ ms) (hL : L ≤ 3072) (hP : ∀ w, PL (some (.inl 1)) w) : ∀ (n : Nat) (w : sm_W) (i : Int), Rel w w → wS w 1000 = (14, L) → 0 ≤ i → i ≤ L → (L : Int) - i ≤ n → Z 18 [some (.inr (.inl 1000)), some (.inr (.inl 0)), some (.inr (.inl 154)), some (.inl i)] [] w k0 q0 := by
  intro n
  induction n with
  | zero => exact fun w i h hS i0 i1 i2 => zl_18 hZ hS hL i0 i1 (zl_879 hZ hk hq (hP w)) (fun c => by omega)
  | succ n ihn =>
    intro w i h hS i0 i1 i2
    refine zl_18 hZ hS hL i0 i1 (zl_879 hZ hk hq (hP w)) (fun c => ?_)
    have ih : ∀ z, Rel z z → wS z 1000 = (14, L) → wI z 1000 = wI w 1000 → Z 873 [some (.inr (.inl 1000)), some (.inr (.inl 0)), some (.inr (.inl 154)), some (.inl i)] [] z k0 q0 := fun z hz sz _ => zl_873 hZ hL i0 c (ihn z (i + 6) hz sz (by omega) c (by omega))
    have h873 := zl_873 hZ hL i0 c (ihn w (i + 6) h hS (by omega) c (by omega))
    refine List.forall_mem_cons.mpr ⟨h873, ?_⟩
    refine List.forall_mem_cons.mpr ⟨zl_first hZ hk hq h hS hL i0 c ih, ?_⟩
    refine List.forall_mem_cons.mpr ⟨zl_tracks hZ hk hq h hS hL i0 c ih, ?_⟩
    refine List.forall_mem_cons.mpr ⟨zl_running hZ hk hq h hS hL i0 c ih, ?_⟩
    refine List.forall_mem_cons.mpr ⟨zl_shuttle hZ hk hq h hS hL i0 c ih, ?_⟩
    refine List.forall_mem_cons.mpr ⟨zl_late hZ hk hq h hS hL i0 c ih, ?_⟩
    refine List.forall_mem_cons.mpr ⟨zl_prefer hZ hk hq h hS hL i0 c ih, ?_⟩
    refine List.forall_mem_cons.mpr ⟨zl_remove hZ hk hq h hS hL i0 c ih, ?_⟩
    refine List.forall_mem_cons.mpr ⟨zl_ofShuttle hZ hk hq h hS hL i0 c ih, ?_⟩
    refine List.forall_mem_cons.mpr ⟨zl_count hZ hk hq h hS hL i0 c ih, ?_⟩
    refine List.forall_mem_cons.mpr ⟨zl_day hZ hk hq h hS hL i0 c ih, ?_⟩
    refine List.forall_mem_cons.mpr ⟨zl_at hZ hk hq h hS hL i0 c ih, ?_⟩
    refine List.forall_mem_cons.mpr ⟨zl_when hZ hk hq h hS hL i0 c ih, ?_⟩
    refine List.forall_mem_cons.mpr ⟨zl_why hZ hk hq h hS hL i0 c ih, ?_⟩
    refine List.forall_mem_cons.mpr ⟨zl_meeting hZ hk hq h hS hL i0 c ih, ?_⟩
    refine List.forall_mem_cons.mpr ⟨zl_delayIfLate hZ hk hq h hS hL i0 c ih, ?_⟩
    refine List.forall_mem_cons.mpr ⟨zl_delayIfSlow hZ hk hq h hS hL i0 c ih, ?_⟩
    refine List.forall_mem_cons.mpr ⟨zl_bestTrack hZ hk hq h hS hL i0 c ih, ?_⟩
    refine List.forall_mem_cons.mpr ⟨zl_bestOrder hZ hk hq h hS hL i0 c ih, ?_⟩
    refine List.forall_mem_cons.mpr ⟨zl_put hZ hk hq h hS hL i0 c ih, ?_⟩
    refine List.forall_mem_cons.mpr ⟨zl_wipe hZ hk hq h hS hL i0 c ih, ?_⟩
    refine List.forall_mem_cons.mpr ⟨zl_fault hZ hk hq h hS hL i0 c ih, ?_⟩
    refine List.forall_mem_cons.mpr ⟨zl_carryOut hZ hk hq h hS hL i0 c ih, ?_⟩
    refine List.forall_mem_cons.mpr ⟨zl_undo hZ hk hq h hS hL i0 c ih, ?_⟩
    refine List.forall_mem_cons.mpr ⟨zl_save hZ hk hq h hS hL i0 c ih, ?_⟩
    refine List.forall_mem_cons.mpr ⟨zl_restore hZ hk hq h hS hL i0 c ih, ?_⟩
    exact fun _ hx => absurd hx List.not_mem_nil
end
