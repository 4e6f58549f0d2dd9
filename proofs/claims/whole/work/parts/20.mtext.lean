/-! THE REFERENCE: its texts -/
def tOK (w : sm_W) : Prop := sT w ∧ (0 ≤ wI w 154 24 ∧ wI w 154 24 ≤ 80) ∧ (0 ≤ wI w 154 25 ∧ wI w 154 25 ≤ 81) ∧ (wI w 154 26 = 0 ∨ wI w 154 26 = 1) ∧ (0 ≤ wI w 154 27 ∧ wI w 154 27 ≤ 28) ∧ ∀ k, 0 ≤ wI w 173 k ∧ wI w 173 k ≤ 127
def tNext (w : sm_W) : Int := if wI w 154 25 < wI w 154 24 then wI w 173 (wI w 154 25) else 0
theorem tNext_b {w : sm_W} (h : tOK w) : 0 ≤ tNext w ∧ tNext w ≤ 127 ∧ (tNext w ≠ 0 → wI w 154 25 < wI w 154 24) := by
  have := h.2.2.2.2.2 (wI w 154 25)
  unfold tNext
  split <;> omega
theorem tNext_26 (w : sm_W) (v : Int) : tNext (wsI w 154 26 v) = tNext w := rfl
theorem tNext_175 (w : sm_W) (i v : Int) : tNext (wsI w 175 i v) = tNext w := rfl
def p_X8_next : List sm_V → sm_W → Prop
  | [.inr (.inl m)], w => m = 154 ∧ tOK w
  | _, _ => False
def f_X8_next : sm_F
  | [.inr (.inl m)], w => (some (.inl (tNext w)), w)
  | _, w => (none, w)
def tb_X8_next : List (Nat × List sm_O) := [(0, [oA 0, oGi 8 30 25, oA 0, oGi 8 30 24, oGe 23, oA 0, oGr 8 30 23, oA 0, oGi 8 30 25, oIl, oGo 24]),
  (23, [oK 0, oGo 24]),
  (24, [oIr])]
set_option maxRecDepth 100000 in
theorem sb_X8_next_0 (l : Launch) : sm_SndB l RX8 "next" cX8_next 1 1 0 0 [oA 0, oGi 8 30 25, oA 0, oGi 8 30 24, oGe 23, oA 0, oGr 8 30 23, oA 0, oGi 8 30 25, oIl, oGo 24] := sb_cons (sd_aload_n (by decide +kernel : decode cX8_next 0 = .ok (.aload_n 0, 1)) rfl) (sb_cons (sd_geti (k := 25) kl_8 (by decide) rfl wm_698 (by decide +kernel : decode cX8_next 1 = .ok (.getfield 270, 3))) (sb_cons (sd_aload_n (by decide +kernel : decode cX8_next 4 = .ok (.aload_n 0, 1)) rfl) (sb_cons (sd_geti (k := 24) kl_8 (by decide) rfl wm_697 (by decide +kernel : decode cX8_next 5 = .ok (.getfield 220, 3))) (sb_cons (sd_ge (by decide +kernel : decode cX8_next 8 = .ok (.if_icmp .ge 15, 3)) (by decide)) (sb_cons (sd_aload_n (by decide +kernel : decode cX8_next 11 = .ok (.aload_n 0, 1)) rfl) (sb_cons (sd_getr (k := 23) kl_8 (by decide) rfl wm_696 (by decide +kernel : decode cX8_next 12 = .ok (.getfield 65, 3))) (sb_cons (sd_aload_n (by decide +kernel : decode cX8_next 15 = .ok (.aload_n 0, 1)) rfl) (sb_cons (sd_geti (k := 25) kl_8 (by decide) rfl wm_698 (by decide +kernel : decode cX8_next 16 = .ok (.getfield 270, 3))) (sb_cons (sd_iaload (by decide +kernel : decode cX8_next 19 = .ok (.iaload, 1))) (sb_cons (sd_goto (x := 0) (by decide +kernel : decode cX8_next 20 = .ok (.goto 4, 3)) (by decide)) sb_nil))))))))))
set_option maxRecDepth 100000 in
theorem sb_X8_next_23 (l : Launch) : sm_SndB l RX8 "next" cX8_next 1 1 0 23 [oK 0, oGo 24] := sb_cons (sd_iconst (by decide +kernel : decode cX8_next 23 = .ok (.iconst 0, 1)) ⟨by decide, by decide⟩) (sb_cons (sd_fall (x := 0)) sb_nil)
set_option maxRecDepth 100000 in
theorem sb_X8_next_24 (l : Launch) : sm_SndB l RX8 "next" cX8_next 1 1 0 24 [oIr] := sb_cons (sd_ireturn (x := 0) rfl (by decide +kernel : decode cX8_next 24 = .ok (.ireturn, 1))) sb_nil
theorem sn_X8_next (l : Launch) : sm_SndT l RX8 "next" cX8_next 1 1 0 tb_X8_next := st_cons (sb_X8_next_0 l) (st_cons (sb_X8_next_23 l) (st_cons (sb_X8_next_24 l) (st_nil)))
set_option maxRecDepth 100000 in
set_option maxHeartbeats 4000000 in
theorem ok_X8_next : sm_Ok tb_X8_next 1 0 0 p_X8_next f_X8_next := by
  intro as w hp ha hw
  match as, hp with
  | [.inr (.inl m)], hp =>
  refine ⟨Nat.le_of_ble_eq_true rfl, fun Z hZ => ?_⟩
  obtain ⟨rfl, hT, h1, h2, h3, h4, h5⟩ := hp
  refine hZ (fun _ => false) 16 0 _ _ _ _ _ ?_
  simp only [sm_run, sm_blk, sm_get, sm_ent, sm_ents, sm_wds, sm_wd, sm_nl, sm_pop, sm_back, sm_cases, oK, oLK, oL, oI, oA, oJ, oIs, oAs, oJs, oInc, oAdd, oSub, oMul, oDiv, oRem, oNeg, oAnd, oAndB, oOr, oShl, oI2c, oI2l, oL2i, oLand, oLor, oLshl, oLshr, oLushr, oLcmp, oDup, oDup2, oPop, oGo, oFg, oEq, oNe, oLt, oGe, oGt, oLe, oEq0, oNe0, oLt0, oGe0, oGt0, oLe0, oSw, oGi, oGr, oPi, oPz, oPr, oLen, oIl, oZl, oCl, oRl, oIst, oZst, oCst, oRst, oCopy, oNew, oNa, oNa2, oObj, oCs, oCv, oCi, oIr, oZr, oVr, Nat.beq, List.getElem?_cons_zero, List.getElem?_cons_succ, List.set_cons_zero, List.set_cons_succ, List.length_cons, List.length_nil, List.nil_append, List.cons_append, List.append_nil, List.replicate_succ, List.replicate_zero, Nat.reduceAdd, Nat.reduceSub, Nat.reduceLT, Nat.reduceLeDiff, Nat.reduceBEq, true_and, and_true, Nat.zero_add, Nat.add_zero, Nat.le_refl, Option.some.injEq, exists_eq_left', true_or, or_true, or_false, false_or, reduceCtorEq, Prod.mk.injEq, Sum.inl.injEq, and_self, false_and, and_false, not_true_eq_false, not_false_eq_true, false_implies, true_implies, sm_r, Int.add_zero, Int.zero_add, wI_wsI, wS_wsI, wR_wsI, wI_wCp, wS_wCp, wR_wCp, Nat.reduceEqDiff, reduceIte, sT_iff, sT_iffC, wIf_ne, ne_eq, Bool.false_or, Bool.true_or, Bool.or_false, Bool.or_true, Bool.or_self, tb_X8_next, p_X8_next, f_X8_next, sS_154 hT, sR_154_23 hT, sS_173 hT]
  repeat' (first | exact True.intro | with_reducible assumption | with_reducible refine And.intro ?_ ?_ | intro _)
  all_goals first
    | omega
    | assumption
    | rfl
    | (split <;> omega)
    | grind [tNext]
    | skip
theorem met_X8_next (l : Launch) : sm_Met l yX8_next cX8_next 1 (some .int) 0 0 0 p_X8_next f_X8_next := sm_met 1 (Or.inr (Or.inl ⟨rfl, rfl⟩)) (by decide +kernel) (sn_X8_next l) ok_X8_next
def tW (w : sm_W) (a b : Int) : sm_W := wsI (wsI w 154 26 a) 154 25 b
theorem tOK_26 {w : sm_W} {v : Int} (h : tOK w) (hv : v = 0 ∨ v = 1) : tOK (wsI w 154 26 v) := ⟨h.1, h.2.1, h.2.2.1, hv, h.2.2.2.2⟩
theorem tOK_25 {w : sm_W} {v : Int} (h : tOK w) (hv : 0 ≤ v ∧ v ≤ 81) : tOK (wsI w 154 25 v) := ⟨h.1, h.2.1, hv, h.2.2.2⟩
theorem tOK_27 {w : sm_W} {v : Int} (h : tOK w) (hv : 0 ≤ v ∧ v ≤ 28) : tOK (wsI w 154 27 v) := ⟨h.1, h.2.1, h.2.2.1, h.2.2.2.1, hv, h.2.2.2.2.2⟩
theorem tOK_175 {w : sm_W} {i v : Int} (h : tOK w) : tOK (wsI w 175 i v) := h
theorem tOK_174 {w : sm_W} {i v : Int} (h : tOK w) : tOK (wsI w 174 i v) := h
def tSign (w : sm_W) (s : Int) : sm_W := if wI w 154 26 = 0 ∧ tNext w = s then tW w 0 (wI w 154 25 + 1) else tW w 1 (wI w 154 25)
def p_X8_takeSign : List sm_V → sm_W → Prop
  | [.inr (.inl m), .inl s], w => m = 154 ∧ tOK w ∧ 0 < s
  | _, _ => False
def f_X8_takeSign : sm_F
  | [.inr (.inl m), .inl s], w => (none, tSign w s)
  | _, w => (none, w)
def tb_X8_takeSign : List (Nat × List sm_O) := [(0, [oA 0, oA 0, oGi 8 30 26, oNe0 16, oA 0, oCv 8 30 p_X8_next f_X8_next 0 0 1, oI 1, oEq 20, oGo 16]),
  (16, [oK 1, oGo 21]),
  (20, [oK 0, oGo 21]),
  (21, [oPz 8 30 26, oA 0, oDup, oGi 8 30 25, oA 0, oGi 8 30 26, oEq0 40, oK 0, oGo 41]),
  (40, [oK 1, oGo 41]),
  (41, [oAdd, oPi 8 30 25, oVr])]
set_option maxRecDepth 100000 in
theorem sb_X8_takeSign_0 (l : Launch) : sm_SndB l RX8 "takeSign" cX8_takeSign 2 0 1 0 [oA 0, oA 0, oGi 8 30 26, oNe0 16, oA 0, oCv 8 30 p_X8_next f_X8_next 0 0 1, oI 1, oEq 20, oGo 16] := sb_cons (sd_aload_n (by decide +kernel : decode cX8_takeSign 0 = .ok (.aload_n 0, 1)) rfl) (sb_cons (sd_aload_n (by decide +kernel : decode cX8_takeSign 1 = .ok (.aload_n 0, 1)) rfl) (sb_cons (sd_geti (k := 26) kl_8 (by decide) rfl wm_699 (by decide +kernel : decode cX8_takeSign 2 = .ok (.getfield 273, 3))) (sb_cons (sd_ne0 (by decide +kernel : decode cX8_takeSign 5 = .ok (.ifCond .ne 11, 3)) (by decide)) (sb_cons (sd_aload_n (by decide +kernel : decode cX8_takeSign 8 = .ok (.aload_n 0, 1)) rfl) (sb_cons (sd_callv (n := 0) (met_X8_next l) (by decide) (by decide) wm_1032 wm_1030 wm_10 ⟨by decide +kernel, by decide +kernel, by decide +kernel⟩ kl_8 wm_1031 wm_1155 (by decide +kernel : decode cX8_takeSign 9 = .ok (.invokevirtual 276, 3))) (sb_cons (sd_iload_n (by decide +kernel : decode cX8_takeSign 12 = .ok (.iload_n 1, 1)) rfl) (sb_cons (sd_eq (by decide +kernel : decode cX8_takeSign 13 = .ok (.if_icmp .eq 7, 3)) (by decide)) (sb_cons (sd_fall (x := 0)) sb_nil))))))))
set_option maxRecDepth 100000 in
theorem sb_X8_takeSign_16 (l : Launch) : sm_SndB l RX8 "takeSign" cX8_takeSign 2 0 1 16 [oK 1, oGo 21] := sb_cons (sd_iconst (by decide +kernel : decode cX8_takeSign 16 = .ok (.iconst 1, 1)) ⟨by decide, by decide⟩) (sb_cons (sd_goto (x := 0) (by decide +kernel : decode cX8_takeSign 17 = .ok (.goto 4, 3)) (by decide)) sb_nil)
set_option maxRecDepth 100000 in
theorem sb_X8_takeSign_20 (l : Launch) : sm_SndB l RX8 "takeSign" cX8_takeSign 2 0 1 20 [oK 0, oGo 21] := sb_cons (sd_iconst (by decide +kernel : decode cX8_takeSign 20 = .ok (.iconst 0, 1)) ⟨by decide, by decide⟩) (sb_cons (sd_fall (x := 0)) sb_nil)
set_option maxRecDepth 100000 in
theorem sb_X8_takeSign_21 (l : Launch) : sm_SndB l RX8 "takeSign" cX8_takeSign 2 0 1 21 [oPz 8 30 26, oA 0, oDup, oGi 8 30 25, oA 0, oGi 8 30 26, oEq0 40, oK 0, oGo 41] := sb_cons (sd_putz (k := 26) kl_8 (by decide) rfl (Or.inl rfl) wm_699 (by decide +kernel : decode cX8_takeSign 21 = .ok (.putfield 273, 3))) (sb_cons (sd_aload_n (by decide +kernel : decode cX8_takeSign 24 = .ok (.aload_n 0, 1)) rfl) (sb_cons (sd_dup (by decide +kernel : decode cX8_takeSign 25 = .ok (.dup, 1))) (sb_cons (sd_geti (k := 25) kl_8 (by decide) rfl wm_698 (by decide +kernel : decode cX8_takeSign 26 = .ok (.getfield 270, 3))) (sb_cons (sd_aload_n (by decide +kernel : decode cX8_takeSign 29 = .ok (.aload_n 0, 1)) rfl) (sb_cons (sd_geti (k := 26) kl_8 (by decide) rfl wm_699 (by decide +kernel : decode cX8_takeSign 30 = .ok (.getfield 273, 3))) (sb_cons (sd_eq0 (by decide +kernel : decode cX8_takeSign 33 = .ok (.ifCond .eq 7, 3)) (by decide)) (sb_cons (sd_iconst (by decide +kernel : decode cX8_takeSign 36 = .ok (.iconst 0, 1)) ⟨by decide, by decide⟩) (sb_cons (sd_goto (x := 0) (by decide +kernel : decode cX8_takeSign 37 = .ok (.goto 4, 3)) (by decide)) sb_nil))))))))
set_option maxRecDepth 100000 in
theorem sb_X8_takeSign_40 (l : Launch) : sm_SndB l RX8 "takeSign" cX8_takeSign 2 0 1 40 [oK 1, oGo 41] := sb_cons (sd_iconst (by decide +kernel : decode cX8_takeSign 40 = .ok (.iconst 1, 1)) ⟨by decide, by decide⟩) (sb_cons (sd_fall (x := 0)) sb_nil)
set_option maxRecDepth 100000 in
theorem sb_X8_takeSign_41 (l : Launch) : sm_SndB l RX8 "takeSign" cX8_takeSign 2 0 1 41 [oAdd, oPi 8 30 25, oVr] := sb_cons (sd_iadd (by decide +kernel : decode cX8_takeSign 41 = .ok (.iadd, 1))) (sb_cons (sd_puti (k := 25) kl_8 (by decide) rfl (Or.inl rfl) wm_698 (by decide +kernel : decode cX8_takeSign 42 = .ok (.putfield 270, 3))) (sb_cons (sd_return (x := 0) rfl (by decide +kernel : decode cX8_takeSign 45 = .ok (.return_, 1))) sb_nil))
theorem sn_X8_takeSign (l : Launch) : sm_SndT l RX8 "takeSign" cX8_takeSign 2 0 1 tb_X8_takeSign := st_cons (sb_X8_takeSign_0 l) (st_cons (sb_X8_takeSign_16 l) (st_cons (sb_X8_takeSign_20 l) (st_cons (sb_X8_takeSign_21 l) (st_cons (sb_X8_takeSign_40 l) (st_cons (sb_X8_takeSign_41 l) (st_nil))))))
set_option maxRecDepth 100000 in
set_option maxHeartbeats 4000000 in
theorem ok_X8_takeSign : sm_Ok tb_X8_takeSign 2 0 0 p_X8_takeSign f_X8_takeSign := by
  intro as w hp ha hw
  match as, hp with
  | [.inr (.inl m), .inl s], hp =>
  refine ⟨Nat.le_of_ble_eq_true rfl, fun Z hZ => ?_⟩
  obtain ⟨rfl, hO, hs⟩ := hp
  have hn := tNext_b hO
  obtain ⟨hT, h1, h2, h3, h4, h5⟩ := id hO
  refine hZ (fun _ => false) 16 0 _ _ _ _ _ ?_
  simp only [sm_run, sm_blk, sm_get, sm_ent, sm_ents, sm_wds, sm_wd, sm_nl, sm_pop, sm_back, sm_cases, oK, oLK, oL, oI, oA, oJ, oIs, oAs, oJs, oInc, oAdd, oSub, oMul, oDiv, oRem, oNeg, oAnd, oAndB, oOr, oShl, oI2c, oI2l, oL2i, oLand, oLor, oLshl, oLshr, oLushr, oLcmp, oDup, oDup2, oPop, oGo, oFg, oEq, oNe, oLt, oGe, oGt, oLe, oEq0, oNe0, oLt0, oGe0, oGt0, oLe0, oSw, oGi, oGr, oPi, oPz, oPr, oLen, oIl, oZl, oCl, oRl, oIst, oZst, oCst, oRst, oCopy, oNew, oNa, oNa2, oObj, oCs, oCv, oCi, oIr, oZr, oVr, Nat.beq, List.getElem?_cons_zero, List.getElem?_cons_succ, List.set_cons_zero, List.set_cons_succ, List.length_cons, List.length_nil, List.nil_append, List.cons_append, List.append_nil, List.replicate_succ, List.replicate_zero, Nat.reduceAdd, Nat.reduceSub, Nat.reduceLT, Nat.reduceLeDiff, Nat.reduceBEq, true_and, and_true, Nat.zero_add, Nat.add_zero, Nat.le_refl, Option.some.injEq, exists_eq_left', true_or, or_true, or_false, false_or, reduceCtorEq, Prod.mk.injEq, Sum.inl.injEq, and_self, false_and, and_false, not_true_eq_false, not_false_eq_true, false_implies, true_implies, sm_r, Int.add_zero, Int.zero_add, wI_wsI, wS_wsI, wR_wsI, wI_wCp, wS_wCp, wR_wCp, Nat.reduceEqDiff, reduceIte, sT_iff, sT_iffC, wIf_ne, ne_eq, Bool.false_or, Bool.true_or, Bool.or_false, Bool.or_true, Bool.or_self, tb_X8_takeSign, p_X8_next, f_X8_next, p_X8_takeSign, f_X8_takeSign, sS_154 hT, hT, hO, sT_iff, Int.reduceEq, tSign, tW]
  repeat' (first | exact True.intro | with_reducible assumption | with_reducible refine And.intro ?_ ?_ | intro _)
  all_goals first
    | omega
    | assumption
    | rfl
    | (split <;> omega)
    | grind
    | skip
theorem met_X8_takeSign (l : Launch) : sm_Met l yX8_takeSign cX8_takeSign 2 none 1 0 0 p_X8_takeSign f_X8_takeSign := sm_met 0 (Or.inl ⟨rfl, rfl⟩) (by decide +kernel) (sn_X8_takeSign l) ok_X8_takeSign
def tOne (w : sm_W) (num hi : Int) : sm_W := if wI w 154 26 = 0 ∧ 48 ≤ tNext w ∧ tNext w ≤ hi then wsI (wsI (wsI w 154 26 0) 175 (5 * wI w 154 27 + num) (tNext w - 48)) 154 25 (wI w 154 25 + 1) else wsI w 154 26 1
def p_X8_takeOne : List sm_V → sm_W → Prop
  | [.inr (.inl m), .inl num, .inl hi], w => m = 154 ∧ tOK w ∧ 0 ≤ num ∧ num ≤ 4
  | _, _ => False
def f_X8_takeOne : sm_F
  | [.inr (.inl m), .inl num, .inl hi], w => (none, tOne w num hi)
  | _, w => (none, w)
def tb_X8_takeOne : List (Nat × List sm_O) := [(0, [oA 0, oA 0, oGi 8 30 26, oNe0 21, oA 0, oCv 8 30 p_X8_next f_X8_next 0 0 1, oK 48, oI 2, oCs p_X8_in f_X8_in 0 0 3, oNe0 25, oGo 21]),
  (21, [oK 1, oGo 26]),
  (25, [oK 0, oGo 26]),
  (26, [oPz 8 30 26, oA 0, oGi 8 30 26, oNe0 66, oA 0, oGr 8 30 29, oK 5, oA 0, oGi 8 30 27, oMul, oI 1, oAdd, oA 0, oCv 8 30 p_X8_next f_X8_next 0 0 1, oK 48, oSub, oIst, oA 0, oDup, oGi 8 30 25, oK 1, oAdd, oPi 8 30 25, oGo 66]),
  (66, [oVr])]
set_option maxRecDepth 100000 in
theorem sb_X8_takeOne_0 (l : Launch) : sm_SndB l RX8 "takeOne" cX8_takeOne 3 0 1 0 [oA 0, oA 0, oGi 8 30 26, oNe0 21, oA 0, oCv 8 30 p_X8_next f_X8_next 0 0 1, oK 48, oI 2, oCs p_X8_in f_X8_in 0 0 3, oNe0 25, oGo 21] := sb_cons (sd_aload_n (by decide +kernel : decode cX8_takeOne 0 = .ok (.aload_n 0, 1)) rfl) (sb_cons (sd_aload_n (by decide +kernel : decode cX8_takeOne 1 = .ok (.aload_n 0, 1)) rfl) (sb_cons (sd_geti (k := 26) kl_8 (by decide) rfl wm_699 (by decide +kernel : decode cX8_takeOne 2 = .ok (.getfield 273, 3))) (sb_cons (sd_ne0 (by decide +kernel : decode cX8_takeOne 5 = .ok (.ifCond .ne 16, 3)) (by decide)) (sb_cons (sd_aload_n (by decide +kernel : decode cX8_takeOne 8 = .ok (.aload_n 0, 1)) rfl) (sb_cons (sd_callv (n := 0) (met_X8_next l) (by decide) (by decide) wm_1032 wm_1030 wm_10 ⟨by decide +kernel, by decide +kernel, by decide +kernel⟩ kl_8 wm_1031 wm_1155 (by decide +kernel : decode cX8_takeOne 9 = .ok (.invokevirtual 276, 3))) (sb_cons (sd_bipush (by decide +kernel : decode cX8_takeOne 12 = .ok (.bipush 48, 2)) ⟨by decide, by decide⟩ (by decide)) (sb_cons (sd_iload_n (by decide +kernel : decode cX8_takeOne 14 = .ok (.iload_n 2, 1)) rfl) (sb_cons (sd_calls (n := 3) (met_X8_in l) (by decide) (by decide) wm_710 wm_708 wm_10 ⟨by decide +kernel, by decide +kernel, by decide +kernel⟩ wm_709 (by decide +kernel : decode cX8_takeOne 15 = .ok (.invokestatic 74, 3))) (sb_cons (sd_ne0 (by decide +kernel : decode cX8_takeOne 18 = .ok (.ifCond .ne 7, 3)) (by decide)) (sb_cons (sd_fall (x := 0)) sb_nil))))))))))
set_option maxRecDepth 100000 in
theorem sb_X8_takeOne_21 (l : Launch) : sm_SndB l RX8 "takeOne" cX8_takeOne 3 0 1 21 [oK 1, oGo 26] := sb_cons (sd_iconst (by decide +kernel : decode cX8_takeOne 21 = .ok (.iconst 1, 1)) ⟨by decide, by decide⟩) (sb_cons (sd_goto (x := 0) (by decide +kernel : decode cX8_takeOne 22 = .ok (.goto 4, 3)) (by decide)) sb_nil)
set_option maxRecDepth 100000 in
theorem sb_X8_takeOne_25 (l : Launch) : sm_SndB l RX8 "takeOne" cX8_takeOne 3 0 1 25 [oK 0, oGo 26] := sb_cons (sd_iconst (by decide +kernel : decode cX8_takeOne 25 = .ok (.iconst 0, 1)) ⟨by decide, by decide⟩) (sb_cons (sd_fall (x := 0)) sb_nil)
set_option maxRecDepth 100000 in
theorem sb_X8_takeOne_26 (l : Launch) : sm_SndB l RX8 "takeOne" cX8_takeOne 3 0 1 26 [oPz 8 30 26, oA 0, oGi 8 30 26, oNe0 66, oA 0, oGr 8 30 29, oK 5, oA 0, oGi 8 30 27, oMul, oI 1, oAdd, oA 0, oCv 8 30 p_X8_next f_X8_next 0 0 1, oK 48, oSub, oIst, oA 0, oDup, oGi 8 30 25, oK 1, oAdd, oPi 8 30 25, oGo 66] := sb_cons (sd_putz (k := 26) kl_8 (by decide) rfl (Or.inl rfl) wm_699 (by decide +kernel : decode cX8_takeOne 26 = .ok (.putfield 273, 3))) (sb_cons (sd_aload_n (by decide +kernel : decode cX8_takeOne 29 = .ok (.aload_n 0, 1)) rfl) (sb_cons (sd_geti (k := 26) kl_8 (by decide) rfl wm_699 (by decide +kernel : decode cX8_takeOne 30 = .ok (.getfield 273, 3))) (sb_cons (sd_ne0 (by decide +kernel : decode cX8_takeOne 33 = .ok (.ifCond .ne 33, 3)) (by decide)) (sb_cons (sd_aload_n (by decide +kernel : decode cX8_takeOne 36 = .ok (.aload_n 0, 1)) rfl) (sb_cons (sd_getr (k := 29) kl_8 (by decide) rfl wm_702 (by decide +kernel : decode cX8_takeOne 37 = .ok (.getfield 71, 3))) (sb_cons (sd_iconst (by decide +kernel : decode cX8_takeOne 40 = .ok (.iconst 5, 1)) ⟨by decide, by decide⟩) (sb_cons (sd_aload_n (by decide +kernel : decode cX8_takeOne 41 = .ok (.aload_n 0, 1)) rfl) (sb_cons (sd_geti (k := 27) kl_8 (by decide) rfl wm_700 (by decide +kernel : decode cX8_takeOne 42 = .ok (.getfield 279, 3))) (sb_cons (sd_imul (by decide +kernel : decode cX8_takeOne 45 = .ok (.imul, 1))) (sb_cons (sd_iload_n (by decide +kernel : decode cX8_takeOne 46 = .ok (.iload_n 1, 1)) rfl) (sb_cons (sd_iadd (by decide +kernel : decode cX8_takeOne 47 = .ok (.iadd, 1))) (sb_cons (sd_aload_n (by decide +kernel : decode cX8_takeOne 48 = .ok (.aload_n 0, 1)) rfl) (sb_cons (sd_callv (n := 0) (met_X8_next l) (by decide) (by decide) wm_1032 wm_1030 wm_10 ⟨by decide +kernel, by decide +kernel, by decide +kernel⟩ kl_8 wm_1031 wm_1155 (by decide +kernel : decode cX8_takeOne 49 = .ok (.invokevirtual 276, 3))) (sb_cons (sd_bipush (by decide +kernel : decode cX8_takeOne 52 = .ok (.bipush 48, 2)) ⟨by decide, by decide⟩ (by decide)) (sb_cons (sd_isub (by decide +kernel : decode cX8_takeOne 54 = .ok (.isub, 1))) (sb_cons (sd_iastore (by decide +kernel : decode cX8_takeOne 55 = .ok (.iastore, 1))) (sb_cons (sd_aload_n (by decide +kernel : decode cX8_takeOne 56 = .ok (.aload_n 0, 1)) rfl) (sb_cons (sd_dup (by decide +kernel : decode cX8_takeOne 57 = .ok (.dup, 1))) (sb_cons (sd_geti (k := 25) kl_8 (by decide) rfl wm_698 (by decide +kernel : decode cX8_takeOne 58 = .ok (.getfield 270, 3))) (sb_cons (sd_iconst (by decide +kernel : decode cX8_takeOne 61 = .ok (.iconst 1, 1)) ⟨by decide, by decide⟩) (sb_cons (sd_iadd (by decide +kernel : decode cX8_takeOne 62 = .ok (.iadd, 1))) (sb_cons (sd_puti (k := 25) kl_8 (by decide) rfl (Or.inl rfl) wm_698 (by decide +kernel : decode cX8_takeOne 63 = .ok (.putfield 270, 3))) (sb_cons (sd_fall (x := 0)) sb_nil)))))))))))))))))))))))
set_option maxRecDepth 100000 in
theorem sb_X8_takeOne_66 (l : Launch) : sm_SndB l RX8 "takeOne" cX8_takeOne 3 0 1 66 [oVr] := sb_cons (sd_return (x := 0) rfl (by decide +kernel : decode cX8_takeOne 66 = .ok (.return_, 1))) sb_nil
theorem sn_X8_takeOne (l : Launch) : sm_SndT l RX8 "takeOne" cX8_takeOne 3 0 1 tb_X8_takeOne := st_cons (sb_X8_takeOne_0 l) (st_cons (sb_X8_takeOne_21 l) (st_cons (sb_X8_takeOne_25 l) (st_cons (sb_X8_takeOne_26 l) (st_cons (sb_X8_takeOne_66 l) (st_nil)))))
set_option maxRecDepth 100000 in
set_option maxHeartbeats 4000000 in
theorem ok_X8_takeOne : sm_Ok tb_X8_takeOne 3 0 0 p_X8_takeOne f_X8_takeOne := by
  intro as w hp ha hw
  match as, hp with
  | [.inr (.inl m), .inl num, .inl hi], hp =>
  refine ⟨Nat.le_of_ble_eq_true rfl, fun Z hZ => ?_⟩
  obtain ⟨rfl, hO, n0, n1⟩ := hp
  have hn := tNext_b hO
  have hO0 := tOK_26 (v := 0) hO (Or.inl rfl)
  obtain ⟨hT, h1, h2, h3, h4, h5⟩ := id hO
  refine hZ (fun _ => false) 16 0 _ _ _ _ _ ?_
  simp only [sm_run, sm_blk, sm_get, sm_ent, sm_ents, sm_wds, sm_wd, sm_nl, sm_pop, sm_back, sm_cases, oK, oLK, oL, oI, oA, oJ, oIs, oAs, oJs, oInc, oAdd, oSub, oMul, oDiv, oRem, oNeg, oAnd, oAndB, oOr, oShl, oI2c, oI2l, oL2i, oLand, oLor, oLshl, oLshr, oLushr, oLcmp, oDup, oDup2, oPop, oGo, oFg, oEq, oNe, oLt, oGe, oGt, oLe, oEq0, oNe0, oLt0, oGe0, oGt0, oLe0, oSw, oGi, oGr, oPi, oPz, oPr, oLen, oIl, oZl, oCl, oRl, oIst, oZst, oCst, oRst, oCopy, oNew, oNa, oNa2, oObj, oCs, oCv, oCi, oIr, oZr, oVr, Nat.beq, List.getElem?_cons_zero, List.getElem?_cons_succ, List.set_cons_zero, List.set_cons_succ, List.length_cons, List.length_nil, List.nil_append, List.cons_append, List.append_nil, List.replicate_succ, List.replicate_zero, Nat.reduceAdd, Nat.reduceSub, Nat.reduceLT, Nat.reduceLeDiff, Nat.reduceBEq, true_and, and_true, Nat.zero_add, Nat.add_zero, Nat.le_refl, Option.some.injEq, exists_eq_left', true_or, or_true, or_false, false_or, reduceCtorEq, Prod.mk.injEq, Sum.inl.injEq, and_self, false_and, and_false, not_true_eq_false, not_false_eq_true, false_implies, true_implies, sm_r, Int.add_zero, Int.zero_add, wI_wsI, wS_wsI, wR_wsI, wI_wCp, wS_wCp, wR_wCp, Nat.reduceEqDiff, reduceIte, sT_iff, sT_iffC, wIf_ne, ne_eq, Bool.false_or, Bool.true_or, Bool.or_false, Bool.or_true, Bool.or_self, tb_X8_takeOne, p_X8_in, p_X8_next, f_X8_in, f_X8_next, p_X8_takeOne, f_X8_takeOne, sS_154 hT, sR_154_29 hT, sS_175 hT, hT, hO, hO0, sT_iff, Int.reduceEq, tNext_26, tNext_175, b01, tOne]
  repeat' (first | exact True.intro | with_reducible assumption | with_reducible refine And.intro ?_ ?_ | intro _)
  all_goals first
    | omega
    | assumption
    | rfl
    | (split <;> omega)
    | grind
    | skip
theorem met_X8_takeOne (l : Launch) : sm_Met l yX8_takeOne cX8_takeOne 3 none 1 0 0 p_X8_takeOne f_X8_takeOne := sm_met 0 (Or.inl ⟨rfl, rfl⟩) (by decide +kernel) (sn_X8_takeOne l) ok_X8_takeOne
def tNumL : Nat → sm_W → Int → Int → sm_W
  | 0, w, num, v => wsI w 175 (5 * wI w 154 27 + num) v
  | n + 1, w, num, v => if wI w 154 26 = 0 ∧ 0 < v ∧ 48 ≤ tNext w ∧ tNext w ≤ 57 then (if 999 < 10 * v + tNext w - 48 then tNumL n (tW w 1 (wI w 154 25)) num v else tNumL n (tW w 0 (wI w 154 25 + 1)) num (10 * v + tNext w - 48)) else wsI w 175 (5 * wI w 154 27 + num) v
theorem tNumL_s (n : Nat) (w : sm_W) (num v : Int) : tNumL (n + 1) w num v = if wI w 154 26 = 0 ∧ 0 < v ∧ 48 ≤ tNext w ∧ tNext w ≤ 57 then (if 999 < 10 * v + tNext w - 48 then tNumL n (tW w 1 (wI w 154 25)) num v else tNumL n (tW w 0 (wI w 154 25 + 1)) num (10 * v + tNext w - 48)) else wsI w 175 (5 * wI w 154 27 + num) v := rfl
def tNum (w : sm_W) (num : Int) : sm_W := if wI w 154 26 = 0 ∧ 48 ≤ tNext w ∧ tNext w ≤ 57 then tNumL 5 (tW w 0 (wI w 154 25 + 1)) num (tNext w - 48) else wsI w 154 26 1
def p_X8_takeNumber : List sm_V → sm_W → Prop
  | [.inr (.inl m), .inl num], w => m = 154 ∧ tOK w ∧ 0 ≤ num ∧ num ≤ 4
  | _, _ => False
def f_X8_takeNumber : sm_F
  | [.inr (.inl m), .inl num], w => (none, tNum w num)
  | _, w => (none, w)
def tb_X8_takeNumber : List (Nat × List sm_O) := [(0, [oA 0, oA 0, oGi 8 30 26, oNe0 22, oA 0, oCv 8 30 p_X8_next f_X8_next 0 0 1, oK 48, oK 57, oCs p_X8_in f_X8_in 0 0 3, oNe0 26, oGo 22]),
  (22, [oK 1, oGo 27]),
  (26, [oK 0, oGo 27]),
  (27, [oPz 8 30 26, oA 0, oGi 8 30 26, oEq0 38, oVr]),
  (38, [oA 0, oCv 8 30 p_X8_next f_X8_next 0 0 1, oK 48, oSub, oIs 2, oA 0, oDup, oGi 8 30 25, oK 1, oAdd, oPi 8 30 25, oGo 56]),
  (56, [oA 0, oGi 8 30 26, oNe0 156, oI 2, oLe0 156, oA 0, oCv 8 30 p_X8_next f_X8_next 0 0 1, oK 48, oK 57, oCs p_X8_in f_X8_in 0 0 3, oEq0 156, oA 0, oK 10, oI 2, oMul, oA 0, oCv 8 30 p_X8_next f_X8_next 0 0 1, oAdd, oK 48, oSub, oK 999, oLe 104, oK 1, oGo 105]),
  (104, [oK 0, oGo 105]),
  (105, [oPz 8 30 26, oA 0, oGi 8 30 26, oEq0 119, oI 2, oGo 131]),
  (119, [oK 10, oI 2, oMul, oA 0, oCv 8 30 p_X8_next f_X8_next 0 0 1, oAdd, oK 48, oSub, oGo 131]),
  (131, [oIs 2, oA 0, oDup, oGi 8 30 25, oA 0, oGi 8 30 26, oEq0 148, oK 0, oGo 149]),
  (148, [oK 1, oGo 149]),
  (149, [oAdd, oPi 8 30 25, oGo 56]),
  (156, [oA 0, oGr 8 30 29, oK 5, oA 0, oGi 8 30 27, oMul, oI 1, oAdd, oI 2, oIst, oVr])]
set_option maxRecDepth 100000 in
theorem sb_X8_takeNumber_0 (l : Launch) : sm_SndB l RX8 "takeNumber" cX8_takeNumber 3 0 1 0 [oA 0, oA 0, oGi 8 30 26, oNe0 22, oA 0, oCv 8 30 p_X8_next f_X8_next 0 0 1, oK 48, oK 57, oCs p_X8_in f_X8_in 0 0 3, oNe0 26, oGo 22] := sb_cons (sd_aload_n (by decide +kernel : decode cX8_takeNumber 0 = .ok (.aload_n 0, 1)) rfl) (sb_cons (sd_aload_n (by decide +kernel : decode cX8_takeNumber 1 = .ok (.aload_n 0, 1)) rfl) (sb_cons (sd_geti (k := 26) kl_8 (by decide) rfl wm_699 (by decide +kernel : decode cX8_takeNumber 2 = .ok (.getfield 273, 3))) (sb_cons (sd_ne0 (by decide +kernel : decode cX8_takeNumber 5 = .ok (.ifCond .ne 17, 3)) (by decide)) (sb_cons (sd_aload_n (by decide +kernel : decode cX8_takeNumber 8 = .ok (.aload_n 0, 1)) rfl) (sb_cons (sd_callv (n := 0) (met_X8_next l) (by decide) (by decide) wm_1032 wm_1030 wm_10 ⟨by decide +kernel, by decide +kernel, by decide +kernel⟩ kl_8 wm_1031 wm_1155 (by decide +kernel : decode cX8_takeNumber 9 = .ok (.invokevirtual 276, 3))) (sb_cons (sd_bipush (by decide +kernel : decode cX8_takeNumber 12 = .ok (.bipush 48, 2)) ⟨by decide, by decide⟩ (by decide)) (sb_cons (sd_bipush (by decide +kernel : decode cX8_takeNumber 14 = .ok (.bipush 57, 2)) ⟨by decide, by decide⟩ (by decide)) (sb_cons (sd_calls (n := 3) (met_X8_in l) (by decide) (by decide) wm_710 wm_708 wm_10 ⟨by decide +kernel, by decide +kernel, by decide +kernel⟩ wm_709 (by decide +kernel : decode cX8_takeNumber 16 = .ok (.invokestatic 74, 3))) (sb_cons (sd_ne0 (by decide +kernel : decode cX8_takeNumber 19 = .ok (.ifCond .ne 7, 3)) (by decide)) (sb_cons (sd_fall (x := 0)) sb_nil))))))))))
set_option maxRecDepth 100000 in
theorem sb_X8_takeNumber_22 (l : Launch) : sm_SndB l RX8 "takeNumber" cX8_takeNumber 3 0 1 22 [oK 1, oGo 27] := sb_cons (sd_iconst (by decide +kernel : decode cX8_takeNumber 22 = .ok (.iconst 1, 1)) ⟨by decide, by decide⟩) (sb_cons (sd_goto (x := 0) (by decide +kernel : decode cX8_takeNumber 23 = .ok (.goto 4, 3)) (by decide)) sb_nil)
set_option maxRecDepth 100000 in
theorem sb_X8_takeNumber_26 (l : Launch) : sm_SndB l RX8 "takeNumber" cX8_takeNumber 3 0 1 26 [oK 0, oGo 27] := sb_cons (sd_iconst (by decide +kernel : decode cX8_takeNumber 26 = .ok (.iconst 0, 1)) ⟨by decide, by decide⟩) (sb_cons (sd_fall (x := 0)) sb_nil)
set_option maxRecDepth 100000 in
theorem sb_X8_takeNumber_27 (l : Launch) : sm_SndB l RX8 "takeNumber" cX8_takeNumber 3 0 1 27 [oPz 8 30 26, oA 0, oGi 8 30 26, oEq0 38, oVr] := sb_cons (sd_putz (k := 26) kl_8 (by decide) rfl (Or.inl rfl) wm_699 (by decide +kernel : decode cX8_takeNumber 27 = .ok (.putfield 273, 3))) (sb_cons (sd_aload_n (by decide +kernel : decode cX8_takeNumber 30 = .ok (.aload_n 0, 1)) rfl) (sb_cons (sd_geti (k := 26) kl_8 (by decide) rfl wm_699 (by decide +kernel : decode cX8_takeNumber 31 = .ok (.getfield 273, 3))) (sb_cons (sd_eq0 (by decide +kernel : decode cX8_takeNumber 34 = .ok (.ifCond .eq 4, 3)) (by decide)) (sb_cons (sd_return (x := 0) rfl (by decide +kernel : decode cX8_takeNumber 37 = .ok (.return_, 1))) sb_nil))))
set_option maxRecDepth 100000 in
theorem sb_X8_takeNumber_38 (l : Launch) : sm_SndB l RX8 "takeNumber" cX8_takeNumber 3 0 1 38 [oA 0, oCv 8 30 p_X8_next f_X8_next 0 0 1, oK 48, oSub, oIs 2, oA 0, oDup, oGi 8 30 25, oK 1, oAdd, oPi 8 30 25, oGo 56] := sb_cons (sd_aload_n (by decide +kernel : decode cX8_takeNumber 38 = .ok (.aload_n 0, 1)) rfl) (sb_cons (sd_callv (n := 0) (met_X8_next l) (by decide) (by decide) wm_1032 wm_1030 wm_10 ⟨by decide +kernel, by decide +kernel, by decide +kernel⟩ kl_8 wm_1031 wm_1155 (by decide +kernel : decode cX8_takeNumber 39 = .ok (.invokevirtual 276, 3))) (sb_cons (sd_bipush (by decide +kernel : decode cX8_takeNumber 42 = .ok (.bipush 48, 2)) ⟨by decide, by decide⟩ (by decide)) (sb_cons (sd_isub (by decide +kernel : decode cX8_takeNumber 44 = .ok (.isub, 1))) (sb_cons (sd_istore_n (by decide +kernel : decode cX8_takeNumber 45 = .ok (.istore_n 2, 1)) rfl) (sb_cons (sd_aload_n (by decide +kernel : decode cX8_takeNumber 46 = .ok (.aload_n 0, 1)) rfl) (sb_cons (sd_dup (by decide +kernel : decode cX8_takeNumber 47 = .ok (.dup, 1))) (sb_cons (sd_geti (k := 25) kl_8 (by decide) rfl wm_698 (by decide +kernel : decode cX8_takeNumber 48 = .ok (.getfield 270, 3))) (sb_cons (sd_iconst (by decide +kernel : decode cX8_takeNumber 51 = .ok (.iconst 1, 1)) ⟨by decide, by decide⟩) (sb_cons (sd_iadd (by decide +kernel : decode cX8_takeNumber 52 = .ok (.iadd, 1))) (sb_cons (sd_puti (k := 25) kl_8 (by decide) rfl (Or.inl rfl) wm_698 (by decide +kernel : decode cX8_takeNumber 53 = .ok (.putfield 270, 3))) (sb_cons (sd_fall (x := 0)) sb_nil)))))))))))
set_option maxRecDepth 100000 in
theorem sb_X8_takeNumber_56 (l : Launch) : sm_SndB l RX8 "takeNumber" cX8_takeNumber 3 0 1 56 [oA 0, oGi 8 30 26, oNe0 156, oI 2, oLe0 156, oA 0, oCv 8 30 p_X8_next f_X8_next 0 0 1, oK 48, oK 57, oCs p_X8_in f_X8_in 0 0 3, oEq0 156, oA 0, oK 10, oI 2, oMul, oA 0, oCv 8 30 p_X8_next f_X8_next 0 0 1, oAdd, oK 48, oSub, oK 999, oLe 104, oK 1, oGo 105] := sb_cons (sd_aload_n (by decide +kernel : decode cX8_takeNumber 56 = .ok (.aload_n 0, 1)) rfl) (sb_cons (sd_geti (k := 26) kl_8 (by decide) rfl wm_699 (by decide +kernel : decode cX8_takeNumber 57 = .ok (.getfield 273, 3))) (sb_cons (sd_ne0 (by decide +kernel : decode cX8_takeNumber 60 = .ok (.ifCond .ne 96, 3)) (by decide)) (sb_cons (sd_iload_n (by decide +kernel : decode cX8_takeNumber 63 = .ok (.iload_n 2, 1)) rfl) (sb_cons (sd_le0 (by decide +kernel : decode cX8_takeNumber 64 = .ok (.ifCond .le 92, 3)) (by decide)) (sb_cons (sd_aload_n (by decide +kernel : decode cX8_takeNumber 67 = .ok (.aload_n 0, 1)) rfl) (sb_cons (sd_callv (n := 0) (met_X8_next l) (by decide) (by decide) wm_1032 wm_1030 wm_10 ⟨by decide +kernel, by decide +kernel, by decide +kernel⟩ kl_8 wm_1031 wm_1155 (by decide +kernel : decode cX8_takeNumber 68 = .ok (.invokevirtual 276, 3))) (sb_cons (sd_bipush (by decide +kernel : decode cX8_takeNumber 71 = .ok (.bipush 48, 2)) ⟨by decide, by decide⟩ (by decide)) (sb_cons (sd_bipush (by decide +kernel : decode cX8_takeNumber 73 = .ok (.bipush 57, 2)) ⟨by decide, by decide⟩ (by decide)) (sb_cons (sd_calls (n := 3) (met_X8_in l) (by decide) (by decide) wm_710 wm_708 wm_10 ⟨by decide +kernel, by decide +kernel, by decide +kernel⟩ wm_709 (by decide +kernel : decode cX8_takeNumber 75 = .ok (.invokestatic 74, 3))) (sb_cons (sd_eq0 (by decide +kernel : decode cX8_takeNumber 78 = .ok (.ifCond .eq 78, 3)) (by decide)) (sb_cons (sd_aload_n (by decide +kernel : decode cX8_takeNumber 81 = .ok (.aload_n 0, 1)) rfl) (sb_cons (sd_bipush (by decide +kernel : decode cX8_takeNumber 82 = .ok (.bipush 10, 2)) ⟨by decide, by decide⟩ (by decide)) (sb_cons (sd_iload_n (by decide +kernel : decode cX8_takeNumber 84 = .ok (.iload_n 2, 1)) rfl) (sb_cons (sd_imul (by decide +kernel : decode cX8_takeNumber 85 = .ok (.imul, 1))) (sb_cons (sd_aload_n (by decide +kernel : decode cX8_takeNumber 86 = .ok (.aload_n 0, 1)) rfl) (sb_cons (sd_callv (n := 0) (met_X8_next l) (by decide) (by decide) wm_1032 wm_1030 wm_10 ⟨by decide +kernel, by decide +kernel, by decide +kernel⟩ kl_8 wm_1031 wm_1155 (by decide +kernel : decode cX8_takeNumber 87 = .ok (.invokevirtual 276, 3))) (sb_cons (sd_iadd (by decide +kernel : decode cX8_takeNumber 90 = .ok (.iadd, 1))) (sb_cons (sd_bipush (by decide +kernel : decode cX8_takeNumber 91 = .ok (.bipush 48, 2)) ⟨by decide, by decide⟩ (by decide)) (sb_cons (sd_isub (by decide +kernel : decode cX8_takeNumber 93 = .ok (.isub, 1))) (sb_cons (sd_sipush (by decide +kernel : decode cX8_takeNumber 94 = .ok (.sipush 999, 3)) ⟨by decide, by decide⟩ (by decide)) (sb_cons (sd_le (by decide +kernel : decode cX8_takeNumber 97 = .ok (.if_icmp .le 7, 3)) (by decide)) (sb_cons (sd_iconst (by decide +kernel : decode cX8_takeNumber 100 = .ok (.iconst 1, 1)) ⟨by decide, by decide⟩) (sb_cons (sd_goto (x := 0) (by decide +kernel : decode cX8_takeNumber 101 = .ok (.goto 4, 3)) (by decide)) sb_nil)))))))))))))))))))))))
set_option maxRecDepth 100000 in
theorem sb_X8_takeNumber_104 (l : Launch) : sm_SndB l RX8 "takeNumber" cX8_takeNumber 3 0 1 104 [oK 0, oGo 105] := sb_cons (sd_iconst (by decide +kernel : decode cX8_takeNumber 104 = .ok (.iconst 0, 1)) ⟨by decide, by decide⟩) (sb_cons (sd_fall (x := 0)) sb_nil)
set_option maxRecDepth 100000 in
theorem sb_X8_takeNumber_105 (l : Launch) : sm_SndB l RX8 "takeNumber" cX8_takeNumber 3 0 1 105 [oPz 8 30 26, oA 0, oGi 8 30 26, oEq0 119, oI 2, oGo 131] := sb_cons (sd_putz (k := 26) kl_8 (by decide) rfl (Or.inl rfl) wm_699 (by decide +kernel : decode cX8_takeNumber 105 = .ok (.putfield 273, 3))) (sb_cons (sd_aload_n (by decide +kernel : decode cX8_takeNumber 108 = .ok (.aload_n 0, 1)) rfl) (sb_cons (sd_geti (k := 26) kl_8 (by decide) rfl wm_699 (by decide +kernel : decode cX8_takeNumber 109 = .ok (.getfield 273, 3))) (sb_cons (sd_eq0 (by decide +kernel : decode cX8_takeNumber 112 = .ok (.ifCond .eq 7, 3)) (by decide)) (sb_cons (sd_iload_n (by decide +kernel : decode cX8_takeNumber 115 = .ok (.iload_n 2, 1)) rfl) (sb_cons (sd_goto (x := 0) (by decide +kernel : decode cX8_takeNumber 116 = .ok (.goto 15, 3)) (by decide)) sb_nil)))))
set_option maxRecDepth 100000 in
theorem sb_X8_takeNumber_119 (l : Launch) : sm_SndB l RX8 "takeNumber" cX8_takeNumber 3 0 1 119 [oK 10, oI 2, oMul, oA 0, oCv 8 30 p_X8_next f_X8_next 0 0 1, oAdd, oK 48, oSub, oGo 131] := sb_cons (sd_bipush (by decide +kernel : decode cX8_takeNumber 119 = .ok (.bipush 10, 2)) ⟨by decide, by decide⟩ (by decide)) (sb_cons (sd_iload_n (by decide +kernel : decode cX8_takeNumber 121 = .ok (.iload_n 2, 1)) rfl) (sb_cons (sd_imul (by decide +kernel : decode cX8_takeNumber 122 = .ok (.imul, 1))) (sb_cons (sd_aload_n (by decide +kernel : decode cX8_takeNumber 123 = .ok (.aload_n 0, 1)) rfl) (sb_cons (sd_callv (n := 0) (met_X8_next l) (by decide) (by decide) wm_1032 wm_1030 wm_10 ⟨by decide +kernel, by decide +kernel, by decide +kernel⟩ kl_8 wm_1031 wm_1155 (by decide +kernel : decode cX8_takeNumber 124 = .ok (.invokevirtual 276, 3))) (sb_cons (sd_iadd (by decide +kernel : decode cX8_takeNumber 127 = .ok (.iadd, 1))) (sb_cons (sd_bipush (by decide +kernel : decode cX8_takeNumber 128 = .ok (.bipush 48, 2)) ⟨by decide, by decide⟩ (by decide)) (sb_cons (sd_isub (by decide +kernel : decode cX8_takeNumber 130 = .ok (.isub, 1))) (sb_cons (sd_fall (x := 0)) sb_nil))))))))
set_option maxRecDepth 100000 in
theorem sb_X8_takeNumber_131 (l : Launch) : sm_SndB l RX8 "takeNumber" cX8_takeNumber 3 0 1 131 [oIs 2, oA 0, oDup, oGi 8 30 25, oA 0, oGi 8 30 26, oEq0 148, oK 0, oGo 149] := sb_cons (sd_istore_n (by decide +kernel : decode cX8_takeNumber 131 = .ok (.istore_n 2, 1)) rfl) (sb_cons (sd_aload_n (by decide +kernel : decode cX8_takeNumber 132 = .ok (.aload_n 0, 1)) rfl) (sb_cons (sd_dup (by decide +kernel : decode cX8_takeNumber 133 = .ok (.dup, 1))) (sb_cons (sd_geti (k := 25) kl_8 (by decide) rfl wm_698 (by decide +kernel : decode cX8_takeNumber 134 = .ok (.getfield 270, 3))) (sb_cons (sd_aload_n (by decide +kernel : decode cX8_takeNumber 137 = .ok (.aload_n 0, 1)) rfl) (sb_cons (sd_geti (k := 26) kl_8 (by decide) rfl wm_699 (by decide +kernel : decode cX8_takeNumber 138 = .ok (.getfield 273, 3))) (sb_cons (sd_eq0 (by decide +kernel : decode cX8_takeNumber 141 = .ok (.ifCond .eq 7, 3)) (by decide)) (sb_cons (sd_iconst (by decide +kernel : decode cX8_takeNumber 144 = .ok (.iconst 0, 1)) ⟨by decide, by decide⟩) (sb_cons (sd_goto (x := 0) (by decide +kernel : decode cX8_takeNumber 145 = .ok (.goto 4, 3)) (by decide)) sb_nil))))))))
set_option maxRecDepth 100000 in
theorem sb_X8_takeNumber_148 (l : Launch) : sm_SndB l RX8 "takeNumber" cX8_takeNumber 3 0 1 148 [oK 1, oGo 149] := sb_cons (sd_iconst (by decide +kernel : decode cX8_takeNumber 148 = .ok (.iconst 1, 1)) ⟨by decide, by decide⟩) (sb_cons (sd_fall (x := 0)) sb_nil)
set_option maxRecDepth 100000 in
theorem sb_X8_takeNumber_149 (l : Launch) : sm_SndB l RX8 "takeNumber" cX8_takeNumber 3 0 1 149 [oAdd, oPi 8 30 25, oGo 56] := sb_cons (sd_iadd (by decide +kernel : decode cX8_takeNumber 149 = .ok (.iadd, 1))) (sb_cons (sd_puti (k := 25) kl_8 (by decide) rfl (Or.inl rfl) wm_698 (by decide +kernel : decode cX8_takeNumber 150 = .ok (.putfield 270, 3))) (sb_cons (sd_goto (x := 0) (by decide +kernel : decode cX8_takeNumber 153 = .ok (.goto (-97), 3)) (by decide)) sb_nil))
set_option maxRecDepth 100000 in
theorem sb_X8_takeNumber_156 (l : Launch) : sm_SndB l RX8 "takeNumber" cX8_takeNumber 3 0 1 156 [oA 0, oGr 8 30 29, oK 5, oA 0, oGi 8 30 27, oMul, oI 1, oAdd, oI 2, oIst, oVr] := sb_cons (sd_aload_n (by decide +kernel : decode cX8_takeNumber 156 = .ok (.aload_n 0, 1)) rfl) (sb_cons (sd_getr (k := 29) kl_8 (by decide) rfl wm_702 (by decide +kernel : decode cX8_takeNumber 157 = .ok (.getfield 71, 3))) (sb_cons (sd_iconst (by decide +kernel : decode cX8_takeNumber 160 = .ok (.iconst 5, 1)) ⟨by decide, by decide⟩) (sb_cons (sd_aload_n (by decide +kernel : decode cX8_takeNumber 161 = .ok (.aload_n 0, 1)) rfl) (sb_cons (sd_geti (k := 27) kl_8 (by decide) rfl wm_700 (by decide +kernel : decode cX8_takeNumber 162 = .ok (.getfield 279, 3))) (sb_cons (sd_imul (by decide +kernel : decode cX8_takeNumber 165 = .ok (.imul, 1))) (sb_cons (sd_iload_n (by decide +kernel : decode cX8_takeNumber 166 = .ok (.iload_n 1, 1)) rfl) (sb_cons (sd_iadd (by decide +kernel : decode cX8_takeNumber 167 = .ok (.iadd, 1))) (sb_cons (sd_iload_n (by decide +kernel : decode cX8_takeNumber 168 = .ok (.iload_n 2, 1)) rfl) (sb_cons (sd_iastore (by decide +kernel : decode cX8_takeNumber 169 = .ok (.iastore, 1))) (sb_cons (sd_return (x := 0) rfl (by decide +kernel : decode cX8_takeNumber 170 = .ok (.return_, 1))) sb_nil))))))))))
theorem sn_X8_takeNumber (l : Launch) : sm_SndT l RX8 "takeNumber" cX8_takeNumber 3 0 1 tb_X8_takeNumber := st_cons (sb_X8_takeNumber_0 l) (st_cons (sb_X8_takeNumber_22 l) (st_cons (sb_X8_takeNumber_26 l) (st_cons (sb_X8_takeNumber_27 l) (st_cons (sb_X8_takeNumber_38 l) (st_cons (sb_X8_takeNumber_56 l) (st_cons (sb_X8_takeNumber_104 l) (st_cons (sb_X8_takeNumber_105 l) (st_cons (sb_X8_takeNumber_119 l) (st_cons (sb_X8_takeNumber_131 l) (st_cons (sb_X8_takeNumber_148 l) (st_cons (sb_X8_takeNumber_149 l) (st_cons (sb_X8_takeNumber_156 l) (st_nil)))))))))))))
set_option maxRecDepth 100000 in
set_option maxHeartbeats 4000000 in
theorem ok_X8_takeNumber : sm_Ok tb_X8_takeNumber 3 0 0 p_X8_takeNumber f_X8_takeNumber := by
  intro as w hp ha hw
  match as, hp with
  | [.inr (.inl m), .inl num], hp =>
  refine ⟨Nat.le_of_ble_eq_true rfl, fun Z hZ => ?_⟩
  obtain ⟨rfl, hO, n0, n1⟩ := hp
  have hn := tNext_b hO
  have hO0 := tOK_26 (v := 0) hO (Or.inl rfl)
  obtain ⟨hT, h1, h2, h3, h4, h5⟩ := id hO
  have hl := sm_loopM (S := Nat × sm_W × Int) Z 56 (fun s => s.1) (fun s => tOK s.2.1 ∧ 0 ≤ s.2.2 ∧ s.2.2 ≤ 999 ∧ (s.1 = 0 → wI s.2.1 154 26 = 1) ∧ (s.1 = 1 → wI s.2.1 154 26 = 1 ∨ 100 ≤ s.2.2) ∧ (s.1 = 2 → wI s.2.1 154 26 = 1 ∨ 100 ≤ s.2.2) ∧ (s.1 = 3 → wI s.2.1 154 26 = 1 ∨ 100 ≤ s.2.2) ∧ (s.1 = 4 → wI s.2.1 154 26 = 1 ∨ 10 ≤ s.2.2) ∧ s.1 ≤ 5 ∧ tNumL s.1 s.2.1 num s.2.2 = tNum w num) (fun s => [some (.inr (.inl 154)), some (.inl num), some (.inl s.2.2)]) (fun s => s.2.1) 0 0 (fun s hI ih => by
    obtain ⟨n, u, v⟩ := s
    dsimp only at hI ih ⊢
    obtain ⟨hU, v0, v1, i0, i1, i2, i3, i4, i5, he⟩ := hI
    have hn := tNext_b hU
    have hU0 := tOK_26 (v := 0) hU (Or.inl rfl)
    have hU1 := tOK_26 (v := 1) hU (Or.inr rfl)
    obtain ⟨hT, h1, h2, h3, h4, h5⟩ := id hU
    cases n with
    | zero =>
      have hw1 := i0 rfl
      have he : wsI u 175 (5 * wI u 154 27 + num) v = tNum w num := he
      clear ih
      refine hZ (fun u => Nat.beq u 56) 14 56 _ _ _ _ _ ?_
      simp only [sm_run, sm_blk, sm_get, sm_ent, sm_ents, sm_wds, sm_wd, sm_nl, sm_pop, sm_back, sm_cases, oK, oLK, oL, oI, oA, oJ, oIs, oAs, oJs, oInc, oAdd, oSub, oMul, oDiv, oRem, oNeg, oAnd, oAndB, oOr, oShl, oI2c, oI2l, oL2i, oLand, oLor, oLshl, oLshr, oLushr, oLcmp, oDup, oDup2, oPop, oGo, oFg, oEq, oNe, oLt, oGe, oGt, oLe, oEq0, oNe0, oLt0, oGe0, oGt0, oLe0, oSw, oGi, oGr, oPi, oPz, oPr, oLen, oIl, oZl, oCl, oRl, oIst, oZst, oCst, oRst, oCopy, oNew, oNa, oNa2, oObj, oCs, oCv, oCi, oIr, oZr, oVr, Nat.beq, List.getElem?_cons_zero, List.getElem?_cons_succ, List.set_cons_zero, List.set_cons_succ, List.length_cons, List.length_nil, List.nil_append, List.cons_append, List.append_nil, List.replicate_succ, List.replicate_zero, Nat.reduceAdd, Nat.reduceSub, Nat.reduceLT, Nat.reduceLeDiff, Nat.reduceBEq, true_and, and_true, Nat.zero_add, Nat.add_zero, Nat.le_refl, Option.some.injEq, exists_eq_left', true_or, or_true, or_false, false_or, reduceCtorEq, Prod.mk.injEq, Sum.inl.injEq, and_self, false_and, and_false, not_true_eq_false, not_false_eq_true, false_implies, true_implies, sm_r, Int.add_zero, Int.zero_add, wI_wsI, wS_wsI, wR_wsI, wI_wCp, wS_wCp, wR_wCp, Nat.reduceEqDiff, reduceIte, sT_iff, sT_iffC, wIf_ne, ne_eq, Bool.false_or, Bool.true_or, Bool.or_false, Bool.or_true, Bool.or_self, tb_X8_takeNumber, p_X8_in, p_X8_next, f_X8_in, f_X8_next, p_X8_takeNumber, f_X8_takeNumber, sS_154 hT, sR_154_29 hT, sS_175 hT, hT, hU, sT_iff, Int.reduceEq, b01]
      repeat' (first | exact True.intro | with_reducible assumption | with_reducible refine And.intro ?_ ?_ | intro _)
      all_goals first
        | omega
        | assumption
        | rfl
        | (split <;> omega)
        | (have k9 := ih (by omega)
           (repeat' split at k9) <;> first | exact k9 | omega)
        | (have k9 := ih2 (by omega)
           (repeat' split at k9) <;> first | exact k9 | omega)
        | exact he (by omega)
        | (congr 1; omega)
        | (rw [if_pos (by omega)] at he; exact he)
        | exact hD1 (by omega)
        | exact hD2 (by omega)
        | grind
        | skip
    | succ n =>
      rw [tNumL_s] at he
      by_cases c : wI u 154 26 = 0 ∧ 0 < v ∧ 48 ≤ tNext u ∧ tNext u ≤ 57
      · rw [if_pos c] at he
        by_cases c2 : 999 < 10 * v + tNext u - 48
        · rw [if_pos c2] at he
          have ih := ih (n, tW u 1 (wI u 154 25), v) ⟨tOK_25 hU1 h2, v0, v1, fun _ => rfl, fun _ => Or.inl rfl, fun _ => Or.inl rfl, fun _ => Or.inl rfl, fun _ => Or.inl rfl, by dsimp only; omega, he⟩ (Nat.lt_succ_self n)
          unfold tW at ih
          refine hZ (fun u => Nat.beq u 56) 14 56 _ _ _ _ _ ?_
          simp only [sm_run, sm_blk, sm_get, sm_ent, sm_ents, sm_wds, sm_wd, sm_nl, sm_pop, sm_back, sm_cases, oK, oLK, oL, oI, oA, oJ, oIs, oAs, oJs, oInc, oAdd, oSub, oMul, oDiv, oRem, oNeg, oAnd, oAndB, oOr, oShl, oI2c, oI2l, oL2i, oLand, oLor, oLshl, oLshr, oLushr, oLcmp, oDup, oDup2, oPop, oGo, oFg, oEq, oNe, oLt, oGe, oGt, oLe, oEq0, oNe0, oLt0, oGe0, oGt0, oLe0, oSw, oGi, oGr, oPi, oPz, oPr, oLen, oIl, oZl, oCl, oRl, oIst, oZst, oCst, oRst, oCopy, oNew, oNa, oNa2, oObj, oCs, oCv, oCi, oIr, oZr, oVr, Nat.beq, List.getElem?_cons_zero, List.getElem?_cons_succ, List.set_cons_zero, List.set_cons_succ, List.length_cons, List.length_nil, List.nil_append, List.cons_append, List.append_nil, List.replicate_succ, List.replicate_zero, Nat.reduceAdd, Nat.reduceSub, Nat.reduceLT, Nat.reduceLeDiff, Nat.reduceBEq, true_and, and_true, Nat.zero_add, Nat.add_zero, Nat.le_refl, Option.some.injEq, exists_eq_left', true_or, or_true, or_false, false_or, reduceCtorEq, Prod.mk.injEq, Sum.inl.injEq, and_self, false_and, and_false, not_true_eq_false, not_false_eq_true, false_implies, true_implies, sm_r, Int.add_zero, Int.zero_add, wI_wsI, wS_wsI, wR_wsI, wI_wCp, wS_wCp, wR_wCp, Nat.reduceEqDiff, reduceIte, sT_iff, sT_iffC, wIf_ne, ne_eq, Bool.false_or, Bool.true_or, Bool.or_false, Bool.or_true, Bool.or_self, tb_X8_takeNumber, p_X8_in, p_X8_next, f_X8_in, f_X8_next, p_X8_takeNumber, f_X8_takeNumber, sS_154 hT, sR_154_29 hT, sS_175 hT, hT, hU, hU0, hU1, sT_iff, Int.reduceEq, tNext_26, b01]
          repeat' (first | exact True.intro | with_reducible assumption | with_reducible refine And.intro ?_ ?_ | intro _)
          all_goals first
            | omega
            | assumption
            | rfl
            | (split <;> omega)
            | (have k9 := ih (by omega)
               (repeat' split at k9) <;> first | exact k9 | omega)
            | (have k9 := ih2 (by omega)
               (repeat' split at k9) <;> first | exact k9 | omega)
            | exact he (by omega)
            | (congr 1; omega)
            | (rw [if_pos (by omega)] at he; exact he)
            | exact hD1 (by omega)
            | exact hD2 (by omega)
            | grind
            | skip
        · rw [if_neg c2] at he
          have ih := ih (n, tW u 0 (wI u 154 25 + 1), 10 * v + tNext u - 48) ⟨tOK_25 hU0 (by omega), by dsimp only; omega, by dsimp only; omega, fun e => by dsimp only at e; omega, fun e => by dsimp only at e ⊢; right; omega, fun e => by dsimp only at e ⊢; right; omega, fun e => by dsimp only at e ⊢; right; omega, fun e => by dsimp only at e ⊢; right; omega, by dsimp only; omega, he⟩ (Nat.lt_succ_self n)
          unfold tW at ih
          refine hZ (fun u => Nat.beq u 56) 14 56 _ _ _ _ _ ?_
          simp only [sm_run, sm_blk, sm_get, sm_ent, sm_ents, sm_wds, sm_wd, sm_nl, sm_pop, sm_back, sm_cases, oK, oLK, oL, oI, oA, oJ, oIs, oAs, oJs, oInc, oAdd, oSub, oMul, oDiv, oRem, oNeg, oAnd, oAndB, oOr, oShl, oI2c, oI2l, oL2i, oLand, oLor, oLshl, oLshr, oLushr, oLcmp, oDup, oDup2, oPop, oGo, oFg, oEq, oNe, oLt, oGe, oGt, oLe, oEq0, oNe0, oLt0, oGe0, oGt0, oLe0, oSw, oGi, oGr, oPi, oPz, oPr, oLen, oIl, oZl, oCl, oRl, oIst, oZst, oCst, oRst, oCopy, oNew, oNa, oNa2, oObj, oCs, oCv, oCi, oIr, oZr, oVr, Nat.beq, List.getElem?_cons_zero, List.getElem?_cons_succ, List.set_cons_zero, List.set_cons_succ, List.length_cons, List.length_nil, List.nil_append, List.cons_append, List.append_nil, List.replicate_succ, List.replicate_zero, Nat.reduceAdd, Nat.reduceSub, Nat.reduceLT, Nat.reduceLeDiff, Nat.reduceBEq, true_and, and_true, Nat.zero_add, Nat.add_zero, Nat.le_refl, Option.some.injEq, exists_eq_left', true_or, or_true, or_false, false_or, reduceCtorEq, Prod.mk.injEq, Sum.inl.injEq, and_self, false_and, and_false, not_true_eq_false, not_false_eq_true, false_implies, true_implies, sm_r, Int.add_zero, Int.zero_add, wI_wsI, wS_wsI, wR_wsI, wI_wCp, wS_wCp, wR_wCp, Nat.reduceEqDiff, reduceIte, sT_iff, sT_iffC, wIf_ne, ne_eq, Bool.false_or, Bool.true_or, Bool.or_false, Bool.or_true, Bool.or_self, tb_X8_takeNumber, p_X8_in, p_X8_next, f_X8_in, f_X8_next, p_X8_takeNumber, f_X8_takeNumber, sS_154 hT, sR_154_29 hT, sS_175 hT, hT, hU, hU0, hU1, sT_iff, Int.reduceEq, tNext_26, b01]
          repeat' (first | exact True.intro | with_reducible assumption | with_reducible refine And.intro ?_ ?_ | intro _)
          all_goals first
            | omega
            | assumption
            | rfl
            | (split <;> omega)
            | (have k9 := ih (by omega)
               (repeat' split at k9) <;> first | exact k9 | omega)
            | (have k9 := ih2 (by omega)
               (repeat' split at k9) <;> first | exact k9 | omega)
            | exact he (by omega)
            | (congr 1; omega)
            | (rw [if_pos (by omega)] at he; exact he)
            | exact hD1 (by omega)
            | exact hD2 (by omega)
            | grind
            | skip
      · rw [if_neg c] at he
        clear ih
        refine hZ (fun u => Nat.beq u 56) 14 56 _ _ _ _ _ ?_
        simp only [sm_run, sm_blk, sm_get, sm_ent, sm_ents, sm_wds, sm_wd, sm_nl, sm_pop, sm_back, sm_cases, oK, oLK, oL, oI, oA, oJ, oIs, oAs, oJs, oInc, oAdd, oSub, oMul, oDiv, oRem, oNeg, oAnd, oAndB, oOr, oShl, oI2c, oI2l, oL2i, oLand, oLor, oLshl, oLshr, oLushr, oLcmp, oDup, oDup2, oPop, oGo, oFg, oEq, oNe, oLt, oGe, oGt, oLe, oEq0, oNe0, oLt0, oGe0, oGt0, oLe0, oSw, oGi, oGr, oPi, oPz, oPr, oLen, oIl, oZl, oCl, oRl, oIst, oZst, oCst, oRst, oCopy, oNew, oNa, oNa2, oObj, oCs, oCv, oCi, oIr, oZr, oVr, Nat.beq, List.getElem?_cons_zero, List.getElem?_cons_succ, List.set_cons_zero, List.set_cons_succ, List.length_cons, List.length_nil, List.nil_append, List.cons_append, List.append_nil, List.replicate_succ, List.replicate_zero, Nat.reduceAdd, Nat.reduceSub, Nat.reduceLT, Nat.reduceLeDiff, Nat.reduceBEq, true_and, and_true, Nat.zero_add, Nat.add_zero, Nat.le_refl, Option.some.injEq, exists_eq_left', true_or, or_true, or_false, false_or, reduceCtorEq, Prod.mk.injEq, Sum.inl.injEq, and_self, false_and, and_false, not_true_eq_false, not_false_eq_true, false_implies, true_implies, sm_r, Int.add_zero, Int.zero_add, wI_wsI, wS_wsI, wR_wsI, wI_wCp, wS_wCp, wR_wCp, Nat.reduceEqDiff, reduceIte, sT_iff, sT_iffC, wIf_ne, ne_eq, Bool.false_or, Bool.true_or, Bool.or_false, Bool.or_true, Bool.or_self, tb_X8_takeNumber, p_X8_in, p_X8_next, f_X8_in, f_X8_next, p_X8_takeNumber, f_X8_takeNumber, sS_154 hT, sR_154_29 hT, sS_175 hT, hT, hU, hU0, hU1, sT_iff, Int.reduceEq, tNext_26, b01]
        repeat' (first | exact True.intro | with_reducible assumption | with_reducible refine And.intro ?_ ?_ | intro _)
        all_goals first
          | omega
          | assumption
          | rfl
          | (split <;> omega)
          | (have k9 := ih (by omega)
             (repeat' split at k9) <;> first | exact k9 | omega)
          | (have k9 := ih2 (by omega)
             (repeat' split at k9) <;> first | exact k9 | omega)
          | exact he (by omega)
          | (congr 1; omega)
          | (rw [if_pos (by omega)] at he; exact he)
          | exact hD1 (by omega)
          | exact hD2 (by omega)
          | grind
          | skip
    )
  by_cases c : wI w 154 26 = 0 ∧ 48 ≤ tNext w ∧ tNext w ≤ 57
  · have h9 := hl (5, tW w 0 (wI w 154 25 + 1), tNext w - 48) ⟨tOK_25 hO0 (by omega), (by dsimp only; omega), (by dsimp only; omega), fun e => absurd (show (5 : Nat) = 0 from e) (by decide), fun e => absurd (show (5 : Nat) = 1 from e) (by decide), fun e => absurd (show (5 : Nat) = 2 from e) (by decide), fun e => absurd (show (5 : Nat) = 3 from e) (by decide), fun e => absurd (show (5 : Nat) = 4 from e) (by decide), Nat.le_refl _, by unfold tNum; rw [if_pos c]⟩
    unfold tW at h9
    refine hZ (fun u => Nat.beq u 56) 14 0 _ _ _ _ _ ?_
    simp only [sm_run, sm_blk, sm_get, sm_ent, sm_ents, sm_wds, sm_wd, sm_nl, sm_pop, sm_back, sm_cases, oK, oLK, oL, oI, oA, oJ, oIs, oAs, oJs, oInc, oAdd, oSub, oMul, oDiv, oRem, oNeg, oAnd, oAndB, oOr, oShl, oI2c, oI2l, oL2i, oLand, oLor, oLshl, oLshr, oLushr, oLcmp, oDup, oDup2, oPop, oGo, oFg, oEq, oNe, oLt, oGe, oGt, oLe, oEq0, oNe0, oLt0, oGe0, oGt0, oLe0, oSw, oGi, oGr, oPi, oPz, oPr, oLen, oIl, oZl, oCl, oRl, oIst, oZst, oCst, oRst, oCopy, oNew, oNa, oNa2, oObj, oCs, oCv, oCi, oIr, oZr, oVr, Nat.beq, List.getElem?_cons_zero, List.getElem?_cons_succ, List.set_cons_zero, List.set_cons_succ, List.length_cons, List.length_nil, List.nil_append, List.cons_append, List.append_nil, List.replicate_succ, List.replicate_zero, Nat.reduceAdd, Nat.reduceSub, Nat.reduceLT, Nat.reduceLeDiff, Nat.reduceBEq, true_and, and_true, Nat.zero_add, Nat.add_zero, Nat.le_refl, Option.some.injEq, exists_eq_left', true_or, or_true, or_false, false_or, reduceCtorEq, Prod.mk.injEq, Sum.inl.injEq, and_self, false_and, and_false, not_true_eq_false, not_false_eq_true, false_implies, true_implies, sm_r, Int.add_zero, Int.zero_add, wI_wsI, wS_wsI, wR_wsI, wI_wCp, wS_wCp, wR_wCp, Nat.reduceEqDiff, reduceIte, sT_iff, sT_iffC, wIf_ne, ne_eq, Bool.false_or, Bool.true_or, Bool.or_false, Bool.or_true, Bool.or_self, tb_X8_takeNumber, p_X8_in, p_X8_next, f_X8_in, f_X8_next, p_X8_takeNumber, f_X8_takeNumber, sS_154 hT, hT, hO, hO0, sT_iff, Int.reduceEq, tNext_26, b01]
    repeat' (first | exact True.intro | with_reducible assumption | with_reducible refine And.intro ?_ ?_ | intro _)
    all_goals first
      | omega
      | assumption
      | rfl
      | (split <;> omega)
      | (have k9 := ih (by omega)
         (repeat' split at k9) <;> first | exact k9 | omega)
      | (have k9 := ih2 (by omega)
         (repeat' split at k9) <;> first | exact k9 | omega)
      | exact he (by omega)
      | (congr 1; omega)
      | (rw [if_pos (by omega)] at he; exact he)
      | exact hD1 (by omega)
      | exact hD2 (by omega)
      | skip
  · have hr : tNum w num = wsI w 154 26 1 := by unfold tNum; rw [if_neg c]
    refine hZ (fun u => Nat.beq u 56) 14 0 _ _ _ _ _ ?_
    simp only [sm_run, sm_blk, sm_get, sm_ent, sm_ents, sm_wds, sm_wd, sm_nl, sm_pop, sm_back, sm_cases, oK, oLK, oL, oI, oA, oJ, oIs, oAs, oJs, oInc, oAdd, oSub, oMul, oDiv, oRem, oNeg, oAnd, oAndB, oOr, oShl, oI2c, oI2l, oL2i, oLand, oLor, oLshl, oLshr, oLushr, oLcmp, oDup, oDup2, oPop, oGo, oFg, oEq, oNe, oLt, oGe, oGt, oLe, oEq0, oNe0, oLt0, oGe0, oGt0, oLe0, oSw, oGi, oGr, oPi, oPz, oPr, oLen, oIl, oZl, oCl, oRl, oIst, oZst, oCst, oRst, oCopy, oNew, oNa, oNa2, oObj, oCs, oCv, oCi, oIr, oZr, oVr, Nat.beq, List.getElem?_cons_zero, List.getElem?_cons_succ, List.set_cons_zero, List.set_cons_succ, List.length_cons, List.length_nil, List.nil_append, List.cons_append, List.append_nil, List.replicate_succ, List.replicate_zero, Nat.reduceAdd, Nat.reduceSub, Nat.reduceLT, Nat.reduceLeDiff, Nat.reduceBEq, true_and, and_true, Nat.zero_add, Nat.add_zero, Nat.le_refl, Option.some.injEq, exists_eq_left', true_or, or_true, or_false, false_or, reduceCtorEq, Prod.mk.injEq, Sum.inl.injEq, and_self, false_and, and_false, not_true_eq_false, not_false_eq_true, false_implies, true_implies, sm_r, Int.add_zero, Int.zero_add, wI_wsI, wS_wsI, wR_wsI, wI_wCp, wS_wCp, wR_wCp, Nat.reduceEqDiff, reduceIte, sT_iff, sT_iffC, wIf_ne, ne_eq, Bool.false_or, Bool.true_or, Bool.or_false, Bool.or_true, Bool.or_self, tb_X8_takeNumber, p_X8_in, p_X8_next, f_X8_in, f_X8_next, p_X8_takeNumber, f_X8_takeNumber, sS_154 hT, hT, hO, hO0, sT_iff, Int.reduceEq, tNext_26, b01, hr]
    repeat' (first | exact True.intro | with_reducible assumption | with_reducible refine And.intro ?_ ?_ | intro _)
    all_goals first
      | omega
      | assumption
      | rfl
      | (split <;> omega)
      | (have k9 := ih (by omega)
         (repeat' split at k9) <;> first | exact k9 | omega)
      | (have k9 := ih2 (by omega)
         (repeat' split at k9) <;> first | exact k9 | omega)
      | exact he (by omega)
      | (congr 1; omega)
      | (rw [if_pos (by omega)] at he; exact he)
      | exact hD1 (by omega)
      | exact hD2 (by omega)
      | grind
      | skip

theorem met_X8_takeNumber (l : Launch) : sm_Met l yX8_takeNumber cX8_takeNumber 3 none 1 0 0 p_X8_takeNumber f_X8_takeNumber := sm_met 0 (Or.inl ⟨rfl, rfl⟩) (by decide +kernel) (sn_X8_takeNumber l) ok_X8_takeNumber
/-- how far an order was read *-/
theorem tSign_st {w : sm_W} (h : tOK w) {s : Int} (hs : 0 < s) : tOK (tSign w s) ∧ wI w 154 25 ≤ wI (tSign w s) 154 25 ∧ wI (tSign w s) 154 27 = wI w 154 27 := by
  have hn := tNext_b h
  unfold tSign
  split
  · exact ⟨tOK_25 (tOK_26 h (Or.inl rfl)) (by have := h.2.1; have := h.2.2.1; omega), by show _ ≤ wI w 154 25 + 1; omega, rfl⟩
  · exact ⟨tOK_25 (tOK_26 h (Or.inr rfl)) h.2.2.1, Int.le_refl _, rfl⟩
theorem tOne_st {w : sm_W} (h : tOK w) (num hi : Int) : tOK (tOne w num hi) ∧ wI w 154 25 ≤ wI (tOne w num hi) 154 25 ∧ wI (tOne w num hi) 154 27 = wI w 154 27 ∧ (wI (tOne w num hi) 154 26 = 0 → wI (tOne w num hi) 154 25 = wI w 154 25 + 1) := by
  have hn := tNext_b h
  unfold tOne
  split
  · exact ⟨tOK_25 (tOK_175 (tOK_26 h (Or.inl rfl))) (by have := h.2.1; have := h.2.2.1; omega), by show _ ≤ wI w 154 25 + 1; omega, rfl, fun _ => rfl⟩
  · exact ⟨tOK_26 h (Or.inr rfl), Int.le_refl _, rfl, fun e => absurd (show (1 : Int) = 0 from e) (by decide)⟩
theorem tNumL_st (num : Int) : ∀ (n : Nat) (w : sm_W) (v : Int), tOK w → tOK (tNumL n w num v) ∧ wI w 154 25 ≤ wI (tNumL n w num v) 154 25 ∧ wI (tNumL n w num v) 154 27 = wI w 154 27
  | 0, w, v, h => ⟨tOK_175 h, Int.le_refl _, rfl⟩
  | n + 1, w, v, h => by
    have hn := tNext_b h
    have h1 := h.2.1
    have h2 := h.2.2.1
    rw [tNumL_s]
    split
    · split
      · have := tNumL_st num n (tW w 1 (wI w 154 25)) v (tOK_25 (tOK_26 h (Or.inr rfl)) h2)
        exact ⟨this.1, this.2.1, this.2.2⟩
      · have := tNumL_st num n (tW w 0 (wI w 154 25 + 1)) (10 * v + tNext w - 48) (tOK_25 (tOK_26 h (Or.inl rfl)) (by omega))
        exact ⟨this.1, Int.le_trans (show wI w 154 25 ≤ wI w 154 25 + 1 by omega) this.2.1, this.2.2⟩
    · exact ⟨tOK_175 h, Int.le_refl _, rfl⟩
theorem tNum_st {w : sm_W} (h : tOK w) (num : Int) : tOK (tNum w num) ∧ wI w 154 25 ≤ wI (tNum w num) 154 25 ∧ wI (tNum w num) 154 27 = wI w 154 27 := by
  have hn := tNext_b h
  have h1 := h.2.1
  have h2 := h.2.2.1
  unfold tNum
  split
  · have := tNumL_st num 5 (tW w 0 (wI w 154 25 + 1)) (tNext w - 48) (tOK_25 (tOK_26 h (Or.inl rfl)) (by omega))
    exact ⟨this.1, Int.le_trans (show wI w 154 25 ≤ wI w 154 25 + 1 by omega) this.2.1, this.2.2⟩
  · exact ⟨tOK_26 h (Or.inr rfl), Int.le_refl _, rfl⟩
def tSh5 (w : sm_W) : sm_W := tNum (tSign (tOne (tSign (tOne w 0 55) 62) 1 55) 64) 2
def tSh7 (w : sm_W) : sm_W := wsI (wsI w 175 (5 * wI w 154 27 + 3) 0) 175 (5 * wI w 154 27 + 4) 0
def tShP (w : sm_W) : sm_W := if wI w 154 26 = 0 ∧ tNext w = 43 then tNum (wsI (tSh7 w) 154 25 (wI w 154 25 + 1)) 3 else tSh7 w
def tShC (w : sm_W) : sm_W := if wI w 154 26 = 0 ∧ tNext w = 94 then tOne (wsI w 154 25 (wI w 154 25 + 1)) 4 57 else w
def tSh (w : sm_W) : sm_W := tShC (tShP (tSh5 w))
theorem tShP_st {w : sm_W} (h : tOK w) : tOK (tShP w) ∧ wI w 154 25 ≤ wI (tShP w) 154 25 ∧ wI (tShP w) 154 27 = wI w 154 27 := by
  have hn := tNext_b h
  have h1 := h.2.1
  have h2 := h.2.2.1
  unfold tShP
  split
  · have := tNum_st (w := wsI (tSh7 w) 154 25 (wI w 154 25 + 1)) (tOK_25 (w := tSh7 w) h (by omega)) 3
    exact ⟨this.1, Int.le_trans (show wI w 154 25 ≤ wI w 154 25 + 1 by omega) this.2.1, this.2.2⟩
  · exact ⟨h, Int.le_refl _, rfl⟩
theorem tShC_st {w : sm_W} (h : tOK w) : tOK (tShC w) ∧ wI w 154 25 ≤ wI (tShC w) 154 25 ∧ wI (tShC w) 154 27 = wI w 154 27 := by
  have hn := tNext_b h
  have h1 := h.2.1
  have h2 := h.2.2.1
  unfold tShC
  split
  · have := tOne_st (w := wsI w 154 25 (wI w 154 25 + 1)) (tOK_25 h (by omega)) 4 57
    exact ⟨this.1, Int.le_trans (show wI w 154 25 ≤ wI w 154 25 + 1 by omega) this.2.1, this.2.2.1⟩
  · exact ⟨h, Int.le_refl _, rfl⟩
def p_X8_takeShuttle : List sm_V → sm_W → Prop
  | [.inr (.inl m)], w => m = 154 ∧ tOK w
  | _, _ => False
def f_X8_takeShuttle : sm_F
  | [.inr (.inl m)], w => (none, tSh w)
  | _, w => (none, w)
def tb_X8_takeShuttle : List (Nat × List sm_O) := [(0, [oA 0, oK 0, oK 55, oCv 8 30 p_X8_takeOne f_X8_takeOne 0 0 3, oA 0, oK 62, oCv 8 30 p_X8_takeSign f_X8_takeSign 0 0 2, oA 0, oK 1, oK 55, oCv 8 30 p_X8_takeOne f_X8_takeOne 0 0 3, oA 0, oK 64, oCv 8 30 p_X8_takeSign f_X8_takeSign 0 0 2, oA 0, oK 2, oCv 8 30 p_X8_takeNumber f_X8_takeNumber 0 0 2, oA 0, oGr 8 30 29, oK 5, oA 0, oGi 8 30 27, oMul, oK 3, oAdd, oK 0, oIst, oA 0, oGr 8 30 29, oK 5, oA 0, oGi 8 30 27, oMul, oK 4, oAdd, oK 0, oIst, oA 0, oGi 8 30 26, oNe0 90, oA 0, oCv 8 30 p_X8_next f_X8_next 0 0 1, oK 43, oNe 90, oA 0, oDup, oGi 8 30 25, oK 1, oAdd, oPi 8 30 25, oA 0, oK 3, oCv 8 30 p_X8_takeNumber f_X8_takeNumber 0 0 2, oGo 90]),
  (90, [oA 0, oGi 8 30 26, oNe0 123, oA 0, oCv 8 30 p_X8_next f_X8_next 0 0 1, oK 94, oNe 123, oA 0, oDup, oGi 8 30 25, oK 1, oAdd, oPi 8 30 25, oA 0, oK 4, oK 57, oCv 8 30 p_X8_takeOne f_X8_takeOne 0 0 3, oGo 123]),
  (123, [oVr])]
set_option maxRecDepth 100000 in
theorem sb_X8_takeShuttle_0 (l : Launch) : sm_SndB l RX8 "takeShuttle" cX8_takeShuttle 1 0 2 0 [oA 0, oK 0, oK 55, oCv 8 30 p_X8_takeOne f_X8_takeOne 0 0 3, oA 0, oK 62, oCv 8 30 p_X8_takeSign f_X8_takeSign 0 0 2, oA 0, oK 1, oK 55, oCv 8 30 p_X8_takeOne f_X8_takeOne 0 0 3, oA 0, oK 64, oCv 8 30 p_X8_takeSign f_X8_takeSign 0 0 2, oA 0, oK 2, oCv 8 30 p_X8_takeNumber f_X8_takeNumber 0 0 2, oA 0, oGr 8 30 29, oK 5, oA 0, oGi 8 30 27, oMul, oK 3, oAdd, oK 0, oIst, oA 0, oGr 8 30 29, oK 5, oA 0, oGi 8 30 27, oMul, oK 4, oAdd, oK 0, oIst, oA 0, oGi 8 30 26, oNe0 90, oA 0, oCv 8 30 p_X8_next f_X8_next 0 0 1, oK 43, oNe 90, oA 0, oDup, oGi 8 30 25, oK 1, oAdd, oPi 8 30 25, oA 0, oK 3, oCv 8 30 p_X8_takeNumber f_X8_takeNumber 0 0 2, oGo 90] := sb_cons (sd_aload_n (by decide +kernel : decode cX8_takeShuttle 0 = .ok (.aload_n 0, 1)) rfl) (sb_cons (sd_iconst (by decide +kernel : decode cX8_takeShuttle 1 = .ok (.iconst 0, 1)) ⟨by decide, by decide⟩) (sb_cons (sd_bipush (by decide +kernel : decode cX8_takeShuttle 2 = .ok (.bipush 55, 2)) ⟨by decide, by decide⟩ (by decide)) (sb_cons (sd_callv (n := 2) (met_X8_takeOne l) (by decide) (by decide) wm_1040 wm_1038 wm_10 ⟨by decide +kernel, by decide +kernel, by decide +kernel⟩ kl_8 wm_1039 wm_1157 (by decide +kernel : decode cX8_takeShuttle 4 = .ok (.invokevirtual 282, 3))) (sb_cons (sd_aload_n (by decide +kernel : decode cX8_takeShuttle 7 = .ok (.aload_n 0, 1)) rfl) (sb_cons (sd_bipush (by decide +kernel : decode cX8_takeShuttle 8 = .ok (.bipush 62, 2)) ⟨by decide, by decide⟩ (by decide)) (sb_cons (sd_callv (n := 1) (met_X8_takeSign l) (by decide) (by decide) wm_1044 wm_1042 wm_10 ⟨by decide +kernel, by decide +kernel, by decide +kernel⟩ kl_8 wm_1043 wm_1158 (by decide +kernel : decode cX8_takeShuttle 10 = .ok (.invokevirtual 286, 3))) (sb_cons (sd_aload_n (by decide +kernel : decode cX8_takeShuttle 13 = .ok (.aload_n 0, 1)) rfl) (sb_cons (sd_iconst (by decide +kernel : decode cX8_takeShuttle 14 = .ok (.iconst 1, 1)) ⟨by decide, by decide⟩) (sb_cons (sd_bipush (by decide +kernel : decode cX8_takeShuttle 15 = .ok (.bipush 55, 2)) ⟨by decide, by decide⟩ (by decide)) (sb_cons (sd_callv (n := 2) (met_X8_takeOne l) (by decide) (by decide) wm_1040 wm_1038 wm_10 ⟨by decide +kernel, by decide +kernel, by decide +kernel⟩ kl_8 wm_1039 wm_1157 (by decide +kernel : decode cX8_takeShuttle 17 = .ok (.invokevirtual 282, 3))) (sb_cons (sd_aload_n (by decide +kernel : decode cX8_takeShuttle 20 = .ok (.aload_n 0, 1)) rfl) (sb_cons (sd_bipush (by decide +kernel : decode cX8_takeShuttle 21 = .ok (.bipush 64, 2)) ⟨by decide, by decide⟩ (by decide)) (sb_cons (sd_callv (n := 1) (met_X8_takeSign l) (by decide) (by decide) wm_1044 wm_1042 wm_10 ⟨by decide +kernel, by decide +kernel, by decide +kernel⟩ kl_8 wm_1043 wm_1158 (by decide +kernel : decode cX8_takeShuttle 23 = .ok (.invokevirtual 286, 3))) (sb_cons (sd_aload_n (by decide +kernel : decode cX8_takeShuttle 26 = .ok (.aload_n 0, 1)) rfl) (sb_cons (sd_iconst (by decide +kernel : decode cX8_takeShuttle 27 = .ok (.iconst 2, 1)) ⟨by decide, by decide⟩) (sb_cons (sd_callv (n := 1) (met_X8_takeNumber l) (by decide) (by decide) wm_1048 wm_1046 wm_10 ⟨by decide +kernel, by decide +kernel, by decide +kernel⟩ kl_8 wm_1047 wm_1159 (by decide +kernel : decode cX8_takeShuttle 28 = .ok (.invokevirtual 289, 3))) (sb_cons (sd_aload_n (by decide +kernel : decode cX8_takeShuttle 31 = .ok (.aload_n 0, 1)) rfl) (sb_cons (sd_getr (k := 29) kl_8 (by decide) rfl wm_702 (by decide +kernel : decode cX8_takeShuttle 32 = .ok (.getfield 71, 3))) (sb_cons (sd_iconst (by decide +kernel : decode cX8_takeShuttle 35 = .ok (.iconst 5, 1)) ⟨by decide, by decide⟩) (sb_cons (sd_aload_n (by decide +kernel : decode cX8_takeShuttle 36 = .ok (.aload_n 0, 1)) rfl) (sb_cons (sd_geti (k := 27) kl_8 (by decide) rfl wm_700 (by decide +kernel : decode cX8_takeShuttle 37 = .ok (.getfield 279, 3))) (sb_cons (sd_imul (by decide +kernel : decode cX8_takeShuttle 40 = .ok (.imul, 1))) (sb_cons (sd_iconst (by decide +kernel : decode cX8_takeShuttle 41 = .ok (.iconst 3, 1)) ⟨by decide, by decide⟩) (sb_cons (sd_iadd (by decide +kernel : decode cX8_takeShuttle 42 = .ok (.iadd, 1))) (sb_cons (sd_iconst (by decide +kernel : decode cX8_takeShuttle 43 = .ok (.iconst 0, 1)) ⟨by decide, by decide⟩) (sb_cons (sd_iastore (by decide +kernel : decode cX8_takeShuttle 44 = .ok (.iastore, 1))) (sb_cons (sd_aload_n (by decide +kernel : decode cX8_takeShuttle 45 = .ok (.aload_n 0, 1)) rfl) (sb_cons (sd_getr (k := 29) kl_8 (by decide) rfl wm_702 (by decide +kernel : decode cX8_takeShuttle 46 = .ok (.getfield 71, 3))) (sb_cons (sd_iconst (by decide +kernel : decode cX8_takeShuttle 49 = .ok (.iconst 5, 1)) ⟨by decide, by decide⟩) (sb_cons (sd_aload_n (by decide +kernel : decode cX8_takeShuttle 50 = .ok (.aload_n 0, 1)) rfl) (sb_cons (sd_geti (k := 27) kl_8 (by decide) rfl wm_700 (by decide +kernel : decode cX8_takeShuttle 51 = .ok (.getfield 279, 3))) (sb_cons (sd_imul (by decide +kernel : decode cX8_takeShuttle 54 = .ok (.imul, 1))) (sb_cons (sd_iconst (by decide +kernel : decode cX8_takeShuttle 55 = .ok (.iconst 4, 1)) ⟨by decide, by decide⟩) (sb_cons (sd_iadd (by decide +kernel : decode cX8_takeShuttle 56 = .ok (.iadd, 1))) (sb_cons (sd_iconst (by decide +kernel : decode cX8_takeShuttle 57 = .ok (.iconst 0, 1)) ⟨by decide, by decide⟩) (sb_cons (sd_iastore (by decide +kernel : decode cX8_takeShuttle 58 = .ok (.iastore, 1))) (sb_cons (sd_aload_n (by decide +kernel : decode cX8_takeShuttle 59 = .ok (.aload_n 0, 1)) rfl) (sb_cons (sd_geti (k := 26) kl_8 (by decide) rfl wm_699 (by decide +kernel : decode cX8_takeShuttle 60 = .ok (.getfield 273, 3))) (sb_cons (sd_ne0 (by decide +kernel : decode cX8_takeShuttle 63 = .ok (.ifCond .ne 27, 3)) (by decide)) (sb_cons (sd_aload_n (by decide +kernel : decode cX8_takeShuttle 66 = .ok (.aload_n 0, 1)) rfl) (sb_cons (sd_callv (n := 0) (met_X8_next l) (by decide) (by decide) wm_1032 wm_1030 wm_10 ⟨by decide +kernel, by decide +kernel, by decide +kernel⟩ kl_8 wm_1031 wm_1155 (by decide +kernel : decode cX8_takeShuttle 67 = .ok (.invokevirtual 276, 3))) (sb_cons (sd_bipush (by decide +kernel : decode cX8_takeShuttle 70 = .ok (.bipush 43, 2)) ⟨by decide, by decide⟩ (by decide)) (sb_cons (sd_ne (by decide +kernel : decode cX8_takeShuttle 72 = .ok (.if_icmp .ne 18, 3)) (by decide)) (sb_cons (sd_aload_n (by decide +kernel : decode cX8_takeShuttle 75 = .ok (.aload_n 0, 1)) rfl) (sb_cons (sd_dup (by decide +kernel : decode cX8_takeShuttle 76 = .ok (.dup, 1))) (sb_cons (sd_geti (k := 25) kl_8 (by decide) rfl wm_698 (by decide +kernel : decode cX8_takeShuttle 77 = .ok (.getfield 270, 3))) (sb_cons (sd_iconst (by decide +kernel : decode cX8_takeShuttle 80 = .ok (.iconst 1, 1)) ⟨by decide, by decide⟩) (sb_cons (sd_iadd (by decide +kernel : decode cX8_takeShuttle 81 = .ok (.iadd, 1))) (sb_cons (sd_puti (k := 25) kl_8 (by decide) rfl (Or.inl rfl) wm_698 (by decide +kernel : decode cX8_takeShuttle 82 = .ok (.putfield 270, 3))) (sb_cons (sd_aload_n (by decide +kernel : decode cX8_takeShuttle 85 = .ok (.aload_n 0, 1)) rfl) (sb_cons (sd_iconst (by decide +kernel : decode cX8_takeShuttle 86 = .ok (.iconst 3, 1)) ⟨by decide, by decide⟩) (sb_cons (sd_callv (n := 1) (met_X8_takeNumber l) (by decide) (by decide) wm_1048 wm_1046 wm_10 ⟨by decide +kernel, by decide +kernel, by decide +kernel⟩ kl_8 wm_1047 wm_1159 (by decide +kernel : decode cX8_takeShuttle 87 = .ok (.invokevirtual 289, 3))) (sb_cons (sd_fall (x := 0)) sb_nil)))))))))))))))))))))))))))))))))))))))))))))))))))))
set_option maxRecDepth 100000 in
theorem sb_X8_takeShuttle_90 (l : Launch) : sm_SndB l RX8 "takeShuttle" cX8_takeShuttle 1 0 2 90 [oA 0, oGi 8 30 26, oNe0 123, oA 0, oCv 8 30 p_X8_next f_X8_next 0 0 1, oK 94, oNe 123, oA 0, oDup, oGi 8 30 25, oK 1, oAdd, oPi 8 30 25, oA 0, oK 4, oK 57, oCv 8 30 p_X8_takeOne f_X8_takeOne 0 0 3, oGo 123] := sb_cons (sd_aload_n (by decide +kernel : decode cX8_takeShuttle 90 = .ok (.aload_n 0, 1)) rfl) (sb_cons (sd_geti (k := 26) kl_8 (by decide) rfl wm_699 (by decide +kernel : decode cX8_takeShuttle 91 = .ok (.getfield 273, 3))) (sb_cons (sd_ne0 (by decide +kernel : decode cX8_takeShuttle 94 = .ok (.ifCond .ne 29, 3)) (by decide)) (sb_cons (sd_aload_n (by decide +kernel : decode cX8_takeShuttle 97 = .ok (.aload_n 0, 1)) rfl) (sb_cons (sd_callv (n := 0) (met_X8_next l) (by decide) (by decide) wm_1032 wm_1030 wm_10 ⟨by decide +kernel, by decide +kernel, by decide +kernel⟩ kl_8 wm_1031 wm_1155 (by decide +kernel : decode cX8_takeShuttle 98 = .ok (.invokevirtual 276, 3))) (sb_cons (sd_bipush (by decide +kernel : decode cX8_takeShuttle 101 = .ok (.bipush 94, 2)) ⟨by decide, by decide⟩ (by decide)) (sb_cons (sd_ne (by decide +kernel : decode cX8_takeShuttle 103 = .ok (.if_icmp .ne 20, 3)) (by decide)) (sb_cons (sd_aload_n (by decide +kernel : decode cX8_takeShuttle 106 = .ok (.aload_n 0, 1)) rfl) (sb_cons (sd_dup (by decide +kernel : decode cX8_takeShuttle 107 = .ok (.dup, 1))) (sb_cons (sd_geti (k := 25) kl_8 (by decide) rfl wm_698 (by decide +kernel : decode cX8_takeShuttle 108 = .ok (.getfield 270, 3))) (sb_cons (sd_iconst (by decide +kernel : decode cX8_takeShuttle 111 = .ok (.iconst 1, 1)) ⟨by decide, by decide⟩) (sb_cons (sd_iadd (by decide +kernel : decode cX8_takeShuttle 112 = .ok (.iadd, 1))) (sb_cons (sd_puti (k := 25) kl_8 (by decide) rfl (Or.inl rfl) wm_698 (by decide +kernel : decode cX8_takeShuttle 113 = .ok (.putfield 270, 3))) (sb_cons (sd_aload_n (by decide +kernel : decode cX8_takeShuttle 116 = .ok (.aload_n 0, 1)) rfl) (sb_cons (sd_iconst (by decide +kernel : decode cX8_takeShuttle 117 = .ok (.iconst 4, 1)) ⟨by decide, by decide⟩) (sb_cons (sd_bipush (by decide +kernel : decode cX8_takeShuttle 118 = .ok (.bipush 57, 2)) ⟨by decide, by decide⟩ (by decide)) (sb_cons (sd_callv (n := 2) (met_X8_takeOne l) (by decide) (by decide) wm_1040 wm_1038 wm_10 ⟨by decide +kernel, by decide +kernel, by decide +kernel⟩ kl_8 wm_1039 wm_1157 (by decide +kernel : decode cX8_takeShuttle 120 = .ok (.invokevirtual 282, 3))) (sb_cons (sd_fall (x := 0)) sb_nil)))))))))))))))))
set_option maxRecDepth 100000 in
theorem sb_X8_takeShuttle_123 (l : Launch) : sm_SndB l RX8 "takeShuttle" cX8_takeShuttle 1 0 2 123 [oVr] := sb_cons (sd_return (x := 0) rfl (by decide +kernel : decode cX8_takeShuttle 123 = .ok (.return_, 1))) sb_nil
theorem sn_X8_takeShuttle (l : Launch) : sm_SndT l RX8 "takeShuttle" cX8_takeShuttle 1 0 2 tb_X8_takeShuttle := st_cons (sb_X8_takeShuttle_0 l) (st_cons (sb_X8_takeShuttle_90 l) (st_cons (sb_X8_takeShuttle_123 l) (st_nil)))
set_option maxRecDepth 100000 in
set_option maxHeartbeats 4000000 in
theorem ok_X8_takeShuttle : sm_Ok tb_X8_takeShuttle 1 0 0 p_X8_takeShuttle f_X8_takeShuttle := by
  intro as w hp ha hw
  match as, hp with
  | [.inr (.inl m)], hp =>
  refine ⟨Nat.le_of_ble_eq_true rfl, fun Z hZ => ?_⟩
  obtain ⟨rfl, hO⟩ := hp
  have a1 := tOne_st hO 0 55
  have a2 := tSign_st (s := 62) a1.1 (by decide)
  have a3 := tOne_st a2.1 1 55
  have a4 := tSign_st (s := 64) a3.1 (by decide)
  have a5 := tNum_st a4.1 2
  have e5 : tNum (tSign (tOne (tSign (tOne w 0 55) 62) 1 55) 64) 2 = tSh5 w := rfl
  rw [e5] at a5
  have a8 := tShP_st a5.1
  have hn5 := tNext_b a5.1
  have hn8 := tNext_b a8.1
  have c1 := a5.1.2.1
  have c2 := a5.1.2.2.1
  have c3 := a8.1.2.1
  have c4 := a8.1.2.2.1
  have c5 := a5.1.2.2.2.2.1
  have z1 := hO.1
  have z6 := a5.1.1
  have z8 := a8.1.1
  have h90 : Z 90 [some (.inr (.inl 154))] [] (tShP (tSh5 w)) 0 0 := by
    have b8 := tOK_25 (v := wI (tShP (tSh5 w)) 154 25 + 1) a8.1
    have hO8 := a8.1
    have e9 : tShC (tShP (tSh5 w)) = tSh w := rfl
    generalize tShP (tSh5 w) = u at *
    unfold tShC at e9
    by_cases c : wI u 154 26 = 0 ∧ tNext u = 94
    · rw [if_pos c] at e9
      have b8 := b8 (by omega)
      refine hZ (fun u => Nat.beq u 90) 14 90 _ _ _ _ _ ?_
      simp only [sm_run, sm_blk, sm_get, sm_ent, sm_ents, sm_wds, sm_wd, sm_nl, sm_pop, sm_back, sm_cases, oK, oLK, oL, oI, oA, oJ, oIs, oAs, oJs, oInc, oAdd, oSub, oMul, oDiv, oRem, oNeg, oAnd, oAndB, oOr, oShl, oI2c, oI2l, oL2i, oLand, oLor, oLshl, oLshr, oLushr, oLcmp, oDup, oDup2, oPop, oGo, oFg, oEq, oNe, oLt, oGe, oGt, oLe, oEq0, oNe0, oLt0, oGe0, oGt0, oLe0, oSw, oGi, oGr, oPi, oPz, oPr, oLen, oIl, oZl, oCl, oRl, oIst, oZst, oCst, oRst, oCopy, oNew, oNa, oNa2, oObj, oCs, oCv, oCi, oIr, oZr, oVr, Nat.beq, List.getElem?_cons_zero, List.getElem?_cons_succ, List.set_cons_zero, List.set_cons_succ, List.length_cons, List.length_nil, List.nil_append, List.cons_append, List.append_nil, List.replicate_succ, List.replicate_zero, Nat.reduceAdd, Nat.reduceSub, Nat.reduceLT, Nat.reduceLeDiff, Nat.reduceBEq, true_and, and_true, Nat.zero_add, Nat.add_zero, Nat.le_refl, Option.some.injEq, exists_eq_left', true_or, or_true, or_false, false_or, reduceCtorEq, Prod.mk.injEq, Sum.inl.injEq, and_self, false_and, and_false, not_true_eq_false, not_false_eq_true, false_implies, true_implies, sm_r, Int.add_zero, Int.zero_add, wI_wsI, wS_wsI, wR_wsI, wI_wCp, wS_wCp, wR_wCp, Nat.reduceEqDiff, reduceIte, sT_iff, sT_iffC, wIf_ne, ne_eq, Bool.false_or, Bool.true_or, Bool.or_false, Bool.or_true, Bool.or_self, tb_X8_takeShuttle, p_X8_next, p_X8_takeNumber, p_X8_takeOne, p_X8_takeSign, f_X8_next, f_X8_takeNumber, f_X8_takeOne, f_X8_takeSign, p_X8_takeShuttle, f_X8_takeShuttle, sS_154 z8, z8, hO8, b8, e9]
      repeat' (first | exact True.intro | with_reducible assumption | with_reducible refine And.intro ?_ ?_ | intro _)
      all_goals first
        | omega
        | assumption
        | rfl
        | (split <;> omega)
        | (have k9 := ih (by omega)
           (repeat' split at k9) <;> first | exact k9 | omega)
        | (have k9 := ih2 (by omega)
           (repeat' split at k9) <;> first | exact k9 | omega)
        | exact he (by omega)
        | (congr 1; omega)
        | (rw [if_pos (by omega)] at he; exact he)
        | exact hD1 (by omega)
        | exact hD2 (by omega)
        | grind
        | skip
    · rw [if_neg c] at e9
      refine hZ (fun u => Nat.beq u 90) 14 90 _ _ _ _ _ ?_
      simp only [sm_run, sm_blk, sm_get, sm_ent, sm_ents, sm_wds, sm_wd, sm_nl, sm_pop, sm_back, sm_cases, oK, oLK, oL, oI, oA, oJ, oIs, oAs, oJs, oInc, oAdd, oSub, oMul, oDiv, oRem, oNeg, oAnd, oAndB, oOr, oShl, oI2c, oI2l, oL2i, oLand, oLor, oLshl, oLshr, oLushr, oLcmp, oDup, oDup2, oPop, oGo, oFg, oEq, oNe, oLt, oGe, oGt, oLe, oEq0, oNe0, oLt0, oGe0, oGt0, oLe0, oSw, oGi, oGr, oPi, oPz, oPr, oLen, oIl, oZl, oCl, oRl, oIst, oZst, oCst, oRst, oCopy, oNew, oNa, oNa2, oObj, oCs, oCv, oCi, oIr, oZr, oVr, Nat.beq, List.getElem?_cons_zero, List.getElem?_cons_succ, List.set_cons_zero, List.set_cons_succ, List.length_cons, List.length_nil, List.nil_append, List.cons_append, List.append_nil, List.replicate_succ, List.replicate_zero, Nat.reduceAdd, Nat.reduceSub, Nat.reduceLT, Nat.reduceLeDiff, Nat.reduceBEq, true_and, and_true, Nat.zero_add, Nat.add_zero, Nat.le_refl, Option.some.injEq, exists_eq_left', true_or, or_true, or_false, false_or, reduceCtorEq, Prod.mk.injEq, Sum.inl.injEq, and_self, false_and, and_false, not_true_eq_false, not_false_eq_true, false_implies, true_implies, sm_r, Int.add_zero, Int.zero_add, wI_wsI, wS_wsI, wR_wsI, wI_wCp, wS_wCp, wR_wCp, Nat.reduceEqDiff, reduceIte, sT_iff, sT_iffC, wIf_ne, ne_eq, Bool.false_or, Bool.true_or, Bool.or_false, Bool.or_true, Bool.or_self, tb_X8_takeShuttle, p_X8_next, p_X8_takeNumber, p_X8_takeOne, p_X8_takeSign, f_X8_next, f_X8_takeNumber, f_X8_takeOne, f_X8_takeSign, p_X8_takeShuttle, f_X8_takeShuttle, sS_154 z8, z8, hO8]
      repeat' (first | exact True.intro | with_reducible assumption | with_reducible refine And.intro ?_ ?_ | intro _)
      all_goals first
        | omega
        | assumption
        | rfl
        | (split <;> omega)
        | (have k9 := ih (by omega)
           (repeat' split at k9) <;> first | exact k9 | omega)
        | (have k9 := ih2 (by omega)
           (repeat' split at k9) <;> first | exact k9 | omega)
        | exact he (by omega)
        | (congr 1; omega)
        | (rw [if_pos (by omega)] at he; exact he)
        | exact hD1 (by omega)
        | exact hD2 (by omega)
        | grind
        | skip
  have a1' := a1.1
  have a2' := a2.1
  have a3' := a3.1
  have a4' := a4.1
  have y1 := sS_154 a1.1.1
  have y2 := sS_154 a2.1.1
  have y3 := sS_154 a3.1.1
  have y4 := sS_154 a4.1.1
  have a5' := a5.1
  have b7 : wI (tSh5 w) 154 25 < 81 → tOK (wsI (wsI (wsI (tSh5 w) 175 (5 * wI (tSh5 w) 154 27 + 3) 0) 175 (5 * wI (tSh5 w) 154 27 + 4) 0) 154 25 (wI (tSh5 w) 154 25 + 1)) := fun h => tOK_25 (w := wsI (wsI (tSh5 w) 175 (5 * wI (tSh5 w) 154 27 + 3) 0) 175 (5 * wI (tSh5 w) 154 27 + 4) 0) a5' (by omega)
  have b6 : tOK (wsI (wsI (tSh5 w) 175 (5 * wI (tSh5 w) 154 27 + 3) 0) 175 (5 * wI (tSh5 w) 154 27 + 4) 0) := a5'
  unfold tShP tSh7 at h90
  by_cases c : wI (tSh5 w) 154 26 = 0 ∧ tNext (tSh5 w) = 43
  · rw [if_pos c] at h90
    have b7 := b7 (by omega)
    refine hZ (fun u => Nat.beq u 90) 14 0 _ _ _ _ _ ?_
    simp only [sm_run, sm_blk, sm_get, sm_ent, sm_ents, sm_wds, sm_wd, sm_nl, sm_pop, sm_back, sm_cases, oK, oLK, oL, oI, oA, oJ, oIs, oAs, oJs, oInc, oAdd, oSub, oMul, oDiv, oRem, oNeg, oAnd, oAndB, oOr, oShl, oI2c, oI2l, oL2i, oLand, oLor, oLshl, oLshr, oLushr, oLcmp, oDup, oDup2, oPop, oGo, oFg, oEq, oNe, oLt, oGe, oGt, oLe, oEq0, oNe0, oLt0, oGe0, oGt0, oLe0, oSw, oGi, oGr, oPi, oPz, oPr, oLen, oIl, oZl, oCl, oRl, oIst, oZst, oCst, oRst, oCopy, oNew, oNa, oNa2, oObj, oCs, oCv, oCi, oIr, oZr, oVr, Nat.beq, List.getElem?_cons_zero, List.getElem?_cons_succ, List.set_cons_zero, List.set_cons_succ, List.length_cons, List.length_nil, List.nil_append, List.cons_append, List.append_nil, List.replicate_succ, List.replicate_zero, Nat.reduceAdd, Nat.reduceSub, Nat.reduceLT, Nat.reduceLeDiff, Nat.reduceBEq, true_and, and_true, Nat.zero_add, Nat.add_zero, Nat.le_refl, Option.some.injEq, exists_eq_left', true_or, or_true, or_false, false_or, reduceCtorEq, Prod.mk.injEq, Sum.inl.injEq, and_self, false_and, and_false, not_true_eq_false, not_false_eq_true, false_implies, true_implies, sm_r, Int.add_zero, Int.zero_add, wI_wsI, wS_wsI, wR_wsI, wI_wCp, wS_wCp, wR_wCp, Nat.reduceEqDiff, reduceIte, sT_iff, sT_iffC, wIf_ne, ne_eq, Bool.false_or, Bool.true_or, Bool.or_false, Bool.or_true, Bool.or_self, tb_X8_takeShuttle, p_X8_next, p_X8_takeNumber, p_X8_takeOne, p_X8_takeSign, f_X8_next, f_X8_takeNumber, f_X8_takeOne, f_X8_takeSign, p_X8_takeShuttle, f_X8_takeShuttle, sS_154 z1, hO, a1', a2', a3', a4', y1, y2, y3, y4, e5, a5', sS_154 z6, sR_154_29 z6, sS_175 z6, z6, sT_iff, b6, b7, Int.reduceEq, tNext_175]
    repeat' (first | exact True.intro | with_reducible assumption | with_reducible refine And.intro ?_ ?_ | intro _)
    all_goals first
      | omega
      | assumption
      | rfl
      | (split <;> omega)
      | (have k9 := ih (by omega)
         (repeat' split at k9) <;> first | exact k9 | omega)
      | (have k9 := ih2 (by omega)
         (repeat' split at k9) <;> first | exact k9 | omega)
      | exact he (by omega)
      | (congr 1; omega)
      | (rw [if_pos (by omega)] at he; exact he)
      | exact hD1 (by omega)
      | exact hD2 (by omega)
      | grind
      | skip
  · rw [if_neg c] at h90
    refine hZ (fun u => Nat.beq u 90) 14 0 _ _ _ _ _ ?_
    simp only [sm_run, sm_blk, sm_get, sm_ent, sm_ents, sm_wds, sm_wd, sm_nl, sm_pop, sm_back, sm_cases, oK, oLK, oL, oI, oA, oJ, oIs, oAs, oJs, oInc, oAdd, oSub, oMul, oDiv, oRem, oNeg, oAnd, oAndB, oOr, oShl, oI2c, oI2l, oL2i, oLand, oLor, oLshl, oLshr, oLushr, oLcmp, oDup, oDup2, oPop, oGo, oFg, oEq, oNe, oLt, oGe, oGt, oLe, oEq0, oNe0, oLt0, oGe0, oGt0, oLe0, oSw, oGi, oGr, oPi, oPz, oPr, oLen, oIl, oZl, oCl, oRl, oIst, oZst, oCst, oRst, oCopy, oNew, oNa, oNa2, oObj, oCs, oCv, oCi, oIr, oZr, oVr, Nat.beq, List.getElem?_cons_zero, List.getElem?_cons_succ, List.set_cons_zero, List.set_cons_succ, List.length_cons, List.length_nil, List.nil_append, List.cons_append, List.append_nil, List.replicate_succ, List.replicate_zero, Nat.reduceAdd, Nat.reduceSub, Nat.reduceLT, Nat.reduceLeDiff, Nat.reduceBEq, true_and, and_true, Nat.zero_add, Nat.add_zero, Nat.le_refl, Option.some.injEq, exists_eq_left', true_or, or_true, or_false, false_or, reduceCtorEq, Prod.mk.injEq, Sum.inl.injEq, and_self, false_and, and_false, not_true_eq_false, not_false_eq_true, false_implies, true_implies, sm_r, Int.add_zero, Int.zero_add, wI_wsI, wS_wsI, wR_wsI, wI_wCp, wS_wCp, wR_wCp, Nat.reduceEqDiff, reduceIte, sT_iff, sT_iffC, wIf_ne, ne_eq, Bool.false_or, Bool.true_or, Bool.or_false, Bool.or_true, Bool.or_self, tb_X8_takeShuttle, p_X8_next, p_X8_takeNumber, p_X8_takeOne, p_X8_takeSign, f_X8_next, f_X8_takeNumber, f_X8_takeOne, f_X8_takeSign, p_X8_takeShuttle, f_X8_takeShuttle, sS_154 z1, hO, a1', a2', a3', a4', y1, y2, y3, y4, e5, a5', sS_154 z6, sR_154_29 z6, sS_175 z6, z6, sT_iff, b6, Int.reduceEq, tNext_175]
    repeat' (first | exact True.intro | with_reducible assumption | with_reducible refine And.intro ?_ ?_ | intro _)
    all_goals first
      | omega
      | assumption
      | rfl
      | (split <;> omega)
      | (have k9 := ih (by omega)
         (repeat' split at k9) <;> first | exact k9 | omega)
      | (have k9 := ih2 (by omega)
         (repeat' split at k9) <;> first | exact k9 | omega)
      | exact he (by omega)
      | (congr 1; omega)
      | (rw [if_pos (by omega)] at he; exact he)
      | exact hD1 (by omega)
      | exact hD2 (by omega)
      | grind
      | skip

theorem met_X8_takeShuttle (l : Launch) : sm_Met l yX8_takeShuttle cX8_takeShuttle 1 none 2 0 0 p_X8_takeShuttle f_X8_takeShuttle := sm_met 0 (Or.inl ⟨rfl, rfl⟩) (by decide +kernel) (sn_X8_takeShuttle l) ok_X8_takeShuttle