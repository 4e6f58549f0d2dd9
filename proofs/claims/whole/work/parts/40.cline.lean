/-! THE CLASS: the machine's own methods, and the lines -/
def fiA (a : Nat) (v k : Int) (w : sm_W) : sm_W := wsI w a k v
def fiW (a : Nat) (v n : Int) (w : sm_W) : sm_W := itI (fiA a v) w n
theorem fiW_in (a : Nat) (v : Int) (w : sm_W) (n : Int) (hn : 0 ≤ n) : (∀ b, wS (fiW a v n w) b = wS w b) ∧ (∀ b j, wI (fiW a v n w) b j = if b = a ∧ 0 ≤ j ∧ j < n then v else wI w b j) ∧ (sT w → sT (fiW a v n w)) ∧ (fiW a v n w).1 = w.1 ∧ (∀ b j, wR (fiW a v n w) b j = wR w b j) := by
  refine itI_ind (f := fiA a v) (fun i r => (∀ b, wS r b = wS w b) ∧ (∀ b j, wI r b j = if b = a ∧ 0 ≤ j ∧ j < i then v else wI w b j) ∧ (sT w → sT r) ∧ r.1 = w.1 ∧ (∀ b j, wR r b j = wR w b j)) n ⟨fun _ => rfl, fun b j => (if_neg (by omega)).symm, id, rfl, fun _ _ => rfl⟩ (fun i r i0 i1 hr => ⟨fun b => hr.1 b, fun b j => ?_, fun h => sT_wsI (hr.2.2.1 h), hr.2.2.2.1, hr.2.2.2.2⟩) n hn (Int.le_refl _)
  unfold fiA
  rw [wI_wsI, hr.2.1]
  by_cases c : b = a
  · by_cases c2 : j = i
    · rw [if_pos ⟨c, c2⟩, if_pos ⟨c, by omega, by omega⟩]
    · rw [if_neg (fun h => c2 h.2)]
      by_cases c3 : b = a ∧ 0 ≤ j ∧ j < i
      · rw [if_pos c3, if_pos ⟨c, by omega, by omega⟩]
      · rw [if_neg c3, if_neg (fun h => c3 ⟨h.1, h.2.1, by omega⟩)]
  · rw [if_neg (fun h => c h.1), if_neg (fun h => c h.1), if_neg (fun h => c h.1)]
def p_J7_fill_53178 : List sm_V → sm_W → Prop
  | [.inr (.inl a), .inl v], w => (wS w a).1 = 9 ∧ ((wS w a).2 : Int) ≤ 1000
  | _, _ => False
def f_J7_fill_53178 : sm_F
  | [.inr (.inl a), .inl v], w => (none, fiW a v ((wS w a).2 : Int) w)
  | _, w => (none, w)
def tb_J7_fill_53178 : List (Nat × List sm_O) := [(0, [oK 0, oIs 2, oA 0, oLen, oIs 3, oGo 5]),
  (5, [oI 2, oI 3, oGe 20, oA 0, oI 2, oI 1, oIst, oInc 2 1, oGo 5]),
  (20, [oVr])]
set_option maxRecDepth 100000 in
theorem sb_J7_fill_53178_0 (l : Launch) : sm_SndB l RJ7 "fill" cJ7_fill_53178 4 0 0 0 [oK 0, oIs 2, oA 0, oLen, oIs 3, oGo 5] := sb_cons (sd_iconst (by decide +kernel : decode cJ7_fill_53178 0 = .ok (.iconst 0, 1)) ⟨by decide, by decide⟩) (sb_cons (sd_istore_n (by decide +kernel : decode cJ7_fill_53178 1 = .ok (.istore_n 2, 1)) rfl) (sb_cons (sd_aload_n (by decide +kernel : decode cJ7_fill_53178 2 = .ok (.aload_n 0, 1)) rfl) (sb_cons (sd_len (by decide +kernel : decode cJ7_fill_53178 3 = .ok (.arraylength, 1))) (sb_cons (sd_istore_n (by decide +kernel : decode cJ7_fill_53178 4 = .ok (.istore_n 3, 1)) rfl) (sb_cons (sd_fall (x := 0)) sb_nil)))))
set_option maxRecDepth 100000 in
theorem sb_J7_fill_53178_5 (l : Launch) : sm_SndB l RJ7 "fill" cJ7_fill_53178 4 0 0 5 [oI 2, oI 3, oGe 20, oA 0, oI 2, oI 1, oIst, oInc 2 1, oGo 5] := sb_cons (sd_iload_n (by decide +kernel : decode cJ7_fill_53178 5 = .ok (.iload_n 2, 1)) rfl) (sb_cons (sd_iload_n (by decide +kernel : decode cJ7_fill_53178 6 = .ok (.iload_n 3, 1)) rfl) (sb_cons (sd_ge (by decide +kernel : decode cJ7_fill_53178 7 = .ok (.if_icmp .ge 13, 3)) (by decide)) (sb_cons (sd_aload_n (by decide +kernel : decode cJ7_fill_53178 10 = .ok (.aload_n 0, 1)) rfl) (sb_cons (sd_iload_n (by decide +kernel : decode cJ7_fill_53178 11 = .ok (.iload_n 2, 1)) rfl) (sb_cons (sd_iload_n (by decide +kernel : decode cJ7_fill_53178 12 = .ok (.iload_n 1, 1)) rfl) (sb_cons (sd_iastore (by decide +kernel : decode cJ7_fill_53178 13 = .ok (.iastore, 1))) (sb_cons (sd_iinc (by decide +kernel : decode cJ7_fill_53178 14 = .ok (.iinc 2 1, 3))) (sb_cons (sd_goto (x := 0) (by decide +kernel : decode cJ7_fill_53178 17 = .ok (.goto (-12), 3)) (by decide)) sb_nil))))))))
set_option maxRecDepth 100000 in
theorem sb_J7_fill_53178_20 (l : Launch) : sm_SndB l RJ7 "fill" cJ7_fill_53178 4 0 0 20 [oVr] := sb_cons (sd_return (x := 0) rfl (by decide +kernel : decode cJ7_fill_53178 20 = .ok (.return_, 1))) sb_nil
theorem sn_J7_fill_53178 (l : Launch) : sm_SndT l RJ7 "fill" cJ7_fill_53178 4 0 0 tb_J7_fill_53178 := st_cons (sb_J7_fill_53178_0 l) (st_cons (sb_J7_fill_53178_5 l) (st_cons (sb_J7_fill_53178_20 l) (st_nil)))
set_option maxRecDepth 100000 in
set_option maxHeartbeats 4000000 in
theorem ok_J7_fill_53178 : sm_Ok tb_J7_fill_53178 4 0 0 p_J7_fill_53178 f_J7_fill_53178 := by
  intro as w hp ha hw
  match as, hp with
  | [.inr (.inl a), .inl v], hp =>
  refine ⟨Nat.le_of_ble_eq_true rfl, fun Z hZ => ?_⟩
  obtain ⟨hk, hs⟩ := hp
  have hl := sm_loopI Z 5 0 ((wS w a).2 : Int) (fun i => [some (.inr (.inl a)), some (.inl v), some (.inl i), some (.inl ((wS w a).2 : Int))]) (fun i => fiW a v i w) 0 0 (by omega) (fun i g0 g1 ih => by
    have hI := (fiW_in a v w i g0).1 a
    have he : i = ((wS w a).2 : Int) → fiW a v i w = fiW a v ((wS w a).2 : Int) w := fun e => by rw [← e]
    have hu : fiW a v (i + 1) w = fiA a v i (fiW a v i w) := itI_s _ _ g0
    rw [hu] at ih
    generalize fiW a v i w = u at *
    unfold fiA at ih
    generalize hsz : wS w a = sz at *
    refine hZ (fun u => Nat.beq u 5) 14 5 _ _ _ _ _ ?_
    simp only [sm_run, sm_blk, sm_get, sm_ent, sm_ents, sm_wds, sm_wd, sm_nl, sm_pop, sm_back, sm_cases, oK, oLK, oL, oI, oA, oJ, oIs, oAs, oJs, oInc, oAdd, oSub, oMul, oDiv, oRem, oNeg, oAnd, oAndB, oOr, oShl, oI2c, oI2l, oL2i, oLand, oLor, oLshl, oLshr, oLushr, oLcmp, oDup, oDup2, oPop, oGo, oFg, oEq, oNe, oLt, oGe, oGt, oLe, oEq0, oNe0, oLt0, oGe0, oGt0, oLe0, oSw, oGi, oGr, oPi, oPz, oPr, oLen, oIl, oZl, oCl, oRl, oIst, oZst, oCst, oRst, oCopy, oNew, oNa, oNa2, oObj, oCs, oCv, oCi, oIr, oZr, oVr, Nat.beq, List.getElem?_cons_zero, List.getElem?_cons_succ, List.set_cons_zero, List.set_cons_succ, List.length_cons, List.length_nil, List.nil_append, List.cons_append, List.append_nil, List.replicate_succ, List.replicate_zero, Nat.reduceAdd, Nat.reduceSub, Nat.reduceLT, Nat.reduceLeDiff, Nat.reduceBEq, true_and, and_true, Nat.zero_add, Nat.add_zero, Nat.le_refl, Option.some.injEq, exists_eq_left', true_or, or_true, or_false, false_or, reduceCtorEq, Prod.mk.injEq, Sum.inl.injEq, and_self, false_and, and_false, not_true_eq_false, not_false_eq_true, false_implies, true_implies, sm_r, Int.add_zero, Int.zero_add, wI_wsI, wS_wsI, wR_wsI, wI_wCp, wS_wCp, wR_wCp, Nat.reduceEqDiff, reduceIte, sT_iff, sT_iffC, wIf_ne, ne_eq, Bool.false_or, Bool.true_or, Bool.or_false, Bool.or_true, Bool.or_self, Nat.left_eq_add, Nat.add_eq_left, Nat.add_left_inj, oMax, oMin, oAbs, tb_J7_fill_53178, p_J7_fill_53178, f_J7_fill_53178, hI, hk, hsz]
    repeat' (first | exact True.intro | with_reducible assumption | with_reducible refine And.intro ?_ ?_ | intro _)
    all_goals first
      | omega
      | assumption
      | rfl
      | (split <;> omega)
      | (have k9 := ih (by omega)
         (repeat' split at k9) <;> first | exact k9 | omega)
      | (have k9 := ih2 (by omega)
         (repeat' split at k9) <;> first | exact k9 | omega)
      | exact he (by omega)
      | ((with_reducible congr 1) <;> omega)
      | (rw [if_pos (by omega)] at he; exact he)
      | exact hD1 (by omega)
      | exact hD2 (by omega)
      | grind
      | skip
    )
  have hl : Z 5 [some (.inr (.inl a)), some (.inl v), some (.inl 0), some (.inl ((wS w a).2 : Int))] [] w 0 0 := hl
  refine hZ (fun u => Nat.beq u 5) 14 0 _ _ _ _ _ ?_
  simp only [sm_run, sm_blk, sm_get, sm_ent, sm_ents, sm_wds, sm_wd, sm_nl, sm_pop, sm_back, sm_cases, oK, oLK, oL, oI, oA, oJ, oIs, oAs, oJs, oInc, oAdd, oSub, oMul, oDiv, oRem, oNeg, oAnd, oAndB, oOr, oShl, oI2c, oI2l, oL2i, oLand, oLor, oLshl, oLshr, oLushr, oLcmp, oDup, oDup2, oPop, oGo, oFg, oEq, oNe, oLt, oGe, oGt, oLe, oEq0, oNe0, oLt0, oGe0, oGt0, oLe0, oSw, oGi, oGr, oPi, oPz, oPr, oLen, oIl, oZl, oCl, oRl, oIst, oZst, oCst, oRst, oCopy, oNew, oNa, oNa2, oObj, oCs, oCv, oCi, oIr, oZr, oVr, Nat.beq, List.getElem?_cons_zero, List.getElem?_cons_succ, List.set_cons_zero, List.set_cons_succ, List.length_cons, List.length_nil, List.nil_append, List.cons_append, List.append_nil, List.replicate_succ, List.replicate_zero, Nat.reduceAdd, Nat.reduceSub, Nat.reduceLT, Nat.reduceLeDiff, Nat.reduceBEq, true_and, and_true, Nat.zero_add, Nat.add_zero, Nat.le_refl, Option.some.injEq, exists_eq_left', true_or, or_true, or_false, false_or, reduceCtorEq, Prod.mk.injEq, Sum.inl.injEq, and_self, false_and, and_false, not_true_eq_false, not_false_eq_true, false_implies, true_implies, sm_r, Int.add_zero, Int.zero_add, wI_wsI, wS_wsI, wR_wsI, wI_wCp, wS_wCp, wR_wCp, Nat.reduceEqDiff, reduceIte, sT_iff, sT_iffC, wIf_ne, ne_eq, Bool.false_or, Bool.true_or, Bool.or_false, Bool.or_true, Bool.or_self, Nat.left_eq_add, Nat.add_eq_left, Nat.add_left_inj, oMax, oMin, oAbs, tb_J7_fill_53178, p_J7_fill_53178, f_J7_fill_53178, hk]
  repeat' (first | exact True.intro | with_reducible assumption | with_reducible refine And.intro ?_ ?_ | intro _)
  all_goals first
    | omega
    | assumption
    | rfl
    | (split <;> omega)
    | (have k9 := ih (by omega)
       (repeat' split at k9) <;> first | exact k9 | omega)
    | (have k9 := ih2 (by omega)
       (repeat' split at k9) <;> first | exact k9 | omega)
    | exact he (by omega)
    | ((with_reducible congr 1) <;> omega)
    | (rw [if_pos (by omega)] at he; exact he)
    | exact hD1 (by omega)
    | exact hD2 (by omega)
    | skip
theorem met_J7_fill_53178 (l : Launch) : sm_Met l yJ7_fill_53178 cJ7_fill_53178 4 none 0 0 0 p_J7_fill_53178 f_J7_fill_53178 := sm_met 0 (Or.inl ⟨rfl, rfl⟩) (by decide +kernel) (sn_J7_fill_53178 l) ok_J7_fill_53178
def p_X7_isStation : List sm_V → sm_W → Prop
  | [.inl x], w => True
  | _, _ => False
def f_X7_isStation : sm_F
  | [.inl x], w => (some (.inl (b01 (0 ≤ x ∧ x < 8))), w)
  | _, w => (none, w)
def tb_X7_isStation : List (Nat × List sm_O) := [(0, [oI 0, oLt0 14, oI 0, oK 8, oGe 14, oK 1, oGo 15]),
  (14, [oK 0, oGo 15]),
  (15, [oZr])]
set_option maxRecDepth 100000 in
theorem sb_X7_isStation_0 (l : Launch) : sm_SndB l RX7 "isStation" cX7_isStation 1 2 0 0 [oI 0, oLt0 14, oI 0, oK 8, oGe 14, oK 1, oGo 15] := sb_cons (sd_iload_n (by decide +kernel : decode cX7_isStation 0 = .ok (.iload_n 0, 1)) rfl) (sb_cons (sd_lt0 (by decide +kernel : decode cX7_isStation 1 = .ok (.ifCond .lt 13, 3)) (by decide)) (sb_cons (sd_iload_n (by decide +kernel : decode cX7_isStation 4 = .ok (.iload_n 0, 1)) rfl) (sb_cons (sd_bipush (by decide +kernel : decode cX7_isStation 5 = .ok (.bipush 8, 2)) ⟨by decide, by decide⟩ (by decide)) (sb_cons (sd_ge (by decide +kernel : decode cX7_isStation 7 = .ok (.if_icmp .ge 7, 3)) (by decide)) (sb_cons (sd_iconst (by decide +kernel : decode cX7_isStation 10 = .ok (.iconst 1, 1)) ⟨by decide, by decide⟩) (sb_cons (sd_goto (x := 0) (by decide +kernel : decode cX7_isStation 11 = .ok (.goto 4, 3)) (by decide)) sb_nil))))))
set_option maxRecDepth 100000 in
theorem sb_X7_isStation_14 (l : Launch) : sm_SndB l RX7 "isStation" cX7_isStation 1 2 0 14 [oK 0, oGo 15] := sb_cons (sd_iconst (by decide +kernel : decode cX7_isStation 14 = .ok (.iconst 0, 1)) ⟨by decide, by decide⟩) (sb_cons (sd_fall (x := 0)) sb_nil)
set_option maxRecDepth 100000 in
theorem sb_X7_isStation_15 (l : Launch) : sm_SndB l RX7 "isStation" cX7_isStation 1 2 0 15 [oZr] := sb_cons (sd_zreturn (x := 0) rfl (by decide +kernel : decode cX7_isStation 15 = .ok (.ireturn, 1))) sb_nil
theorem sn_X7_isStation (l : Launch) : sm_SndT l RX7 "isStation" cX7_isStation 1 2 0 tb_X7_isStation := st_cons (sb_X7_isStation_0 l) (st_cons (sb_X7_isStation_14 l) (st_cons (sb_X7_isStation_15 l) (st_nil)))
set_option maxRecDepth 100000 in
set_option maxHeartbeats 4000000 in
theorem ok_X7_isStation : sm_Ok tb_X7_isStation 1 0 0 p_X7_isStation f_X7_isStation := by
  intro as w hp ha hw
  match as, hp with
  | [.inl x], hp =>
  refine ⟨Nat.le_of_ble_eq_true rfl, fun Z hZ => ?_⟩
  refine hZ (fun _ => false) 16 0 _ _ _ _ _ ?_
  simp only [sm_run, sm_blk, sm_get, sm_ent, sm_ents, sm_wds, sm_wd, sm_nl, sm_pop, sm_back, sm_cases, oK, oLK, oL, oI, oA, oJ, oIs, oAs, oJs, oInc, oAdd, oSub, oMul, oDiv, oRem, oNeg, oAnd, oAndB, oOr, oShl, oI2c, oI2l, oL2i, oLand, oLor, oLshl, oLshr, oLushr, oLcmp, oDup, oDup2, oPop, oGo, oFg, oEq, oNe, oLt, oGe, oGt, oLe, oEq0, oNe0, oLt0, oGe0, oGt0, oLe0, oSw, oGi, oGr, oPi, oPz, oPr, oLen, oIl, oZl, oCl, oRl, oIst, oZst, oCst, oRst, oCopy, oNew, oNa, oNa2, oObj, oCs, oCv, oCi, oIr, oZr, oVr, Nat.beq, List.getElem?_cons_zero, List.getElem?_cons_succ, List.set_cons_zero, List.set_cons_succ, List.length_cons, List.length_nil, List.nil_append, List.cons_append, List.append_nil, List.replicate_succ, List.replicate_zero, Nat.reduceAdd, Nat.reduceSub, Nat.reduceLT, Nat.reduceLeDiff, Nat.reduceBEq, true_and, and_true, Nat.zero_add, Nat.add_zero, Nat.le_refl, Option.some.injEq, exists_eq_left', true_or, or_true, or_false, false_or, reduceCtorEq, Prod.mk.injEq, Sum.inl.injEq, and_self, false_and, and_false, not_true_eq_false, not_false_eq_true, false_implies, true_implies, sm_r, Int.add_zero, Int.zero_add, wI_wsI, wS_wsI, wR_wsI, wI_wCp, wS_wCp, wR_wCp, Nat.reduceEqDiff, reduceIte, sT_iff, sT_iffC, wIf_ne, ne_eq, Bool.false_or, Bool.true_or, Bool.or_false, Bool.or_true, Bool.or_self, Nat.left_eq_add, Nat.add_eq_left, Nat.add_left_inj, oMax, oMin, oAbs, tb_X7_isStation, p_X7_isStation, f_X7_isStation, b01]
  repeat' (first | exact True.intro | with_reducible assumption | with_reducible refine And.intro ?_ ?_ | intro _)
  all_goals first
    | omega
    | assumption
    | rfl
    | (split <;> omega)
    | skip
theorem met_X7_isStation (l : Launch) : sm_Met l yX7_isStation cX7_isStation 1 (some .boolean) 0 0 0 p_X7_isStation f_X7_isStation := sm_met 2 (Or.inr (Or.inr ⟨rfl, rfl⟩)) (by decide +kernel) (sn_X7_isStation l) ok_X7_isStation
def p_X7_isStretch : List sm_V → sm_W → Prop
  | [.inl x], w => True
  | _, _ => False
def f_X7_isStretch : sm_F
  | [.inl x], w => (some (.inl (b01 (0 ≤ x ∧ x < 7))), w)
  | _, w => (none, w)
def tb_X7_isStretch : List (Nat × List sm_O) := [(0, [oI 0, oLt0 14, oI 0, oK 7, oGe 14, oK 1, oGo 15]),
  (14, [oK 0, oGo 15]),
  (15, [oZr])]
set_option maxRecDepth 100000 in
theorem sb_X7_isStretch_0 (l : Launch) : sm_SndB l RX7 "isStretch" cX7_isStretch 1 2 0 0 [oI 0, oLt0 14, oI 0, oK 7, oGe 14, oK 1, oGo 15] := sb_cons (sd_iload_n (by decide +kernel : decode cX7_isStretch 0 = .ok (.iload_n 0, 1)) rfl) (sb_cons (sd_lt0 (by decide +kernel : decode cX7_isStretch 1 = .ok (.ifCond .lt 13, 3)) (by decide)) (sb_cons (sd_iload_n (by decide +kernel : decode cX7_isStretch 4 = .ok (.iload_n 0, 1)) rfl) (sb_cons (sd_bipush (by decide +kernel : decode cX7_isStretch 5 = .ok (.bipush 7, 2)) ⟨by decide, by decide⟩ (by decide)) (sb_cons (sd_ge (by decide +kernel : decode cX7_isStretch 7 = .ok (.if_icmp .ge 7, 3)) (by decide)) (sb_cons (sd_iconst (by decide +kernel : decode cX7_isStretch 10 = .ok (.iconst 1, 1)) ⟨by decide, by decide⟩) (sb_cons (sd_goto (x := 0) (by decide +kernel : decode cX7_isStretch 11 = .ok (.goto 4, 3)) (by decide)) sb_nil))))))
set_option maxRecDepth 100000 in
theorem sb_X7_isStretch_14 (l : Launch) : sm_SndB l RX7 "isStretch" cX7_isStretch 1 2 0 14 [oK 0, oGo 15] := sb_cons (sd_iconst (by decide +kernel : decode cX7_isStretch 14 = .ok (.iconst 0, 1)) ⟨by decide, by decide⟩) (sb_cons (sd_fall (x := 0)) sb_nil)
set_option maxRecDepth 100000 in
theorem sb_X7_isStretch_15 (l : Launch) : sm_SndB l RX7 "isStretch" cX7_isStretch 1 2 0 15 [oZr] := sb_cons (sd_zreturn (x := 0) rfl (by decide +kernel : decode cX7_isStretch 15 = .ok (.ireturn, 1))) sb_nil
theorem sn_X7_isStretch (l : Launch) : sm_SndT l RX7 "isStretch" cX7_isStretch 1 2 0 tb_X7_isStretch := st_cons (sb_X7_isStretch_0 l) (st_cons (sb_X7_isStretch_14 l) (st_cons (sb_X7_isStretch_15 l) (st_nil)))
set_option maxRecDepth 100000 in
set_option maxHeartbeats 4000000 in
theorem ok_X7_isStretch : sm_Ok tb_X7_isStretch 1 0 0 p_X7_isStretch f_X7_isStretch := by
  intro as w hp ha hw
  match as, hp with
  | [.inl x], hp =>
  refine ⟨Nat.le_of_ble_eq_true rfl, fun Z hZ => ?_⟩
  refine hZ (fun _ => false) 16 0 _ _ _ _ _ ?_
  simp only [sm_run, sm_blk, sm_get, sm_ent, sm_ents, sm_wds, sm_wd, sm_nl, sm_pop, sm_back, sm_cases, oK, oLK, oL, oI, oA, oJ, oIs, oAs, oJs, oInc, oAdd, oSub, oMul, oDiv, oRem, oNeg, oAnd, oAndB, oOr, oShl, oI2c, oI2l, oL2i, oLand, oLor, oLshl, oLshr, oLushr, oLcmp, oDup, oDup2, oPop, oGo, oFg, oEq, oNe, oLt, oGe, oGt, oLe, oEq0, oNe0, oLt0, oGe0, oGt0, oLe0, oSw, oGi, oGr, oPi, oPz, oPr, oLen, oIl, oZl, oCl, oRl, oIst, oZst, oCst, oRst, oCopy, oNew, oNa, oNa2, oObj, oCs, oCv, oCi, oIr, oZr, oVr, Nat.beq, List.getElem?_cons_zero, List.getElem?_cons_succ, List.set_cons_zero, List.set_cons_succ, List.length_cons, List.length_nil, List.nil_append, List.cons_append, List.append_nil, List.replicate_succ, List.replicate_zero, Nat.reduceAdd, Nat.reduceSub, Nat.reduceLT, Nat.reduceLeDiff, Nat.reduceBEq, true_and, and_true, Nat.zero_add, Nat.add_zero, Nat.le_refl, Option.some.injEq, exists_eq_left', true_or, or_true, or_false, false_or, reduceCtorEq, Prod.mk.injEq, Sum.inl.injEq, and_self, false_and, and_false, not_true_eq_false, not_false_eq_true, false_implies, true_implies, sm_r, Int.add_zero, Int.zero_add, wI_wsI, wS_wsI, wR_wsI, wI_wCp, wS_wCp, wR_wCp, Nat.reduceEqDiff, reduceIte, sT_iff, sT_iffC, wIf_ne, ne_eq, Bool.false_or, Bool.true_or, Bool.or_false, Bool.or_true, Bool.or_self, Nat.left_eq_add, Nat.add_eq_left, Nat.add_left_inj, oMax, oMin, oAbs, tb_X7_isStretch, p_X7_isStretch, f_X7_isStretch, b01]
  repeat' (first | exact True.intro | with_reducible assumption | with_reducible refine And.intro ?_ ?_ | intro _)
  all_goals first
    | omega
    | assumption
    | rfl
    | (split <;> omega)
    | skip
theorem met_X7_isStretch (l : Launch) : sm_Met l yX7_isStretch cX7_isStretch 1 (some .boolean) 0 0 0 p_X7_isStretch f_X7_isStretch := sm_met 2 (Or.inr (Or.inr ⟨rfl, rfl⟩)) (by decide +kernel) (sn_X7_isStretch l) ok_X7_isStretch
def p_X7_isSlot : List sm_V → sm_W → Prop
  | [.inl x], w => True
  | _, _ => False
def f_X7_isSlot : sm_F
  | [.inl x], w => (some (.inl (b01 (0 ≤ x ∧ x < 2))), w)
  | _, w => (none, w)
def tb_X7_isSlot : List (Nat × List sm_O) := [(0, [oI 0, oLt0 13, oI 0, oK 2, oGe 13, oK 1, oGo 14]),
  (13, [oK 0, oGo 14]),
  (14, [oZr])]
set_option maxRecDepth 100000 in
theorem sb_X7_isSlot_0 (l : Launch) : sm_SndB l RX7 "isSlot" cX7_isSlot 1 2 0 0 [oI 0, oLt0 13, oI 0, oK 2, oGe 13, oK 1, oGo 14] := sb_cons (sd_iload_n (by decide +kernel : decode cX7_isSlot 0 = .ok (.iload_n 0, 1)) rfl) (sb_cons (sd_lt0 (by decide +kernel : decode cX7_isSlot 1 = .ok (.ifCond .lt 12, 3)) (by decide)) (sb_cons (sd_iload_n (by decide +kernel : decode cX7_isSlot 4 = .ok (.iload_n 0, 1)) rfl) (sb_cons (sd_iconst (by decide +kernel : decode cX7_isSlot 5 = .ok (.iconst 2, 1)) ⟨by decide, by decide⟩) (sb_cons (sd_ge (by decide +kernel : decode cX7_isSlot 6 = .ok (.if_icmp .ge 7, 3)) (by decide)) (sb_cons (sd_iconst (by decide +kernel : decode cX7_isSlot 9 = .ok (.iconst 1, 1)) ⟨by decide, by decide⟩) (sb_cons (sd_goto (x := 0) (by decide +kernel : decode cX7_isSlot 10 = .ok (.goto 4, 3)) (by decide)) sb_nil))))))
set_option maxRecDepth 100000 in
theorem sb_X7_isSlot_13 (l : Launch) : sm_SndB l RX7 "isSlot" cX7_isSlot 1 2 0 13 [oK 0, oGo 14] := sb_cons (sd_iconst (by decide +kernel : decode cX7_isSlot 13 = .ok (.iconst 0, 1)) ⟨by decide, by decide⟩) (sb_cons (sd_fall (x := 0)) sb_nil)
set_option maxRecDepth 100000 in
theorem sb_X7_isSlot_14 (l : Launch) : sm_SndB l RX7 "isSlot" cX7_isSlot 1 2 0 14 [oZr] := sb_cons (sd_zreturn (x := 0) rfl (by decide +kernel : decode cX7_isSlot 14 = .ok (.ireturn, 1))) sb_nil
theorem sn_X7_isSlot (l : Launch) : sm_SndT l RX7 "isSlot" cX7_isSlot 1 2 0 tb_X7_isSlot := st_cons (sb_X7_isSlot_0 l) (st_cons (sb_X7_isSlot_13 l) (st_cons (sb_X7_isSlot_14 l) (st_nil)))
set_option maxRecDepth 100000 in
set_option maxHeartbeats 4000000 in
theorem ok_X7_isSlot : sm_Ok tb_X7_isSlot 1 0 0 p_X7_isSlot f_X7_isSlot := by
  intro as w hp ha hw
  match as, hp with
  | [.inl x], hp =>
  refine ⟨Nat.le_of_ble_eq_true rfl, fun Z hZ => ?_⟩
  refine hZ (fun _ => false) 16 0 _ _ _ _ _ ?_
  simp only [sm_run, sm_blk, sm_get, sm_ent, sm_ents, sm_wds, sm_wd, sm_nl, sm_pop, sm_back, sm_cases, oK, oLK, oL, oI, oA, oJ, oIs, oAs, oJs, oInc, oAdd, oSub, oMul, oDiv, oRem, oNeg, oAnd, oAndB, oOr, oShl, oI2c, oI2l, oL2i, oLand, oLor, oLshl, oLshr, oLushr, oLcmp, oDup, oDup2, oPop, oGo, oFg, oEq, oNe, oLt, oGe, oGt, oLe, oEq0, oNe0, oLt0, oGe0, oGt0, oLe0, oSw, oGi, oGr, oPi, oPz, oPr, oLen, oIl, oZl, oCl, oRl, oIst, oZst, oCst, oRst, oCopy, oNew, oNa, oNa2, oObj, oCs, oCv, oCi, oIr, oZr, oVr, Nat.beq, List.getElem?_cons_zero, List.getElem?_cons_succ, List.set_cons_zero, List.set_cons_succ, List.length_cons, List.length_nil, List.nil_append, List.cons_append, List.append_nil, List.replicate_succ, List.replicate_zero, Nat.reduceAdd, Nat.reduceSub, Nat.reduceLT, Nat.reduceLeDiff, Nat.reduceBEq, true_and, and_true, Nat.zero_add, Nat.add_zero, Nat.le_refl, Option.some.injEq, exists_eq_left', true_or, or_true, or_false, false_or, reduceCtorEq, Prod.mk.injEq, Sum.inl.injEq, and_self, false_and, and_false, not_true_eq_false, not_false_eq_true, false_implies, true_implies, sm_r, Int.add_zero, Int.zero_add, wI_wsI, wS_wsI, wR_wsI, wI_wCp, wS_wCp, wR_wCp, Nat.reduceEqDiff, reduceIte, sT_iff, sT_iffC, wIf_ne, ne_eq, Bool.false_or, Bool.true_or, Bool.or_false, Bool.or_true, Bool.or_self, Nat.left_eq_add, Nat.add_eq_left, Nat.add_left_inj, oMax, oMin, oAbs, tb_X7_isSlot, p_X7_isSlot, f_X7_isSlot, b01]
  repeat' (first | exact True.intro | with_reducible assumption | with_reducible refine And.intro ?_ ?_ | intro _)
  all_goals first
    | omega
    | assumption
    | rfl
    | (split <;> omega)
    | skip
theorem met_X7_isSlot (l : Launch) : sm_Met l yX7_isSlot cX7_isSlot 1 (some .boolean) 0 0 0 p_X7_isSlot f_X7_isSlot := sm_met 2 (Or.inr (Or.inr ⟨rfl, rfl⟩)) (by decide +kernel) (sn_X7_isSlot l) ok_X7_isSlot
/-- what a line of the class holds, as the reference's 57 numbers -/
def vL (w : sm_W) (a : Nat) (j : Int) : Int := if j = 0 then wI w a 8 else (if j = 1 then wI w a 7 else (if j < 10 then wI w (a + 1) (j - 2) else (if j < 17 then wI w (a + 2) (j - 10) else (if (j - 17) % 5 = 0 then wI w (a + 3) ((j - 17) / 5) else (if (j - 17) % 5 = 1 then wI w (a + 4) ((j - 17) / 5) else (if (j - 17) % 5 = 2 then wI w (a + 5) ((j - 17) / 5) else (if (j - 17) % 5 = 3 then wI w (a + 6) ((j - 17) / 5) else wI w (a + 7) ((j - 17) / 5))))))))
theorem vL_0 (w : sm_W) (a : Nat) : vL w a 0 = wI w a 8 := rfl
theorem vL_1 (w : sm_W) (a : Nat) : vL w a 1 = wI w a 7 := rfl
theorem vL_t (w : sm_W) (a : Nat) {k : Int} (h0 : 0 ≤ k) (h1 : k < 8) : vL w a (2 + k) = wI w (a + 1) k := by
  unfold vL
  rw [if_neg (by omega), if_neg (by omega), if_pos (by omega), show 2 + k - 2 = k by omega]
theorem vL_r (w : sm_W) (a : Nat) {k : Int} (h0 : 0 ≤ k) (h1 : k < 7) : vL w a (10 + k) = wI w (a + 2) k := by
  unfold vL
  rw [if_neg (by omega), if_neg (by omega), if_neg (by omega), if_pos (by omega), show 10 + k - 10 = k by omega]
theorem vL_s (w : sm_W) (a : Nat) {s : Int} (h0 : 0 ≤ s) : vL w a (17 + 5 * s) = wI w (a + 3) s ∧ vL w a (17 + 5 * s + 1) = wI w (a + 4) s ∧ vL w a (17 + 5 * s + 2) = wI w (a + 5) s ∧ vL w a (17 + 5 * s + 3) = wI w (a + 6) s ∧ vL w a (17 + 5 * s + 4) = wI w (a + 7) s := by
  unfold vL
  refine ⟨?_, ?_, ?_, ?_, ?_⟩
  · rw [if_neg (by omega), if_neg (by omega), if_neg (by omega), if_neg (by omega), if_pos (by omega), show (17 + 5 * s - 17) / 5 = s by omega]
  · rw [if_neg (by omega), if_neg (by omega), if_neg (by omega), if_neg (by omega), if_neg (by omega), if_pos (by omega), show (17 + 5 * s + 1 - 17) / 5 = s by omega]
  · rw [if_neg (by omega), if_neg (by omega), if_neg (by omega), if_neg (by omega), if_neg (by omega), if_neg (by omega), if_pos (by omega), show (17 + 5 * s + 2 - 17) / 5 = s by omega]
  · rw [if_neg (by omega), if_neg (by omega), if_neg (by omega), if_neg (by omega), if_neg (by omega), if_neg (by omega), if_neg (by omega), if_pos (by omega), show (17 + 5 * s + 3 - 17) / 5 = s by omega]
  · rw [if_neg (by omega), if_neg (by omega), if_neg (by omega), if_neg (by omega), if_neg (by omega), if_neg (by omega), if_neg (by omega), if_neg (by omega), show (17 + 5 * s + 4 - 17) / 5 = s by omega]
/-- a line is one of the class's, and holds what a line may hold -/
def lOK (w : sm_W) (a : Nat) : Prop := sT w ∧ sm_isL a ∧ vOK (vL w a)
theorem lOK_n {w : sm_W} {a : Nat} (h : lOK w a) : 0 ≤ wI w a 7 ∧ wI w a 7 ≤ 8 := vOK_many h.2.2
theorem lOK_f {w : sm_W} {a : Nat} (h : lOK w a) : 0 ≤ wI w a 8 ∧ wI w a 8 ≤ 2 := vOK_first h.2.2
theorem lOK_t {w : sm_W} {a : Nat} (h : lOK w a) {k : Int} (h0 : 0 ≤ k) (h1 : k < 8) : 1 ≤ wI w (a + 1) k ∧ wI w (a + 1) k ≤ 4 := by
  rw [← vL_t w a h0 h1]
  exact vOK_tr h.2.2 h0 h1
theorem lOK_r {w : sm_W} {a : Nat} (h : lOK w a) {k : Int} (h0 : 0 ≤ k) (h1 : k < 7) : 1 ≤ wI w (a + 2) k ∧ wI w (a + 2) k ≤ 30 := by
  rw [← vL_r w a h0 h1]
  exact vOK_ru h.2.2 h0 h1
theorem lOK_s {w : sm_W} {a : Nat} (h : lOK w a) {s : Int} (h0 : 0 ≤ s) (h1 : s < wI w a 7) : (0 ≤ wI w (a + 3) s ∧ wI w (a + 3) s < 8) ∧ (0 ≤ wI w (a + 4) s ∧ wI w (a + 4) s < 8) ∧ wI w (a + 3) s ≠ wI w (a + 4) s ∧ (0 ≤ wI w (a + 5) s ∧ wI w (a + 5) s ≤ 300) ∧ (0 ≤ wI w (a + 6) s ∧ wI w (a + 6) s ≤ 20) ∧ (0 ≤ wI w (a + 7) s ∧ wI w (a + 7) s ≤ 9) := by
  have e := vL_s w a h0
  have q := vOK_sh h.2.2 h0 h1
  rw [e.1, e.2.1, e.2.2.1, e.2.2.2.1, e.2.2.2.2] at q
  exact q
theorem lWay {w : sm_W} {a : Nat} {s : Int} (h0 : 0 ≤ s) : (mWay (vL w a) s = 1 ∧ wI w (a + 3) s < wI w (a + 4) s) ∨ (mWay (vL w a) s = -1 ∧ wI w (a + 4) s ≤ wI w (a + 3) s) := by
  have e := vL_s w a h0
  have q := mWay_pm (vL w a) s
  rw [e.1, e.2.1] at q
  omega
def p_X2_hasShuttle : List sm_V → sm_W → Prop
  | [.inr (.inl a), .inl s], w => sT w ∧ sm_isL a
  | _, _ => False
def f_X2_hasShuttle : sm_F
  | [.inr (.inl a), .inl s], w => (some (.inl (b01 (0 ≤ s ∧ s < wI w a 7))), w)
  | _, w => (none, w)
def tb_X2_hasShuttle : List (Nat × List sm_O) := [(0, [oI 1, oLt0 16, oI 1, oA 0, oGi 2 9 7, oGe 16, oK 1, oGo 17]),
  (16, [oK 0, oGo 17]),
  (17, [oZr])]
set_option maxRecDepth 100000 in
theorem sb_X2_hasShuttle_0 (l : Launch) : sm_SndB l RX2 "hasShuttle" cX2_hasShuttle 2 2 0 0 [oI 1, oLt0 16, oI 1, oA 0, oGi 2 9 7, oGe 16, oK 1, oGo 17] := sb_cons (sd_iload_n (by decide +kernel : decode cX2_hasShuttle 0 = .ok (.iload_n 1, 1)) rfl) (sb_cons (sd_lt0 (by decide +kernel : decode cX2_hasShuttle 1 = .ok (.ifCond .lt 15, 3)) (by decide)) (sb_cons (sd_iload_n (by decide +kernel : decode cX2_hasShuttle 4 = .ok (.iload_n 1, 1)) rfl) (sb_cons (sd_aload_n (by decide +kernel : decode cX2_hasShuttle 5 = .ok (.aload_n 0, 1)) rfl) (sb_cons (sd_geti (k := 7) kl_2 (by decide) rfl wm_58 (by decide +kernel : decode cX2_hasShuttle 6 = .ok (.getfield 45, 3))) (sb_cons (sd_ge (by decide +kernel : decode cX2_hasShuttle 9 = .ok (.if_icmp .ge 7, 3)) (by decide)) (sb_cons (sd_iconst (by decide +kernel : decode cX2_hasShuttle 12 = .ok (.iconst 1, 1)) ⟨by decide, by decide⟩) (sb_cons (sd_goto (x := 0) (by decide +kernel : decode cX2_hasShuttle 13 = .ok (.goto 4, 3)) (by decide)) sb_nil)))))))
set_option maxRecDepth 100000 in
theorem sb_X2_hasShuttle_16 (l : Launch) : sm_SndB l RX2 "hasShuttle" cX2_hasShuttle 2 2 0 16 [oK 0, oGo 17] := sb_cons (sd_iconst (by decide +kernel : decode cX2_hasShuttle 16 = .ok (.iconst 0, 1)) ⟨by decide, by decide⟩) (sb_cons (sd_fall (x := 0)) sb_nil)
set_option maxRecDepth 100000 in
theorem sb_X2_hasShuttle_17 (l : Launch) : sm_SndB l RX2 "hasShuttle" cX2_hasShuttle 2 2 0 17 [oZr] := sb_cons (sd_zreturn (x := 0) rfl (by decide +kernel : decode cX2_hasShuttle 17 = .ok (.ireturn, 1))) sb_nil
theorem sn_X2_hasShuttle (l : Launch) : sm_SndT l RX2 "hasShuttle" cX2_hasShuttle 2 2 0 tb_X2_hasShuttle := st_cons (sb_X2_hasShuttle_0 l) (st_cons (sb_X2_hasShuttle_16 l) (st_cons (sb_X2_hasShuttle_17 l) (st_nil)))
set_option maxRecDepth 100000 in
set_option maxHeartbeats 4000000 in
theorem ok_X2_hasShuttle : sm_Ok tb_X2_hasShuttle 2 0 0 p_X2_hasShuttle f_X2_hasShuttle := by
  intro as w hp ha hw
  match as, hp with
  | [.inr (.inl a), .inl s], hp =>
  refine ⟨Nat.le_of_ble_eq_true rfl, fun Z hZ => ?_⟩
  obtain ⟨hT, hL⟩ := hp
  obtain ⟨l0, l1, l2, l3, l4, l5, l6, l7, r0, r1, r2, r3, r4, r5, r6⟩ := lS hT hL
  refine hZ (fun _ => false) 16 0 _ _ _ _ _ ?_
  simp only [sm_run, sm_blk, sm_get, sm_ent, sm_ents, sm_wds, sm_wd, sm_nl, sm_pop, sm_back, sm_cases, oK, oLK, oL, oI, oA, oJ, oIs, oAs, oJs, oInc, oAdd, oSub, oMul, oDiv, oRem, oNeg, oAnd, oAndB, oOr, oShl, oI2c, oI2l, oL2i, oLand, oLor, oLshl, oLshr, oLushr, oLcmp, oDup, oDup2, oPop, oGo, oFg, oEq, oNe, oLt, oGe, oGt, oLe, oEq0, oNe0, oLt0, oGe0, oGt0, oLe0, oSw, oGi, oGr, oPi, oPz, oPr, oLen, oIl, oZl, oCl, oRl, oIst, oZst, oCst, oRst, oCopy, oNew, oNa, oNa2, oObj, oCs, oCv, oCi, oIr, oZr, oVr, Nat.beq, List.getElem?_cons_zero, List.getElem?_cons_succ, List.set_cons_zero, List.set_cons_succ, List.length_cons, List.length_nil, List.nil_append, List.cons_append, List.append_nil, List.replicate_succ, List.replicate_zero, Nat.reduceAdd, Nat.reduceSub, Nat.reduceLT, Nat.reduceLeDiff, Nat.reduceBEq, true_and, and_true, Nat.zero_add, Nat.add_zero, Nat.le_refl, Option.some.injEq, exists_eq_left', true_or, or_true, or_false, false_or, reduceCtorEq, Prod.mk.injEq, Sum.inl.injEq, and_self, false_and, and_false, not_true_eq_false, not_false_eq_true, false_implies, true_implies, sm_r, Int.add_zero, Int.zero_add, wI_wsI, wS_wsI, wR_wsI, wI_wCp, wS_wCp, wR_wCp, Nat.reduceEqDiff, reduceIte, sT_iff, sT_iffC, wIf_ne, ne_eq, Bool.false_or, Bool.true_or, Bool.or_false, Bool.or_true, Bool.or_self, Nat.left_eq_add, Nat.add_eq_left, Nat.add_left_inj, oMax, oMin, oAbs, tb_X2_hasShuttle, p_X2_hasShuttle, f_X2_hasShuttle, l0, b01]
  repeat' (first | exact True.intro | with_reducible assumption | with_reducible refine And.intro ?_ ?_ | intro _)
  all_goals first
    | omega
    | assumption
    | rfl
    | (split <;> omega)
    | skip
theorem met_X2_hasShuttle (l : Launch) : sm_Met l yX2_hasShuttle cX2_hasShuttle 2 (some .boolean) 0 0 0 p_X2_hasShuttle f_X2_hasShuttle := sm_met 2 (Or.inr (Or.inr ⟨rfl, rfl⟩)) (by decide +kernel) (sn_X2_hasShuttle l) ok_X2_hasShuttle
def p_X2_goesUp : List sm_V → sm_W → Prop
  | [.inr (.inl a), .inl s], w => sT w ∧ sm_isL a ∧ 0 ≤ s ∧ s < 8
  | _, _ => False
def f_X2_goesUp : sm_F
  | [.inr (.inl a), .inl s], w => (some (.inl (if wI w (a + 3) s < wI w (a + 4) s then 1 else 0)), w)
  | _, w => (none, w)
def tb_X2_goesUp : List (Nat × List sm_O) := [(0, [oA 0, oGr 2 9 3, oI 1, oIl, oA 0, oGr 2 9 2, oI 1, oIl, oLe 19, oK 1, oGo 20]),
  (19, [oK 0, oGo 20]),
  (20, [oZr])]
set_option maxRecDepth 100000 in
theorem sb_X2_goesUp_0 (l : Launch) : sm_SndB l RX2 "goesUp" cX2_goesUp 2 2 0 0 [oA 0, oGr 2 9 3, oI 1, oIl, oA 0, oGr 2 9 2, oI 1, oIl, oLe 19, oK 1, oGo 20] := sb_cons (sd_aload_n (by decide +kernel : decode cX2_goesUp 0 = .ok (.aload_n 0, 1)) rfl) (sb_cons (sd_getr (k := 3) kl_2 (by decide) rfl wm_47 (by decide +kernel : decode cX2_goesUp 1 = .ok (.getfield 21, 3))) (sb_cons (sd_iload_n (by decide +kernel : decode cX2_goesUp 4 = .ok (.iload_n 1, 1)) rfl) (sb_cons (sd_iaload (by decide +kernel : decode cX2_goesUp 5 = .ok (.iaload, 1))) (sb_cons (sd_aload_n (by decide +kernel : decode cX2_goesUp 6 = .ok (.aload_n 0, 1)) rfl) (sb_cons (sd_getr (k := 2) kl_2 (by decide) rfl wm_45 (by decide +kernel : decode cX2_goesUp 7 = .ok (.getfield 18, 3))) (sb_cons (sd_iload_n (by decide +kernel : decode cX2_goesUp 10 = .ok (.iload_n 1, 1)) rfl) (sb_cons (sd_iaload (by decide +kernel : decode cX2_goesUp 11 = .ok (.iaload, 1))) (sb_cons (sd_le (by decide +kernel : decode cX2_goesUp 12 = .ok (.if_icmp .le 7, 3)) (by decide)) (sb_cons (sd_iconst (by decide +kernel : decode cX2_goesUp 15 = .ok (.iconst 1, 1)) ⟨by decide, by decide⟩) (sb_cons (sd_goto (x := 0) (by decide +kernel : decode cX2_goesUp 16 = .ok (.goto 4, 3)) (by decide)) sb_nil))))))))))
set_option maxRecDepth 100000 in
theorem sb_X2_goesUp_19 (l : Launch) : sm_SndB l RX2 "goesUp" cX2_goesUp 2 2 0 19 [oK 0, oGo 20] := sb_cons (sd_iconst (by decide +kernel : decode cX2_goesUp 19 = .ok (.iconst 0, 1)) ⟨by decide, by decide⟩) (sb_cons (sd_fall (x := 0)) sb_nil)
set_option maxRecDepth 100000 in
theorem sb_X2_goesUp_20 (l : Launch) : sm_SndB l RX2 "goesUp" cX2_goesUp 2 2 0 20 [oZr] := sb_cons (sd_zreturn (x := 0) rfl (by decide +kernel : decode cX2_goesUp 20 = .ok (.ireturn, 1))) sb_nil
theorem sn_X2_goesUp (l : Launch) : sm_SndT l RX2 "goesUp" cX2_goesUp 2 2 0 tb_X2_goesUp := st_cons (sb_X2_goesUp_0 l) (st_cons (sb_X2_goesUp_19 l) (st_cons (sb_X2_goesUp_20 l) (st_nil)))
set_option maxRecDepth 100000 in
set_option maxHeartbeats 4000000 in
theorem ok_X2_goesUp : sm_Ok tb_X2_goesUp 2 0 0 p_X2_goesUp f_X2_goesUp := by
  intro as w hp ha hw
  match as, hp with
  | [.inr (.inl a), .inl s], hp =>
  refine ⟨Nat.le_of_ble_eq_true rfl, fun Z hZ => ?_⟩
  obtain ⟨hT, hL, s0, s1⟩ := hp
  obtain ⟨l0, l1, l2, l3, l4, l5, l6, l7, r0, r1, r2, r3, r4, r5, r6⟩ := lS hT hL
  refine hZ (fun _ => false) 16 0 _ _ _ _ _ ?_
  simp only [sm_run, sm_blk, sm_get, sm_ent, sm_ents, sm_wds, sm_wd, sm_nl, sm_pop, sm_back, sm_cases, oK, oLK, oL, oI, oA, oJ, oIs, oAs, oJs, oInc, oAdd, oSub, oMul, oDiv, oRem, oNeg, oAnd, oAndB, oOr, oShl, oI2c, oI2l, oL2i, oLand, oLor, oLshl, oLshr, oLushr, oLcmp, oDup, oDup2, oPop, oGo, oFg, oEq, oNe, oLt, oGe, oGt, oLe, oEq0, oNe0, oLt0, oGe0, oGt0, oLe0, oSw, oGi, oGr, oPi, oPz, oPr, oLen, oIl, oZl, oCl, oRl, oIst, oZst, oCst, oRst, oCopy, oNew, oNa, oNa2, oObj, oCs, oCv, oCi, oIr, oZr, oVr, Nat.beq, List.getElem?_cons_zero, List.getElem?_cons_succ, List.set_cons_zero, List.set_cons_succ, List.length_cons, List.length_nil, List.nil_append, List.cons_append, List.append_nil, List.replicate_succ, List.replicate_zero, Nat.reduceAdd, Nat.reduceSub, Nat.reduceLT, Nat.reduceLeDiff, Nat.reduceBEq, true_and, and_true, Nat.zero_add, Nat.add_zero, Nat.le_refl, Option.some.injEq, exists_eq_left', true_or, or_true, or_false, false_or, reduceCtorEq, Prod.mk.injEq, Sum.inl.injEq, and_self, false_and, and_false, not_true_eq_false, not_false_eq_true, false_implies, true_implies, sm_r, Int.add_zero, Int.zero_add, wI_wsI, wS_wsI, wR_wsI, wI_wCp, wS_wCp, wR_wCp, Nat.reduceEqDiff, reduceIte, sT_iff, sT_iffC, wIf_ne, ne_eq, Bool.false_or, Bool.true_or, Bool.or_false, Bool.or_true, Bool.or_self, Nat.left_eq_add, Nat.add_eq_left, Nat.add_left_inj, oMax, oMin, oAbs, tb_X2_goesUp, p_X2_goesUp, f_X2_goesUp, l0, l3, l4, r2, r3]
  repeat' (first | exact True.intro | with_reducible assumption | with_reducible refine And.intro ?_ ?_ | intro _)
  all_goals first
    | omega
    | assumption
    | rfl
    | (split <;> omega)
    | skip
theorem met_X2_goesUp (l : Launch) : sm_Met l yX2_goesUp cX2_goesUp 2 (some .boolean) 0 0 0 p_X2_goesUp f_X2_goesUp := sm_met 2 (Or.inr (Or.inr ⟨rfl, rfl⟩)) (by decide +kernel) (sn_X2_goesUp l) ok_X2_goesUp
def p_X2_nextStation : List sm_V → sm_W → Prop
  | [.inr (.inl a), .inl s, .inl p], w => sT w ∧ sm_isL a ∧ 0 ≤ s ∧ s < 8 ∧ 0 ≤ p ∧ p < 8
  | _, _ => False
def f_X2_nextStation : sm_F
  | [.inr (.inl a), .inl s, .inl p], w => (some (.inl (p + mWay (vL w a) s)), w)
  | _, w => (none, w)
def tb_X2_nextStation : List (Nat × List sm_O) := [(0, [oA 0, oI 1, oCv 2 9 p_X2_goesUp f_X2_goesUp 0 0 2, oEq0 14, oI 2, oK 1, oAdd, oGo 17]),
  (14, [oI 2, oK 1, oSub, oGo 17]),
  (17, [oIr])]
set_option maxRecDepth 100000 in
theorem sb_X2_nextStation_0 (l : Launch) : sm_SndB l RX2 "nextStation" cX2_nextStation 3 1 1 0 [oA 0, oI 1, oCv 2 9 p_X2_goesUp f_X2_goesUp 0 0 2, oEq0 14, oI 2, oK 1, oAdd, oGo 17] := sb_cons (sd_aload_n (by decide +kernel : decode cX2_nextStation 0 = .ok (.aload_n 0, 1)) rfl) (sb_cons (sd_iload_n (by decide +kernel : decode cX2_nextStation 1 = .ok (.iload_n 1, 1)) rfl) (sb_cons (sd_callv (n := 1) (met_X2_goesUp l) (by decide) (by decide) wm_311 wm_308 wm_3 ⟨by decide +kernel, by decide +kernel, by decide +kernel⟩ kl_2 wm_309 wm_310 (by decide +kernel : decode cX2_nextStation 2 = .ok (.invokevirtual 66, 3))) (sb_cons (sd_eq0 (by decide +kernel : decode cX2_nextStation 5 = .ok (.ifCond .eq 9, 3)) (by decide)) (sb_cons (sd_iload_n (by decide +kernel : decode cX2_nextStation 8 = .ok (.iload_n 2, 1)) rfl) (sb_cons (sd_iconst (by decide +kernel : decode cX2_nextStation 9 = .ok (.iconst 1, 1)) ⟨by decide, by decide⟩) (sb_cons (sd_iadd (by decide +kernel : decode cX2_nextStation 10 = .ok (.iadd, 1))) (sb_cons (sd_goto (x := 0) (by decide +kernel : decode cX2_nextStation 11 = .ok (.goto 6, 3)) (by decide)) sb_nil)))))))
set_option maxRecDepth 100000 in
theorem sb_X2_nextStation_14 (l : Launch) : sm_SndB l RX2 "nextStation" cX2_nextStation 3 1 1 14 [oI 2, oK 1, oSub, oGo 17] := sb_cons (sd_iload_n (by decide +kernel : decode cX2_nextStation 14 = .ok (.iload_n 2, 1)) rfl) (sb_cons (sd_iconst (by decide +kernel : decode cX2_nextStation 15 = .ok (.iconst 1, 1)) ⟨by decide, by decide⟩) (sb_cons (sd_isub (by decide +kernel : decode cX2_nextStation 16 = .ok (.isub, 1))) (sb_cons (sd_fall (x := 0)) sb_nil)))
set_option maxRecDepth 100000 in
theorem sb_X2_nextStation_17 (l : Launch) : sm_SndB l RX2 "nextStation" cX2_nextStation 3 1 1 17 [oIr] := sb_cons (sd_ireturn (x := 0) rfl (by decide +kernel : decode cX2_nextStation 17 = .ok (.ireturn, 1))) sb_nil
theorem sn_X2_nextStation (l : Launch) : sm_SndT l RX2 "nextStation" cX2_nextStation 3 1 1 tb_X2_nextStation := st_cons (sb_X2_nextStation_0 l) (st_cons (sb_X2_nextStation_14 l) (st_cons (sb_X2_nextStation_17 l) (st_nil)))
set_option maxRecDepth 100000 in
set_option maxHeartbeats 4000000 in
theorem ok_X2_nextStation : sm_Ok tb_X2_nextStation 3 0 0 p_X2_nextStation f_X2_nextStation := by
  intro as w hp ha hw
  match as, hp with
  | [.inr (.inl a), .inl s, .inl p], hp =>
  refine ⟨Nat.le_of_ble_eq_true rfl, fun Z hZ => ?_⟩
  obtain ⟨hT, hL, s0, s1, p0, p1⟩ := hp
  obtain ⟨l0, l1, l2, l3, l4, l5, l6, l7, r0, r1, r2, r3, r4, r5, r6⟩ := lS hT hL
  have hw := lWay (w := w) (a := a) s0
  refine hZ (fun _ => false) 16 0 _ _ _ _ _ ?_
  simp only [sm_run, sm_blk, sm_get, sm_ent, sm_ents, sm_wds, sm_wd, sm_nl, sm_pop, sm_back, sm_cases, oK, oLK, oL, oI, oA, oJ, oIs, oAs, oJs, oInc, oAdd, oSub, oMul, oDiv, oRem, oNeg, oAnd, oAndB, oOr, oShl, oI2c, oI2l, oL2i, oLand, oLor, oLshl, oLshr, oLushr, oLcmp, oDup, oDup2, oPop, oGo, oFg, oEq, oNe, oLt, oGe, oGt, oLe, oEq0, oNe0, oLt0, oGe0, oGt0, oLe0, oSw, oGi, oGr, oPi, oPz, oPr, oLen, oIl, oZl, oCl, oRl, oIst, oZst, oCst, oRst, oCopy, oNew, oNa, oNa2, oObj, oCs, oCv, oCi, oIr, oZr, oVr, Nat.beq, List.getElem?_cons_zero, List.getElem?_cons_succ, List.set_cons_zero, List.set_cons_succ, List.length_cons, List.length_nil, List.nil_append, List.cons_append, List.append_nil, List.replicate_succ, List.replicate_zero, Nat.reduceAdd, Nat.reduceSub, Nat.reduceLT, Nat.reduceLeDiff, Nat.reduceBEq, true_and, and_true, Nat.zero_add, Nat.add_zero, Nat.le_refl, Option.some.injEq, exists_eq_left', true_or, or_true, or_false, false_or, reduceCtorEq, Prod.mk.injEq, Sum.inl.injEq, and_self, false_and, and_false, not_true_eq_false, not_false_eq_true, false_implies, true_implies, sm_r, Int.add_zero, Int.zero_add, wI_wsI, wS_wsI, wR_wsI, wI_wCp, wS_wCp, wR_wCp, Nat.reduceEqDiff, reduceIte, sT_iff, sT_iffC, wIf_ne, ne_eq, Bool.false_or, Bool.true_or, Bool.or_false, Bool.or_true, Bool.or_self, Nat.left_eq_add, Nat.add_eq_left, Nat.add_left_inj, oMax, oMin, oAbs, tb_X2_nextStation, p_X2_goesUp, f_X2_goesUp, p_X2_nextStation, f_X2_nextStation, l0, hT, hL]
  repeat' (first | exact True.intro | with_reducible assumption | with_reducible refine And.intro ?_ ?_ | intro _)
  all_goals first
    | omega
    | assumption
    | rfl
    | (split <;> omega)
    | grind
    | skip
theorem met_X2_nextStation (l : Launch) : sm_Met l yX2_nextStation cX2_nextStation 3 (some .int) 1 0 0 p_X2_nextStation f_X2_nextStation := sm_met 1 (Or.inr (Or.inl ⟨rfl, rfl⟩)) (by decide +kernel) (sn_X2_nextStation l) ok_X2_nextStation
def p_X2_stretchAhead : List sm_V → sm_W → Prop
  | [.inr (.inl a), .inl s, .inl p], w => sT w ∧ sm_isL a ∧ 0 ≤ s ∧ s < 8 ∧ 0 ≤ p ∧ p < 8
  | _, _ => False
def f_X2_stretchAhead : sm_F
  | [.inr (.inl a), .inl s, .inl p], w => (some (.inl (sFrom p (mWay (vL w a) s))), w)
  | _, w => (none, w)
def tb_X2_stretchAhead : List (Nat × List sm_O) := [(0, [oA 0, oI 1, oCv 2 9 p_X2_goesUp f_X2_goesUp 0 0 2, oEq0 12, oI 2, oGo 15]),
  (12, [oI 2, oK 1, oSub, oGo 15]),
  (15, [oIr])]
set_option maxRecDepth 100000 in
theorem sb_X2_stretchAhead_0 (l : Launch) : sm_SndB l RX2 "stretchAhead" cX2_stretchAhead 3 1 1 0 [oA 0, oI 1, oCv 2 9 p_X2_goesUp f_X2_goesUp 0 0 2, oEq0 12, oI 2, oGo 15] := sb_cons (sd_aload_n (by decide +kernel : decode cX2_stretchAhead 0 = .ok (.aload_n 0, 1)) rfl) (sb_cons (sd_iload_n (by decide +kernel : decode cX2_stretchAhead 1 = .ok (.iload_n 1, 1)) rfl) (sb_cons (sd_callv (n := 1) (met_X2_goesUp l) (by decide) (by decide) wm_311 wm_308 wm_3 ⟨by decide +kernel, by decide +kernel, by decide +kernel⟩ kl_2 wm_309 wm_310 (by decide +kernel : decode cX2_stretchAhead 2 = .ok (.invokevirtual 66, 3))) (sb_cons (sd_eq0 (by decide +kernel : decode cX2_stretchAhead 5 = .ok (.ifCond .eq 7, 3)) (by decide)) (sb_cons (sd_iload_n (by decide +kernel : decode cX2_stretchAhead 8 = .ok (.iload_n 2, 1)) rfl) (sb_cons (sd_goto (x := 0) (by decide +kernel : decode cX2_stretchAhead 9 = .ok (.goto 6, 3)) (by decide)) sb_nil)))))
set_option maxRecDepth 100000 in
theorem sb_X2_stretchAhead_12 (l : Launch) : sm_SndB l RX2 "stretchAhead" cX2_stretchAhead 3 1 1 12 [oI 2, oK 1, oSub, oGo 15] := sb_cons (sd_iload_n (by decide +kernel : decode cX2_stretchAhead 12 = .ok (.iload_n 2, 1)) rfl) (sb_cons (sd_iconst (by decide +kernel : decode cX2_stretchAhead 13 = .ok (.iconst 1, 1)) ⟨by decide, by decide⟩) (sb_cons (sd_isub (by decide +kernel : decode cX2_stretchAhead 14 = .ok (.isub, 1))) (sb_cons (sd_fall (x := 0)) sb_nil)))
set_option maxRecDepth 100000 in
theorem sb_X2_stretchAhead_15 (l : Launch) : sm_SndB l RX2 "stretchAhead" cX2_stretchAhead 3 1 1 15 [oIr] := sb_cons (sd_ireturn (x := 0) rfl (by decide +kernel : decode cX2_stretchAhead 15 = .ok (.ireturn, 1))) sb_nil
theorem sn_X2_stretchAhead (l : Launch) : sm_SndT l RX2 "stretchAhead" cX2_stretchAhead 3 1 1 tb_X2_stretchAhead := st_cons (sb_X2_stretchAhead_0 l) (st_cons (sb_X2_stretchAhead_12 l) (st_cons (sb_X2_stretchAhead_15 l) (st_nil)))
set_option maxRecDepth 100000 in
set_option maxHeartbeats 4000000 in
theorem ok_X2_stretchAhead : sm_Ok tb_X2_stretchAhead 3 0 0 p_X2_stretchAhead f_X2_stretchAhead := by
  intro as w hp ha hw
  match as, hp with
  | [.inr (.inl a), .inl s, .inl p], hp =>
  refine ⟨Nat.le_of_ble_eq_true rfl, fun Z hZ => ?_⟩
  obtain ⟨hT, hL, s0, s1, p0, p1⟩ := hp
  obtain ⟨l0, l1, l2, l3, l4, l5, l6, l7, r0, r1, r2, r3, r4, r5, r6⟩ := lS hT hL
  have hw := lWay (w := w) (a := a) s0
  have e : (0 < mWay (vL w a) s → sFrom p (mWay (vL w a) s) = p) ∧ (¬ 0 < mWay (vL w a) s → sFrom p (mWay (vL w a) s) = p - 1) := ⟨fun h => if_pos h, fun h => if_neg h⟩
  refine hZ (fun _ => false) 16 0 _ _ _ _ _ ?_
  simp only [sm_run, sm_blk, sm_get, sm_ent, sm_ents, sm_wds, sm_wd, sm_nl, sm_pop, sm_back, sm_cases, oK, oLK, oL, oI, oA, oJ, oIs, oAs, oJs, oInc, oAdd, oSub, oMul, oDiv, oRem, oNeg, oAnd, oAndB, oOr, oShl, oI2c, oI2l, oL2i, oLand, oLor, oLshl, oLshr, oLushr, oLcmp, oDup, oDup2, oPop, oGo, oFg, oEq, oNe, oLt, oGe, oGt, oLe, oEq0, oNe0, oLt0, oGe0, oGt0, oLe0, oSw, oGi, oGr, oPi, oPz, oPr, oLen, oIl, oZl, oCl, oRl, oIst, oZst, oCst, oRst, oCopy, oNew, oNa, oNa2, oObj, oCs, oCv, oCi, oIr, oZr, oVr, Nat.beq, List.getElem?_cons_zero, List.getElem?_cons_succ, List.set_cons_zero, List.set_cons_succ, List.length_cons, List.length_nil, List.nil_append, List.cons_append, List.append_nil, List.replicate_succ, List.replicate_zero, Nat.reduceAdd, Nat.reduceSub, Nat.reduceLT, Nat.reduceLeDiff, Nat.reduceBEq, true_and, and_true, Nat.zero_add, Nat.add_zero, Nat.le_refl, Option.some.injEq, exists_eq_left', true_or, or_true, or_false, false_or, reduceCtorEq, Prod.mk.injEq, Sum.inl.injEq, and_self, false_and, and_false, not_true_eq_false, not_false_eq_true, false_implies, true_implies, sm_r, Int.add_zero, Int.zero_add, wI_wsI, wS_wsI, wR_wsI, wI_wCp, wS_wCp, wR_wCp, Nat.reduceEqDiff, reduceIte, sT_iff, sT_iffC, wIf_ne, ne_eq, Bool.false_or, Bool.true_or, Bool.or_false, Bool.or_true, Bool.or_self, Nat.left_eq_add, Nat.add_eq_left, Nat.add_left_inj, oMax, oMin, oAbs, tb_X2_stretchAhead, p_X2_goesUp, f_X2_goesUp, p_X2_stretchAhead, f_X2_stretchAhead, l0, hT, hL]
  repeat' (first | exact True.intro | with_reducible assumption | with_reducible refine And.intro ?_ ?_ | intro _)
  all_goals first
    | omega
    | assumption
    | rfl
    | (split <;> omega)
    | grind
    | skip
theorem met_X2_stretchAhead (l : Launch) : sm_Met l yX2_stretchAhead cX2_stretchAhead 3 (some .int) 1 0 0 p_X2_stretchAhead f_X2_stretchAhead := sm_met 1 (Or.inr (Or.inl ⟨rfl, rfl⟩)) (by decide +kernel) (sn_X2_stretchAhead l) ok_X2_stretchAhead
theorem vTime_mm (v : Int → Int) (s p : Int) : vTime v s p = rsum v (if v (17 + 5 * s + 1) < p then v (17 + 5 * s + 1) else p) ((if p < v (17 + 5 * s + 1) then v (17 + 5 * s + 1) else p) - (if v (17 + 5 * s + 1) < p then v (17 + 5 * s + 1) else p)) + (if (if p < v (17 + 5 * s + 1) then v (17 + 5 * s + 1) else p) - (if v (17 + 5 * s + 1) < p then v (17 + 5 * s + 1) else p) - 1 < 0 then 0 else (if p < v (17 + 5 * s + 1) then v (17 + 5 * s + 1) else p) - (if v (17 + 5 * s + 1) < p then v (17 + 5 * s + 1) else p) - 1) * v (17 + 5 * s + 3) := by
  unfold vTime wT
  generalize v (17 + 5 * s + 1) = e
  by_cases c : p < e
  · simp only [if_pos c, if_neg (show ¬ e < p by omega), if_neg (show ¬ e - p - 1 < 0 by omega)]
  · by_cases c2 : p = e
    · subst c2
      simp only [if_neg (Int.lt_irrefl p), if_pos (show p - p - 1 < 0 by omega)]
    · simp only [if_neg c, if_pos (show e < p by omega), if_neg (show ¬ p - e - 1 < 0 by omega)]
def p_X2_wayLeft : List sm_V → sm_W → Prop
  | [.inr (.inl a), .inl s, .inl p], w => lOK w a ∧ 0 ≤ s ∧ s < wI w a 7 ∧ 0 ≤ p ∧ p < 8
  | _, _ => False
def f_X2_wayLeft : sm_F
  | [.inr (.inl a), .inl s, .inl p], w => (some (.inl (vTime (vL w a) s p)), w)
  | _, w => (none, w)
def tb_X2_wayLeft : List (Nat × List sm_O) := [(0, [oI 2, oA 0, oGr 2 9 3, oI 1, oIl, oMin, oIs 3, oI 2, oA 0, oGr 2 9 3, oI 1, oIl, oMax, oIs 4, oI 4, oI 3, oSub, oK 1, oSub, oK 0, oMax, oA 0, oGr 2 9 5, oI 1, oIl, oMul, oIs 5, oI 3, oIs 6, oFg 1, oFg 2, oFg 3, oGo 45]),
  (45, [oI 6, oI 4, oGe 70, oI 5, oA 0, oGr 2 9 1, oI 6, oIl, oAdd, oIs 5, oInc 6 1, oFg 1, oFg 2, oFg 3, oGo 45]),
  (70, [oI 5, oIr])]
set_option maxRecDepth 100000 in
theorem sb_X2_wayLeft_0 (l : Launch) : sm_SndB l RX2 "wayLeft" cX2_wayLeft 7 1 1 0 [oI 2, oA 0, oGr 2 9 3, oI 1, oIl, oMin, oIs 3, oI 2, oA 0, oGr 2 9 3, oI 1, oIl, oMax, oIs 4, oI 4, oI 3, oSub, oK 1, oSub, oK 0, oMax, oA 0, oGr 2 9 5, oI 1, oIl, oMul, oIs 5, oI 3, oIs 6, oFg 1, oFg 2, oFg 3, oGo 45] := sb_cons (sd_iload_n (by decide +kernel : decode cX2_wayLeft 0 = .ok (.iload_n 2, 1)) rfl) (sb_cons (sd_aload_n (by decide +kernel : decode cX2_wayLeft 1 = .ok (.aload_n 0, 1)) rfl) (sb_cons (sd_getr (k := 3) kl_2 (by decide) rfl wm_47 (by decide +kernel : decode cX2_wayLeft 2 = .ok (.getfield 21, 3))) (sb_cons (sd_iload_n (by decide +kernel : decode cX2_wayLeft 5 = .ok (.iload_n 1, 1)) rfl) (sb_cons (sd_iaload (by decide +kernel : decode cX2_wayLeft 6 = .ok (.iaload, 1))) (sb_cons (sd_min (by decide) wm_276 wm_277 wm_12 wm_278 (by decide +kernel : decode cX2_wayLeft 7 = .ok (.invokestatic 69, 3))) (sb_cons (sd_istore_n (by decide +kernel : decode cX2_wayLeft 10 = .ok (.istore_n 3, 1)) rfl) (sb_cons (sd_iload_n (by decide +kernel : decode cX2_wayLeft 11 = .ok (.iload_n 2, 1)) rfl) (sb_cons (sd_aload_n (by decide +kernel : decode cX2_wayLeft 12 = .ok (.aload_n 0, 1)) rfl) (sb_cons (sd_getr (k := 3) kl_2 (by decide) rfl wm_47 (by decide +kernel : decode cX2_wayLeft 13 = .ok (.getfield 21, 3))) (sb_cons (sd_iload_n (by decide +kernel : decode cX2_wayLeft 16 = .ok (.iload_n 1, 1)) rfl) (sb_cons (sd_iaload (by decide +kernel : decode cX2_wayLeft 17 = .ok (.iaload, 1))) (sb_cons (sd_max (by decide) wm_280 wm_281 wm_12 wm_282 (by decide +kernel : decode cX2_wayLeft 18 = .ok (.invokestatic 74, 3))) (sb_cons (sd_istore (by decide +kernel : decode cX2_wayLeft 21 = .ok (.istore 4, 2))) (sb_cons (sd_iload (by decide +kernel : decode cX2_wayLeft 23 = .ok (.iload 4, 2))) (sb_cons (sd_iload_n (by decide +kernel : decode cX2_wayLeft 25 = .ok (.iload_n 3, 1)) rfl) (sb_cons (sd_isub (by decide +kernel : decode cX2_wayLeft 26 = .ok (.isub, 1))) (sb_cons (sd_iconst (by decide +kernel : decode cX2_wayLeft 27 = .ok (.iconst 1, 1)) ⟨by decide, by decide⟩) (sb_cons (sd_isub (by decide +kernel : decode cX2_wayLeft 28 = .ok (.isub, 1))) (sb_cons (sd_iconst (by decide +kernel : decode cX2_wayLeft 29 = .ok (.iconst 0, 1)) ⟨by decide, by decide⟩) (sb_cons (sd_max (by decide) wm_280 wm_281 wm_12 wm_282 (by decide +kernel : decode cX2_wayLeft 30 = .ok (.invokestatic 74, 3))) (sb_cons (sd_aload_n (by decide +kernel : decode cX2_wayLeft 33 = .ok (.aload_n 0, 1)) rfl) (sb_cons (sd_getr (k := 5) kl_2 (by decide) rfl wm_51 (by decide +kernel : decode cX2_wayLeft 34 = .ok (.getfield 27, 3))) (sb_cons (sd_iload_n (by decide +kernel : decode cX2_wayLeft 37 = .ok (.iload_n 1, 1)) rfl) (sb_cons (sd_iaload (by decide +kernel : decode cX2_wayLeft 38 = .ok (.iaload, 1))) (sb_cons (sd_imul (by decide +kernel : decode cX2_wayLeft 39 = .ok (.imul, 1))) (sb_cons (sd_istore (by decide +kernel : decode cX2_wayLeft 40 = .ok (.istore 5, 2))) (sb_cons (sd_iload_n (by decide +kernel : decode cX2_wayLeft 42 = .ok (.iload_n 3, 1)) rfl) (sb_cons (sd_istore (by decide +kernel : decode cX2_wayLeft 43 = .ok (.istore 6, 2))) (sb_cons (sd_fg) (sb_cons (sd_fg) (sb_cons (sd_fg) (sb_cons (sd_fall (x := 0)) sb_nil))))))))))))))))))))))))))))))))
set_option maxRecDepth 100000 in
theorem sb_X2_wayLeft_45 (l : Launch) : sm_SndB l RX2 "wayLeft" cX2_wayLeft 7 1 1 45 [oI 6, oI 4, oGe 70, oI 5, oA 0, oGr 2 9 1, oI 6, oIl, oAdd, oIs 5, oInc 6 1, oFg 1, oFg 2, oFg 3, oGo 45] := sb_cons (sd_iload (by decide +kernel : decode cX2_wayLeft 45 = .ok (.iload 6, 2))) (sb_cons (sd_iload (by decide +kernel : decode cX2_wayLeft 47 = .ok (.iload 4, 2))) (sb_cons (sd_ge (by decide +kernel : decode cX2_wayLeft 49 = .ok (.if_icmp .ge 21, 3)) (by decide)) (sb_cons (sd_iload (by decide +kernel : decode cX2_wayLeft 52 = .ok (.iload 5, 2))) (sb_cons (sd_aload_n (by decide +kernel : decode cX2_wayLeft 54 = .ok (.aload_n 0, 1)) rfl) (sb_cons (sd_getr (k := 1) kl_2 (by decide) rfl wm_42 (by decide +kernel : decode cX2_wayLeft 55 = .ok (.getfield 15, 3))) (sb_cons (sd_iload (by decide +kernel : decode cX2_wayLeft 58 = .ok (.iload 6, 2))) (sb_cons (sd_iaload (by decide +kernel : decode cX2_wayLeft 60 = .ok (.iaload, 1))) (sb_cons (sd_iadd (by decide +kernel : decode cX2_wayLeft 61 = .ok (.iadd, 1))) (sb_cons (sd_istore (by decide +kernel : decode cX2_wayLeft 62 = .ok (.istore 5, 2))) (sb_cons (sd_iinc (by decide +kernel : decode cX2_wayLeft 64 = .ok (.iinc 6 1, 3))) (sb_cons (sd_fg) (sb_cons (sd_fg) (sb_cons (sd_fg) (sb_cons (sd_goto (x := 0) (by decide +kernel : decode cX2_wayLeft 67 = .ok (.goto (-22), 3)) (by decide)) sb_nil))))))))))))))
set_option maxRecDepth 100000 in
theorem sb_X2_wayLeft_70 (l : Launch) : sm_SndB l RX2 "wayLeft" cX2_wayLeft 7 1 1 70 [oI 5, oIr] := sb_cons (sd_iload (by decide +kernel : decode cX2_wayLeft 70 = .ok (.iload 5, 2))) (sb_cons (sd_ireturn (x := 0) rfl (by decide +kernel : decode cX2_wayLeft 72 = .ok (.ireturn, 1))) sb_nil)
theorem sn_X2_wayLeft (l : Launch) : sm_SndT l RX2 "wayLeft" cX2_wayLeft 7 1 1 tb_X2_wayLeft := st_cons (sb_X2_wayLeft_0 l) (st_cons (sb_X2_wayLeft_45 l) (st_cons (sb_X2_wayLeft_70 l) (st_nil)))
set_option maxRecDepth 100000 in
set_option maxHeartbeats 4000000 in
theorem ok_X2_wayLeft : sm_Ok tb_X2_wayLeft 7 0 0 p_X2_wayLeft f_X2_wayLeft := by
  intro as w hp ha hw
  match as, hp with
  | [.inr (.inl a), .inl s, .inl p], hp =>
  refine ⟨Nat.le_of_ble_eq_true rfl, fun Z hZ => ?_⟩
  obtain ⟨hO, s0, s1, p0, p1⟩ := hp
  obtain ⟨l0, l1, l2, l3, l4, l5, l6, l7, r0, r1, r2, r3, r4, r5, r6⟩ := lS hO.1 hO.2.1
  have hn := lOK_n hO
  have hq := lOK_s hO s0 s1
  have e := vL_s w a s0
  have ht := vTime_mm (vL w a) s p
  rw [e.2.1, e.2.2.2.1] at ht
  generalize hlo : (if wI w (a + 4) s < p then wI w (a + 4) s else p) = lo at *
  generalize hhi : (if p < wI w (a + 4) s then wI w (a + 4) s else p) = hi at *
  have hb : 0 ≤ lo ∧ lo ≤ hi ∧ hi < 8 := by
    rw [← hlo, ← hhi]
    split <;> split <;> omega
  have hmx : 0 ≤ (if hi - lo - 1 < 0 then 0 else hi - lo - 1) ∧ (if hi - lo - 1 < 0 then 0 else hi - lo - 1) ≤ 7 := by split <;> omega
  have hmm := mul_b hmx.1 hmx.2 hq.2.2.2.2.1.1 hq.2.2.2.2.1.2
  generalize hM : (if hi - lo - 1 < 0 then 0 else hi - lo - 1) = M at *
  generalize hMS : M * wI w (a + 6) s = MS at *
  have hl := sm_loopI Z 45 0 (hi - lo) (fun j => [some (.inr (.inl a)), none, none, none, some (.inl hi), some (.inl (MS + rsum (vL w a) lo j)), some (.inl (lo + j))]) (fun _ => w) 0 0 (by omega) (fun j g0 g1 ih => by
    have hr := rsum_b hO.2.2 (a := lo) (n := j) hb.1 g0 (by omega)
    have hs := rsum_s (vL w a) lo g0
    have hx : j = hi - lo → rsum (vL w a) lo j = rsum (vL w a) lo (hi - lo) := fun e => by rw [e]
    have hv := fun h => vL_r w a (k := lo + j) (by omega) h
    have hv2 := fun h => lOK_r hO (k := lo + j) (by omega) h
    rw [hs] at ih
    by_cases e1 : j = hi - lo
    · clear ih
      refine hZ (fun u => Nat.beq u 45) 14 45 _ _ _ _ _ ?_
      simp only [sm_run, sm_blk, sm_get, sm_ent, sm_ents, sm_wds, sm_wd, sm_nl, sm_pop, sm_back, sm_cases, oK, oLK, oL, oI, oA, oJ, oIs, oAs, oJs, oInc, oAdd, oSub, oMul, oDiv, oRem, oNeg, oAnd, oAndB, oOr, oShl, oI2c, oI2l, oL2i, oLand, oLor, oLshl, oLshr, oLushr, oLcmp, oDup, oDup2, oPop, oGo, oFg, oEq, oNe, oLt, oGe, oGt, oLe, oEq0, oNe0, oLt0, oGe0, oGt0, oLe0, oSw, oGi, oGr, oPi, oPz, oPr, oLen, oIl, oZl, oCl, oRl, oIst, oZst, oCst, oRst, oCopy, oNew, oNa, oNa2, oObj, oCs, oCv, oCi, oIr, oZr, oVr, Nat.beq, List.getElem?_cons_zero, List.getElem?_cons_succ, List.set_cons_zero, List.set_cons_succ, List.length_cons, List.length_nil, List.nil_append, List.cons_append, List.append_nil, List.replicate_succ, List.replicate_zero, Nat.reduceAdd, Nat.reduceSub, Nat.reduceLT, Nat.reduceLeDiff, Nat.reduceBEq, true_and, and_true, Nat.zero_add, Nat.add_zero, Nat.le_refl, Option.some.injEq, exists_eq_left', true_or, or_true, or_false, false_or, reduceCtorEq, Prod.mk.injEq, Sum.inl.injEq, and_self, false_and, and_false, not_true_eq_false, not_false_eq_true, false_implies, true_implies, sm_r, Int.add_zero, Int.zero_add, wI_wsI, wS_wsI, wR_wsI, wI_wCp, wS_wCp, wR_wCp, Nat.reduceEqDiff, reduceIte, sT_iff, sT_iffC, wIf_ne, ne_eq, Bool.false_or, Bool.true_or, Bool.or_false, Bool.or_true, Bool.or_self, Nat.left_eq_add, Nat.add_eq_left, Nat.add_left_inj, oMax, oMin, oAbs, tb_X2_wayLeft, p_X2_wayLeft, f_X2_wayLeft, l0, r1, l2]
      repeat' (first | exact True.intro | with_reducible assumption | with_reducible refine And.intro ?_ ?_ | intro _)
      all_goals first
        | omega
        | assumption
        | rfl
        | (split <;> omega)
        | (have k9 := ih (by omega)
           (repeat' split at k9) <;> first | exact k9 | omega)
        | (have k9 := ih2 (by omega)
           (repeat' split at k9) <;> first | exact k9 | omega)
        | exact he (by omega)
        | ((with_reducible congr 1) <;> omega)
        | (rw [if_pos (by omega)] at he; exact he)
        | exact hD1 (by omega)
        | exact hD2 (by omega)
        | grind
        | skip
    · have ih := ih (by omega)
      rw [hv (by omega)] at ih
      rw [← Int.add_assoc, ← Int.add_assoc] at ih
      refine hZ (fun u => Nat.beq u 45) 14 45 _ _ _ _ _ ?_
      simp only [sm_run, sm_blk, sm_get, sm_ent, sm_ents, sm_wds, sm_wd, sm_nl, sm_pop, sm_back, sm_cases, oK, oLK, oL, oI, oA, oJ, oIs, oAs, oJs, oInc, oAdd, oSub, oMul, oDiv, oRem, oNeg, oAnd, oAndB, oOr, oShl, oI2c, oI2l, oL2i, oLand, oLor, oLshl, oLshr, oLushr, oLcmp, oDup, oDup2, oPop, oGo, oFg, oEq, oNe, oLt, oGe, oGt, oLe, oEq0, oNe0, oLt0, oGe0, oGt0, oLe0, oSw, oGi, oGr, oPi, oPz, oPr, oLen, oIl, oZl, oCl, oRl, oIst, oZst, oCst, oRst, oCopy, oNew, oNa, oNa2, oObj, oCs, oCv, oCi, oIr, oZr, oVr, Nat.beq, List.getElem?_cons_zero, List.getElem?_cons_succ, List.set_cons_zero, List.set_cons_succ, List.length_cons, List.length_nil, List.nil_append, List.cons_append, List.append_nil, List.replicate_succ, List.replicate_zero, Nat.reduceAdd, Nat.reduceSub, Nat.reduceLT, Nat.reduceLeDiff, Nat.reduceBEq, true_and, and_true, Nat.zero_add, Nat.add_zero, Nat.le_refl, Option.some.injEq, exists_eq_left', true_or, or_true, or_false, false_or, reduceCtorEq, Prod.mk.injEq, Sum.inl.injEq, and_self, false_and, and_false, not_true_eq_false, not_false_eq_true, false_implies, true_implies, sm_r, Int.add_zero, Int.zero_add, wI_wsI, wS_wsI, wR_wsI, wI_wCp, wS_wCp, wR_wCp, Nat.reduceEqDiff, reduceIte, sT_iff, sT_iffC, wIf_ne, ne_eq, Bool.false_or, Bool.true_or, Bool.or_false, Bool.or_true, Bool.or_self, Nat.left_eq_add, Nat.add_eq_left, Nat.add_left_inj, oMax, oMin, oAbs, tb_X2_wayLeft, p_X2_wayLeft, f_X2_wayLeft, l0, r1, l2]
      repeat' (first | exact True.intro | with_reducible assumption | with_reducible refine And.intro ?_ ?_ | intro _)
      all_goals first
        | omega
        | assumption
        | rfl
        | (split <;> omega)
        | (have k9 := ih (by omega)
           (repeat' split at k9) <;> first | exact k9 | omega)
        | (have k9 := ih2 (by omega)
           (repeat' split at k9) <;> first | exact k9 | omega)
        | exact he (by omega)
        | ((with_reducible congr 1) <;> omega)
        | (rw [if_pos (by omega)] at he; exact he)
        | exact hD1 (by omega)
        | exact hD2 (by omega)
        | grind
        | skip
    )
  have hl : Z 45 [some (.inr (.inl a)), none, none, none, some (.inl hi), some (.inl MS), some (.inl lo)] [] w 0 0 := by
    have h9 := hl
    have e0 : rsum (vL w a) lo 0 = 0 := rfl
    rw [e0, Int.add_zero, Int.add_zero] at h9
    exact h9
  refine hZ (fun u => Nat.beq u 45) 14 0 _ _ _ _ _ ?_
  simp only [sm_run, sm_blk, sm_get, sm_ent, sm_ents, sm_wds, sm_wd, sm_nl, sm_pop, sm_back, sm_cases, oK, oLK, oL, oI, oA, oJ, oIs, oAs, oJs, oInc, oAdd, oSub, oMul, oDiv, oRem, oNeg, oAnd, oAndB, oOr, oShl, oI2c, oI2l, oL2i, oLand, oLor, oLshl, oLshr, oLushr, oLcmp, oDup, oDup2, oPop, oGo, oFg, oEq, oNe, oLt, oGe, oGt, oLe, oEq0, oNe0, oLt0, oGe0, oGt0, oLe0, oSw, oGi, oGr, oPi, oPz, oPr, oLen, oIl, oZl, oCl, oRl, oIst, oZst, oCst, oRst, oCopy, oNew, oNa, oNa2, oObj, oCs, oCv, oCi, oIr, oZr, oVr, Nat.beq, List.getElem?_cons_zero, List.getElem?_cons_succ, List.set_cons_zero, List.set_cons_succ, List.length_cons, List.length_nil, List.nil_append, List.cons_append, List.append_nil, List.replicate_succ, List.replicate_zero, Nat.reduceAdd, Nat.reduceSub, Nat.reduceLT, Nat.reduceLeDiff, Nat.reduceBEq, true_and, and_true, Nat.zero_add, Nat.add_zero, Nat.le_refl, Option.some.injEq, exists_eq_left', true_or, or_true, or_false, false_or, reduceCtorEq, Prod.mk.injEq, Sum.inl.injEq, and_self, false_and, and_false, not_true_eq_false, not_false_eq_true, false_implies, true_implies, sm_r, Int.add_zero, Int.zero_add, wI_wsI, wS_wsI, wR_wsI, wI_wCp, wS_wCp, wR_wCp, Nat.reduceEqDiff, reduceIte, sT_iff, sT_iffC, wIf_ne, ne_eq, Bool.false_or, Bool.true_or, Bool.or_false, Bool.or_true, Bool.or_self, Nat.left_eq_add, Nat.add_eq_left, Nat.add_left_inj, oMax, oMin, oAbs, tb_X2_wayLeft, p_X2_wayLeft, f_X2_wayLeft, l0, r3, l4, r5, l6, hlo, hhi, hM, hMS]
  repeat' (first | exact True.intro | with_reducible assumption | with_reducible refine And.intro ?_ ?_ | intro _)
  all_goals first
    | omega
    | assumption
    | rfl
    | (split <;> omega)
    | (have k9 := ih (by omega)
       (repeat' split at k9) <;> first | exact k9 | omega)
    | (have k9 := ih2 (by omega)
       (repeat' split at k9) <;> first | exact k9 | omega)
    | exact he (by omega)
    | ((with_reducible congr 1) <;> omega)
    | (rw [if_pos (by omega)] at he; exact he)
    | exact hD1 (by omega)
    | exact hD2 (by omega)
    | skip

theorem met_X2_wayLeft (l : Launch) : sm_Met l yX2_wayLeft cX2_wayLeft 7 (some .int) 1 0 0 p_X2_wayLeft f_X2_wayLeft := sm_met 1 (Or.inr (Or.inl ⟨rfl, rfl⟩)) (by decide +kernel) (sn_X2_wayLeft l) ok_X2_wayLeft