/-! THE REFERENCE: changes of the line, what is kept of it -/
def mH (w : sm_W) : Prop := (0 ≤ wI w 154 2 ∧ wI w 154 2 < 6) ∧ (0 ≤ wI w 154 3 ∧ wI w 154 3 ≤ 6)
def mKp0 (w : sm_W) : sm_W := if wI w 154 3 = 6 then wsI (wsI w 154 2 ((wI w 154 2 + 1) % 6)) 154 3 (wI w 154 3 - 1) else w
def mKp1 (s k : Int) (w : sm_W) : sm_W := wsI w 156 (57 * s + k) (wI w 155 k)
def mKeep (w : sm_W) : sm_W := wsI (itI (mKp1 ((wI (mKp0 w) 154 2 + wI (mKp0 w) 154 3) % 6)) (mKp0 w) 57) 154 3 (wI (mKp0 w) 154 3 + 1)
theorem mKp0_keep (w : sm_W) : (∀ a, a ≠ 154 → wI (mKp0 w) a = wI w a) ∧ (sT w → sT (mKp0 w)) ∧ (mH w → mH (mKp0 w) ∧ wI (mKp0 w) 154 3 ≤ 5) := by
  unfold mKp0
  split
  · refine ⟨fun a h => by rw [wIf_ne h, wIf_ne h], fun h => h, fun h => ?_⟩
    unfold mH at *
    simp only [wI_wsI, true_and, Int.reduceEq, if_false, if_true]
    omega
  · exact ⟨fun _ _ => rfl, fun h => h, fun h => ⟨h, by unfold mH at h; omega⟩⟩
theorem mKpL (s : Int) (w : sm_W) (n : Int) (hn : 0 ≤ n) : (∀ a, a ≠ 156 → wI (itI (mKp1 s) w n) a = wI w a) ∧ (sT w → sT (itI (mKp1 s) w n)) :=
  itI_ind (f := mKp1 s) (fun _ r => (∀ a, a ≠ 156 → wI r a = wI w a) ∧ (sT w → sT r)) n ⟨fun _ _ => rfl, id⟩ (fun i r _ _ hr => ⟨fun a h => by unfold mKp1; rw [wIf_ne h, hr.1 a h], hr.2⟩) n hn (Int.le_refl _)
def p_X8_keep : List sm_V → sm_W → Prop
  | [.inr (.inl m)], w => m = 154 ∧ sT w ∧ mH w
  | _, _ => False
def f_X8_keep : sm_F
  | [.inr (.inl m)], w => (none, mKeep w)
  | _, w => (none, w)
def tb_X8_keep : List (Nat × List sm_O) := [(0, [oA 0, oGi 8 30 3, oK 6, oNe 32, oA 0, oA 0, oGi 8 30 2, oK 1, oAdd, oK 6, oRem, oPi 8 30 2, oA 0, oDup, oGi 8 30 3, oK 1, oSub, oPi 8 30 3, oGo 32]),
  (32, [oA 0, oGi 8 30 2, oA 0, oGi 8 30 3, oAdd, oK 6, oRem, oIs 1, oK 0, oIs 2, oGo 47]),
  (47, [oI 2, oK 57, oGe 76, oA 0, oGr 8 30 1, oK 57, oI 1, oMul, oI 2, oAdd, oA 0, oGr 8 30 0, oI 2, oIl, oIst, oInc 2 1, oGo 47]),
  (76, [oA 0, oDup, oGi 8 30 3, oK 1, oAdd, oPi 8 30 3, oVr])]
set_option maxRecDepth 100000 in
theorem sb_X8_keep_0 (l : Launch) : sm_SndB l RX8 "keep" cX8_keep 3 0 0 0 [oA 0, oGi 8 30 3, oK 6, oNe 32, oA 0, oA 0, oGi 8 30 2, oK 1, oAdd, oK 6, oRem, oPi 8 30 2, oA 0, oDup, oGi 8 30 3, oK 1, oSub, oPi 8 30 3, oGo 32] := sb_cons (sd_aload_n (by decide +kernel : decode cX8_keep 0 = .ok (.aload_n 0, 1)) rfl) (sb_cons (sd_geti (k := 3) kl_8 (by decide) rfl wm_676 (by decide +kernel : decode cX8_keep 1 = .ok (.getfield 82, 3))) (sb_cons (sd_bipush (by decide +kernel : decode cX8_keep 4 = .ok (.bipush 6, 2)) ⟨by decide, by decide⟩ (by decide)) (sb_cons (sd_ne (by decide +kernel : decode cX8_keep 6 = .ok (.if_icmp .ne 26, 3)) (by decide)) (sb_cons (sd_aload_n (by decide +kernel : decode cX8_keep 9 = .ok (.aload_n 0, 1)) rfl) (sb_cons (sd_aload_n (by decide +kernel : decode cX8_keep 10 = .ok (.aload_n 0, 1)) rfl) (sb_cons (sd_geti (k := 2) kl_8 (by decide) rfl wm_675 (by decide +kernel : decode cX8_keep 11 = .ok (.getfield 86, 3))) (sb_cons (sd_iconst (by decide +kernel : decode cX8_keep 14 = .ok (.iconst 1, 1)) ⟨by decide, by decide⟩) (sb_cons (sd_iadd (by decide +kernel : decode cX8_keep 15 = .ok (.iadd, 1))) (sb_cons (sd_bipush (by decide +kernel : decode cX8_keep 16 = .ok (.bipush 6, 2)) ⟨by decide, by decide⟩ (by decide)) (sb_cons (sd_irem (by decide +kernel : decode cX8_keep 18 = .ok (.irem, 1))) (sb_cons (sd_puti (k := 2) kl_8 (by decide) rfl (Or.inl rfl) wm_675 (by decide +kernel : decode cX8_keep 19 = .ok (.putfield 86, 3))) (sb_cons (sd_aload_n (by decide +kernel : decode cX8_keep 22 = .ok (.aload_n 0, 1)) rfl) (sb_cons (sd_dup (by decide +kernel : decode cX8_keep 23 = .ok (.dup, 1))) (sb_cons (sd_geti (k := 3) kl_8 (by decide) rfl wm_676 (by decide +kernel : decode cX8_keep 24 = .ok (.getfield 82, 3))) (sb_cons (sd_iconst (by decide +kernel : decode cX8_keep 27 = .ok (.iconst 1, 1)) ⟨by decide, by decide⟩) (sb_cons (sd_isub (by decide +kernel : decode cX8_keep 28 = .ok (.isub, 1))) (sb_cons (sd_puti (k := 3) kl_8 (by decide) rfl (Or.inl rfl) wm_676 (by decide +kernel : decode cX8_keep 29 = .ok (.putfield 82, 3))) (sb_cons (sd_fall (x := 0)) sb_nil))))))))))))))))))
set_option maxRecDepth 100000 in
theorem sb_X8_keep_32 (l : Launch) : sm_SndB l RX8 "keep" cX8_keep 3 0 0 32 [oA 0, oGi 8 30 2, oA 0, oGi 8 30 3, oAdd, oK 6, oRem, oIs 1, oK 0, oIs 2, oGo 47] := sb_cons (sd_aload_n (by decide +kernel : decode cX8_keep 32 = .ok (.aload_n 0, 1)) rfl) (sb_cons (sd_geti (k := 2) kl_8 (by decide) rfl wm_675 (by decide +kernel : decode cX8_keep 33 = .ok (.getfield 86, 3))) (sb_cons (sd_aload_n (by decide +kernel : decode cX8_keep 36 = .ok (.aload_n 0, 1)) rfl) (sb_cons (sd_geti (k := 3) kl_8 (by decide) rfl wm_676 (by decide +kernel : decode cX8_keep 37 = .ok (.getfield 82, 3))) (sb_cons (sd_iadd (by decide +kernel : decode cX8_keep 40 = .ok (.iadd, 1))) (sb_cons (sd_bipush (by decide +kernel : decode cX8_keep 41 = .ok (.bipush 6, 2)) ⟨by decide, by decide⟩ (by decide)) (sb_cons (sd_irem (by decide +kernel : decode cX8_keep 43 = .ok (.irem, 1))) (sb_cons (sd_istore_n (by decide +kernel : decode cX8_keep 44 = .ok (.istore_n 1, 1)) rfl) (sb_cons (sd_iconst (by decide +kernel : decode cX8_keep 45 = .ok (.iconst 0, 1)) ⟨by decide, by decide⟩) (sb_cons (sd_istore_n (by decide +kernel : decode cX8_keep 46 = .ok (.istore_n 2, 1)) rfl) (sb_cons (sd_fall (x := 0)) sb_nil))))))))))
set_option maxRecDepth 100000 in
theorem sb_X8_keep_47 (l : Launch) : sm_SndB l RX8 "keep" cX8_keep 3 0 0 47 [oI 2, oK 57, oGe 76, oA 0, oGr 8 30 1, oK 57, oI 1, oMul, oI 2, oAdd, oA 0, oGr 8 30 0, oI 2, oIl, oIst, oInc 2 1, oGo 47] := sb_cons (sd_iload_n (by decide +kernel : decode cX8_keep 47 = .ok (.iload_n 2, 1)) rfl) (sb_cons (sd_bipush (by decide +kernel : decode cX8_keep 48 = .ok (.bipush 57, 2)) ⟨by decide, by decide⟩ (by decide)) (sb_cons (sd_ge (by decide +kernel : decode cX8_keep 50 = .ok (.if_icmp .ge 26, 3)) (by decide)) (sb_cons (sd_aload_n (by decide +kernel : decode cX8_keep 53 = .ok (.aload_n 0, 1)) rfl) (sb_cons (sd_getr (k := 1) kl_8 (by decide) rfl wm_674 (by decide +kernel : decode cX8_keep 54 = .ok (.getfield 13, 3))) (sb_cons (sd_bipush (by decide +kernel : decode cX8_keep 57 = .ok (.bipush 57, 2)) ⟨by decide, by decide⟩ (by decide)) (sb_cons (sd_iload_n (by decide +kernel : decode cX8_keep 59 = .ok (.iload_n 1, 1)) rfl) (sb_cons (sd_imul (by decide +kernel : decode cX8_keep 60 = .ok (.imul, 1))) (sb_cons (sd_iload_n (by decide +kernel : decode cX8_keep 61 = .ok (.iload_n 2, 1)) rfl) (sb_cons (sd_iadd (by decide +kernel : decode cX8_keep 62 = .ok (.iadd, 1))) (sb_cons (sd_aload_n (by decide +kernel : decode cX8_keep 63 = .ok (.aload_n 0, 1)) rfl) (sb_cons (sd_getr (k := 0) kl_8 (by decide) rfl wm_673 (by decide +kernel : decode cX8_keep 64 = .ok (.getfield 7, 3))) (sb_cons (sd_iload_n (by decide +kernel : decode cX8_keep 67 = .ok (.iload_n 2, 1)) rfl) (sb_cons (sd_iaload (by decide +kernel : decode cX8_keep 68 = .ok (.iaload, 1))) (sb_cons (sd_iastore (by decide +kernel : decode cX8_keep 69 = .ok (.iastore, 1))) (sb_cons (sd_iinc (by decide +kernel : decode cX8_keep 70 = .ok (.iinc 2 1, 3))) (sb_cons (sd_goto (x := 0) (by decide +kernel : decode cX8_keep 73 = .ok (.goto (-26), 3)) (by decide)) sb_nil))))))))))))))))
set_option maxRecDepth 100000 in
theorem sb_X8_keep_76 (l : Launch) : sm_SndB l RX8 "keep" cX8_keep 3 0 0 76 [oA 0, oDup, oGi 8 30 3, oK 1, oAdd, oPi 8 30 3, oVr] := sb_cons (sd_aload_n (by decide +kernel : decode cX8_keep 76 = .ok (.aload_n 0, 1)) rfl) (sb_cons (sd_dup (by decide +kernel : decode cX8_keep 77 = .ok (.dup, 1))) (sb_cons (sd_geti (k := 3) kl_8 (by decide) rfl wm_676 (by decide +kernel : decode cX8_keep 78 = .ok (.getfield 82, 3))) (sb_cons (sd_iconst (by decide +kernel : decode cX8_keep 81 = .ok (.iconst 1, 1)) ⟨by decide, by decide⟩) (sb_cons (sd_iadd (by decide +kernel : decode cX8_keep 82 = .ok (.iadd, 1))) (sb_cons (sd_puti (k := 3) kl_8 (by decide) rfl (Or.inl rfl) wm_676 (by decide +kernel : decode cX8_keep 83 = .ok (.putfield 82, 3))) (sb_cons (sd_return (x := 0) rfl (by decide +kernel : decode cX8_keep 86 = .ok (.return_, 1))) sb_nil))))))
theorem sn_X8_keep (l : Launch) : sm_SndT l RX8 "keep" cX8_keep 3 0 0 tb_X8_keep := st_cons (sb_X8_keep_0 l) (st_cons (sb_X8_keep_32 l) (st_cons (sb_X8_keep_47 l) (st_cons (sb_X8_keep_76 l) (st_nil))))
set_option maxRecDepth 100000 in
set_option maxHeartbeats 4000000 in
theorem ok_X8_keep : sm_Ok tb_X8_keep 3 0 0 p_X8_keep f_X8_keep := by
  intro as w hp ha hw
  match as, hp with
  | [.inr (.inl m)], hp =>
  refine ⟨Nat.le_of_ble_eq_true rfl, fun Z hZ => ?_⟩
  obtain ⟨rfl, hT, hH⟩ := hp
  obtain ⟨k1, k2, k3⟩ := mKp0_keep w
  obtain ⟨k3, k4⟩ := k3 hH
  have hT0 := k2 hT
  unfold mH at k3 hH
  have hs : 0 ≤ (wI (mKp0 w) 154 2 + wI (mKp0 w) 154 3) % 6 ∧ (wI (mKp0 w) 154 2 + wI (mKp0 w) 154 3) % 6 < 6 := by omega
  have hl := sm_loopI Z 47 0 57 (fun i => [some (.inr (.inl 154)), some (.inl ((wI (mKp0 w) 154 2 + wI (mKp0 w) 154 3) % 6)), some (.inl i)]) (fun i => itI (mKp1 ((wI (mKp0 w) 154 2 + wI (mKp0 w) 154 3) % 6)) (mKp0 w) i) 0 0 (by decide) (fun i h0 h1 ih => by
    obtain ⟨j1, j2⟩ := mKpL ((wI (mKp0 w) 154 2 + wI (mKp0 w) 154 3) % 6) (mKp0 w) i h0
    have hT := j2 hT0
    rw [itI_s _ _ h0] at ih
    have j3 := congrFun (j1 154 (by decide)) 3
    have he : i = 57 → wsI (itI (mKp1 ((wI (mKp0 w) 154 2 + wI (mKp0 w) 154 3) % 6)) (mKp0 w) i) 154 3 (wI (itI (mKp1 ((wI (mKp0 w) 154 2 + wI (mKp0 w) 154 3) % 6)) (mKp0 w) i) 154 3 + 1) = mKeep w := fun e => by rw [e] at j3 ⊢; rw [j3]; rfl
    generalize itI (mKp1 ((wI (mKp0 w) 154 2 + wI (mKp0 w) 154 3) % 6)) (mKp0 w) i = u at *
    generalize (wI (mKp0 w) 154 2 + wI (mKp0 w) 154 3) % 6 = s at *
    unfold mKp1 at ih
    refine hZ (fun u => Nat.beq u 47) 14 47 _ _ _ _ _ ?_
    simp only [sm_run, sm_blk, sm_get, sm_ent, sm_ents, sm_wds, sm_wd, sm_nl, sm_pop, sm_back, sm_cases, oK, oLK, oL, oI, oA, oJ, oIs, oAs, oJs, oInc, oAdd, oSub, oMul, oDiv, oRem, oNeg, oAnd, oAndB, oOr, oShl, oI2c, oI2l, oL2i, oLand, oLor, oLshl, oLshr, oLushr, oLcmp, oDup, oDup2, oPop, oGo, oFg, oEq, oNe, oLt, oGe, oGt, oLe, oEq0, oNe0, oLt0, oGe0, oGt0, oLe0, oSw, oGi, oGr, oPi, oPz, oPr, oLen, oIl, oZl, oCl, oRl, oIst, oZst, oCst, oRst, oCopy, oNew, oNa, oNa2, oObj, oCs, oCv, oCi, oIr, oZr, oVr, Nat.beq, List.getElem?_cons_zero, List.getElem?_cons_succ, List.set_cons_zero, List.set_cons_succ, List.length_cons, List.length_nil, List.nil_append, List.cons_append, List.append_nil, List.replicate_succ, List.replicate_zero, Nat.reduceAdd, Nat.reduceSub, Nat.reduceLT, Nat.reduceLeDiff, Nat.reduceBEq, true_and, and_true, Nat.zero_add, Nat.add_zero, Nat.le_refl, Option.some.injEq, exists_eq_left', true_or, or_true, or_false, false_or, reduceCtorEq, Prod.mk.injEq, Sum.inl.injEq, and_self, false_and, and_false, not_true_eq_false, not_false_eq_true, false_implies, true_implies, sm_r, Int.add_zero, Int.zero_add, wI_wsI, wS_wsI, wR_wsI, wI_wCp, wS_wCp, wR_wCp, Nat.reduceEqDiff, reduceIte, sT_iff, sT_iffC, wIf_ne, ne_eq, Bool.false_or, Bool.true_or, Bool.or_false, Bool.or_true, Bool.or_self, tb_X8_keep, p_X8_keep, f_X8_keep, sS_154 hT, sR_154_0 hT, sS_155 hT, sR_154_1 hT, sS_156 hT, hT]
    repeat' (first | exact True.intro | with_reducible assumption | with_reducible refine And.intro ?_ ?_ | intro _)
    all_goals first
      | omega
      | assumption
      | rfl
      | (split <;> omega)
      | (have k9 := ih (by omega)
         (repeat' split at k9) <;> first | exact k9 | omega)
      | (have k9 := ih2 (by omega)
         (repeat' split at k9) <;> first | exact k9 | omega)
      | exact he (by omega)
      | (congr 1; omega)
      | (rw [if_pos (by omega)] at he; exact he)
      | exact hD1 (by omega)
      | exact hD2 (by omega)
      | grind
      | skip
    )
  rw [itI_0] at hl
  by_cases c : wI w 154 3 = 6
  · have e0 : mKp0 w = wsI (wsI w 154 2 ((wI w 154 2 + 1) % 6)) 154 3 (wI w 154 3 - 1) := if_pos c
    rw [e0] at hl hs
    simp only [wI_wsI, true_and, Int.reduceEq, if_false, if_true] at hl hs
    refine hZ (fun u => Nat.beq u 47) 14 0 _ _ _ _ _ ?_
    simp only [sm_run, sm_blk, sm_get, sm_ent, sm_ents, sm_wds, sm_wd, sm_nl, sm_pop, sm_back, sm_cases, oK, oLK, oL, oI, oA, oJ, oIs, oAs, oJs, oInc, oAdd, oSub, oMul, oDiv, oRem, oNeg, oAnd, oAndB, oOr, oShl, oI2c, oI2l, oL2i, oLand, oLor, oLshl, oLshr, oLushr, oLcmp, oDup, oDup2, oPop, oGo, oFg, oEq, oNe, oLt, oGe, oGt, oLe, oEq0, oNe0, oLt0, oGe0, oGt0, oLe0, oSw, oGi, oGr, oPi, oPz, oPr, oLen, oIl, oZl, oCl, oRl, oIst, oZst, oCst, oRst, oCopy, oNew, oNa, oNa2, oObj, oCs, oCv, oCi, oIr, oZr, oVr, Nat.beq, List.getElem?_cons_zero, List.getElem?_cons_succ, List.set_cons_zero, List.set_cons_succ, List.length_cons, List.length_nil, List.nil_append, List.cons_append, List.append_nil, List.replicate_succ, List.replicate_zero, Nat.reduceAdd, Nat.reduceSub, Nat.reduceLT, Nat.reduceLeDiff, Nat.reduceBEq, true_and, and_true, Nat.zero_add, Nat.add_zero, Nat.le_refl, Option.some.injEq, exists_eq_left', true_or, or_true, or_false, false_or, reduceCtorEq, Prod.mk.injEq, Sum.inl.injEq, and_self, false_and, and_false, not_true_eq_false, not_false_eq_true, false_implies, true_implies, sm_r, Int.add_zero, Int.zero_add, wI_wsI, wS_wsI, wR_wsI, wI_wCp, wS_wCp, wR_wCp, Nat.reduceEqDiff, reduceIte, sT_iff, sT_iffC, wIf_ne, ne_eq, Bool.false_or, Bool.true_or, Bool.or_false, Bool.or_true, Bool.or_self, tb_X8_keep, p_X8_keep, f_X8_keep, sS_154 hT, hT, sT_iff, Int.reduceEq]
    repeat' (first | exact True.intro | with_reducible assumption | with_reducible refine And.intro ?_ ?_ | intro _)
    all_goals first
      | omega
      | assumption
      | rfl
      | (split <;> omega)
      | (have k9 := ih (by omega)
         (repeat' split at k9) <;> first | exact k9 | omega)
      | (have k9 := ih2 (by omega)
         (repeat' split at k9) <;> first | exact k9 | omega)
      | exact he (by omega)
      | (congr 1; omega)
      | (rw [if_pos (by omega)] at he; exact he)
      | exact hD1 (by omega)
      | exact hD2 (by omega)
      | skip
  · have e0 : mKp0 w = w := if_neg c
    rw [e0] at hl hs
    refine hZ (fun u => Nat.beq u 47) 14 0 _ _ _ _ _ ?_
    simp only [sm_run, sm_blk, sm_get, sm_ent, sm_ents, sm_wds, sm_wd, sm_nl, sm_pop, sm_back, sm_cases, oK, oLK, oL, oI, oA, oJ, oIs, oAs, oJs, oInc, oAdd, oSub, oMul, oDiv, oRem, oNeg, oAnd, oAndB, oOr, oShl, oI2c, oI2l, oL2i, oLand, oLor, oLshl, oLshr, oLushr, oLcmp, oDup, oDup2, oPop, oGo, oFg, oEq, oNe, oLt, oGe, oGt, oLe, oEq0, oNe0, oLt0, oGe0, oGt0, oLe0, oSw, oGi, oGr, oPi, oPz, oPr, oLen, oIl, oZl, oCl, oRl, oIst, oZst, oCst, oRst, oCopy, oNew, oNa, oNa2, oObj, oCs, oCv, oCi, oIr, oZr, oVr, Nat.beq, List.getElem?_cons_zero, List.getElem?_cons_succ, List.set_cons_zero, List.set_cons_succ, List.length_cons, List.length_nil, List.nil_append, List.cons_append, List.append_nil, List.replicate_succ, List.replicate_zero, Nat.reduceAdd, Nat.reduceSub, Nat.reduceLT, Nat.reduceLeDiff, Nat.reduceBEq, true_and, and_true, Nat.zero_add, Nat.add_zero, Nat.le_refl, Option.some.injEq, exists_eq_left', true_or, or_true, or_false, false_or, reduceCtorEq, Prod.mk.injEq, Sum.inl.injEq, and_self, false_and, and_false, not_true_eq_false, not_false_eq_true, false_implies, true_implies, sm_r, Int.add_zero, Int.zero_add, wI_wsI, wS_wsI, wR_wsI, wI_wCp, wS_wCp, wR_wCp, Nat.reduceEqDiff, reduceIte, sT_iff, sT_iffC, wIf_ne, ne_eq, Bool.false_or, Bool.true_or, Bool.or_false, Bool.or_true, Bool.or_self, tb_X8_keep, p_X8_keep, f_X8_keep, sS_154 hT, hT]
    repeat' (first | exact True.intro | with_reducible assumption | with_reducible refine And.intro ?_ ?_ | intro _)
    all_goals first
      | omega
      | assumption
      | rfl
      | (split <;> omega)
      | (have k9 := ih (by omega)
         (repeat' split at k9) <;> first | exact k9 | omega)
      | (have k9 := ih2 (by omega)
         (repeat' split at k9) <;> first | exact k9 | omega)
      | exact he (by omega)
      | (congr 1; omega)
      | (rw [if_pos (by omega)] at he; exact he)
      | exact hD1 (by omega)
      | exact hD2 (by omega)
      | skip
theorem met_X8_keep (l : Launch) : sm_Met l yX8_keep cX8_keep 3 none 0 0 0 p_X8_keep f_X8_keep := sm_met 0 (Or.inl ⟨rfl, rfl⟩) (by decide +kernel) (sn_X8_keep l) ok_X8_keep
def mKf (w : sm_W) (b : Int) : sm_W := if b = 0 then w else mKeep w
def p_X8_keepIf : List sm_V → sm_W → Prop
  | [.inr (.inl m), .inl b], w => m = 154 ∧ sT w ∧ mH w
  | _, _ => False
def f_X8_keepIf : sm_F
  | [.inr (.inl m), .inl b], w => (none, mKf w b)
  | _, w => (none, w)
def tb_X8_keepIf : List (Nat × List sm_O) := [(0, [oI 1, oEq0 8, oA 0, oCv 8 30 p_X8_keep f_X8_keep 0 0 1, oGo 8]),
  (8, [oVr])]
set_option maxRecDepth 100000 in
theorem sb_X8_keepIf_0 (l : Launch) : sm_SndB l RX8 "keepIf" cX8_keepIf 2 0 1 0 [oI 1, oEq0 8, oA 0, oCv 8 30 p_X8_keep f_X8_keep 0 0 1, oGo 8] := sb_cons (sd_iload_n (by decide +kernel : decode cX8_keepIf 0 = .ok (.iload_n 1, 1)) rfl) (sb_cons (sd_eq0 (by decide +kernel : decode cX8_keepIf 1 = .ok (.ifCond .eq 7, 3)) (by decide)) (sb_cons (sd_aload_n (by decide +kernel : decode cX8_keepIf 4 = .ok (.aload_n 0, 1)) rfl) (sb_cons (sd_callv (n := 0) (met_X8_keep l) (by decide) (by decide) wm_714 wm_712 wm_10 ⟨by decide +kernel, by decide +kernel, by decide +kernel⟩ kl_8 wm_713 wm_1104 (by decide +kernel : decode cX8_keepIf 5 = .ok (.invokevirtual 89, 3))) (sb_cons (sd_fall (x := 0)) sb_nil))))
set_option maxRecDepth 100000 in
theorem sb_X8_keepIf_8 (l : Launch) : sm_SndB l RX8 "keepIf" cX8_keepIf 2 0 1 8 [oVr] := sb_cons (sd_return (x := 0) rfl (by decide +kernel : decode cX8_keepIf 8 = .ok (.return_, 1))) sb_nil
theorem sn_X8_keepIf (l : Launch) : sm_SndT l RX8 "keepIf" cX8_keepIf 2 0 1 tb_X8_keepIf := st_cons (sb_X8_keepIf_0 l) (st_cons (sb_X8_keepIf_8 l) (st_nil))
set_option maxRecDepth 100000 in
set_option maxHeartbeats 4000000 in
theorem ok_X8_keepIf : sm_Ok tb_X8_keepIf 2 0 0 p_X8_keepIf f_X8_keepIf := by
  intro as w hp ha hw
  match as, hp with
  | [.inr (.inl m), .inl b], hp =>
  refine ⟨Nat.le_of_ble_eq_true rfl, fun Z hZ => ?_⟩
  obtain ⟨rfl, hT, hH⟩ := hp
  refine hZ (fun _ => false) 16 0 _ _ _ _ _ ?_
  simp only [sm_run, sm_blk, sm_get, sm_ent, sm_ents, sm_wds, sm_wd, sm_nl, sm_pop, sm_back, sm_cases, oK, oLK, oL, oI, oA, oJ, oIs, oAs, oJs, oInc, oAdd, oSub, oMul, oDiv, oRem, oNeg, oAnd, oAndB, oOr, oShl, oI2c, oI2l, oL2i, oLand, oLor, oLshl, oLshr, oLushr, oLcmp, oDup, oDup2, oPop, oGo, oFg, oEq, oNe, oLt, oGe, oGt, oLe, oEq0, oNe0, oLt0, oGe0, oGt0, oLe0, oSw, oGi, oGr, oPi, oPz, oPr, oLen, oIl, oZl, oCl, oRl, oIst, oZst, oCst, oRst, oCopy, oNew, oNa, oNa2, oObj, oCs, oCv, oCi, oIr, oZr, oVr, Nat.beq, List.getElem?_cons_zero, List.getElem?_cons_succ, List.set_cons_zero, List.set_cons_succ, List.length_cons, List.length_nil, List.nil_append, List.cons_append, List.append_nil, List.replicate_succ, List.replicate_zero, Nat.reduceAdd, Nat.reduceSub, Nat.reduceLT, Nat.reduceLeDiff, Nat.reduceBEq, true_and, and_true, Nat.zero_add, Nat.add_zero, Nat.le_refl, Option.some.injEq, exists_eq_left', true_or, or_true, or_false, false_or, reduceCtorEq, Prod.mk.injEq, Sum.inl.injEq, and_self, false_and, and_false, not_true_eq_false, not_false_eq_true, false_implies, true_implies, sm_r, Int.add_zero, Int.zero_add, wI_wsI, wS_wsI, wR_wsI, wI_wCp, wS_wCp, wR_wCp, Nat.reduceEqDiff, reduceIte, sT_iff, sT_iffC, wIf_ne, ne_eq, Bool.false_or, Bool.true_or, Bool.or_false, Bool.or_true, Bool.or_self, tb_X8_keepIf, p_X8_keep, f_X8_keep, p_X8_keepIf, f_X8_keepIf, sS_154 hT, hT, hH]
  repeat' (first | exact True.intro | with_reducible assumption | with_reducible refine And.intro ?_ ?_ | intro _)
  all_goals first
    | omega
    | assumption
    | rfl
    | (split <;> omega)
    | grind [mKf]
    | skip
theorem met_X8_keepIf (l : Launch) : sm_Met l yX8_keepIf cX8_keepIf 2 none 1 0 0 p_X8_keepIf f_X8_keepIf := sm_met 0 (Or.inl ⟨rfl, rfl⟩) (by decide +kernel) (sn_X8_keepIf l) ok_X8_keepIf
theorem mKeep_keep {w : sm_W} : (∀ a, a ≠ 154 → a ≠ 156 → wI (mKeep w) a = wI w a) ∧ (sT w → sT (mKeep w)) := by
  obtain ⟨k1, k2, k3⟩ := mKp0_keep w
  obtain ⟨j1, j2⟩ := mKpL ((wI (mKp0 w) 154 2 + wI (mKp0 w) 154 3) % 6) (mKp0 w) 57 (by decide)
  unfold mKeep
  generalize itI (mKp1 ((wI (mKp0 w) 154 2 + wI (mKp0 w) 154 3) % 6)) (mKp0 w) 57 = u at j1 j2 ⊢
  exact ⟨fun a h1 h2 => by rw [wIf_ne h1, j1 a h2, k1 a h1], fun h => sT_wsI (j2 (k2 h))⟩
theorem mKf_keep {w : sm_W} (b : Int) : (∀ a, a ≠ 154 → a ≠ 156 → wI (mKf w b) a = wI w a) ∧ (sT w → sT (mKf w b)) := by
  unfold mKf
  split
  · exact ⟨fun _ _ _ => rfl, id⟩
  · exact mKeep_keep
theorem mKf_at (w : sm_W) (b : Int) : wI (mKf w b) 155 = wI w 155 := (mKf_keep b).1 _ (by decide) (by decide)
def p_X8_change : List sm_V → sm_W → Prop
  | [.inr (.inl m), .inl c, .inl v, .inl b], w => m = 154 ∧ sT w ∧ mH w ∧ 0 ≤ c ∧ c < 57
  | _, _ => False
def f_X8_change : sm_F
  | [.inr (.inl m), .inl c, .inl v, .inl b], w => (some (.inl (wI w 155 c)), wsI (mKf w b) 155 c v)
  | _, w => (none, w)
def tb_X8_change : List (Nat × List sm_O) := [(0, [oA 0, oI 3, oCv 8 30 p_X8_keepIf f_X8_keepIf 0 0 2, oA 0, oGr 8 30 0, oI 1, oIl, oIs 4, oA 0, oGr 8 30 0, oI 1, oI 2, oIst, oI 4, oIr])]
set_option maxRecDepth 100000 in
theorem sb_X8_change_0 (l : Launch) : sm_SndB l RX8 "change" cX8_change 5 1 2 0 [oA 0, oI 3, oCv 8 30 p_X8_keepIf f_X8_keepIf 0 0 2, oA 0, oGr 8 30 0, oI 1, oIl, oIs 4, oA 0, oGr 8 30 0, oI 1, oI 2, oIst, oI 4, oIr] := sb_cons (sd_aload_n (by decide +kernel : decode cX8_change 0 = .ok (.aload_n 0, 1)) rfl) (sb_cons (sd_iload_n (by decide +kernel : decode cX8_change 1 = .ok (.iload_n 3, 1)) rfl) (sb_cons (sd_callv (n := 1) (met_X8_keepIf l) (by decide) (by decide) wm_735 wm_733 wm_10 ⟨by decide +kernel, by decide +kernel, by decide +kernel⟩ kl_8 wm_734 wm_1107 (by decide +kernel : decode cX8_change 2 = .ok (.invokevirtual 174, 3))) (sb_cons (sd_aload_n (by decide +kernel : decode cX8_change 5 = .ok (.aload_n 0, 1)) rfl) (sb_cons (sd_getr (k := 0) kl_8 (by decide) rfl wm_673 (by decide +kernel : decode cX8_change 6 = .ok (.getfield 7, 3))) (sb_cons (sd_iload_n (by decide +kernel : decode cX8_change 9 = .ok (.iload_n 1, 1)) rfl) (sb_cons (sd_iaload (by decide +kernel : decode cX8_change 10 = .ok (.iaload, 1))) (sb_cons (sd_istore (by decide +kernel : decode cX8_change 11 = .ok (.istore 4, 2))) (sb_cons (sd_aload_n (by decide +kernel : decode cX8_change 13 = .ok (.aload_n 0, 1)) rfl) (sb_cons (sd_getr (k := 0) kl_8 (by decide) rfl wm_673 (by decide +kernel : decode cX8_change 14 = .ok (.getfield 7, 3))) (sb_cons (sd_iload_n (by decide +kernel : decode cX8_change 17 = .ok (.iload_n 1, 1)) rfl) (sb_cons (sd_iload_n (by decide +kernel : decode cX8_change 18 = .ok (.iload_n 2, 1)) rfl) (sb_cons (sd_iastore (by decide +kernel : decode cX8_change 19 = .ok (.iastore, 1))) (sb_cons (sd_iload (by decide +kernel : decode cX8_change 20 = .ok (.iload 4, 2))) (sb_cons (sd_ireturn (x := 0) rfl (by decide +kernel : decode cX8_change 22 = .ok (.ireturn, 1))) sb_nil))))))))))))))
theorem sn_X8_change (l : Launch) : sm_SndT l RX8 "change" cX8_change 5 1 2 tb_X8_change := st_cons (sb_X8_change_0 l) (st_nil)
set_option maxRecDepth 100000 in
set_option maxHeartbeats 4000000 in
theorem ok_X8_change : sm_Ok tb_X8_change 5 0 0 p_X8_change f_X8_change := by
  intro as w hp ha hw
  match as, hp with
  | [.inr (.inl m), .inl c, .inl v, .inl b], hp =>
  refine ⟨Nat.le_of_ble_eq_true rfl, fun Z hZ => ?_⟩
  obtain ⟨rfl, hT, hH, c0, c1⟩ := hp
  have hT2 := (mKf_keep (w := w) b).2 hT
  have ha := mKf_at w b
  refine hZ (fun _ => false) 16 0 _ _ _ _ _ ?_
  simp only [sm_run, sm_blk, sm_get, sm_ent, sm_ents, sm_wds, sm_wd, sm_nl, sm_pop, sm_back, sm_cases, oK, oLK, oL, oI, oA, oJ, oIs, oAs, oJs, oInc, oAdd, oSub, oMul, oDiv, oRem, oNeg, oAnd, oAndB, oOr, oShl, oI2c, oI2l, oL2i, oLand, oLor, oLshl, oLshr, oLushr, oLcmp, oDup, oDup2, oPop, oGo, oFg, oEq, oNe, oLt, oGe, oGt, oLe, oEq0, oNe0, oLt0, oGe0, oGt0, oLe0, oSw, oGi, oGr, oPi, oPz, oPr, oLen, oIl, oZl, oCl, oRl, oIst, oZst, oCst, oRst, oCopy, oNew, oNa, oNa2, oObj, oCs, oCv, oCi, oIr, oZr, oVr, Nat.beq, List.getElem?_cons_zero, List.getElem?_cons_succ, List.set_cons_zero, List.set_cons_succ, List.length_cons, List.length_nil, List.nil_append, List.cons_append, List.append_nil, List.replicate_succ, List.replicate_zero, Nat.reduceAdd, Nat.reduceSub, Nat.reduceLT, Nat.reduceLeDiff, Nat.reduceBEq, true_and, and_true, Nat.zero_add, Nat.add_zero, Nat.le_refl, Option.some.injEq, exists_eq_left', true_or, or_true, or_false, false_or, reduceCtorEq, Prod.mk.injEq, Sum.inl.injEq, and_self, false_and, and_false, not_true_eq_false, not_false_eq_true, false_implies, true_implies, sm_r, Int.add_zero, Int.zero_add, wI_wsI, wS_wsI, wR_wsI, wI_wCp, wS_wCp, wR_wCp, Nat.reduceEqDiff, reduceIte, sT_iff, sT_iffC, wIf_ne, ne_eq, Bool.false_or, Bool.true_or, Bool.or_false, Bool.or_true, Bool.or_self, tb_X8_change, p_X8_keepIf, f_X8_keepIf, p_X8_change, f_X8_change, sS_154 hT, sS_154 hT2, sR_154_0 hT2, sS_155 hT2, hT, hH, ha]
  repeat' (first | exact True.intro | with_reducible assumption | with_reducible refine And.intro ?_ ?_ | intro _)
  all_goals first
    | omega
    | assumption
    | rfl
    | (split <;> omega)
    | skip
theorem met_X8_change (l : Launch) : sm_Met l yX8_change cX8_change 5 (some .int) 2 0 0 p_X8_change f_X8_change := sm_met 1 (Or.inr (Or.inl ⟨rfl, rfl⟩)) (by decide +kernel) (sn_X8_change l) ok_X8_change
def p_X8_tryTracks : List sm_V → sm_W → Prop
  | [.inr (.inl m), .inl s, .inl v, .inl b], w => m = 154 ∧ sT w ∧ mH w
  | _, _ => False
def f_X8_tryTracks : sm_F
  | [.inr (.inl m), .inl s, .inl v, .inl b], w => (some (.inl (if 0 ≤ s ∧ s ≤ 7 then (if 1 ≤ v ∧ v ≤ 4 then wI w 155 (2 + s) else -2) else -1)), (if 0 ≤ s ∧ s ≤ 7 then (if 1 ≤ v ∧ v ≤ 4 then wsI (mKf w b) 155 (2 + s) v else w) else w))
  | _, w => (none, w)
def tb_X8_tryTracks : List (Nat × List sm_O) := [(0, [oI 1, oCs p_X8_isStation f_X8_isStation 0 0 1, oNe0 9, oK (-1), oIr]),
  (9, [oI 2, oK 1, oK 4, oCs p_X8_in f_X8_in 0 0 3, oEq0 30, oA 0, oK 2, oI 1, oAdd, oI 2, oI 3, oCv 8 30 p_X8_change f_X8_change 0 0 4, oGo 32]),
  (30, [oK (-2), oGo 32]),
  (32, [oIr])]
set_option maxRecDepth 100000 in
theorem sb_X8_tryTracks_0 (l : Launch) : sm_SndB l RX8 "tryTracks" cX8_tryTracks 4 1 3 0 [oI 1, oCs p_X8_isStation f_X8_isStation 0 0 1, oNe0 9, oK (-1), oIr] := sb_cons (sd_iload_n (by decide +kernel : decode cX8_tryTracks 0 = .ok (.iload_n 1, 1)) rfl) (sb_cons (sd_calls (n := 1) (met_X8_isStation l) (by decide) (by decide) wm_727 wm_725 wm_10 ⟨by decide +kernel, by decide +kernel, by decide +kernel⟩ wm_726 (by decide +kernel : decode cX8_tryTracks 1 = .ok (.invokestatic 178, 3))) (sb_cons (sd_ne0 (by decide +kernel : decode cX8_tryTracks 4 = .ok (.ifCond .ne 5, 3)) (by decide)) (sb_cons (sd_iconst (by decide +kernel : decode cX8_tryTracks 7 = .ok (.iconst (-1), 1)) ⟨by decide, by decide⟩) (sb_cons (sd_ireturn (x := 0) rfl (by decide +kernel : decode cX8_tryTracks 8 = .ok (.ireturn, 1))) sb_nil))))
set_option maxRecDepth 100000 in
theorem sb_X8_tryTracks_9 (l : Launch) : sm_SndB l RX8 "tryTracks" cX8_tryTracks 4 1 3 9 [oI 2, oK 1, oK 4, oCs p_X8_in f_X8_in 0 0 3, oEq0 30, oA 0, oK 2, oI 1, oAdd, oI 2, oI 3, oCv 8 30 p_X8_change f_X8_change 0 0 4, oGo 32] := sb_cons (sd_iload_n (by decide +kernel : decode cX8_tryTracks 9 = .ok (.iload_n 2, 1)) rfl) (sb_cons (sd_iconst (by decide +kernel : decode cX8_tryTracks 10 = .ok (.iconst 1, 1)) ⟨by decide, by decide⟩) (sb_cons (sd_iconst (by decide +kernel : decode cX8_tryTracks 11 = .ok (.iconst 4, 1)) ⟨by decide, by decide⟩) (sb_cons (sd_calls (n := 3) (met_X8_in l) (by decide) (by decide) wm_710 wm_708 wm_10 ⟨by decide +kernel, by decide +kernel, by decide +kernel⟩ wm_709 (by decide +kernel : decode cX8_tryTracks 12 = .ok (.invokestatic 74, 3))) (sb_cons (sd_eq0 (by decide +kernel : decode cX8_tryTracks 15 = .ok (.ifCond .eq 15, 3)) (by decide)) (sb_cons (sd_aload_n (by decide +kernel : decode cX8_tryTracks 18 = .ok (.aload_n 0, 1)) rfl) (sb_cons (sd_iconst (by decide +kernel : decode cX8_tryTracks 19 = .ok (.iconst 2, 1)) ⟨by decide, by decide⟩) (sb_cons (sd_iload_n (by decide +kernel : decode cX8_tryTracks 20 = .ok (.iload_n 1, 1)) rfl) (sb_cons (sd_iadd (by decide +kernel : decode cX8_tryTracks 21 = .ok (.iadd, 1))) (sb_cons (sd_iload_n (by decide +kernel : decode cX8_tryTracks 22 = .ok (.iload_n 2, 1)) rfl) (sb_cons (sd_iload_n (by decide +kernel : decode cX8_tryTracks 23 = .ok (.iload_n 3, 1)) rfl) (sb_cons (sd_callv (n := 3) (met_X8_change l) (by decide) (by decide) wm_731 wm_729 wm_10 ⟨by decide +kernel, by decide +kernel, by decide +kernel⟩ kl_8 wm_730 wm_1106 (by decide +kernel : decode cX8_tryTracks 24 = .ok (.invokevirtual 181, 3))) (sb_cons (sd_goto (x := 0) (by decide +kernel : decode cX8_tryTracks 27 = .ok (.goto 5, 3)) (by decide)) sb_nil))))))))))))
set_option maxRecDepth 100000 in
theorem sb_X8_tryTracks_30 (l : Launch) : sm_SndB l RX8 "tryTracks" cX8_tryTracks 4 1 3 30 [oK (-2), oGo 32] := sb_cons (sd_bipush (by decide +kernel : decode cX8_tryTracks 30 = .ok (.bipush (-2), 2)) ⟨by decide, by decide⟩ (by decide)) (sb_cons (sd_fall (x := 0)) sb_nil)
set_option maxRecDepth 100000 in
theorem sb_X8_tryTracks_32 (l : Launch) : sm_SndB l RX8 "tryTracks" cX8_tryTracks 4 1 3 32 [oIr] := sb_cons (sd_ireturn (x := 0) rfl (by decide +kernel : decode cX8_tryTracks 32 = .ok (.ireturn, 1))) sb_nil
theorem sn_X8_tryTracks (l : Launch) : sm_SndT l RX8 "tryTracks" cX8_tryTracks 4 1 3 tb_X8_tryTracks := st_cons (sb_X8_tryTracks_0 l) (st_cons (sb_X8_tryTracks_9 l) (st_cons (sb_X8_tryTracks_30 l) (st_cons (sb_X8_tryTracks_32 l) (st_nil))))
set_option maxRecDepth 100000 in
set_option maxHeartbeats 4000000 in
theorem ok_X8_tryTracks : sm_Ok tb_X8_tryTracks 4 0 0 p_X8_tryTracks f_X8_tryTracks := by
  intro as w hp ha hw
  match as, hp with
  | [.inr (.inl m), .inl s, .inl v, .inl b], hp =>
  refine ⟨Nat.le_of_ble_eq_true rfl, fun Z hZ => ?_⟩
  obtain ⟨rfl, hT, hH⟩ := hp
  refine hZ (fun _ => false) 16 0 _ _ _ _ _ ?_
  simp only [sm_run, sm_blk, sm_get, sm_ent, sm_ents, sm_wds, sm_wd, sm_nl, sm_pop, sm_back, sm_cases, oK, oLK, oL, oI, oA, oJ, oIs, oAs, oJs, oInc, oAdd, oSub, oMul, oDiv, oRem, oNeg, oAnd, oAndB, oOr, oShl, oI2c, oI2l, oL2i, oLand, oLor, oLshl, oLshr, oLushr, oLcmp, oDup, oDup2, oPop, oGo, oFg, oEq, oNe, oLt, oGe, oGt, oLe, oEq0, oNe0, oLt0, oGe0, oGt0, oLe0, oSw, oGi, oGr, oPi, oPz, oPr, oLen, oIl, oZl, oCl, oRl, oIst, oZst, oCst, oRst, oCopy, oNew, oNa, oNa2, oObj, oCs, oCv, oCi, oIr, oZr, oVr, Nat.beq, List.getElem?_cons_zero, List.getElem?_cons_succ, List.set_cons_zero, List.set_cons_succ, List.length_cons, List.length_nil, List.nil_append, List.cons_append, List.append_nil, List.replicate_succ, List.replicate_zero, Nat.reduceAdd, Nat.reduceSub, Nat.reduceLT, Nat.reduceLeDiff, Nat.reduceBEq, true_and, and_true, Nat.zero_add, Nat.add_zero, Nat.le_refl, Option.some.injEq, exists_eq_left', true_or, or_true, or_false, false_or, reduceCtorEq, Prod.mk.injEq, Sum.inl.injEq, and_self, false_and, and_false, not_true_eq_false, not_false_eq_true, false_implies, true_implies, sm_r, Int.add_zero, Int.zero_add, wI_wsI, wS_wsI, wR_wsI, wI_wCp, wS_wCp, wR_wCp, Nat.reduceEqDiff, reduceIte, sT_iff, sT_iffC, wIf_ne, ne_eq, Bool.false_or, Bool.true_or, Bool.or_false, Bool.or_true, Bool.or_self, tb_X8_tryTracks, p_X8_change, p_X8_in, p_X8_isStation, f_X8_change, f_X8_in, f_X8_isStation, p_X8_tryTracks, f_X8_tryTracks, sS_154 hT, hT, hH, b01]
  repeat' (first | exact True.intro | with_reducible assumption | with_reducible refine And.intro ?_ ?_ | intro _)
  all_goals first
    | omega
    | assumption
    | rfl
    | (split <;> omega)
    | grind
    | skip
theorem met_X8_tryTracks (l : Launch) : sm_Met l yX8_tryTracks cX8_tryTracks 4 (some .int) 3 0 0 p_X8_tryTracks f_X8_tryTracks := sm_met 1 (Or.inr (Or.inl ⟨rfl, rfl⟩)) (by decide +kernel) (sn_X8_tryTracks l) ok_X8_tryTracks
def p_X8_whyNotRun : List sm_V → sm_W → Prop
  | [.inl s, .inl v], w => True
  | _, _ => False
def f_X8_whyNotRun : sm_F
  | [.inl s, .inl v], w => (some (.inl (if 0 ≤ s ∧ s ≤ 6 then (if 1 ≤ v ∧ v ≤ 30 then 0 else -2) else -1)), w)
  | _, w => (none, w)
def tb_X8_whyNotRun : List (Nat × List sm_O) := [(0, [oI 0, oK 0, oK 6, oCs p_X8_in f_X8_in 0 0 3, oNe0 14, oK (-1), oGo 30]),
  (14, [oI 1, oK 1, oK 30, oCs p_X8_in f_X8_in 0 0 3, oEq0 28, oK 0, oGo 30]),
  (28, [oK (-2), oGo 30]),
  (30, [oIr])]
set_option maxRecDepth 100000 in
theorem sb_X8_whyNotRun_0 (l : Launch) : sm_SndB l RX8 "whyNotRun" cX8_whyNotRun 2 1 1 0 [oI 0, oK 0, oK 6, oCs p_X8_in f_X8_in 0 0 3, oNe0 14, oK (-1), oGo 30] := sb_cons (sd_iload_n (by decide +kernel : decode cX8_whyNotRun 0 = .ok (.iload_n 0, 1)) rfl) (sb_cons (sd_iconst (by decide +kernel : decode cX8_whyNotRun 1 = .ok (.iconst 0, 1)) ⟨by decide, by decide⟩) (sb_cons (sd_bipush (by decide +kernel : decode cX8_whyNotRun 2 = .ok (.bipush 6, 2)) ⟨by decide, by decide⟩ (by decide)) (sb_cons (sd_calls (n := 3) (met_X8_in l) (by decide) (by decide) wm_710 wm_708 wm_10 ⟨by decide +kernel, by decide +kernel, by decide +kernel⟩ wm_709 (by decide +kernel : decode cX8_whyNotRun 4 = .ok (.invokestatic 74, 3))) (sb_cons (sd_ne0 (by decide +kernel : decode cX8_whyNotRun 7 = .ok (.ifCond .ne 7, 3)) (by decide)) (sb_cons (sd_iconst (by decide +kernel : decode cX8_whyNotRun 10 = .ok (.iconst (-1), 1)) ⟨by decide, by decide⟩) (sb_cons (sd_goto (x := 0) (by decide +kernel : decode cX8_whyNotRun 11 = .ok (.goto 19, 3)) (by decide)) sb_nil))))))
set_option maxRecDepth 100000 in
theorem sb_X8_whyNotRun_14 (l : Launch) : sm_SndB l RX8 "whyNotRun" cX8_whyNotRun 2 1 1 14 [oI 1, oK 1, oK 30, oCs p_X8_in f_X8_in 0 0 3, oEq0 28, oK 0, oGo 30] := sb_cons (sd_iload_n (by decide +kernel : decode cX8_whyNotRun 14 = .ok (.iload_n 1, 1)) rfl) (sb_cons (sd_iconst (by decide +kernel : decode cX8_whyNotRun 15 = .ok (.iconst 1, 1)) ⟨by decide, by decide⟩) (sb_cons (sd_bipush (by decide +kernel : decode cX8_whyNotRun 16 = .ok (.bipush 30, 2)) ⟨by decide, by decide⟩ (by decide)) (sb_cons (sd_calls (n := 3) (met_X8_in l) (by decide) (by decide) wm_710 wm_708 wm_10 ⟨by decide +kernel, by decide +kernel, by decide +kernel⟩ wm_709 (by decide +kernel : decode cX8_whyNotRun 18 = .ok (.invokestatic 74, 3))) (sb_cons (sd_eq0 (by decide +kernel : decode cX8_whyNotRun 21 = .ok (.ifCond .eq 7, 3)) (by decide)) (sb_cons (sd_iconst (by decide +kernel : decode cX8_whyNotRun 24 = .ok (.iconst 0, 1)) ⟨by decide, by decide⟩) (sb_cons (sd_goto (x := 0) (by decide +kernel : decode cX8_whyNotRun 25 = .ok (.goto 5, 3)) (by decide)) sb_nil))))))
set_option maxRecDepth 100000 in
theorem sb_X8_whyNotRun_28 (l : Launch) : sm_SndB l RX8 "whyNotRun" cX8_whyNotRun 2 1 1 28 [oK (-2), oGo 30] := sb_cons (sd_bipush (by decide +kernel : decode cX8_whyNotRun 28 = .ok (.bipush (-2), 2)) ⟨by decide, by decide⟩ (by decide)) (sb_cons (sd_fall (x := 0)) sb_nil)
set_option maxRecDepth 100000 in
theorem sb_X8_whyNotRun_30 (l : Launch) : sm_SndB l RX8 "whyNotRun" cX8_whyNotRun 2 1 1 30 [oIr] := sb_cons (sd_ireturn (x := 0) rfl (by decide +kernel : decode cX8_whyNotRun 30 = .ok (.ireturn, 1))) sb_nil
theorem sn_X8_whyNotRun (l : Launch) : sm_SndT l RX8 "whyNotRun" cX8_whyNotRun 2 1 1 tb_X8_whyNotRun := st_cons (sb_X8_whyNotRun_0 l) (st_cons (sb_X8_whyNotRun_14 l) (st_cons (sb_X8_whyNotRun_28 l) (st_cons (sb_X8_whyNotRun_30 l) (st_nil))))
set_option maxRecDepth 100000 in
set_option maxHeartbeats 4000000 in
theorem ok_X8_whyNotRun : sm_Ok tb_X8_whyNotRun 2 0 0 p_X8_whyNotRun f_X8_whyNotRun := by
  intro as w hp ha hw
  match as, hp with
  | [.inl s, .inl v], hp =>
  refine ⟨Nat.le_of_ble_eq_true rfl, fun Z hZ => ?_⟩
  refine hZ (fun _ => false) 16 0 _ _ _ _ _ ?_
  simp only [sm_run, sm_blk, sm_get, sm_ent, sm_ents, sm_wds, sm_wd, sm_nl, sm_pop, sm_back, sm_cases, oK, oLK, oL, oI, oA, oJ, oIs, oAs, oJs, oInc, oAdd, oSub, oMul, oDiv, oRem, oNeg, oAnd, oAndB, oOr, oShl, oI2c, oI2l, oL2i, oLand, oLor, oLshl, oLshr, oLushr, oLcmp, oDup, oDup2, oPop, oGo, oFg, oEq, oNe, oLt, oGe, oGt, oLe, oEq0, oNe0, oLt0, oGe0, oGt0, oLe0, oSw, oGi, oGr, oPi, oPz, oPr, oLen, oIl, oZl, oCl, oRl, oIst, oZst, oCst, oRst, oCopy, oNew, oNa, oNa2, oObj, oCs, oCv, oCi, oIr, oZr, oVr, Nat.beq, List.getElem?_cons_zero, List.getElem?_cons_succ, List.set_cons_zero, List.set_cons_succ, List.length_cons, List.length_nil, List.nil_append, List.cons_append, List.append_nil, List.replicate_succ, List.replicate_zero, Nat.reduceAdd, Nat.reduceSub, Nat.reduceLT, Nat.reduceLeDiff, Nat.reduceBEq, true_and, and_true, Nat.zero_add, Nat.add_zero, Nat.le_refl, Option.some.injEq, exists_eq_left', true_or, or_true, or_false, false_or, reduceCtorEq, Prod.mk.injEq, Sum.inl.injEq, and_self, false_and, and_false, not_true_eq_false, not_false_eq_true, false_implies, true_implies, sm_r, Int.add_zero, Int.zero_add, wI_wsI, wS_wsI, wR_wsI, wI_wCp, wS_wCp, wR_wCp, Nat.reduceEqDiff, reduceIte, sT_iff, sT_iffC, wIf_ne, ne_eq, Bool.false_or, Bool.true_or, Bool.or_false, Bool.or_true, Bool.or_self, tb_X8_whyNotRun, p_X8_in, f_X8_in, p_X8_whyNotRun, f_X8_whyNotRun, b01]
  repeat' (first | exact True.intro | with_reducible assumption | with_reducible refine And.intro ?_ ?_ | intro _)
  all_goals first
    | omega
    | assumption
    | rfl
    | (split <;> omega)
    | grind
    | skip
theorem met_X8_whyNotRun (l : Launch) : sm_Met l yX8_whyNotRun cX8_whyNotRun 2 (some .int) 1 0 0 p_X8_whyNotRun f_X8_whyNotRun := sm_met 1 (Or.inr (Or.inl ⟨rfl, rfl⟩)) (by decide +kernel) (sn_X8_whyNotRun l) ok_X8_whyNotRun
def p_X8_tryRunning : List sm_V → sm_W → Prop
  | [.inr (.inl m), .inl s, .inl v, .inl b], w => m = 154 ∧ sT w ∧ mH w
  | _, _ => False
def f_X8_tryRunning : sm_F
  | [.inr (.inl m), .inl s, .inl v, .inl b], w => (some (.inl (if 0 ≤ s ∧ s ≤ 6 then (if 1 ≤ v ∧ v ≤ 30 then wI w 155 (10 + s) else -2) else -1)), (if 0 ≤ s ∧ s ≤ 6 then (if 1 ≤ v ∧ v ≤ 30 then wsI (mKf w b) 155 (10 + s) v else w) else w))
  | _, w => (none, w)
def tb_X8_tryRunning : List (Nat × List sm_O) := [(0, [oI 1, oI 2, oCs p_X8_whyNotRun f_X8_whyNotRun 0 0 2, oIs 4, oI 4, oGe0 17, oI 4, oGo 27]),
  (17, [oA 0, oK 10, oI 1, oAdd, oI 2, oI 3, oCv 8 30 p_X8_change f_X8_change 0 0 4, oGo 27]),
  (27, [oIr])]
set_option maxRecDepth 100000 in
theorem sb_X8_tryRunning_0 (l : Launch) : sm_SndB l RX8 "tryRunning" cX8_tryRunning 5 1 3 0 [oI 1, oI 2, oCs p_X8_whyNotRun f_X8_whyNotRun 0 0 2, oIs 4, oI 4, oGe0 17, oI 4, oGo 27] := sb_cons (sd_iload_n (by decide +kernel : decode cX8_tryRunning 0 = .ok (.iload_n 1, 1)) rfl) (sb_cons (sd_iload_n (by decide +kernel : decode cX8_tryRunning 1 = .ok (.iload_n 2, 1)) rfl) (sb_cons (sd_calls (n := 2) (met_X8_whyNotRun l) (by decide) (by decide) wm_748 wm_746 wm_10 ⟨by decide +kernel, by decide +kernel, by decide +kernel⟩ wm_747 (by decide +kernel : decode cX8_tryRunning 2 = .ok (.invokestatic 188, 3))) (sb_cons (sd_istore (by decide +kernel : decode cX8_tryRunning 5 = .ok (.istore 4, 2))) (sb_cons (sd_iload (by decide +kernel : decode cX8_tryRunning 7 = .ok (.iload 4, 2))) (sb_cons (sd_ge0 (by decide +kernel : decode cX8_tryRunning 9 = .ok (.ifCond .ge 8, 3)) (by decide)) (sb_cons (sd_iload (by decide +kernel : decode cX8_tryRunning 12 = .ok (.iload 4, 2))) (sb_cons (sd_goto (x := 0) (by decide +kernel : decode cX8_tryRunning 14 = .ok (.goto 13, 3)) (by decide)) sb_nil)))))))
set_option maxRecDepth 100000 in
theorem sb_X8_tryRunning_17 (l : Launch) : sm_SndB l RX8 "tryRunning" cX8_tryRunning 5 1 3 17 [oA 0, oK 10, oI 1, oAdd, oI 2, oI 3, oCv 8 30 p_X8_change f_X8_change 0 0 4, oGo 27] := sb_cons (sd_aload_n (by decide +kernel : decode cX8_tryRunning 17 = .ok (.aload_n 0, 1)) rfl) (sb_cons (sd_bipush (by decide +kernel : decode cX8_tryRunning 18 = .ok (.bipush 10, 2)) ⟨by decide, by decide⟩ (by decide)) (sb_cons (sd_iload_n (by decide +kernel : decode cX8_tryRunning 20 = .ok (.iload_n 1, 1)) rfl) (sb_cons (sd_iadd (by decide +kernel : decode cX8_tryRunning 21 = .ok (.iadd, 1))) (sb_cons (sd_iload_n (by decide +kernel : decode cX8_tryRunning 22 = .ok (.iload_n 2, 1)) rfl) (sb_cons (sd_iload_n (by decide +kernel : decode cX8_tryRunning 23 = .ok (.iload_n 3, 1)) rfl) (sb_cons (sd_callv (n := 3) (met_X8_change l) (by decide) (by decide) wm_731 wm_729 wm_10 ⟨by decide +kernel, by decide +kernel, by decide +kernel⟩ kl_8 wm_730 wm_1106 (by decide +kernel : decode cX8_tryRunning 24 = .ok (.invokevirtual 181, 3))) (sb_cons (sd_fall (x := 0)) sb_nil)))))))
set_option maxRecDepth 100000 in
theorem sb_X8_tryRunning_27 (l : Launch) : sm_SndB l RX8 "tryRunning" cX8_tryRunning 5 1 3 27 [oIr] := sb_cons (sd_ireturn (x := 0) rfl (by decide +kernel : decode cX8_tryRunning 27 = .ok (.ireturn, 1))) sb_nil
theorem sn_X8_tryRunning (l : Launch) : sm_SndT l RX8 "tryRunning" cX8_tryRunning 5 1 3 tb_X8_tryRunning := st_cons (sb_X8_tryRunning_0 l) (st_cons (sb_X8_tryRunning_17 l) (st_cons (sb_X8_tryRunning_27 l) (st_nil)))
set_option maxRecDepth 100000 in
set_option maxHeartbeats 4000000 in
theorem ok_X8_tryRunning : sm_Ok tb_X8_tryRunning 5 0 0 p_X8_tryRunning f_X8_tryRunning := by
  intro as w hp ha hw
  match as, hp with
  | [.inr (.inl m), .inl s, .inl v, .inl b], hp =>
  refine ⟨Nat.le_of_ble_eq_true rfl, fun Z hZ => ?_⟩
  obtain ⟨rfl, hT, hH⟩ := hp
  refine hZ (fun _ => false) 16 0 _ _ _ _ _ ?_
  simp only [sm_run, sm_blk, sm_get, sm_ent, sm_ents, sm_wds, sm_wd, sm_nl, sm_pop, sm_back, sm_cases, oK, oLK, oL, oI, oA, oJ, oIs, oAs, oJs, oInc, oAdd, oSub, oMul, oDiv, oRem, oNeg, oAnd, oAndB, oOr, oShl, oI2c, oI2l, oL2i, oLand, oLor, oLshl, oLshr, oLushr, oLcmp, oDup, oDup2, oPop, oGo, oFg, oEq, oNe, oLt, oGe, oGt, oLe, oEq0, oNe0, oLt0, oGe0, oGt0, oLe0, oSw, oGi, oGr, oPi, oPz, oPr, oLen, oIl, oZl, oCl, oRl, oIst, oZst, oCst, oRst, oCopy, oNew, oNa, oNa2, oObj, oCs, oCv, oCi, oIr, oZr, oVr, Nat.beq, List.getElem?_cons_zero, List.getElem?_cons_succ, List.set_cons_zero, List.set_cons_succ, List.length_cons, List.length_nil, List.nil_append, List.cons_append, List.append_nil, List.replicate_succ, List.replicate_zero, Nat.reduceAdd, Nat.reduceSub, Nat.reduceLT, Nat.reduceLeDiff, Nat.reduceBEq, true_and, and_true, Nat.zero_add, Nat.add_zero, Nat.le_refl, Option.some.injEq, exists_eq_left', true_or, or_true, or_false, false_or, reduceCtorEq, Prod.mk.injEq, Sum.inl.injEq, and_self, false_and, and_false, not_true_eq_false, not_false_eq_true, false_implies, true_implies, sm_r, Int.add_zero, Int.zero_add, wI_wsI, wS_wsI, wR_wsI, wI_wCp, wS_wCp, wR_wCp, Nat.reduceEqDiff, reduceIte, sT_iff, sT_iffC, wIf_ne, ne_eq, Bool.false_or, Bool.true_or, Bool.or_false, Bool.or_true, Bool.or_self, tb_X8_tryRunning, p_X8_change, p_X8_whyNotRun, f_X8_change, f_X8_whyNotRun, p_X8_tryRunning, f_X8_tryRunning, sS_154 hT, hT, hH]
  repeat' (first | exact True.intro | with_reducible assumption | with_reducible refine And.intro ?_ ?_ | intro _)
  all_goals first
    | omega
    | assumption
    | rfl
    | (split <;> omega)
    | grind
    | skip
theorem met_X8_tryRunning (l : Launch) : sm_Met l yX8_tryRunning cX8_tryRunning 5 (some .int) 3 0 0 p_X8_tryRunning f_X8_tryRunning := sm_met 1 (Or.inr (Or.inl ⟨rfl, rfl⟩)) (by decide +kernel) (sn_X8_tryRunning l) ok_X8_tryRunning
def mNewSh (w : sm_W) (a b c d e : Int) : sm_W := wsI (wsI (wsI (wsI (wsI (wsI w 155 (17 + 5 * wI w 155 1) a) 155 (17 + 5 * wI w 155 1 + 1) b) 155 (17 + 5 * wI w 155 1 + 2) c) 155 (17 + 5 * wI w 155 1 + 3) d) 155 (17 + 5 * wI w 155 1 + 4) e) 155 1 (wI w 155 1 + 1)
def mShOk (a b c d e : Int) : Int := if 0 ≤ a ∧ a ≤ 7 ∧ 0 ≤ b ∧ b ≤ 7 then (if a = b then -2 else (if (0 ≤ c ∧ c ≤ 300) ∧ (0 ≤ d ∧ d ≤ 20) ∧ (0 ≤ e ∧ e ≤ 9) then 0 else -2)) else -1
def p_X8_tryShuttle : List sm_V → sm_W → Prop
  | [.inr (.inl m), .inl a, .inl b, .inl c, .inl d, .inl e, .inl k], w => m = 154 ∧ mOK w ∧ mH w
  | _, _ => False
def f_X8_tryShuttle : sm_F
  | [.inr (.inl m), .inl a, .inl b, .inl c, .inl d, .inl e, .inl k], w => (some (.inl (if mShOk a b c d e < 0 then mShOk a b c d e else (if wI w 155 1 = 8 then -4 else wI w 155 1))), (if mShOk a b c d e < 0 then w else (if wI w 155 1 = 8 then w else mNewSh (mKf w k) a b c d e)))
  | _, w => (none, w)
def tb_X8_tryShuttle : List (Nat × List sm_O) := [(0, [oI 1, oCs p_X8_isStation f_X8_isStation 0 0 1, oEq0 14, oI 2, oCs p_X8_isStation f_X8_isStation 0 0 1, oNe0 16, oGo 14]),
  (14, [oK (-1), oIr]),
  (16, [oI 1, oI 2, oEq 54, oI 3, oK 0, oK 300, oCs p_X8_in f_X8_in 0 0 3, oEq0 54, oI 4, oK 0, oK 20, oCs p_X8_in f_X8_in 0 0 3, oEq0 54, oI 5, oK 0, oK 9, oCs p_X8_in f_X8_in 0 0 3, oNe0 57, oGo 54]),
  (54, [oK (-2), oIr]),
  (57, [oA 0, oGr 8 30 0, oK 1, oIl, oK 8, oNe 71, oK (-4), oIr]),
  (71, [oA 0, oI 6, oCv 8 30 p_X8_keepIf f_X8_keepIf 0 0 2, oK 17, oK 5, oA 0, oGr 8 30 0, oK 1, oIl, oMul, oAdd, oIs 7, oA 0, oGr 8 30 0, oI 7, oK 0, oAdd, oI 1, oIst, oA 0, oGr 8 30 0, oI 7, oK 1, oAdd, oI 2, oIst, oA 0, oGr 8 30 0, oI 7, oK 2, oAdd, oI 3, oIst, oA 0, oGr 8 30 0, oI 7, oK 3, oAdd, oI 4, oIst, oA 0, oGr 8 30 0, oI 7, oK 4, oAdd, oI 5, oIst, oA 0, oGr 8 30 0, oK 1, oDup2, oIl, oK 1, oAdd, oIst, oA 0, oGr 8 30 0, oK 1, oIl, oK 1, oSub, oIr])]
set_option maxRecDepth 100000 in
theorem sb_X8_tryShuttle_0 (l : Launch) : sm_SndB l RX8 "tryShuttle" cX8_tryShuttle 8 1 2 0 [oI 1, oCs p_X8_isStation f_X8_isStation 0 0 1, oEq0 14, oI 2, oCs p_X8_isStation f_X8_isStation 0 0 1, oNe0 16, oGo 14] := sb_cons (sd_iload_n (by decide +kernel : decode cX8_tryShuttle 0 = .ok (.iload_n 1, 1)) rfl) (sb_cons (sd_calls (n := 1) (met_X8_isStation l) (by decide) (by decide) wm_727 wm_725 wm_10 ⟨by decide +kernel, by decide +kernel, by decide +kernel⟩ wm_726 (by decide +kernel : decode cX8_tryShuttle 1 = .ok (.invokestatic 178, 3))) (sb_cons (sd_eq0 (by decide +kernel : decode cX8_tryShuttle 4 = .ok (.ifCond .eq 10, 3)) (by decide)) (sb_cons (sd_iload_n (by decide +kernel : decode cX8_tryShuttle 7 = .ok (.iload_n 2, 1)) rfl) (sb_cons (sd_calls (n := 1) (met_X8_isStation l) (by decide) (by decide) wm_727 wm_725 wm_10 ⟨by decide +kernel, by decide +kernel, by decide +kernel⟩ wm_726 (by decide +kernel : decode cX8_tryShuttle 8 = .ok (.invokestatic 178, 3))) (sb_cons (sd_ne0 (by decide +kernel : decode cX8_tryShuttle 11 = .ok (.ifCond .ne 5, 3)) (by decide)) (sb_cons (sd_fall (x := 0)) sb_nil))))))
set_option maxRecDepth 100000 in
theorem sb_X8_tryShuttle_14 (l : Launch) : sm_SndB l RX8 "tryShuttle" cX8_tryShuttle 8 1 2 14 [oK (-1), oIr] := sb_cons (sd_iconst (by decide +kernel : decode cX8_tryShuttle 14 = .ok (.iconst (-1), 1)) ⟨by decide, by decide⟩) (sb_cons (sd_ireturn (x := 0) rfl (by decide +kernel : decode cX8_tryShuttle 15 = .ok (.ireturn, 1))) sb_nil)
set_option maxRecDepth 100000 in
theorem sb_X8_tryShuttle_16 (l : Launch) : sm_SndB l RX8 "tryShuttle" cX8_tryShuttle 8 1 2 16 [oI 1, oI 2, oEq 54, oI 3, oK 0, oK 300, oCs p_X8_in f_X8_in 0 0 3, oEq0 54, oI 4, oK 0, oK 20, oCs p_X8_in f_X8_in 0 0 3, oEq0 54, oI 5, oK 0, oK 9, oCs p_X8_in f_X8_in 0 0 3, oNe0 57, oGo 54] := sb_cons (sd_iload_n (by decide +kernel : decode cX8_tryShuttle 16 = .ok (.iload_n 1, 1)) rfl) (sb_cons (sd_iload_n (by decide +kernel : decode cX8_tryShuttle 17 = .ok (.iload_n 2, 1)) rfl) (sb_cons (sd_eq (by decide +kernel : decode cX8_tryShuttle 18 = .ok (.if_icmp .eq 36, 3)) (by decide)) (sb_cons (sd_iload_n (by decide +kernel : decode cX8_tryShuttle 21 = .ok (.iload_n 3, 1)) rfl) (sb_cons (sd_iconst (by decide +kernel : decode cX8_tryShuttle 22 = .ok (.iconst 0, 1)) ⟨by decide, by decide⟩) (sb_cons (sd_sipush (by decide +kernel : decode cX8_tryShuttle 23 = .ok (.sipush 300, 3)) ⟨by decide, by decide⟩ (by decide)) (sb_cons (sd_calls (n := 3) (met_X8_in l) (by decide) (by decide) wm_710 wm_708 wm_10 ⟨by decide +kernel, by decide +kernel, by decide +kernel⟩ wm_709 (by decide +kernel : decode cX8_tryShuttle 26 = .ok (.invokestatic 74, 3))) (sb_cons (sd_eq0 (by decide +kernel : decode cX8_tryShuttle 29 = .ok (.ifCond .eq 25, 3)) (by decide)) (sb_cons (sd_iload (by decide +kernel : decode cX8_tryShuttle 32 = .ok (.iload 4, 2))) (sb_cons (sd_iconst (by decide +kernel : decode cX8_tryShuttle 34 = .ok (.iconst 0, 1)) ⟨by decide, by decide⟩) (sb_cons (sd_bipush (by decide +kernel : decode cX8_tryShuttle 35 = .ok (.bipush 20, 2)) ⟨by decide, by decide⟩ (by decide)) (sb_cons (sd_calls (n := 3) (met_X8_in l) (by decide) (by decide) wm_710 wm_708 wm_10 ⟨by decide +kernel, by decide +kernel, by decide +kernel⟩ wm_709 (by decide +kernel : decode cX8_tryShuttle 37 = .ok (.invokestatic 74, 3))) (sb_cons (sd_eq0 (by decide +kernel : decode cX8_tryShuttle 40 = .ok (.ifCond .eq 14, 3)) (by decide)) (sb_cons (sd_iload (by decide +kernel : decode cX8_tryShuttle 43 = .ok (.iload 5, 2))) (sb_cons (sd_iconst (by decide +kernel : decode cX8_tryShuttle 45 = .ok (.iconst 0, 1)) ⟨by decide, by decide⟩) (sb_cons (sd_bipush (by decide +kernel : decode cX8_tryShuttle 46 = .ok (.bipush 9, 2)) ⟨by decide, by decide⟩ (by decide)) (sb_cons (sd_calls (n := 3) (met_X8_in l) (by decide) (by decide) wm_710 wm_708 wm_10 ⟨by decide +kernel, by decide +kernel, by decide +kernel⟩ wm_709 (by decide +kernel : decode cX8_tryShuttle 48 = .ok (.invokestatic 74, 3))) (sb_cons (sd_ne0 (by decide +kernel : decode cX8_tryShuttle 51 = .ok (.ifCond .ne 6, 3)) (by decide)) (sb_cons (sd_fall (x := 0)) sb_nil))))))))))))))))))
set_option maxRecDepth 100000 in
theorem sb_X8_tryShuttle_54 (l : Launch) : sm_SndB l RX8 "tryShuttle" cX8_tryShuttle 8 1 2 54 [oK (-2), oIr] := sb_cons (sd_bipush (by decide +kernel : decode cX8_tryShuttle 54 = .ok (.bipush (-2), 2)) ⟨by decide, by decide⟩ (by decide)) (sb_cons (sd_ireturn (x := 0) rfl (by decide +kernel : decode cX8_tryShuttle 56 = .ok (.ireturn, 1))) sb_nil)
set_option maxRecDepth 100000 in
theorem sb_X8_tryShuttle_57 (l : Launch) : sm_SndB l RX8 "tryShuttle" cX8_tryShuttle 8 1 2 57 [oA 0, oGr 8 30 0, oK 1, oIl, oK 8, oNe 71, oK (-4), oIr] := sb_cons (sd_aload_n (by decide +kernel : decode cX8_tryShuttle 57 = .ok (.aload_n 0, 1)) rfl) (sb_cons (sd_getr (k := 0) kl_8 (by decide) rfl wm_673 (by decide +kernel : decode cX8_tryShuttle 58 = .ok (.getfield 7, 3))) (sb_cons (sd_iconst (by decide +kernel : decode cX8_tryShuttle 61 = .ok (.iconst 1, 1)) ⟨by decide, by decide⟩) (sb_cons (sd_iaload (by decide +kernel : decode cX8_tryShuttle 62 = .ok (.iaload, 1))) (sb_cons (sd_bipush (by decide +kernel : decode cX8_tryShuttle 63 = .ok (.bipush 8, 2)) ⟨by decide, by decide⟩ (by decide)) (sb_cons (sd_ne (by decide +kernel : decode cX8_tryShuttle 65 = .ok (.if_icmp .ne 6, 3)) (by decide)) (sb_cons (sd_bipush (by decide +kernel : decode cX8_tryShuttle 68 = .ok (.bipush (-4), 2)) ⟨by decide, by decide⟩ (by decide)) (sb_cons (sd_ireturn (x := 0) rfl (by decide +kernel : decode cX8_tryShuttle 70 = .ok (.ireturn, 1))) sb_nil)))))))
set_option maxRecDepth 100000 in
theorem sb_X8_tryShuttle_71 (l : Launch) : sm_SndB l RX8 "tryShuttle" cX8_tryShuttle 8 1 2 71 [oA 0, oI 6, oCv 8 30 p_X8_keepIf f_X8_keepIf 0 0 2, oK 17, oK 5, oA 0, oGr 8 30 0, oK 1, oIl, oMul, oAdd, oIs 7, oA 0, oGr 8 30 0, oI 7, oK 0, oAdd, oI 1, oIst, oA 0, oGr 8 30 0, oI 7, oK 1, oAdd, oI 2, oIst, oA 0, oGr 8 30 0, oI 7, oK 2, oAdd, oI 3, oIst, oA 0, oGr 8 30 0, oI 7, oK 3, oAdd, oI 4, oIst, oA 0, oGr 8 30 0, oI 7, oK 4, oAdd, oI 5, oIst, oA 0, oGr 8 30 0, oK 1, oDup2, oIl, oK 1, oAdd, oIst, oA 0, oGr 8 30 0, oK 1, oIl, oK 1, oSub, oIr] := sb_cons (sd_aload_n (by decide +kernel : decode cX8_tryShuttle 71 = .ok (.aload_n 0, 1)) rfl) (sb_cons (sd_iload (by decide +kernel : decode cX8_tryShuttle 72 = .ok (.iload 6, 2))) (sb_cons (sd_callv (n := 1) (met_X8_keepIf l) (by decide) (by decide) wm_735 wm_733 wm_10 ⟨by decide +kernel, by decide +kernel, by decide +kernel⟩ kl_8 wm_734 wm_1107 (by decide +kernel : decode cX8_tryShuttle 74 = .ok (.invokevirtual 174, 3))) (sb_cons (sd_bipush (by decide +kernel : decode cX8_tryShuttle 77 = .ok (.bipush 17, 2)) ⟨by decide, by decide⟩ (by decide)) (sb_cons (sd_iconst (by decide +kernel : decode cX8_tryShuttle 79 = .ok (.iconst 5, 1)) ⟨by decide, by decide⟩) (sb_cons (sd_aload_n (by decide +kernel : decode cX8_tryShuttle 80 = .ok (.aload_n 0, 1)) rfl) (sb_cons (sd_getr (k := 0) kl_8 (by decide) rfl wm_673 (by decide +kernel : decode cX8_tryShuttle 81 = .ok (.getfield 7, 3))) (sb_cons (sd_iconst (by decide +kernel : decode cX8_tryShuttle 84 = .ok (.iconst 1, 1)) ⟨by decide, by decide⟩) (sb_cons (sd_iaload (by decide +kernel : decode cX8_tryShuttle 85 = .ok (.iaload, 1))) (sb_cons (sd_imul (by decide +kernel : decode cX8_tryShuttle 86 = .ok (.imul, 1))) (sb_cons (sd_iadd (by decide +kernel : decode cX8_tryShuttle 87 = .ok (.iadd, 1))) (sb_cons (sd_istore (by decide +kernel : decode cX8_tryShuttle 88 = .ok (.istore 7, 2))) (sb_cons (sd_aload_n (by decide +kernel : decode cX8_tryShuttle 90 = .ok (.aload_n 0, 1)) rfl) (sb_cons (sd_getr (k := 0) kl_8 (by decide) rfl wm_673 (by decide +kernel : decode cX8_tryShuttle 91 = .ok (.getfield 7, 3))) (sb_cons (sd_iload (by decide +kernel : decode cX8_tryShuttle 94 = .ok (.iload 7, 2))) (sb_cons (sd_iconst (by decide +kernel : decode cX8_tryShuttle 96 = .ok (.iconst 0, 1)) ⟨by decide, by decide⟩) (sb_cons (sd_iadd (by decide +kernel : decode cX8_tryShuttle 97 = .ok (.iadd, 1))) (sb_cons (sd_iload_n (by decide +kernel : decode cX8_tryShuttle 98 = .ok (.iload_n 1, 1)) rfl) (sb_cons (sd_iastore (by decide +kernel : decode cX8_tryShuttle 99 = .ok (.iastore, 1))) (sb_cons (sd_aload_n (by decide +kernel : decode cX8_tryShuttle 100 = .ok (.aload_n 0, 1)) rfl) (sb_cons (sd_getr (k := 0) kl_8 (by decide) rfl wm_673 (by decide +kernel : decode cX8_tryShuttle 101 = .ok (.getfield 7, 3))) (sb_cons (sd_iload (by decide +kernel : decode cX8_tryShuttle 104 = .ok (.iload 7, 2))) (sb_cons (sd_iconst (by decide +kernel : decode cX8_tryShuttle 106 = .ok (.iconst 1, 1)) ⟨by decide, by decide⟩) (sb_cons (sd_iadd (by decide +kernel : decode cX8_tryShuttle 107 = .ok (.iadd, 1))) (sb_cons (sd_iload_n (by decide +kernel : decode cX8_tryShuttle 108 = .ok (.iload_n 2, 1)) rfl) (sb_cons (sd_iastore (by decide +kernel : decode cX8_tryShuttle 109 = .ok (.iastore, 1))) (sb_cons (sd_aload_n (by decide +kernel : decode cX8_tryShuttle 110 = .ok (.aload_n 0, 1)) rfl) (sb_cons (sd_getr (k := 0) kl_8 (by decide) rfl wm_673 (by decide +kernel : decode cX8_tryShuttle 111 = .ok (.getfield 7, 3))) (sb_cons (sd_iload (by decide +kernel : decode cX8_tryShuttle 114 = .ok (.iload 7, 2))) (sb_cons (sd_iconst (by decide +kernel : decode cX8_tryShuttle 116 = .ok (.iconst 2, 1)) ⟨by decide, by decide⟩) (sb_cons (sd_iadd (by decide +kernel : decode cX8_tryShuttle 117 = .ok (.iadd, 1))) (sb_cons (sd_iload_n (by decide +kernel : decode cX8_tryShuttle 118 = .ok (.iload_n 3, 1)) rfl) (sb_cons (sd_iastore (by decide +kernel : decode cX8_tryShuttle 119 = .ok (.iastore, 1))) (sb_cons (sd_aload_n (by decide +kernel : decode cX8_tryShuttle 120 = .ok (.aload_n 0, 1)) rfl) (sb_cons (sd_getr (k := 0) kl_8 (by decide) rfl wm_673 (by decide +kernel : decode cX8_tryShuttle 121 = .ok (.getfield 7, 3))) (sb_cons (sd_iload (by decide +kernel : decode cX8_tryShuttle 124 = .ok (.iload 7, 2))) (sb_cons (sd_iconst (by decide +kernel : decode cX8_tryShuttle 126 = .ok (.iconst 3, 1)) ⟨by decide, by decide⟩) (sb_cons (sd_iadd (by decide +kernel : decode cX8_tryShuttle 127 = .ok (.iadd, 1))) (sb_cons (sd_iload (by decide +kernel : decode cX8_tryShuttle 128 = .ok (.iload 4, 2))) (sb_cons (sd_iastore (by decide +kernel : decode cX8_tryShuttle 130 = .ok (.iastore, 1))) (sb_cons (sd_aload_n (by decide +kernel : decode cX8_tryShuttle 131 = .ok (.aload_n 0, 1)) rfl) (sb_cons (sd_getr (k := 0) kl_8 (by decide) rfl wm_673 (by decide +kernel : decode cX8_tryShuttle 132 = .ok (.getfield 7, 3))) (sb_cons (sd_iload (by decide +kernel : decode cX8_tryShuttle 135 = .ok (.iload 7, 2))) (sb_cons (sd_iconst (by decide +kernel : decode cX8_tryShuttle 137 = .ok (.iconst 4, 1)) ⟨by decide, by decide⟩) (sb_cons (sd_iadd (by decide +kernel : decode cX8_tryShuttle 138 = .ok (.iadd, 1))) (sb_cons (sd_iload (by decide +kernel : decode cX8_tryShuttle 139 = .ok (.iload 5, 2))) (sb_cons (sd_iastore (by decide +kernel : decode cX8_tryShuttle 141 = .ok (.iastore, 1))) (sb_cons (sd_aload_n (by decide +kernel : decode cX8_tryShuttle 142 = .ok (.aload_n 0, 1)) rfl) (sb_cons (sd_getr (k := 0) kl_8 (by decide) rfl wm_673 (by decide +kernel : decode cX8_tryShuttle 143 = .ok (.getfield 7, 3))) (sb_cons (sd_iconst (by decide +kernel : decode cX8_tryShuttle 146 = .ok (.iconst 1, 1)) ⟨by decide, by decide⟩) (sb_cons (sd_dup2 (by decide +kernel : decode cX8_tryShuttle 147 = .ok (.dup2, 1))) (sb_cons (sd_iaload (by decide +kernel : decode cX8_tryShuttle 148 = .ok (.iaload, 1))) (sb_cons (sd_iconst (by decide +kernel : decode cX8_tryShuttle 149 = .ok (.iconst 1, 1)) ⟨by decide, by decide⟩) (sb_cons (sd_iadd (by decide +kernel : decode cX8_tryShuttle 150 = .ok (.iadd, 1))) (sb_cons (sd_iastore (by decide +kernel : decode cX8_tryShuttle 151 = .ok (.iastore, 1))) (sb_cons (sd_aload_n (by decide +kernel : decode cX8_tryShuttle 152 = .ok (.aload_n 0, 1)) rfl) (sb_cons (sd_getr (k := 0) kl_8 (by decide) rfl wm_673 (by decide +kernel : decode cX8_tryShuttle 153 = .ok (.getfield 7, 3))) (sb_cons (sd_iconst (by decide +kernel : decode cX8_tryShuttle 156 = .ok (.iconst 1, 1)) ⟨by decide, by decide⟩) (sb_cons (sd_iaload (by decide +kernel : decode cX8_tryShuttle 157 = .ok (.iaload, 1))) (sb_cons (sd_iconst (by decide +kernel : decode cX8_tryShuttle 158 = .ok (.iconst 1, 1)) ⟨by decide, by decide⟩) (sb_cons (sd_isub (by decide +kernel : decode cX8_tryShuttle 159 = .ok (.isub, 1))) (sb_cons (sd_ireturn (x := 0) rfl (by decide +kernel : decode cX8_tryShuttle 160 = .ok (.ireturn, 1))) sb_nil)))))))))))))))))))))))))))))))))))))))))))))))))))))))))))))
theorem sn_X8_tryShuttle (l : Launch) : sm_SndT l RX8 "tryShuttle" cX8_tryShuttle 8 1 2 tb_X8_tryShuttle := st_cons (sb_X8_tryShuttle_0 l) (st_cons (sb_X8_tryShuttle_14 l) (st_cons (sb_X8_tryShuttle_16 l) (st_cons (sb_X8_tryShuttle_54 l) (st_cons (sb_X8_tryShuttle_57 l) (st_cons (sb_X8_tryShuttle_71 l) (st_nil))))))
set_option maxRecDepth 100000 in
set_option maxHeartbeats 4000000 in
theorem ok_X8_tryShuttle : sm_Ok tb_X8_tryShuttle 8 0 0 p_X8_tryShuttle f_X8_tryShuttle := by
  intro as w hp ha hw
  match as, hp with
  | [.inr (.inl m), .inl a, .inl b, .inl c, .inl d, .inl e, .inl k], hp =>
  refine ⟨Nat.le_of_ble_eq_true rfl, fun Z hZ => ?_⟩
  obtain ⟨rfl, ⟨hT, hv⟩, hH⟩ := hp
  have hm := vOK_many hv
  have hT2 := (mKf_keep (w := w) k).2 hT
  have ha := mKf_at w k
  have hw1 : wI (mKf w k) 155 1 = wI w 155 1 := by rw [ha]
  by_cases hok : mShOk a b c d e < 0
  · skip
    refine hZ (fun _ => false) 16 0 _ _ _ _ _ ?_
    simp only [sm_run, sm_blk, sm_get, sm_ent, sm_ents, sm_wds, sm_wd, sm_nl, sm_pop, sm_back, sm_cases, oK, oLK, oL, oI, oA, oJ, oIs, oAs, oJs, oInc, oAdd, oSub, oMul, oDiv, oRem, oNeg, oAnd, oAndB, oOr, oShl, oI2c, oI2l, oL2i, oLand, oLor, oLshl, oLshr, oLushr, oLcmp, oDup, oDup2, oPop, oGo, oFg, oEq, oNe, oLt, oGe, oGt, oLe, oEq0, oNe0, oLt0, oGe0, oGt0, oLe0, oSw, oGi, oGr, oPi, oPz, oPr, oLen, oIl, oZl, oCl, oRl, oIst, oZst, oCst, oRst, oCopy, oNew, oNa, oNa2, oObj, oCs, oCv, oCi, oIr, oZr, oVr, Nat.beq, List.getElem?_cons_zero, List.getElem?_cons_succ, List.set_cons_zero, List.set_cons_succ, List.length_cons, List.length_nil, List.nil_append, List.cons_append, List.append_nil, List.replicate_succ, List.replicate_zero, Nat.reduceAdd, Nat.reduceSub, Nat.reduceLT, Nat.reduceLeDiff, Nat.reduceBEq, true_and, and_true, Nat.zero_add, Nat.add_zero, Nat.le_refl, Option.some.injEq, exists_eq_left', true_or, or_true, or_false, false_or, reduceCtorEq, Prod.mk.injEq, Sum.inl.injEq, and_self, false_and, and_false, not_true_eq_false, not_false_eq_true, false_implies, true_implies, sm_r, Int.add_zero, Int.zero_add, wI_wsI, wS_wsI, wR_wsI, wI_wCp, wS_wCp, wR_wCp, Nat.reduceEqDiff, reduceIte, sT_iff, sT_iffC, wIf_ne, ne_eq, Bool.false_or, Bool.true_or, Bool.or_false, Bool.or_true, Bool.or_self, tb_X8_tryShuttle, p_X8_in, p_X8_isStation, p_X8_keepIf, f_X8_in, f_X8_isStation, f_X8_keepIf, p_X8_tryShuttle, f_X8_tryShuttle, sS_154 hT, sR_154_0 hT, sS_155 hT, hT, hH, b01, if_pos hok]
    repeat' (first | exact True.intro | with_reducible assumption | with_reducible refine And.intro ?_ ?_ | intro _)
    all_goals first
      | omega
      | assumption
      | rfl
      | (split <;> omega)
      | grind [mShOk]
      | skip
  · have hx := hok
    unfold mShOk at hx
    by_cases h8 : wI w 155 1 = 8
    · skip
      refine hZ (fun _ => false) 16 0 _ _ _ _ _ ?_
      simp only [sm_run, sm_blk, sm_get, sm_ent, sm_ents, sm_wds, sm_wd, sm_nl, sm_pop, sm_back, sm_cases, oK, oLK, oL, oI, oA, oJ, oIs, oAs, oJs, oInc, oAdd, oSub, oMul, oDiv, oRem, oNeg, oAnd, oAndB, oOr, oShl, oI2c, oI2l, oL2i, oLand, oLor, oLshl, oLshr, oLushr, oLcmp, oDup, oDup2, oPop, oGo, oFg, oEq, oNe, oLt, oGe, oGt, oLe, oEq0, oNe0, oLt0, oGe0, oGt0, oLe0, oSw, oGi, oGr, oPi, oPz, oPr, oLen, oIl, oZl, oCl, oRl, oIst, oZst, oCst, oRst, oCopy, oNew, oNa, oNa2, oObj, oCs, oCv, oCi, oIr, oZr, oVr, Nat.beq, List.getElem?_cons_zero, List.getElem?_cons_succ, List.set_cons_zero, List.set_cons_succ, List.length_cons, List.length_nil, List.nil_append, List.cons_append, List.append_nil, List.replicate_succ, List.replicate_zero, Nat.reduceAdd, Nat.reduceSub, Nat.reduceLT, Nat.reduceLeDiff, Nat.reduceBEq, true_and, and_true, Nat.zero_add, Nat.add_zero, Nat.le_refl, Option.some.injEq, exists_eq_left', true_or, or_true, or_false, false_or, reduceCtorEq, Prod.mk.injEq, Sum.inl.injEq, and_self, false_and, and_false, not_true_eq_false, not_false_eq_true, false_implies, true_implies, sm_r, Int.add_zero, Int.zero_add, wI_wsI, wS_wsI, wR_wsI, wI_wCp, wS_wCp, wR_wCp, Nat.reduceEqDiff, reduceIte, sT_iff, sT_iffC, wIf_ne, ne_eq, Bool.false_or, Bool.true_or, Bool.or_false, Bool.or_true, Bool.or_self, tb_X8_tryShuttle, p_X8_in, p_X8_isStation, p_X8_keepIf, f_X8_in, f_X8_isStation, f_X8_keepIf, p_X8_tryShuttle, f_X8_tryShuttle, sS_154 hT, sR_154_0 hT, sS_155 hT, hT, hH, b01, if_neg hok, if_pos h8]
      repeat' (first | exact True.intro | with_reducible assumption | with_reducible refine And.intro ?_ ?_ | intro _)
      all_goals first
        | omega
        | assumption
        | rfl
        | (split <;> omega)
        | grind [mShOk]
        | skip
    · skip
      refine hZ (fun _ => false) 16 0 _ _ _ _ _ ?_
      simp only [sm_run, sm_blk, sm_get, sm_ent, sm_ents, sm_wds, sm_wd, sm_nl, sm_pop, sm_back, sm_cases, oK, oLK, oL, oI, oA, oJ, oIs, oAs, oJs, oInc, oAdd, oSub, oMul, oDiv, oRem, oNeg, oAnd, oAndB, oOr, oShl, oI2c, oI2l, oL2i, oLand, oLor, oLshl, oLshr, oLushr, oLcmp, oDup, oDup2, oPop, oGo, oFg, oEq, oNe, oLt, oGe, oGt, oLe, oEq0, oNe0, oLt0, oGe0, oGt0, oLe0, oSw, oGi, oGr, oPi, oPz, oPr, oLen, oIl, oZl, oCl, oRl, oIst, oZst, oCst, oRst, oCopy, oNew, oNa, oNa2, oObj, oCs, oCv, oCi, oIr, oZr, oVr, Nat.beq, List.getElem?_cons_zero, List.getElem?_cons_succ, List.set_cons_zero, List.set_cons_succ, List.length_cons, List.length_nil, List.nil_append, List.cons_append, List.append_nil, List.replicate_succ, List.replicate_zero, Nat.reduceAdd, Nat.reduceSub, Nat.reduceLT, Nat.reduceLeDiff, Nat.reduceBEq, true_and, and_true, Nat.zero_add, Nat.add_zero, Nat.le_refl, Option.some.injEq, exists_eq_left', true_or, or_true, or_false, false_or, reduceCtorEq, Prod.mk.injEq, Sum.inl.injEq, and_self, false_and, and_false, not_true_eq_false, not_false_eq_true, false_implies, true_implies, sm_r, Int.add_zero, Int.zero_add, wI_wsI, wS_wsI, wR_wsI, wI_wCp, wS_wCp, wR_wCp, Nat.reduceEqDiff, reduceIte, sT_iff, sT_iffC, wIf_ne, ne_eq, Bool.false_or, Bool.true_or, Bool.or_false, Bool.or_true, Bool.or_self, tb_X8_tryShuttle, p_X8_in, p_X8_isStation, p_X8_keepIf, f_X8_in, f_X8_isStation, f_X8_keepIf, p_X8_tryShuttle, f_X8_tryShuttle, sS_154 hT, sR_154_0 hT, sS_155 hT, sS_154 hT2, sR_154_0 hT2, sS_155 hT2, hT, hH, b01, ha, if_neg hok, if_neg h8, mNewSh]
      repeat' (first | exact True.intro | with_reducible assumption | with_reducible refine And.intro ?_ ?_ | intro _)
      all_goals first
        | omega
        | assumption
        | rfl
        | (split <;> omega)
        | grind [mShOk]
        | skip
theorem met_X8_tryShuttle (l : Launch) : sm_Met l yX8_tryShuttle cX8_tryShuttle 8 (some .int) 2 0 0 p_X8_tryShuttle f_X8_tryShuttle := sm_met 1 (Or.inr (Or.inl ⟨rfl, rfl⟩)) (by decide +kernel) (sn_X8_tryShuttle l) ok_X8_tryShuttle
def mLateE (w : sm_W) (x v : Int) : Int := if 0 ≤ x ∧ x < wI w 155 1 then (if 1 ≤ v ∧ v ≤ 300 then (if wI w 155 (17 + 5 * x + 2) + v ≤ 300 then 0 else -2) else -2) else -1
def p_X8_whyNotLate : List sm_V → sm_W → Prop
  | [.inr (.inl m), .inl x, .inl v], w => m = 154 ∧ mOK w
  | _, _ => False
def f_X8_whyNotLate : sm_F
  | [.inr (.inl m), .inl x, .inl v], w => (some (.inl (mLateE w x v)), w)
  | _, w => (none, w)
def tb_X8_whyNotLate : List (Nat × List sm_O) := [(0, [oA 0, oI 1, oCv 8 30 p_X8_isShuttle f_X8_isShuttle 0 0 2, oNe0 12, oK (-1), oGo 43]),
  (12, [oI 2, oK 1, oK 300, oCs p_X8_in f_X8_in 0 0 3, oEq0 41, oA 0, oI 1, oK 2, oCv 8 30 p_X8_of f_X8_of 0 0 3, oI 2, oAdd, oK 300, oGt 41, oK 0, oGo 43]),
  (41, [oK (-2), oGo 43]),
  (43, [oIr])]
set_option maxRecDepth 100000 in
theorem sb_X8_whyNotLate_0 (l : Launch) : sm_SndB l RX8 "whyNotLate" cX8_whyNotLate 3 1 2 0 [oA 0, oI 1, oCv 8 30 p_X8_isShuttle f_X8_isShuttle 0 0 2, oNe0 12, oK (-1), oGo 43] := sb_cons (sd_aload_n (by decide +kernel : decode cX8_whyNotLate 0 = .ok (.aload_n 0, 1)) rfl) (sb_cons (sd_iload_n (by decide +kernel : decode cX8_whyNotLate 1 = .ok (.iload_n 1, 1)) rfl) (sb_cons (sd_callv (n := 1) (met_X8_isShuttle l) (by decide) (by decide) wm_774 wm_772 wm_10 ⟨by decide +kernel, by decide +kernel, by decide +kernel⟩ kl_8 wm_773 wm_1112 (by decide +kernel : decode cX8_whyNotLate 2 = .ok (.invokevirtual 198, 3))) (sb_cons (sd_ne0 (by decide +kernel : decode cX8_whyNotLate 5 = .ok (.ifCond .ne 7, 3)) (by decide)) (sb_cons (sd_iconst (by decide +kernel : decode cX8_whyNotLate 8 = .ok (.iconst (-1), 1)) ⟨by decide, by decide⟩) (sb_cons (sd_goto (x := 0) (by decide +kernel : decode cX8_whyNotLate 9 = .ok (.goto 34, 3)) (by decide)) sb_nil)))))
set_option maxRecDepth 100000 in
theorem sb_X8_whyNotLate_12 (l : Launch) : sm_SndB l RX8 "whyNotLate" cX8_whyNotLate 3 1 2 12 [oI 2, oK 1, oK 300, oCs p_X8_in f_X8_in 0 0 3, oEq0 41, oA 0, oI 1, oK 2, oCv 8 30 p_X8_of f_X8_of 0 0 3, oI 2, oAdd, oK 300, oGt 41, oK 0, oGo 43] := sb_cons (sd_iload_n (by decide +kernel : decode cX8_whyNotLate 12 = .ok (.iload_n 2, 1)) rfl) (sb_cons (sd_iconst (by decide +kernel : decode cX8_whyNotLate 13 = .ok (.iconst 1, 1)) ⟨by decide, by decide⟩) (sb_cons (sd_sipush (by decide +kernel : decode cX8_whyNotLate 14 = .ok (.sipush 300, 3)) ⟨by decide, by decide⟩ (by decide)) (sb_cons (sd_calls (n := 3) (met_X8_in l) (by decide) (by decide) wm_710 wm_708 wm_10 ⟨by decide +kernel, by decide +kernel, by decide +kernel⟩ wm_709 (by decide +kernel : decode cX8_whyNotLate 17 = .ok (.invokestatic 74, 3))) (sb_cons (sd_eq0 (by decide +kernel : decode cX8_whyNotLate 20 = .ok (.ifCond .eq 21, 3)) (by decide)) (sb_cons (sd_aload_n (by decide +kernel : decode cX8_whyNotLate 23 = .ok (.aload_n 0, 1)) rfl) (sb_cons (sd_iload_n (by decide +kernel : decode cX8_whyNotLate 24 = .ok (.iload_n 1, 1)) rfl) (sb_cons (sd_iconst (by decide +kernel : decode cX8_whyNotLate 25 = .ok (.iconst 2, 1)) ⟨by decide, by decide⟩) (sb_cons (sd_callv (n := 2) (met_X8_of l) (by decide) (by decide) wm_778 wm_776 wm_10 ⟨by decide +kernel, by decide +kernel, by decide +kernel⟩ kl_8 wm_777 wm_1113 (by decide +kernel : decode cX8_whyNotLate 26 = .ok (.invokevirtual 78, 3))) (sb_cons (sd_iload_n (by decide +kernel : decode cX8_whyNotLate 29 = .ok (.iload_n 2, 1)) rfl) (sb_cons (sd_iadd (by decide +kernel : decode cX8_whyNotLate 30 = .ok (.iadd, 1))) (sb_cons (sd_sipush (by decide +kernel : decode cX8_whyNotLate 31 = .ok (.sipush 300, 3)) ⟨by decide, by decide⟩ (by decide)) (sb_cons (sd_gt (by decide +kernel : decode cX8_whyNotLate 34 = .ok (.if_icmp .gt 7, 3)) (by decide)) (sb_cons (sd_iconst (by decide +kernel : decode cX8_whyNotLate 37 = .ok (.iconst 0, 1)) ⟨by decide, by decide⟩) (sb_cons (sd_goto (x := 0) (by decide +kernel : decode cX8_whyNotLate 38 = .ok (.goto 5, 3)) (by decide)) sb_nil))))))))))))))
set_option maxRecDepth 100000 in
theorem sb_X8_whyNotLate_41 (l : Launch) : sm_SndB l RX8 "whyNotLate" cX8_whyNotLate 3 1 2 41 [oK (-2), oGo 43] := sb_cons (sd_bipush (by decide +kernel : decode cX8_whyNotLate 41 = .ok (.bipush (-2), 2)) ⟨by decide, by decide⟩ (by decide)) (sb_cons (sd_fall (x := 0)) sb_nil)
set_option maxRecDepth 100000 in
theorem sb_X8_whyNotLate_43 (l : Launch) : sm_SndB l RX8 "whyNotLate" cX8_whyNotLate 3 1 2 43 [oIr] := sb_cons (sd_ireturn (x := 0) rfl (by decide +kernel : decode cX8_whyNotLate 43 = .ok (.ireturn, 1))) sb_nil
theorem sn_X8_whyNotLate (l : Launch) : sm_SndT l RX8 "whyNotLate" cX8_whyNotLate 3 1 2 tb_X8_whyNotLate := st_cons (sb_X8_whyNotLate_0 l) (st_cons (sb_X8_whyNotLate_12 l) (st_cons (sb_X8_whyNotLate_41 l) (st_cons (sb_X8_whyNotLate_43 l) (st_nil))))
set_option maxRecDepth 100000 in
set_option maxHeartbeats 4000000 in
theorem ok_X8_whyNotLate : sm_Ok tb_X8_whyNotLate 3 0 0 p_X8_whyNotLate f_X8_whyNotLate := by
  intro as w hp ha hw
  match as, hp with
  | [.inr (.inl m), .inl x, .inl v], hp =>
  refine ⟨Nat.le_of_ble_eq_true rfl, fun Z hZ => ?_⟩
  obtain ⟨rfl, ⟨hT, hv⟩⟩ := hp
  have hO : mOK w := ⟨hT, hv⟩
  have hm := vOK_many hv
  have hq := fun h0 h1 => vOK_sh (x := x) hv h0 h1
  refine hZ (fun _ => false) 16 0 _ _ _ _ _ ?_
  simp only [sm_run, sm_blk, sm_get, sm_ent, sm_ents, sm_wds, sm_wd, sm_nl, sm_pop, sm_back, sm_cases, oK, oLK, oL, oI, oA, oJ, oIs, oAs, oJs, oInc, oAdd, oSub, oMul, oDiv, oRem, oNeg, oAnd, oAndB, oOr, oShl, oI2c, oI2l, oL2i, oLand, oLor, oLshl, oLshr, oLushr, oLcmp, oDup, oDup2, oPop, oGo, oFg, oEq, oNe, oLt, oGe, oGt, oLe, oEq0, oNe0, oLt0, oGe0, oGt0, oLe0, oSw, oGi, oGr, oPi, oPz, oPr, oLen, oIl, oZl, oCl, oRl, oIst, oZst, oCst, oRst, oCopy, oNew, oNa, oNa2, oObj, oCs, oCv, oCi, oIr, oZr, oVr, Nat.beq, List.getElem?_cons_zero, List.getElem?_cons_succ, List.set_cons_zero, List.set_cons_succ, List.length_cons, List.length_nil, List.nil_append, List.cons_append, List.append_nil, List.replicate_succ, List.replicate_zero, Nat.reduceAdd, Nat.reduceSub, Nat.reduceLT, Nat.reduceLeDiff, Nat.reduceBEq, true_and, and_true, Nat.zero_add, Nat.add_zero, Nat.le_refl, Option.some.injEq, exists_eq_left', true_or, or_true, or_false, false_or, reduceCtorEq, Prod.mk.injEq, Sum.inl.injEq, and_self, false_and, and_false, not_true_eq_false, not_false_eq_true, false_implies, true_implies, sm_r, Int.add_zero, Int.zero_add, wI_wsI, wS_wsI, wR_wsI, wI_wCp, wS_wCp, wR_wCp, Nat.reduceEqDiff, reduceIte, sT_iff, sT_iffC, wIf_ne, ne_eq, Bool.false_or, Bool.true_or, Bool.or_false, Bool.or_true, Bool.or_self, tb_X8_whyNotLate, p_X8_in, p_X8_isShuttle, p_X8_of, f_X8_in, f_X8_isShuttle, f_X8_of, p_X8_whyNotLate, f_X8_whyNotLate, sS_154 hT, hT, hO, b01]
  repeat' (first | exact True.intro | with_reducible assumption | with_reducible refine And.intro ?_ ?_ | intro _)
  all_goals first
    | omega
    | assumption
    | rfl
    | (split <;> omega)
    | grind [mLateE]
    | skip
theorem met_X8_whyNotLate (l : Launch) : sm_Met l yX8_whyNotLate cX8_whyNotLate 3 (some .int) 2 0 0 p_X8_whyNotLate f_X8_whyNotLate := sm_met 1 (Or.inr (Or.inl ⟨rfl, rfl⟩)) (by decide +kernel) (sn_X8_whyNotLate l) ok_X8_whyNotLate
def p_X8_tryLate : List sm_V → sm_W → Prop
  | [.inr (.inl m), .inl x, .inl v, .inl b], w => m = 154 ∧ mOK w ∧ mH w
  | _, _ => False
def f_X8_tryLate : sm_F
  | [.inr (.inl m), .inl x, .inl v, .inl b], w => (some (.inl (if mLateE w x v < 0 then mLateE w x v else wI w 155 (17 + 5 * x + 2) + v)), (if mLateE w x v < 0 then w else wsI (mKf w b) 155 (17 + 5 * x + 2) (wI w 155 (17 + 5 * x + 2) + v)))
  | _, w => (none, w)
def tb_X8_tryLate : List (Nat × List sm_O) := [(0, [oA 0, oI 1, oI 2, oCv 8 30 p_X8_whyNotLate f_X8_whyNotLate 0 0 3, oIs 4, oI 4, oGe0 16, oI 4, oIr]),
  (16, [oA 0, oI 3, oCv 8 30 p_X8_keepIf f_X8_keepIf 0 0 2, oA 0, oGr 8 30 0, oK 17, oK 5, oI 1, oMul, oAdd, oK 2, oAdd, oDup2, oIl, oI 2, oAdd, oIst, oA 0, oI 1, oK 2, oCv 8 30 p_X8_of f_X8_of 0 0 3, oIr])]
set_option maxRecDepth 100000 in
theorem sb_X8_tryLate_0 (l : Launch) : sm_SndB l RX8 "tryLate" cX8_tryLate 5 1 3 0 [oA 0, oI 1, oI 2, oCv 8 30 p_X8_whyNotLate f_X8_whyNotLate 0 0 3, oIs 4, oI 4, oGe0 16, oI 4, oIr] := sb_cons (sd_aload_n (by decide +kernel : decode cX8_tryLate 0 = .ok (.aload_n 0, 1)) rfl) (sb_cons (sd_iload_n (by decide +kernel : decode cX8_tryLate 1 = .ok (.iload_n 1, 1)) rfl) (sb_cons (sd_iload_n (by decide +kernel : decode cX8_tryLate 2 = .ok (.iload_n 2, 1)) rfl) (sb_cons (sd_callv (n := 2) (met_X8_whyNotLate l) (by decide) (by decide) wm_770 wm_768 wm_10 ⟨by decide +kernel, by decide +kernel, by decide +kernel⟩ kl_8 wm_769 wm_1111 (by decide +kernel : decode cX8_tryLate 3 = .ok (.invokevirtual 201, 3))) (sb_cons (sd_istore (by decide +kernel : decode cX8_tryLate 6 = .ok (.istore 4, 2))) (sb_cons (sd_iload (by decide +kernel : decode cX8_tryLate 8 = .ok (.iload 4, 2))) (sb_cons (sd_ge0 (by decide +kernel : decode cX8_tryLate 10 = .ok (.ifCond .ge 6, 3)) (by decide)) (sb_cons (sd_iload (by decide +kernel : decode cX8_tryLate 13 = .ok (.iload 4, 2))) (sb_cons (sd_ireturn (x := 0) rfl (by decide +kernel : decode cX8_tryLate 15 = .ok (.ireturn, 1))) sb_nil))))))))
set_option maxRecDepth 100000 in
theorem sb_X8_tryLate_16 (l : Launch) : sm_SndB l RX8 "tryLate" cX8_tryLate 5 1 3 16 [oA 0, oI 3, oCv 8 30 p_X8_keepIf f_X8_keepIf 0 0 2, oA 0, oGr 8 30 0, oK 17, oK 5, oI 1, oMul, oAdd, oK 2, oAdd, oDup2, oIl, oI 2, oAdd, oIst, oA 0, oI 1, oK 2, oCv 8 30 p_X8_of f_X8_of 0 0 3, oIr] := sb_cons (sd_aload_n (by decide +kernel : decode cX8_tryLate 16 = .ok (.aload_n 0, 1)) rfl) (sb_cons (sd_iload_n (by decide +kernel : decode cX8_tryLate 17 = .ok (.iload_n 3, 1)) rfl) (sb_cons (sd_callv (n := 1) (met_X8_keepIf l) (by decide) (by decide) wm_735 wm_733 wm_10 ⟨by decide +kernel, by decide +kernel, by decide +kernel⟩ kl_8 wm_734 wm_1107 (by decide +kernel : decode cX8_tryLate 18 = .ok (.invokevirtual 174, 3))) (sb_cons (sd_aload_n (by decide +kernel : decode cX8_tryLate 21 = .ok (.aload_n 0, 1)) rfl) (sb_cons (sd_getr (k := 0) kl_8 (by decide) rfl wm_673 (by decide +kernel : decode cX8_tryLate 22 = .ok (.getfield 7, 3))) (sb_cons (sd_bipush (by decide +kernel : decode cX8_tryLate 25 = .ok (.bipush 17, 2)) ⟨by decide, by decide⟩ (by decide)) (sb_cons (sd_iconst (by decide +kernel : decode cX8_tryLate 27 = .ok (.iconst 5, 1)) ⟨by decide, by decide⟩) (sb_cons (sd_iload_n (by decide +kernel : decode cX8_tryLate 28 = .ok (.iload_n 1, 1)) rfl) (sb_cons (sd_imul (by decide +kernel : decode cX8_tryLate 29 = .ok (.imul, 1))) (sb_cons (sd_iadd (by decide +kernel : decode cX8_tryLate 30 = .ok (.iadd, 1))) (sb_cons (sd_iconst (by decide +kernel : decode cX8_tryLate 31 = .ok (.iconst 2, 1)) ⟨by decide, by decide⟩) (sb_cons (sd_iadd (by decide +kernel : decode cX8_tryLate 32 = .ok (.iadd, 1))) (sb_cons (sd_dup2 (by decide +kernel : decode cX8_tryLate 33 = .ok (.dup2, 1))) (sb_cons (sd_iaload (by decide +kernel : decode cX8_tryLate 34 = .ok (.iaload, 1))) (sb_cons (sd_iload_n (by decide +kernel : decode cX8_tryLate 35 = .ok (.iload_n 2, 1)) rfl) (sb_cons (sd_iadd (by decide +kernel : decode cX8_tryLate 36 = .ok (.iadd, 1))) (sb_cons (sd_iastore (by decide +kernel : decode cX8_tryLate 37 = .ok (.iastore, 1))) (sb_cons (sd_aload_n (by decide +kernel : decode cX8_tryLate 38 = .ok (.aload_n 0, 1)) rfl) (sb_cons (sd_iload_n (by decide +kernel : decode cX8_tryLate 39 = .ok (.iload_n 1, 1)) rfl) (sb_cons (sd_iconst (by decide +kernel : decode cX8_tryLate 40 = .ok (.iconst 2, 1)) ⟨by decide, by decide⟩) (sb_cons (sd_callv (n := 2) (met_X8_of l) (by decide) (by decide) wm_778 wm_776 wm_10 ⟨by decide +kernel, by decide +kernel, by decide +kernel⟩ kl_8 wm_777 wm_1113 (by decide +kernel : decode cX8_tryLate 41 = .ok (.invokevirtual 78, 3))) (sb_cons (sd_ireturn (x := 0) rfl (by decide +kernel : decode cX8_tryLate 44 = .ok (.ireturn, 1))) sb_nil)))))))))))))))))))))
theorem sn_X8_tryLate (l : Launch) : sm_SndT l RX8 "tryLate" cX8_tryLate 5 1 3 tb_X8_tryLate := st_cons (sb_X8_tryLate_0 l) (st_cons (sb_X8_tryLate_16 l) (st_nil))
set_option maxRecDepth 100000 in
set_option maxHeartbeats 4000000 in
theorem ok_X8_tryLate : sm_Ok tb_X8_tryLate 5 0 0 p_X8_tryLate f_X8_tryLate := by
  intro as w hp ha hw
  match as, hp with
  | [.inr (.inl m), .inl x, .inl v, .inl b], hp =>
  refine ⟨Nat.le_of_ble_eq_true rfl, fun Z hZ => ?_⟩
  obtain ⟨rfl, ⟨hT, hv⟩, hH⟩ := hp
  have hO : mOK w := ⟨hT, hv⟩
  have hm := vOK_many hv
  have hq := fun h0 h1 => vOK_sh (x := x) hv h0 h1
  have hT2 := (mKf_keep (w := w) b).2 hT
  have ha := mKf_at w b
  by_cases hok : mLateE w x v < 0
  · skip
    refine hZ (fun _ => false) 16 0 _ _ _ _ _ ?_
    simp only [sm_run, sm_blk, sm_get, sm_ent, sm_ents, sm_wds, sm_wd, sm_nl, sm_pop, sm_back, sm_cases, oK, oLK, oL, oI, oA, oJ, oIs, oAs, oJs, oInc, oAdd, oSub, oMul, oDiv, oRem, oNeg, oAnd, oAndB, oOr, oShl, oI2c, oI2l, oL2i, oLand, oLor, oLshl, oLshr, oLushr, oLcmp, oDup, oDup2, oPop, oGo, oFg, oEq, oNe, oLt, oGe, oGt, oLe, oEq0, oNe0, oLt0, oGe0, oGt0, oLe0, oSw, oGi, oGr, oPi, oPz, oPr, oLen, oIl, oZl, oCl, oRl, oIst, oZst, oCst, oRst, oCopy, oNew, oNa, oNa2, oObj, oCs, oCv, oCi, oIr, oZr, oVr, Nat.beq, List.getElem?_cons_zero, List.getElem?_cons_succ, List.set_cons_zero, List.set_cons_succ, List.length_cons, List.length_nil, List.nil_append, List.cons_append, List.append_nil, List.replicate_succ, List.replicate_zero, Nat.reduceAdd, Nat.reduceSub, Nat.reduceLT, Nat.reduceLeDiff, Nat.reduceBEq, true_and, and_true, Nat.zero_add, Nat.add_zero, Nat.le_refl, Option.some.injEq, exists_eq_left', true_or, or_true, or_false, false_or, reduceCtorEq, Prod.mk.injEq, Sum.inl.injEq, and_self, false_and, and_false, not_true_eq_false, not_false_eq_true, false_implies, true_implies, sm_r, Int.add_zero, Int.zero_add, wI_wsI, wS_wsI, wR_wsI, wI_wCp, wS_wCp, wR_wCp, Nat.reduceEqDiff, reduceIte, sT_iff, sT_iffC, wIf_ne, ne_eq, Bool.false_or, Bool.true_or, Bool.or_false, Bool.or_true, Bool.or_self, tb_X8_tryLate, p_X8_keepIf, p_X8_of, p_X8_whyNotLate, f_X8_keepIf, f_X8_of, f_X8_whyNotLate, p_X8_tryLate, f_X8_tryLate, sS_154 hT, hT, hH, hO, if_pos hok]
    repeat' (first | exact True.intro | with_reducible assumption | with_reducible refine And.intro ?_ ?_ | intro _)
    all_goals first
      | omega
      | assumption
      | rfl
      | (split <;> omega)
      | grind
      | skip
  · have hx : 0 ≤ x ∧ x < wI w 155 1 ∧ 1 ≤ v ∧ v ≤ 300 ∧ wI w 155 (17 + 5 * x + 2) + v ≤ 300 := by
      unfold mLateE at hok
      grind
    refine hZ (fun _ => false) 16 0 _ _ _ _ _ ?_
    simp only [sm_run, sm_blk, sm_get, sm_ent, sm_ents, sm_wds, sm_wd, sm_nl, sm_pop, sm_back, sm_cases, oK, oLK, oL, oI, oA, oJ, oIs, oAs, oJs, oInc, oAdd, oSub, oMul, oDiv, oRem, oNeg, oAnd, oAndB, oOr, oShl, oI2c, oI2l, oL2i, oLand, oLor, oLshl, oLshr, oLushr, oLcmp, oDup, oDup2, oPop, oGo, oFg, oEq, oNe, oLt, oGe, oGt, oLe, oEq0, oNe0, oLt0, oGe0, oGt0, oLe0, oSw, oGi, oGr, oPi, oPz, oPr, oLen, oIl, oZl, oCl, oRl, oIst, oZst, oCst, oRst, oCopy, oNew, oNa, oNa2, oObj, oCs, oCv, oCi, oIr, oZr, oVr, Nat.beq, List.getElem?_cons_zero, List.getElem?_cons_succ, List.set_cons_zero, List.set_cons_succ, List.length_cons, List.length_nil, List.nil_append, List.cons_append, List.append_nil, List.replicate_succ, List.replicate_zero, Nat.reduceAdd, Nat.reduceSub, Nat.reduceLT, Nat.reduceLeDiff, Nat.reduceBEq, true_and, and_true, Nat.zero_add, Nat.add_zero, Nat.le_refl, Option.some.injEq, exists_eq_left', true_or, or_true, or_false, false_or, reduceCtorEq, Prod.mk.injEq, Sum.inl.injEq, and_self, false_and, and_false, not_true_eq_false, not_false_eq_true, false_implies, true_implies, sm_r, Int.add_zero, Int.zero_add, wI_wsI, wS_wsI, wR_wsI, wI_wCp, wS_wCp, wR_wCp, Nat.reduceEqDiff, reduceIte, sT_iff, sT_iffC, wIf_ne, ne_eq, Bool.false_or, Bool.true_or, Bool.or_false, Bool.or_true, Bool.or_self, tb_X8_tryLate, p_X8_keepIf, p_X8_of, p_X8_whyNotLate, f_X8_keepIf, f_X8_of, f_X8_whyNotLate, p_X8_tryLate, f_X8_tryLate, sS_154 hT, hT, hH, hO, sS_154 hT2, sR_154_0 hT2, sS_155 hT2, hT2, ha, if_neg hok]
    repeat' (first | exact True.intro | with_reducible assumption | with_reducible refine And.intro ?_ ?_ | intro _)
    all_goals first
      | omega
      | assumption
      | rfl
      | (split <;> omega)
      | grind
      | skip
theorem met_X8_tryLate (l : Launch) : sm_Met l yX8_tryLate cX8_tryLate 5 (some .int) 3 0 0 p_X8_tryLate f_X8_tryLate := sm_met 1 (Or.inr (Or.inl ⟨rfl, rfl⟩)) (by decide +kernel) (sn_X8_tryLate l) ok_X8_tryLate
def p_X8_tryPrefer : List sm_V → sm_W → Prop
  | [.inr (.inl m), .inl x, .inl v, .inl b], w => m = 154 ∧ mOK w ∧ mH w
  | _, _ => False
def f_X8_tryPrefer : sm_F
  | [.inr (.inl m), .inl x, .inl v, .inl b], w => (some (.inl (if 0 ≤ x ∧ x < wI w 155 1 then (if 0 ≤ v ∧ v ≤ 9 then wI w 155 (17 + 5 * x + 4) else -2) else -1)), (if 0 ≤ x ∧ x < wI w 155 1 then (if 0 ≤ v ∧ v ≤ 9 then wsI (mKf w b) 155 (17 + 5 * x + 4) v else w) else w))
  | _, w => (none, w)
def tb_X8_tryPrefer : List (Nat × List sm_O) := [(0, [oA 0, oI 1, oCv 8 30 p_X8_isShuttle f_X8_isShuttle 0 0 2, oNe0 10, oK (-1), oIr]),
  (10, [oI 2, oK 0, oK 9, oCs p_X8_in f_X8_in 0 0 3, oEq0 37, oA 0, oK 17, oK 5, oI 1, oMul, oAdd, oK 4, oAdd, oI 2, oI 3, oCv 8 30 p_X8_change f_X8_change 0 0 4, oGo 39]),
  (37, [oK (-2), oGo 39]),
  (39, [oIr])]
set_option maxRecDepth 100000 in
theorem sb_X8_tryPrefer_0 (l : Launch) : sm_SndB l RX8 "tryPrefer" cX8_tryPrefer 4 1 3 0 [oA 0, oI 1, oCv 8 30 p_X8_isShuttle f_X8_isShuttle 0 0 2, oNe0 10, oK (-1), oIr] := sb_cons (sd_aload_n (by decide +kernel : decode cX8_tryPrefer 0 = .ok (.aload_n 0, 1)) rfl) (sb_cons (sd_iload_n (by decide +kernel : decode cX8_tryPrefer 1 = .ok (.iload_n 1, 1)) rfl) (sb_cons (sd_callv (n := 1) (met_X8_isShuttle l) (by decide) (by decide) wm_774 wm_772 wm_10 ⟨by decide +kernel, by decide +kernel, by decide +kernel⟩ kl_8 wm_773 wm_1112 (by decide +kernel : decode cX8_tryPrefer 2 = .ok (.invokevirtual 198, 3))) (sb_cons (sd_ne0 (by decide +kernel : decode cX8_tryPrefer 5 = .ok (.ifCond .ne 5, 3)) (by decide)) (sb_cons (sd_iconst (by decide +kernel : decode cX8_tryPrefer 8 = .ok (.iconst (-1), 1)) ⟨by decide, by decide⟩) (sb_cons (sd_ireturn (x := 0) rfl (by decide +kernel : decode cX8_tryPrefer 9 = .ok (.ireturn, 1))) sb_nil)))))
set_option maxRecDepth 100000 in
theorem sb_X8_tryPrefer_10 (l : Launch) : sm_SndB l RX8 "tryPrefer" cX8_tryPrefer 4 1 3 10 [oI 2, oK 0, oK 9, oCs p_X8_in f_X8_in 0 0 3, oEq0 37, oA 0, oK 17, oK 5, oI 1, oMul, oAdd, oK 4, oAdd, oI 2, oI 3, oCv 8 30 p_X8_change f_X8_change 0 0 4, oGo 39] := sb_cons (sd_iload_n (by decide +kernel : decode cX8_tryPrefer 10 = .ok (.iload_n 2, 1)) rfl) (sb_cons (sd_iconst (by decide +kernel : decode cX8_tryPrefer 11 = .ok (.iconst 0, 1)) ⟨by decide, by decide⟩) (sb_cons (sd_bipush (by decide +kernel : decode cX8_tryPrefer 12 = .ok (.bipush 9, 2)) ⟨by decide, by decide⟩ (by decide)) (sb_cons (sd_calls (n := 3) (met_X8_in l) (by decide) (by decide) wm_710 wm_708 wm_10 ⟨by decide +kernel, by decide +kernel, by decide +kernel⟩ wm_709 (by decide +kernel : decode cX8_tryPrefer 14 = .ok (.invokestatic 74, 3))) (sb_cons (sd_eq0 (by decide +kernel : decode cX8_tryPrefer 17 = .ok (.ifCond .eq 20, 3)) (by decide)) (sb_cons (sd_aload_n (by decide +kernel : decode cX8_tryPrefer 20 = .ok (.aload_n 0, 1)) rfl) (sb_cons (sd_bipush (by decide +kernel : decode cX8_tryPrefer 21 = .ok (.bipush 17, 2)) ⟨by decide, by decide⟩ (by decide)) (sb_cons (sd_iconst (by decide +kernel : decode cX8_tryPrefer 23 = .ok (.iconst 5, 1)) ⟨by decide, by decide⟩) (sb_cons (sd_iload_n (by decide +kernel : decode cX8_tryPrefer 24 = .ok (.iload_n 1, 1)) rfl) (sb_cons (sd_imul (by decide +kernel : decode cX8_tryPrefer 25 = .ok (.imul, 1))) (sb_cons (sd_iadd (by decide +kernel : decode cX8_tryPrefer 26 = .ok (.iadd, 1))) (sb_cons (sd_iconst (by decide +kernel : decode cX8_tryPrefer 27 = .ok (.iconst 4, 1)) ⟨by decide, by decide⟩) (sb_cons (sd_iadd (by decide +kernel : decode cX8_tryPrefer 28 = .ok (.iadd, 1))) (sb_cons (sd_iload_n (by decide +kernel : decode cX8_tryPrefer 29 = .ok (.iload_n 2, 1)) rfl) (sb_cons (sd_iload_n (by decide +kernel : decode cX8_tryPrefer 30 = .ok (.iload_n 3, 1)) rfl) (sb_cons (sd_callv (n := 3) (met_X8_change l) (by decide) (by decide) wm_731 wm_729 wm_10 ⟨by decide +kernel, by decide +kernel, by decide +kernel⟩ kl_8 wm_730 wm_1106 (by decide +kernel : decode cX8_tryPrefer 31 = .ok (.invokevirtual 181, 3))) (sb_cons (sd_goto (x := 0) (by decide +kernel : decode cX8_tryPrefer 34 = .ok (.goto 5, 3)) (by decide)) sb_nil))))))))))))))))
set_option maxRecDepth 100000 in
theorem sb_X8_tryPrefer_37 (l : Launch) : sm_SndB l RX8 "tryPrefer" cX8_tryPrefer 4 1 3 37 [oK (-2), oGo 39] := sb_cons (sd_bipush (by decide +kernel : decode cX8_tryPrefer 37 = .ok (.bipush (-2), 2)) ⟨by decide, by decide⟩ (by decide)) (sb_cons (sd_fall (x := 0)) sb_nil)
set_option maxRecDepth 100000 in
theorem sb_X8_tryPrefer_39 (l : Launch) : sm_SndB l RX8 "tryPrefer" cX8_tryPrefer 4 1 3 39 [oIr] := sb_cons (sd_ireturn (x := 0) rfl (by decide +kernel : decode cX8_tryPrefer 39 = .ok (.ireturn, 1))) sb_nil
theorem sn_X8_tryPrefer (l : Launch) : sm_SndT l RX8 "tryPrefer" cX8_tryPrefer 4 1 3 tb_X8_tryPrefer := st_cons (sb_X8_tryPrefer_0 l) (st_cons (sb_X8_tryPrefer_10 l) (st_cons (sb_X8_tryPrefer_37 l) (st_cons (sb_X8_tryPrefer_39 l) (st_nil))))
set_option maxRecDepth 100000 in
set_option maxHeartbeats 4000000 in
theorem ok_X8_tryPrefer : sm_Ok tb_X8_tryPrefer 4 0 0 p_X8_tryPrefer f_X8_tryPrefer := by
  intro as w hp ha hw
  match as, hp with
  | [.inr (.inl m), .inl x, .inl v, .inl b], hp =>
  refine ⟨Nat.le_of_ble_eq_true rfl, fun Z hZ => ?_⟩
  obtain ⟨rfl, ⟨hT, hv⟩, hH⟩ := hp
  have hO : mOK w := ⟨hT, hv⟩
  have hm := vOK_many hv
  refine hZ (fun _ => false) 16 0 _ _ _ _ _ ?_
  simp only [sm_run, sm_blk, sm_get, sm_ent, sm_ents, sm_wds, sm_wd, sm_nl, sm_pop, sm_back, sm_cases, oK, oLK, oL, oI, oA, oJ, oIs, oAs, oJs, oInc, oAdd, oSub, oMul, oDiv, oRem, oNeg, oAnd, oAndB, oOr, oShl, oI2c, oI2l, oL2i, oLand, oLor, oLshl, oLshr, oLushr, oLcmp, oDup, oDup2, oPop, oGo, oFg, oEq, oNe, oLt, oGe, oGt, oLe, oEq0, oNe0, oLt0, oGe0, oGt0, oLe0, oSw, oGi, oGr, oPi, oPz, oPr, oLen, oIl, oZl, oCl, oRl, oIst, oZst, oCst, oRst, oCopy, oNew, oNa, oNa2, oObj, oCs, oCv, oCi, oIr, oZr, oVr, Nat.beq, List.getElem?_cons_zero, List.getElem?_cons_succ, List.set_cons_zero, List.set_cons_succ, List.length_cons, List.length_nil, List.nil_append, List.cons_append, List.append_nil, List.replicate_succ, List.replicate_zero, Nat.reduceAdd, Nat.reduceSub, Nat.reduceLT, Nat.reduceLeDiff, Nat.reduceBEq, true_and, and_true, Nat.zero_add, Nat.add_zero, Nat.le_refl, Option.some.injEq, exists_eq_left', true_or, or_true, or_false, false_or, reduceCtorEq, Prod.mk.injEq, Sum.inl.injEq, and_self, false_and, and_false, not_true_eq_false, not_false_eq_true, false_implies, true_implies, sm_r, Int.add_zero, Int.zero_add, wI_wsI, wS_wsI, wR_wsI, wI_wCp, wS_wCp, wR_wCp, Nat.reduceEqDiff, reduceIte, sT_iff, sT_iffC, wIf_ne, ne_eq, Bool.false_or, Bool.true_or, Bool.or_false, Bool.or_true, Bool.or_self, tb_X8_tryPrefer, p_X8_change, p_X8_in, p_X8_isShuttle, f_X8_change, f_X8_in, f_X8_isShuttle, p_X8_tryPrefer, f_X8_tryPrefer, sS_154 hT, hT, hH, hO, b01]
  repeat' (first | exact True.intro | with_reducible assumption | with_reducible refine And.intro ?_ ?_ | intro _)
  all_goals first
    | omega
    | assumption
    | rfl
    | (split <;> omega)
    | grind
    | skip
theorem met_X8_tryPrefer (l : Launch) : sm_Met l yX8_tryPrefer cX8_tryPrefer 4 (some .int) 3 0 0 p_X8_tryPrefer f_X8_tryPrefer := sm_met 1 (Or.inr (Or.inl ⟨rfl, rfl⟩)) (by decide +kernel) (sn_X8_tryPrefer l) ok_X8_tryPrefer
def mRm1 (x j : Int) (w : sm_W) : sm_W := wsI w 155 (17 + 5 * x + j) (wI w 155 (17 + 5 * x + j + 5))
def mRm (w : sm_W) (x b : Int) : sm_W := itI (mRm1 x) (wsI (mKf w b) 155 1 (wI w 155 1 - 1)) (5 * (wI w 155 1 - 1) - 5 * x)
theorem mRmL (x : Int) (hx : 0 ≤ x) (w : sm_W) (n : Int) (hn : 0 ≤ n) : wI (itI (mRm1 x) w n) 155 1 = wI w 155 1 ∧ (sT w → sT (itI (mRm1 x) w n)) :=
  itI_ind (f := mRm1 x) (fun _ r => wI r 155 1 = wI w 155 1 ∧ (sT w → sT r)) n ⟨rfl, id⟩ (fun i r i0 _ hr => ⟨by unfold mRm1; rw [wI_wsI, if_neg (by omega), hr.1], hr.2⟩) n hn (Int.le_refl _)
def p_X8_tryRemove : List sm_V → sm_W → Prop
  | [.inr (.inl m), .inl x, .inl b], w => m = 154 ∧ mOK w ∧ mH w
  | _, _ => False
def f_X8_tryRemove : sm_F
  | [.inr (.inl m), .inl x, .inl b], w => (some (.inl (if 0 ≤ x ∧ x < wI w 155 1 then wI w 155 1 - 1 else -1)), (if 0 ≤ x ∧ x < wI w 155 1 then mRm w x b else w))
  | _, w => (none, w)
def tb_X8_tryRemove : List (Nat × List sm_O) := [(0, [oA 0, oI 1, oCv 8 30 p_X8_isShuttle f_X8_isShuttle 0 0 2, oNe0 10, oK (-1), oIr]),
  (10, [oA 0, oI 2, oCv 8 30 p_X8_keepIf f_X8_keepIf 0 0 2, oA 0, oGr 8 30 0, oK 1, oDup2, oIl, oK 1, oSub, oIst, oK 17, oK 5, oI 1, oMul, oAdd, oIs 3, oFg 1, oFg 2, oGo 32]),
  (32, [oI 3, oK 17, oK 5, oA 0, oGr 8 30 0, oK 1, oIl, oMul, oAdd, oGe 67, oA 0, oGr 8 30 0, oI 3, oA 0, oGr 8 30 0, oI 3, oK 5, oAdd, oIl, oIst, oInc 3 1, oFg 1, oFg 2, oGo 32]),
  (67, [oA 0, oGr 8 30 0, oK 1, oIl, oIr])]
set_option maxRecDepth 100000 in
theorem sb_X8_tryRemove_0 (l : Launch) : sm_SndB l RX8 "tryRemove" cX8_tryRemove 4 1 2 0 [oA 0, oI 1, oCv 8 30 p_X8_isShuttle f_X8_isShuttle 0 0 2, oNe0 10, oK (-1), oIr] := sb_cons (sd_aload_n (by decide +kernel : decode cX8_tryRemove 0 = .ok (.aload_n 0, 1)) rfl) (sb_cons (sd_iload_n (by decide +kernel : decode cX8_tryRemove 1 = .ok (.iload_n 1, 1)) rfl) (sb_cons (sd_callv (n := 1) (met_X8_isShuttle l) (by decide) (by decide) wm_774 wm_772 wm_10 ⟨by decide +kernel, by decide +kernel, by decide +kernel⟩ kl_8 wm_773 wm_1112 (by decide +kernel : decode cX8_tryRemove 2 = .ok (.invokevirtual 198, 3))) (sb_cons (sd_ne0 (by decide +kernel : decode cX8_tryRemove 5 = .ok (.ifCond .ne 5, 3)) (by decide)) (sb_cons (sd_iconst (by decide +kernel : decode cX8_tryRemove 8 = .ok (.iconst (-1), 1)) ⟨by decide, by decide⟩) (sb_cons (sd_ireturn (x := 0) rfl (by decide +kernel : decode cX8_tryRemove 9 = .ok (.ireturn, 1))) sb_nil)))))
set_option maxRecDepth 100000 in
theorem sb_X8_tryRemove_10 (l : Launch) : sm_SndB l RX8 "tryRemove" cX8_tryRemove 4 1 2 10 [oA 0, oI 2, oCv 8 30 p_X8_keepIf f_X8_keepIf 0 0 2, oA 0, oGr 8 30 0, oK 1, oDup2, oIl, oK 1, oSub, oIst, oK 17, oK 5, oI 1, oMul, oAdd, oIs 3, oFg 1, oFg 2, oGo 32] := sb_cons (sd_aload_n (by decide +kernel : decode cX8_tryRemove 10 = .ok (.aload_n 0, 1)) rfl) (sb_cons (sd_iload_n (by decide +kernel : decode cX8_tryRemove 11 = .ok (.iload_n 2, 1)) rfl) (sb_cons (sd_callv (n := 1) (met_X8_keepIf l) (by decide) (by decide) wm_735 wm_733 wm_10 ⟨by decide +kernel, by decide +kernel, by decide +kernel⟩ kl_8 wm_734 wm_1107 (by decide +kernel : decode cX8_tryRemove 12 = .ok (.invokevirtual 174, 3))) (sb_cons (sd_aload_n (by decide +kernel : decode cX8_tryRemove 15 = .ok (.aload_n 0, 1)) rfl) (sb_cons (sd_getr (k := 0) kl_8 (by decide) rfl wm_673 (by decide +kernel : decode cX8_tryRemove 16 = .ok (.getfield 7, 3))) (sb_cons (sd_iconst (by decide +kernel : decode cX8_tryRemove 19 = .ok (.iconst 1, 1)) ⟨by decide, by decide⟩) (sb_cons (sd_dup2 (by decide +kernel : decode cX8_tryRemove 20 = .ok (.dup2, 1))) (sb_cons (sd_iaload (by decide +kernel : decode cX8_tryRemove 21 = .ok (.iaload, 1))) (sb_cons (sd_iconst (by decide +kernel : decode cX8_tryRemove 22 = .ok (.iconst 1, 1)) ⟨by decide, by decide⟩) (sb_cons (sd_isub (by decide +kernel : decode cX8_tryRemove 23 = .ok (.isub, 1))) (sb_cons (sd_iastore (by decide +kernel : decode cX8_tryRemove 24 = .ok (.iastore, 1))) (sb_cons (sd_bipush (by decide +kernel : decode cX8_tryRemove 25 = .ok (.bipush 17, 2)) ⟨by decide, by decide⟩ (by decide)) (sb_cons (sd_iconst (by decide +kernel : decode cX8_tryRemove 27 = .ok (.iconst 5, 1)) ⟨by decide, by decide⟩) (sb_cons (sd_iload_n (by decide +kernel : decode cX8_tryRemove 28 = .ok (.iload_n 1, 1)) rfl) (sb_cons (sd_imul (by decide +kernel : decode cX8_tryRemove 29 = .ok (.imul, 1))) (sb_cons (sd_iadd (by decide +kernel : decode cX8_tryRemove 30 = .ok (.iadd, 1))) (sb_cons (sd_istore_n (by decide +kernel : decode cX8_tryRemove 31 = .ok (.istore_n 3, 1)) rfl) (sb_cons (sd_fg) (sb_cons (sd_fg) (sb_cons (sd_fall (x := 0)) sb_nil)))))))))))))))))))
set_option maxRecDepth 100000 in
theorem sb_X8_tryRemove_32 (l : Launch) : sm_SndB l RX8 "tryRemove" cX8_tryRemove 4 1 2 32 [oI 3, oK 17, oK 5, oA 0, oGr 8 30 0, oK 1, oIl, oMul, oAdd, oGe 67, oA 0, oGr 8 30 0, oI 3, oA 0, oGr 8 30 0, oI 3, oK 5, oAdd, oIl, oIst, oInc 3 1, oFg 1, oFg 2, oGo 32] := sb_cons (sd_iload_n (by decide +kernel : decode cX8_tryRemove 32 = .ok (.iload_n 3, 1)) rfl) (sb_cons (sd_bipush (by decide +kernel : decode cX8_tryRemove 33 = .ok (.bipush 17, 2)) ⟨by decide, by decide⟩ (by decide)) (sb_cons (sd_iconst (by decide +kernel : decode cX8_tryRemove 35 = .ok (.iconst 5, 1)) ⟨by decide, by decide⟩) (sb_cons (sd_aload_n (by decide +kernel : decode cX8_tryRemove 36 = .ok (.aload_n 0, 1)) rfl) (sb_cons (sd_getr (k := 0) kl_8 (by decide) rfl wm_673 (by decide +kernel : decode cX8_tryRemove 37 = .ok (.getfield 7, 3))) (sb_cons (sd_iconst (by decide +kernel : decode cX8_tryRemove 40 = .ok (.iconst 1, 1)) ⟨by decide, by decide⟩) (sb_cons (sd_iaload (by decide +kernel : decode cX8_tryRemove 41 = .ok (.iaload, 1))) (sb_cons (sd_imul (by decide +kernel : decode cX8_tryRemove 42 = .ok (.imul, 1))) (sb_cons (sd_iadd (by decide +kernel : decode cX8_tryRemove 43 = .ok (.iadd, 1))) (sb_cons (sd_ge (by decide +kernel : decode cX8_tryRemove 44 = .ok (.if_icmp .ge 23, 3)) (by decide)) (sb_cons (sd_aload_n (by decide +kernel : decode cX8_tryRemove 47 = .ok (.aload_n 0, 1)) rfl) (sb_cons (sd_getr (k := 0) kl_8 (by decide) rfl wm_673 (by decide +kernel : decode cX8_tryRemove 48 = .ok (.getfield 7, 3))) (sb_cons (sd_iload_n (by decide +kernel : decode cX8_tryRemove 51 = .ok (.iload_n 3, 1)) rfl) (sb_cons (sd_aload_n (by decide +kernel : decode cX8_tryRemove 52 = .ok (.aload_n 0, 1)) rfl) (sb_cons (sd_getr (k := 0) kl_8 (by decide) rfl wm_673 (by decide +kernel : decode cX8_tryRemove 53 = .ok (.getfield 7, 3))) (sb_cons (sd_iload_n (by decide +kernel : decode cX8_tryRemove 56 = .ok (.iload_n 3, 1)) rfl) (sb_cons (sd_iconst (by decide +kernel : decode cX8_tryRemove 57 = .ok (.iconst 5, 1)) ⟨by decide, by decide⟩) (sb_cons (sd_iadd (by decide +kernel : decode cX8_tryRemove 58 = .ok (.iadd, 1))) (sb_cons (sd_iaload (by decide +kernel : decode cX8_tryRemove 59 = .ok (.iaload, 1))) (sb_cons (sd_iastore (by decide +kernel : decode cX8_tryRemove 60 = .ok (.iastore, 1))) (sb_cons (sd_iinc (by decide +kernel : decode cX8_tryRemove 61 = .ok (.iinc 3 1, 3))) (sb_cons (sd_fg) (sb_cons (sd_fg) (sb_cons (sd_goto (x := 0) (by decide +kernel : decode cX8_tryRemove 64 = .ok (.goto (-32), 3)) (by decide)) sb_nil)))))))))))))))))))))))
set_option maxRecDepth 100000 in
theorem sb_X8_tryRemove_67 (l : Launch) : sm_SndB l RX8 "tryRemove" cX8_tryRemove 4 1 2 67 [oA 0, oGr 8 30 0, oK 1, oIl, oIr] := sb_cons (sd_aload_n (by decide +kernel : decode cX8_tryRemove 67 = .ok (.aload_n 0, 1)) rfl) (sb_cons (sd_getr (k := 0) kl_8 (by decide) rfl wm_673 (by decide +kernel : decode cX8_tryRemove 68 = .ok (.getfield 7, 3))) (sb_cons (sd_iconst (by decide +kernel : decode cX8_tryRemove 71 = .ok (.iconst 1, 1)) ⟨by decide, by decide⟩) (sb_cons (sd_iaload (by decide +kernel : decode cX8_tryRemove 72 = .ok (.iaload, 1))) (sb_cons (sd_ireturn (x := 0) rfl (by decide +kernel : decode cX8_tryRemove 73 = .ok (.ireturn, 1))) sb_nil))))
theorem sn_X8_tryRemove (l : Launch) : sm_SndT l RX8 "tryRemove" cX8_tryRemove 4 1 2 tb_X8_tryRemove := st_cons (sb_X8_tryRemove_0 l) (st_cons (sb_X8_tryRemove_10 l) (st_cons (sb_X8_tryRemove_32 l) (st_cons (sb_X8_tryRemove_67 l) (st_nil))))
set_option maxRecDepth 100000 in
set_option maxHeartbeats 4000000 in
theorem ok_X8_tryRemove : sm_Ok tb_X8_tryRemove 4 0 0 p_X8_tryRemove f_X8_tryRemove := by
  intro as w hp ha hw
  match as, hp with
  | [.inr (.inl m), .inl x, .inl b], hp =>
  refine ⟨Nat.le_of_ble_eq_true rfl, fun Z hZ => ?_⟩
  obtain ⟨rfl, ⟨hT, hv⟩, hH⟩ := hp
  have hO : mOK w := ⟨hT, hv⟩
  have hm := vOK_many hv
  have hT2 := (mKf_keep (w := w) b).2 hT
  have ha := mKf_at w b
  by_cases hok : 0 ≤ x ∧ x < wI w 155 1
  · have hl := sm_loopI Z 32 (17 + 5 * x) (17 + 5 * (wI w 155 1 - 1)) (fun i => [some (.inr (.inl 154)), none, none, some (.inl i)]) (fun i => itI (mRm1 x) (wsI (mKf w b) 155 1 (wI w 155 1 - 1)) (i - (17 + 5 * x))) 0 0 (by omega) (fun i h0 h1 ih => by
      obtain ⟨j1, j2⟩ := mRmL x hok.1 (wsI (mKf w b) 155 1 (wI w 155 1 - 1)) (i - (17 + 5 * x)) (by omega)
      have hT := j2 (sT_wsI hT2)
      rw [show i + 1 - (17 + 5 * x) = i - (17 + 5 * x) + 1 by omega, itI_s _ _ (by omega)] at ih
      rw [wI_wsI, if_pos ⟨rfl, rfl⟩] at j1
      have he : i = 17 + 5 * (wI w 155 1 - 1) → itI (mRm1 x) (wsI (mKf w b) 155 1 (wI w 155 1 - 1)) (i - (17 + 5 * x)) = mRm w x b := fun e => by
        unfold mRm
        rw [show i - (17 + 5 * x) = 5 * (wI w 155 1 - 1) - 5 * x by omega]
      generalize itI (mRm1 x) (wsI (mKf w b) 155 1 (wI w 155 1 - 1)) (i - (17 + 5 * x)) = u at *
      unfold mRm1 at ih
      rw [show 17 + 5 * x + (i - (17 + 5 * x)) = i by omega] at ih
      refine hZ (fun u => Nat.beq u 32) 14 32 _ _ _ _ _ ?_
      simp only [sm_run, sm_blk, sm_get, sm_ent, sm_ents, sm_wds, sm_wd, sm_nl, sm_pop, sm_back, sm_cases, oK, oLK, oL, oI, oA, oJ, oIs, oAs, oJs, oInc, oAdd, oSub, oMul, oDiv, oRem, oNeg, oAnd, oAndB, oOr, oShl, oI2c, oI2l, oL2i, oLand, oLor, oLshl, oLshr, oLushr, oLcmp, oDup, oDup2, oPop, oGo, oFg, oEq, oNe, oLt, oGe, oGt, oLe, oEq0, oNe0, oLt0, oGe0, oGt0, oLe0, oSw, oGi, oGr, oPi, oPz, oPr, oLen, oIl, oZl, oCl, oRl, oIst, oZst, oCst, oRst, oCopy, oNew, oNa, oNa2, oObj, oCs, oCv, oCi, oIr, oZr, oVr, Nat.beq, List.getElem?_cons_zero, List.getElem?_cons_succ, List.set_cons_zero, List.set_cons_succ, List.length_cons, List.length_nil, List.nil_append, List.cons_append, List.append_nil, List.replicate_succ, List.replicate_zero, Nat.reduceAdd, Nat.reduceSub, Nat.reduceLT, Nat.reduceLeDiff, Nat.reduceBEq, true_and, and_true, Nat.zero_add, Nat.add_zero, Nat.le_refl, Option.some.injEq, exists_eq_left', true_or, or_true, or_false, false_or, reduceCtorEq, Prod.mk.injEq, Sum.inl.injEq, and_self, false_and, and_false, not_true_eq_false, not_false_eq_true, false_implies, true_implies, sm_r, Int.add_zero, Int.zero_add, wI_wsI, wS_wsI, wR_wsI, wI_wCp, wS_wCp, wR_wCp, Nat.reduceEqDiff, reduceIte, sT_iff, sT_iffC, wIf_ne, ne_eq, Bool.false_or, Bool.true_or, Bool.or_false, Bool.or_true, Bool.or_self, tb_X8_tryRemove, p_X8_isShuttle, p_X8_keepIf, f_X8_isShuttle, f_X8_keepIf, p_X8_tryRemove, f_X8_tryRemove, sS_154 hT, sR_154_0 hT, sS_155 hT, hT, j1, if_pos hok]
      repeat' (first | exact True.intro | with_reducible assumption | with_reducible refine And.intro ?_ ?_ | intro _)
      all_goals first
        | omega
        | assumption
        | rfl
        | (split <;> omega)
        | (have k9 := ih (by omega)
           (repeat' split at k9) <;> first | exact k9 | omega)
        | (have k9 := ih2 (by omega)
           (repeat' split at k9) <;> first | exact k9 | omega)
        | exact he (by omega)
        | (congr 1; omega)
        | (rw [if_pos (by omega)] at he; exact he)
        | exact hD1 (by omega)
        | exact hD2 (by omega)
        | grind
        | skip
      )
    rw [Int.sub_self, itI_0] at hl
    refine hZ (fun u => Nat.beq u 32) 14 0 _ _ _ _ _ ?_
    simp only [sm_run, sm_blk, sm_get, sm_ent, sm_ents, sm_wds, sm_wd, sm_nl, sm_pop, sm_back, sm_cases, oK, oLK, oL, oI, oA, oJ, oIs, oAs, oJs, oInc, oAdd, oSub, oMul, oDiv, oRem, oNeg, oAnd, oAndB, oOr, oShl, oI2c, oI2l, oL2i, oLand, oLor, oLshl, oLshr, oLushr, oLcmp, oDup, oDup2, oPop, oGo, oFg, oEq, oNe, oLt, oGe, oGt, oLe, oEq0, oNe0, oLt0, oGe0, oGt0, oLe0, oSw, oGi, oGr, oPi, oPz, oPr, oLen, oIl, oZl, oCl, oRl, oIst, oZst, oCst, oRst, oCopy, oNew, oNa, oNa2, oObj, oCs, oCv, oCi, oIr, oZr, oVr, Nat.beq, List.getElem?_cons_zero, List.getElem?_cons_succ, List.set_cons_zero, List.set_cons_succ, List.length_cons, List.length_nil, List.nil_append, List.cons_append, List.append_nil, List.replicate_succ, List.replicate_zero, Nat.reduceAdd, Nat.reduceSub, Nat.reduceLT, Nat.reduceLeDiff, Nat.reduceBEq, true_and, and_true, Nat.zero_add, Nat.add_zero, Nat.le_refl, Option.some.injEq, exists_eq_left', true_or, or_true, or_false, false_or, reduceCtorEq, Prod.mk.injEq, Sum.inl.injEq, and_self, false_and, and_false, not_true_eq_false, not_false_eq_true, false_implies, true_implies, sm_r, Int.add_zero, Int.zero_add, wI_wsI, wS_wsI, wR_wsI, wI_wCp, wS_wCp, wR_wCp, Nat.reduceEqDiff, reduceIte, sT_iff, sT_iffC, wIf_ne, ne_eq, Bool.false_or, Bool.true_or, Bool.or_false, Bool.or_true, Bool.or_self, tb_X8_tryRemove, p_X8_isShuttle, p_X8_keepIf, f_X8_isShuttle, f_X8_keepIf, p_X8_tryRemove, f_X8_tryRemove, sS_154 hT, hT, hH, hO, sS_154 hT2, sR_154_0 hT2, sS_155 hT2, ha, b01, if_pos hok]
    repeat' (first | exact True.intro | with_reducible assumption | with_reducible refine And.intro ?_ ?_ | intro _)
    all_goals first
      | omega
      | assumption
      | rfl
      | (split <;> omega)
      | (have k9 := ih (by omega)
         (repeat' split at k9) <;> first | exact k9 | omega)
      | (have k9 := ih2 (by omega)
         (repeat' split at k9) <;> first | exact k9 | omega)
      | exact he (by omega)
      | (congr 1; omega)
      | (rw [if_pos (by omega)] at he; exact he)
      | exact hD1 (by omega)
      | exact hD2 (by omega)
      | skip
  · skip
    refine hZ (fun u => Nat.beq u 32) 14 0 _ _ _ _ _ ?_
    simp only [sm_run, sm_blk, sm_get, sm_ent, sm_ents, sm_wds, sm_wd, sm_nl, sm_pop, sm_back, sm_cases, oK, oLK, oL, oI, oA, oJ, oIs, oAs, oJs, oInc, oAdd, oSub, oMul, oDiv, oRem, oNeg, oAnd, oAndB, oOr, oShl, oI2c, oI2l, oL2i, oLand, oLor, oLshl, oLshr, oLushr, oLcmp, oDup, oDup2, oPop, oGo, oFg, oEq, oNe, oLt, oGe, oGt, oLe, oEq0, oNe0, oLt0, oGe0, oGt0, oLe0, oSw, oGi, oGr, oPi, oPz, oPr, oLen, oIl, oZl, oCl, oRl, oIst, oZst, oCst, oRst, oCopy, oNew, oNa, oNa2, oObj, oCs, oCv, oCi, oIr, oZr, oVr, Nat.beq, List.getElem?_cons_zero, List.getElem?_cons_succ, List.set_cons_zero, List.set_cons_succ, List.length_cons, List.length_nil, List.nil_append, List.cons_append, List.append_nil, List.replicate_succ, List.replicate_zero, Nat.reduceAdd, Nat.reduceSub, Nat.reduceLT, Nat.reduceLeDiff, Nat.reduceBEq, true_and, and_true, Nat.zero_add, Nat.add_zero, Nat.le_refl, Option.some.injEq, exists_eq_left', true_or, or_true, or_false, false_or, reduceCtorEq, Prod.mk.injEq, Sum.inl.injEq, and_self, false_and, and_false, not_true_eq_false, not_false_eq_true, false_implies, true_implies, sm_r, Int.add_zero, Int.zero_add, wI_wsI, wS_wsI, wR_wsI, wI_wCp, wS_wCp, wR_wCp, Nat.reduceEqDiff, reduceIte, sT_iff, sT_iffC, wIf_ne, ne_eq, Bool.false_or, Bool.true_or, Bool.or_false, Bool.or_true, Bool.or_self, tb_X8_tryRemove, p_X8_isShuttle, p_X8_keepIf, f_X8_isShuttle, f_X8_keepIf, p_X8_tryRemove, f_X8_tryRemove, sS_154 hT, hT, hH, hO, b01, if_neg hok]
    repeat' (first | exact True.intro | with_reducible assumption | with_reducible refine And.intro ?_ ?_ | intro _)
    all_goals first
      | omega
      | assumption
      | rfl
      | (split <;> omega)
      | (have k9 := ih (by omega)
         (repeat' split at k9) <;> first | exact k9 | omega)
      | (have k9 := ih2 (by omega)
         (repeat' split at k9) <;> first | exact k9 | omega)
      | exact he (by omega)
      | (congr 1; omega)
      | (rw [if_pos (by omega)] at he; exact he)
      | exact hD1 (by omega)
      | exact hD2 (by omega)
      | grind
      | skip
theorem met_X8_tryRemove (l : Launch) : sm_Met l yX8_tryRemove cX8_tryRemove 4 (some .int) 2 0 0 p_X8_tryRemove f_X8_tryRemove := sm_met 1 (Or.inr (Or.inl ⟨rfl, rfl⟩)) (by decide +kernel) (sn_X8_tryRemove l) ok_X8_tryRemove
def p_X8_first : List sm_V → sm_W → Prop
  | [.inr (.inl m), .inl v], w => m = 154 ∧ sT w ∧ mH w
  | _, _ => False
def f_X8_first : sm_F
  | [.inr (.inl m), .inl v], w => (some (.inl (if 0 ≤ v ∧ v ≤ 2 then wI w 155 0 else -2)), (if 0 ≤ v ∧ v ≤ 2 then wsI (mKeep w) 155 0 v else w))
  | _, w => (none, w)
def tb_X8_first : List (Nat × List sm_O) := [(0, [oI 1, oK 0, oK 2, oCs p_X8_in f_X8_in 0 0 3, oNe0 12, oK (-2), oIr]),
  (12, [oA 0, oCv 8 30 p_X8_keep f_X8_keep 0 0 1, oA 0, oGr 8 30 0, oK 0, oIl, oIs 2, oA 0, oGr 8 30 0, oK 0, oI 1, oIst, oI 2, oIr])]
set_option maxRecDepth 100000 in
theorem sb_X8_first_0 (l : Launch) : sm_SndB l RX8 "first" cX8_first 3 1 1 0 [oI 1, oK 0, oK 2, oCs p_X8_in f_X8_in 0 0 3, oNe0 12, oK (-2), oIr] := sb_cons (sd_iload_n (by decide +kernel : decode cX8_first 0 = .ok (.iload_n 1, 1)) rfl) (sb_cons (sd_iconst (by decide +kernel : decode cX8_first 1 = .ok (.iconst 0, 1)) ⟨by decide, by decide⟩) (sb_cons (sd_iconst (by decide +kernel : decode cX8_first 2 = .ok (.iconst 2, 1)) ⟨by decide, by decide⟩) (sb_cons (sd_calls (n := 3) (met_X8_in l) (by decide) (by decide) wm_710 wm_708 wm_10 ⟨by decide +kernel, by decide +kernel, by decide +kernel⟩ wm_709 (by decide +kernel : decode cX8_first 3 = .ok (.invokestatic 74, 3))) (sb_cons (sd_ne0 (by decide +kernel : decode cX8_first 6 = .ok (.ifCond .ne 6, 3)) (by decide)) (sb_cons (sd_bipush (by decide +kernel : decode cX8_first 9 = .ok (.bipush (-2), 2)) ⟨by decide, by decide⟩ (by decide)) (sb_cons (sd_ireturn (x := 0) rfl (by decide +kernel : decode cX8_first 11 = .ok (.ireturn, 1))) sb_nil))))))
set_option maxRecDepth 100000 in
theorem sb_X8_first_12 (l : Launch) : sm_SndB l RX8 "first" cX8_first 3 1 1 12 [oA 0, oCv 8 30 p_X8_keep f_X8_keep 0 0 1, oA 0, oGr 8 30 0, oK 0, oIl, oIs 2, oA 0, oGr 8 30 0, oK 0, oI 1, oIst, oI 2, oIr] := sb_cons (sd_aload_n (by decide +kernel : decode cX8_first 12 = .ok (.aload_n 0, 1)) rfl) (sb_cons (sd_callv (n := 0) (met_X8_keep l) (by decide) (by decide) wm_714 wm_712 wm_10 ⟨by decide +kernel, by decide +kernel, by decide +kernel⟩ kl_8 wm_713 wm_1104 (by decide +kernel : decode cX8_first 13 = .ok (.invokevirtual 89, 3))) (sb_cons (sd_aload_n (by decide +kernel : decode cX8_first 16 = .ok (.aload_n 0, 1)) rfl) (sb_cons (sd_getr (k := 0) kl_8 (by decide) rfl wm_673 (by decide +kernel : decode cX8_first 17 = .ok (.getfield 7, 3))) (sb_cons (sd_iconst (by decide +kernel : decode cX8_first 20 = .ok (.iconst 0, 1)) ⟨by decide, by decide⟩) (sb_cons (sd_iaload (by decide +kernel : decode cX8_first 21 = .ok (.iaload, 1))) (sb_cons (sd_istore_n (by decide +kernel : decode cX8_first 22 = .ok (.istore_n 2, 1)) rfl) (sb_cons (sd_aload_n (by decide +kernel : decode cX8_first 23 = .ok (.aload_n 0, 1)) rfl) (sb_cons (sd_getr (k := 0) kl_8 (by decide) rfl wm_673 (by decide +kernel : decode cX8_first 24 = .ok (.getfield 7, 3))) (sb_cons (sd_iconst (by decide +kernel : decode cX8_first 27 = .ok (.iconst 0, 1)) ⟨by decide, by decide⟩) (sb_cons (sd_iload_n (by decide +kernel : decode cX8_first 28 = .ok (.iload_n 1, 1)) rfl) (sb_cons (sd_iastore (by decide +kernel : decode cX8_first 29 = .ok (.iastore, 1))) (sb_cons (sd_iload_n (by decide +kernel : decode cX8_first 30 = .ok (.iload_n 2, 1)) rfl) (sb_cons (sd_ireturn (x := 0) rfl (by decide +kernel : decode cX8_first 31 = .ok (.ireturn, 1))) sb_nil)))))))))))))
theorem sn_X8_first (l : Launch) : sm_SndT l RX8 "first" cX8_first 3 1 1 tb_X8_first := st_cons (sb_X8_first_0 l) (st_cons (sb_X8_first_12 l) (st_nil))
set_option maxRecDepth 100000 in
set_option maxHeartbeats 4000000 in
theorem ok_X8_first : sm_Ok tb_X8_first 3 0 0 p_X8_first f_X8_first := by
  intro as w hp ha hw
  match as, hp with
  | [.inr (.inl m), .inl v], hp =>
  refine ⟨Nat.le_of_ble_eq_true rfl, fun Z hZ => ?_⟩
  obtain ⟨rfl, hT, hH⟩ := hp
  have hT2 := (mKeep_keep (w := w)).2 hT
  have ha : wI (mKeep w) 155 = wI w 155 := mKeep_keep.1 _ (by decide) (by decide)
  refine hZ (fun _ => false) 16 0 _ _ _ _ _ ?_
  simp only [sm_run, sm_blk, sm_get, sm_ent, sm_ents, sm_wds, sm_wd, sm_nl, sm_pop, sm_back, sm_cases, oK, oLK, oL, oI, oA, oJ, oIs, oAs, oJs, oInc, oAdd, oSub, oMul, oDiv, oRem, oNeg, oAnd, oAndB, oOr, oShl, oI2c, oI2l, oL2i, oLand, oLor, oLshl, oLshr, oLushr, oLcmp, oDup, oDup2, oPop, oGo, oFg, oEq, oNe, oLt, oGe, oGt, oLe, oEq0, oNe0, oLt0, oGe0, oGt0, oLe0, oSw, oGi, oGr, oPi, oPz, oPr, oLen, oIl, oZl, oCl, oRl, oIst, oZst, oCst, oRst, oCopy, oNew, oNa, oNa2, oObj, oCs, oCv, oCi, oIr, oZr, oVr, Nat.beq, List.getElem?_cons_zero, List.getElem?_cons_succ, List.set_cons_zero, List.set_cons_succ, List.length_cons, List.length_nil, List.nil_append, List.cons_append, List.append_nil, List.replicate_succ, List.replicate_zero, Nat.reduceAdd, Nat.reduceSub, Nat.reduceLT, Nat.reduceLeDiff, Nat.reduceBEq, true_and, and_true, Nat.zero_add, Nat.add_zero, Nat.le_refl, Option.some.injEq, exists_eq_left', true_or, or_true, or_false, false_or, reduceCtorEq, Prod.mk.injEq, Sum.inl.injEq, and_self, false_and, and_false, not_true_eq_false, not_false_eq_true, false_implies, true_implies, sm_r, Int.add_zero, Int.zero_add, wI_wsI, wS_wsI, wR_wsI, wI_wCp, wS_wCp, wR_wCp, Nat.reduceEqDiff, reduceIte, sT_iff, sT_iffC, wIf_ne, ne_eq, Bool.false_or, Bool.true_or, Bool.or_false, Bool.or_true, Bool.or_self, tb_X8_first, p_X8_in, p_X8_keep, f_X8_in, f_X8_keep, p_X8_first, f_X8_first, sS_154 hT, hT, hH, b01, sS_154 hT2, sR_154_0 hT2, sS_155 hT2, ha]
  repeat' (first | exact True.intro | with_reducible assumption | with_reducible refine And.intro ?_ ?_ | intro _)
  all_goals first
    | omega
    | assumption
    | rfl
    | (split <;> omega)
    | grind
    | skip

theorem met_X8_first (l : Launch) : sm_Met l yX8_first cX8_first 3 (some .int) 1 0 0 p_X8_first f_X8_first := sm_met 1 (Or.inr (Or.inl ⟨rfl, rfl⟩)) (by decide +kernel) (sn_X8_first l) ok_X8_first