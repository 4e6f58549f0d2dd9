/-! THE REFERENCE: what if -/
theorem mGd0_of {w u : sm_W} (h : mGd0 w) (hT : sT u) (hv : vOK (wI u 155)) (ho : ∀ a, a ≠ 155 → a ≠ 159 → a ≠ 171 → a ≠ 172 → wI u a = wI w a) : mGd0 u := by
  obtain ⟨hO, h01, hZ, hR⟩ := h
  have f := fun a (h : a = 154 ∨ a = 163 ∨ a = 164 ∨ a = 165 ∨ a = 168 ∨ a = 169) => ho a (by omega) (by omega) (by omega) (by omega)
  refine ⟨⟨hT, hv⟩, by rw [f 154 (by decide)]; exact h01, mZ_same (f 168 (by decide)) (f 169 (by decide)) hZ, ?_⟩
  unfold mRec mCtr at *
  rw [f 163 (by decide), f 165 (by decide), f 164 (by decide), f 169 (by decide), f 168 (by decide)]
  exact hR
def mAs0 (w : sm_W) : sm_W := itI (mCpA 155 159) w 57
theorem mAs0_in (w : sm_W) : (∀ a, a ≠ 159 → wI (mAs0 w) a = wI w a) ∧ (sT w → sT (mAs0 w)) := mCpAL w 57 (by decide)
def mBack (w : sm_W) : sm_W := itI (mCpA 159 155) w 57
theorem mBack_in (w : sm_W) : (∀ a, a ≠ 155 → wI (mBack w) a = wI w a) ∧ (sT w → sT (mBack w)) := mCpAL w 57 (by decide)
def mIfL (w : sm_W) (x v : Int) : sm_W := wsI (mAs0 w) 155 (17 + 5 * x + 2) (wI w 155 (17 + 5 * x + 2) + v)
def mIfS (w : sm_W) (s v : Int) : sm_W := wsI (mAs0 w) 155 (10 + s) v
theorem mIfL_gd {w : sm_W} {x v : Int} (hG : mGd0 w) (h : ¬ mLateE w x v < 0) : mGd0 (mIfL w x v) := by
  have hx := mLateE_0 h
  have hq := vOK_sh hG.1.2 hx.1 hx.2.1
  have a := mAs0_in w
  have h5 : wI (mAs0 w) 155 = wI w 155 := a.1 155 (by decide)
  refine mGd0_of hG (sT_wsI (a.2 hG.1.1)) (vOK_sh2 (by rw [h5]; exact hG.1.2) hx.1 (by omega)) (fun b h1 h2 _ _ => ?_)
  unfold mIfL
  rw [wIf_ne h1, a.1 b h2]
theorem mIfS_gd {w : sm_W} {s v : Int} (hG : mGd0 w) (h : 0 ≤ s ∧ s ≤ 6) (h2 : 1 ≤ v ∧ v ≤ 30) : mGd0 (mIfS w s v) := by
  have a := mAs0_in w
  have h5 : wI (mAs0 w) 155 = wI w 155 := a.1 155 (by decide)
  refine mGd0_of hG (sT_wsI (a.2 hG.1.1)) (vOK_cell (by rw [h5]; exact hG.1.2) (by omega)) (fun b h1 h2 _ _ => ?_)
  unfold mIfS
  rw [wIf_ne h1, a.1 b h2]
def p_X8_delayIfLate : List sm_V → sm_W → Prop
  | [.inr (.inl m), .inl x, .inl v], w => m = 154 ∧ mGd0 w
  | _, _ => False
def f_X8_delayIfLate : sm_F
  | [.inr (.inl m), .inl x, .inl v], w => (some (.inl (if mLateE w x v < 0 then mLateE w x v else mDl (mRun (mIfL w x v)))), (if mLateE w x v < 0 then w else mBack (mRun (mIfL w x v))))
  | _, w => (none, w)
def tb_X8_delayIfLate : List (Nat × List sm_O) := [(0, [oA 0, oI 1, oI 2, oCv 8 30 p_X8_whyNotLate f_X8_whyNotLate 0 0 3, oIs 3, oI 3, oGe0 13, oI 3, oIr]),
  (13, [oA 0, oCv 8 30 p_X8_layAside f_X8_layAside 0 0 1, oA 0, oGr 8 30 0, oK 17, oK 5, oI 1, oMul, oAdd, oK 2, oAdd, oDup2, oIl, oI 2, oAdd, oIst, oA 0, oCv 8 30 p_X8_delayNow f_X8_delayNow 0 0 1, oIs 4, oA 0, oCv 8 30 p_X8_layBack f_X8_layBack 0 0 1, oI 4, oIr])]
set_option maxRecDepth 100000 in
theorem sb_X8_delayIfLate_0 (l : Launch) : sm_SndB l RX8 "delayIfLate" cX8_delayIfLate 5 1 8 0 [oA 0, oI 1, oI 2, oCv 8 30 p_X8_whyNotLate f_X8_whyNotLate 0 0 3, oIs 3, oI 3, oGe0 13, oI 3, oIr] := sb_cons (sd_aload_n (by decide +kernel : decode cX8_delayIfLate 0 = .ok (.aload_n 0, 1)) rfl) (sb_cons (sd_iload_n (by decide +kernel : decode cX8_delayIfLate 1 = .ok (.iload_n 1, 1)) rfl) (sb_cons (sd_iload_n (by decide +kernel : decode cX8_delayIfLate 2 = .ok (.iload_n 2, 1)) rfl) (sb_cons (sd_callv (n := 2) (met_X8_whyNotLate l) (by decide) (by decide) wm_770 wm_768 wm_10 ⟨by decide +kernel, by decide +kernel, by decide +kernel⟩ kl_8 wm_769 wm_1111 (by decide +kernel : decode cX8_delayIfLate 3 = .ok (.invokevirtual 201, 3))) (sb_cons (sd_istore_n (by decide +kernel : decode cX8_delayIfLate 6 = .ok (.istore_n 3, 1)) rfl) (sb_cons (sd_iload_n (by decide +kernel : decode cX8_delayIfLate 7 = .ok (.iload_n 3, 1)) rfl) (sb_cons (sd_ge0 (by decide +kernel : decode cX8_delayIfLate 8 = .ok (.ifCond .ge 5, 3)) (by decide)) (sb_cons (sd_iload_n (by decide +kernel : decode cX8_delayIfLate 11 = .ok (.iload_n 3, 1)) rfl) (sb_cons (sd_ireturn (x := 0) rfl (by decide +kernel : decode cX8_delayIfLate 12 = .ok (.ireturn, 1))) sb_nil))))))))
set_option maxRecDepth 100000 in
theorem sb_X8_delayIfLate_13 (l : Launch) : sm_SndB l RX8 "delayIfLate" cX8_delayIfLate 5 1 8 13 [oA 0, oCv 8 30 p_X8_layAside f_X8_layAside 0 0 1, oA 0, oGr 8 30 0, oK 17, oK 5, oI 1, oMul, oAdd, oK 2, oAdd, oDup2, oIl, oI 2, oAdd, oIst, oA 0, oCv 8 30 p_X8_delayNow f_X8_delayNow 0 0 1, oIs 4, oA 0, oCv 8 30 p_X8_layBack f_X8_layBack 0 0 1, oI 4, oIr] := sb_cons (sd_aload_n (by decide +kernel : decode cX8_delayIfLate 13 = .ok (.aload_n 0, 1)) rfl) (sb_cons (sd_callv (n := 0) (met_X8_layAside l) (by decide) (by decide) wm_972 wm_970 wm_10 ⟨by decide +kernel, by decide +kernel, by decide +kernel⟩ kl_8 wm_971 wm_1148 (by decide +kernel : decode cX8_delayIfLate 14 = .ok (.invokevirtual 250, 3))) (sb_cons (sd_aload_n (by decide +kernel : decode cX8_delayIfLate 17 = .ok (.aload_n 0, 1)) rfl) (sb_cons (sd_getr (k := 0) kl_8 (by decide) rfl wm_673 (by decide +kernel : decode cX8_delayIfLate 18 = .ok (.getfield 7, 3))) (sb_cons (sd_bipush (by decide +kernel : decode cX8_delayIfLate 21 = .ok (.bipush 17, 2)) ⟨by decide, by decide⟩ (by decide)) (sb_cons (sd_iconst (by decide +kernel : decode cX8_delayIfLate 23 = .ok (.iconst 5, 1)) ⟨by decide, by decide⟩) (sb_cons (sd_iload_n (by decide +kernel : decode cX8_delayIfLate 24 = .ok (.iload_n 1, 1)) rfl) (sb_cons (sd_imul (by decide +kernel : decode cX8_delayIfLate 25 = .ok (.imul, 1))) (sb_cons (sd_iadd (by decide +kernel : decode cX8_delayIfLate 26 = .ok (.iadd, 1))) (sb_cons (sd_iconst (by decide +kernel : decode cX8_delayIfLate 27 = .ok (.iconst 2, 1)) ⟨by decide, by decide⟩) (sb_cons (sd_iadd (by decide +kernel : decode cX8_delayIfLate 28 = .ok (.iadd, 1))) (sb_cons (sd_dup2 (by decide +kernel : decode cX8_delayIfLate 29 = .ok (.dup2, 1))) (sb_cons (sd_iaload (by decide +kernel : decode cX8_delayIfLate 30 = .ok (.iaload, 1))) (sb_cons (sd_iload_n (by decide +kernel : decode cX8_delayIfLate 31 = .ok (.iload_n 2, 1)) rfl) (sb_cons (sd_iadd (by decide +kernel : decode cX8_delayIfLate 32 = .ok (.iadd, 1))) (sb_cons (sd_iastore (by decide +kernel : decode cX8_delayIfLate 33 = .ok (.iastore, 1))) (sb_cons (sd_aload_n (by decide +kernel : decode cX8_delayIfLate 34 = .ok (.aload_n 0, 1)) rfl) (sb_cons (sd_callv (n := 0) (met_X8_delayNow l) (by decide) (by decide) wm_976 wm_974 wm_10 ⟨by decide +kernel, by decide +kernel, by decide +kernel⟩ kl_8 wm_975 wm_1149 (by decide +kernel : decode cX8_delayIfLate 35 = .ok (.invokevirtual 253, 3))) (sb_cons (sd_istore (by decide +kernel : decode cX8_delayIfLate 38 = .ok (.istore 4, 2))) (sb_cons (sd_aload_n (by decide +kernel : decode cX8_delayIfLate 40 = .ok (.aload_n 0, 1)) rfl) (sb_cons (sd_callv (n := 0) (met_X8_layBack l) (by decide) (by decide) wm_980 wm_978 wm_10 ⟨by decide +kernel, by decide +kernel, by decide +kernel⟩ kl_8 wm_979 wm_1150 (by decide +kernel : decode cX8_delayIfLate 41 = .ok (.invokevirtual 256, 3))) (sb_cons (sd_iload (by decide +kernel : decode cX8_delayIfLate 44 = .ok (.iload 4, 2))) (sb_cons (sd_ireturn (x := 0) rfl (by decide +kernel : decode cX8_delayIfLate 46 = .ok (.ireturn, 1))) sb_nil))))))))))))))))))))))
theorem sn_X8_delayIfLate (l : Launch) : sm_SndT l RX8 "delayIfLate" cX8_delayIfLate 5 1 8 tb_X8_delayIfLate := st_cons (sb_X8_delayIfLate_0 l) (st_cons (sb_X8_delayIfLate_13 l) (st_nil))
set_option maxRecDepth 100000 in
set_option maxHeartbeats 4000000 in
theorem ok_X8_delayIfLate : sm_Ok tb_X8_delayIfLate 5 0 0 p_X8_delayIfLate f_X8_delayIfLate := by
  intro as w hp ha hw
  match as, hp with
  | [.inr (.inl m), .inl x, .inl v], hp =>
  refine ⟨Nat.le_of_ble_eq_true rfl, fun Z hZ => ?_⟩
  obtain ⟨rfl, hG⟩ := hp
  have hO := hG.1
  have hT := hO.1
  have hm := vOK_many hO.2
  have hT1 := (mAs0_in w).2 hT
  have h5 : wI (mAs0 w) 155 = wI w 155 := (mAs0_in w).1 155 (by decide)
  have hf : itI (mCpA 155 159) w 57 = mAs0 w := rfl
  by_cases hok : mLateE w x v < 0
  · skip
    refine hZ (fun _ => false) 16 0 _ _ _ _ _ ?_
    simp only [sm_run, sm_blk, sm_get, sm_ent, sm_ents, sm_wds, sm_wd, sm_nl, sm_pop, sm_back, sm_cases, oK, oLK, oL, oI, oA, oJ, oIs, oAs, oJs, oInc, oAdd, oSub, oMul, oDiv, oRem, oNeg, oAnd, oAndB, oOr, oShl, oI2c, oI2l, oL2i, oLand, oLor, oLshl, oLshr, oLushr, oLcmp, oDup, oDup2, oPop, oGo, oFg, oEq, oNe, oLt, oGe, oGt, oLe, oEq0, oNe0, oLt0, oGe0, oGt0, oLe0, oSw, oGi, oGr, oPi, oPz, oPr, oLen, oIl, oZl, oCl, oRl, oIst, oZst, oCst, oRst, oCopy, oNew, oNa, oNa2, oObj, oCs, oCv, oCi, oIr, oZr, oVr, Nat.beq, List.getElem?_cons_zero, List.getElem?_cons_succ, List.set_cons_zero, List.set_cons_succ, List.length_cons, List.length_nil, List.nil_append, List.cons_append, List.append_nil, List.replicate_succ, List.replicate_zero, Nat.reduceAdd, Nat.reduceSub, Nat.reduceLT, Nat.reduceLeDiff, Nat.reduceBEq, true_and, and_true, Nat.zero_add, Nat.add_zero, Nat.le_refl, Option.some.injEq, exists_eq_left', true_or, or_true, or_false, false_or, reduceCtorEq, Prod.mk.injEq, Sum.inl.injEq, and_self, false_and, and_false, not_true_eq_false, not_false_eq_true, false_implies, true_implies, sm_r, Int.add_zero, Int.zero_add, wI_wsI, wS_wsI, wR_wsI, wI_wCp, wS_wCp, wR_wCp, Nat.reduceEqDiff, reduceIte, sT_iff, sT_iffC, wIf_ne, ne_eq, Bool.false_or, Bool.true_or, Bool.or_false, Bool.or_true, Bool.or_self, tb_X8_delayIfLate, p_X8_delayNow, p_X8_layAside, p_X8_layBack, p_X8_whyNotLate, f_X8_delayNow, f_X8_layAside, f_X8_layBack, f_X8_whyNotLate, p_X8_delayIfLate, f_X8_delayIfLate, sS_154 hT, hO, if_pos hok]
    repeat' (first | exact True.intro | with_reducible assumption | with_reducible refine And.intro ?_ ?_ | intro _)
    all_goals first
      | omega
      | assumption
      | rfl
      | (split <;> omega)
      | grind
      | skip
  · have hx := mLateE_0 hok
    have hq := vOK_sh hO.2 hx.1 hx.2.1
    have hG2 := mIfL_gd hG hok
    have hR := mRun_st hG2
    have hTr := hR.1.1.1
    have he : wsI (mAs0 w) 155 (17 + 5 * x + 2) (wI w 155 (17 + 5 * x + 2) + v) = mIfL w x v := rfl
    have hb : itI (mCpA 159 155) (mRun (mIfL w x v)) 57 = mBack (mRun (mIfL w x v)) := rfl
    have hT2 := hG2.1.1
    generalize hFe : mRun (mIfL w x v) = R at *
    refine hZ (fun _ => false) 16 0 _ _ _ _ _ ?_
    simp only [sm_run, sm_blk, sm_get, sm_ent, sm_ents, sm_wds, sm_wd, sm_nl, sm_pop, sm_back, sm_cases, oK, oLK, oL, oI, oA, oJ, oIs, oAs, oJs, oInc, oAdd, oSub, oMul, oDiv, oRem, oNeg, oAnd, oAndB, oOr, oShl, oI2c, oI2l, oL2i, oLand, oLor, oLshl, oLshr, oLushr, oLcmp, oDup, oDup2, oPop, oGo, oFg, oEq, oNe, oLt, oGe, oGt, oLe, oEq0, oNe0, oLt0, oGe0, oGt0, oLe0, oSw, oGi, oGr, oPi, oPz, oPr, oLen, oIl, oZl, oCl, oRl, oIst, oZst, oCst, oRst, oCopy, oNew, oNa, oNa2, oObj, oCs, oCv, oCi, oIr, oZr, oVr, Nat.beq, List.getElem?_cons_zero, List.getElem?_cons_succ, List.set_cons_zero, List.set_cons_succ, List.length_cons, List.length_nil, List.nil_append, List.cons_append, List.append_nil, List.replicate_succ, List.replicate_zero, Nat.reduceAdd, Nat.reduceSub, Nat.reduceLT, Nat.reduceLeDiff, Nat.reduceBEq, true_and, and_true, Nat.zero_add, Nat.add_zero, Nat.le_refl, Option.some.injEq, exists_eq_left', true_or, or_true, or_false, false_or, reduceCtorEq, Prod.mk.injEq, Sum.inl.injEq, and_self, false_and, and_false, not_true_eq_false, not_false_eq_true, false_implies, true_implies, sm_r, Int.add_zero, Int.zero_add, wI_wsI, wS_wsI, wR_wsI, wI_wCp, wS_wCp, wR_wCp, Nat.reduceEqDiff, reduceIte, sT_iff, sT_iffC, wIf_ne, ne_eq, Bool.false_or, Bool.true_or, Bool.or_false, Bool.or_true, Bool.or_self, tb_X8_delayIfLate, p_X8_delayNow, p_X8_layAside, p_X8_layBack, p_X8_whyNotLate, f_X8_delayNow, f_X8_layAside, f_X8_layBack, f_X8_whyNotLate, p_X8_delayIfLate, f_X8_delayIfLate, sS_154 hT, sS_154 hT1, sR_154_0 hT1, sS_155 hT1, sS_154 hT2, sS_154 hTr, hTr, hT, hT1, hO, hG2, hf, h5, he, hb, hFe, if_neg hok]
    repeat' (first | exact True.intro | with_reducible assumption | with_reducible refine And.intro ?_ ?_ | intro _)
    all_goals first
      | omega
      | assumption
      | rfl
      | (split <;> omega)
      | grind
      | skip
theorem met_X8_delayIfLate (l : Launch) : sm_Met l yX8_delayIfLate cX8_delayIfLate 5 (some .int) 8 0 0 p_X8_delayIfLate f_X8_delayIfLate := sm_met 1 (Or.inr (Or.inl ⟨rfl, rfl⟩)) (by decide +kernel) (sn_X8_delayIfLate l) ok_X8_delayIfLate
def p_X8_delayIfSlow : List sm_V → sm_W → Prop
  | [.inr (.inl m), .inl s, .inl v], w => m = 154 ∧ mGd0 w
  | _, _ => False
def f_X8_delayIfSlow : sm_F
  | [.inr (.inl m), .inl s, .inl v], w => (some (.inl (if 0 ≤ s ∧ s ≤ 6 then (if 1 ≤ v ∧ v ≤ 30 then mDl (mRun (mIfS w s v)) else -2) else -1)), (if 0 ≤ s ∧ s ≤ 6 then (if 1 ≤ v ∧ v ≤ 30 then mBack (mRun (mIfS w s v)) else w) else w))
  | _, w => (none, w)
def tb_X8_delayIfSlow : List (Nat × List sm_O) := [(0, [oI 1, oI 2, oCs p_X8_whyNotRun f_X8_whyNotRun 0 0 2, oIs 3, oI 3, oGe0 12, oI 3, oIr]),
  (12, [oA 0, oCv 8 30 p_X8_layAside f_X8_layAside 0 0 1, oA 0, oGr 8 30 0, oK 10, oI 1, oAdd, oI 2, oIst, oA 0, oCv 8 30 p_X8_delayNow f_X8_delayNow 0 0 1, oIs 4, oA 0, oCv 8 30 p_X8_layBack f_X8_layBack 0 0 1, oI 4, oIr])]
set_option maxRecDepth 100000 in
theorem sb_X8_delayIfSlow_0 (l : Launch) : sm_SndB l RX8 "delayIfSlow" cX8_delayIfSlow 5 1 8 0 [oI 1, oI 2, oCs p_X8_whyNotRun f_X8_whyNotRun 0 0 2, oIs 3, oI 3, oGe0 12, oI 3, oIr] := sb_cons (sd_iload_n (by decide +kernel : decode cX8_delayIfSlow 0 = .ok (.iload_n 1, 1)) rfl) (sb_cons (sd_iload_n (by decide +kernel : decode cX8_delayIfSlow 1 = .ok (.iload_n 2, 1)) rfl) (sb_cons (sd_calls (n := 2) (met_X8_whyNotRun l) (by decide) (by decide) wm_748 wm_746 wm_10 ⟨by decide +kernel, by decide +kernel, by decide +kernel⟩ wm_747 (by decide +kernel : decode cX8_delayIfSlow 2 = .ok (.invokestatic 188, 3))) (sb_cons (sd_istore_n (by decide +kernel : decode cX8_delayIfSlow 5 = .ok (.istore_n 3, 1)) rfl) (sb_cons (sd_iload_n (by decide +kernel : decode cX8_delayIfSlow 6 = .ok (.iload_n 3, 1)) rfl) (sb_cons (sd_ge0 (by decide +kernel : decode cX8_delayIfSlow 7 = .ok (.ifCond .ge 5, 3)) (by decide)) (sb_cons (sd_iload_n (by decide +kernel : decode cX8_delayIfSlow 10 = .ok (.iload_n 3, 1)) rfl) (sb_cons (sd_ireturn (x := 0) rfl (by decide +kernel : decode cX8_delayIfSlow 11 = .ok (.ireturn, 1))) sb_nil)))))))
set_option maxRecDepth 100000 in
theorem sb_X8_delayIfSlow_12 (l : Launch) : sm_SndB l RX8 "delayIfSlow" cX8_delayIfSlow 5 1 8 12 [oA 0, oCv 8 30 p_X8_layAside f_X8_layAside 0 0 1, oA 0, oGr 8 30 0, oK 10, oI 1, oAdd, oI 2, oIst, oA 0, oCv 8 30 p_X8_delayNow f_X8_delayNow 0 0 1, oIs 4, oA 0, oCv 8 30 p_X8_layBack f_X8_layBack 0 0 1, oI 4, oIr] := sb_cons (sd_aload_n (by decide +kernel : decode cX8_delayIfSlow 12 = .ok (.aload_n 0, 1)) rfl) (sb_cons (sd_callv (n := 0) (met_X8_layAside l) (by decide) (by decide) wm_972 wm_970 wm_10 ⟨by decide +kernel, by decide +kernel, by decide +kernel⟩ kl_8 wm_971 wm_1148 (by decide +kernel : decode cX8_delayIfSlow 13 = .ok (.invokevirtual 250, 3))) (sb_cons (sd_aload_n (by decide +kernel : decode cX8_delayIfSlow 16 = .ok (.aload_n 0, 1)) rfl) (sb_cons (sd_getr (k := 0) kl_8 (by decide) rfl wm_673 (by decide +kernel : decode cX8_delayIfSlow 17 = .ok (.getfield 7, 3))) (sb_cons (sd_bipush (by decide +kernel : decode cX8_delayIfSlow 20 = .ok (.bipush 10, 2)) ⟨by decide, by decide⟩ (by decide)) (sb_cons (sd_iload_n (by decide +kernel : decode cX8_delayIfSlow 22 = .ok (.iload_n 1, 1)) rfl) (sb_cons (sd_iadd (by decide +kernel : decode cX8_delayIfSlow 23 = .ok (.iadd, 1))) (sb_cons (sd_iload_n (by decide +kernel : decode cX8_delayIfSlow 24 = .ok (.iload_n 2, 1)) rfl) (sb_cons (sd_iastore (by decide +kernel : decode cX8_delayIfSlow 25 = .ok (.iastore, 1))) (sb_cons (sd_aload_n (by decide +kernel : decode cX8_delayIfSlow 26 = .ok (.aload_n 0, 1)) rfl) (sb_cons (sd_callv (n := 0) (met_X8_delayNow l) (by decide) (by decide) wm_976 wm_974 wm_10 ⟨by decide +kernel, by decide +kernel, by decide +kernel⟩ kl_8 wm_975 wm_1149 (by decide +kernel : decode cX8_delayIfSlow 27 = .ok (.invokevirtual 253, 3))) (sb_cons (sd_istore (by decide +kernel : decode cX8_delayIfSlow 30 = .ok (.istore 4, 2))) (sb_cons (sd_aload_n (by decide +kernel : decode cX8_delayIfSlow 32 = .ok (.aload_n 0, 1)) rfl) (sb_cons (sd_callv (n := 0) (met_X8_layBack l) (by decide) (by decide) wm_980 wm_978 wm_10 ⟨by decide +kernel, by decide +kernel, by decide +kernel⟩ kl_8 wm_979 wm_1150 (by decide +kernel : decode cX8_delayIfSlow 33 = .ok (.invokevirtual 256, 3))) (sb_cons (sd_iload (by decide +kernel : decode cX8_delayIfSlow 36 = .ok (.iload 4, 2))) (sb_cons (sd_ireturn (x := 0) rfl (by decide +kernel : decode cX8_delayIfSlow 38 = .ok (.ireturn, 1))) sb_nil)))))))))))))))
theorem sn_X8_delayIfSlow (l : Launch) : sm_SndT l RX8 "delayIfSlow" cX8_delayIfSlow 5 1 8 tb_X8_delayIfSlow := st_cons (sb_X8_delayIfSlow_0 l) (st_cons (sb_X8_delayIfSlow_12 l) (st_nil))
set_option maxRecDepth 100000 in
set_option maxHeartbeats 4000000 in
theorem ok_X8_delayIfSlow : sm_Ok tb_X8_delayIfSlow 5 0 0 p_X8_delayIfSlow f_X8_delayIfSlow := by
  intro as w hp ha hw
  match as, hp with
  | [.inr (.inl m), .inl s, .inl v], hp =>
  refine ⟨Nat.le_of_ble_eq_true rfl, fun Z hZ => ?_⟩
  obtain ⟨rfl, hG⟩ := hp
  have hO := hG.1
  have hT := hO.1
  have hT1 := (mAs0_in w).2 hT
  have hf : itI (mCpA 155 159) w 57 = mAs0 w := rfl
  by_cases h1 : 0 ≤ s ∧ s ≤ 6
  · by_cases h2 : 1 ≤ v ∧ v ≤ 30
    · have hG2 := mIfS_gd hG h1 h2
      have hR := mRun_st hG2
      have hTr := hR.1.1.1
      have he : wsI (mAs0 w) 155 (10 + s) v = mIfS w s v := rfl
      have hb : itI (mCpA 159 155) (mRun (mIfS w s v)) 57 = mBack (mRun (mIfS w s v)) := rfl
      have hT2 := hG2.1.1
      generalize hFe : mRun (mIfS w s v) = R at *
      refine hZ (fun _ => false) 16 0 _ _ _ _ _ ?_
      simp only [sm_run, sm_blk, sm_get, sm_ent, sm_ents, sm_wds, sm_wd, sm_nl, sm_pop, sm_back, sm_cases, oK, oLK, oL, oI, oA, oJ, oIs, oAs, oJs, oInc, oAdd, oSub, oMul, oDiv, oRem, oNeg, oAnd, oAndB, oOr, oShl, oI2c, oI2l, oL2i, oLand, oLor, oLshl, oLshr, oLushr, oLcmp, oDup, oDup2, oPop, oGo, oFg, oEq, oNe, oLt, oGe, oGt, oLe, oEq0, oNe0, oLt0, oGe0, oGt0, oLe0, oSw, oGi, oGr, oPi, oPz, oPr, oLen, oIl, oZl, oCl, oRl, oIst, oZst, oCst, oRst, oCopy, oNew, oNa, oNa2, oObj, oCs, oCv, oCi, oIr, oZr, oVr, Nat.beq, List.getElem?_cons_zero, List.getElem?_cons_succ, List.set_cons_zero, List.set_cons_succ, List.length_cons, List.length_nil, List.nil_append, List.cons_append, List.append_nil, List.replicate_succ, List.replicate_zero, Nat.reduceAdd, Nat.reduceSub, Nat.reduceLT, Nat.reduceLeDiff, Nat.reduceBEq, true_and, and_true, Nat.zero_add, Nat.add_zero, Nat.le_refl, Option.some.injEq, exists_eq_left', true_or, or_true, or_false, false_or, reduceCtorEq, Prod.mk.injEq, Sum.inl.injEq, and_self, false_and, and_false, not_true_eq_false, not_false_eq_true, false_implies, true_implies, sm_r, Int.add_zero, Int.zero_add, wI_wsI, wS_wsI, wR_wsI, wI_wCp, wS_wCp, wR_wCp, Nat.reduceEqDiff, reduceIte, sT_iff, sT_iffC, wIf_ne, ne_eq, Bool.false_or, Bool.true_or, Bool.or_false, Bool.or_true, Bool.or_self, tb_X8_delayIfSlow, p_X8_delayNow, p_X8_layAside, p_X8_layBack, p_X8_whyNotRun, f_X8_delayNow, f_X8_layAside, f_X8_layBack, f_X8_whyNotRun, p_X8_delayIfSlow, f_X8_delayIfSlow, sS_154 hT, sS_154 hT1, sR_154_0 hT1, sS_155 hT1, sS_154 hT2, sS_154 hTr, hTr, hT, hT1, hO, hG2, hf, he, hb, hFe, if_pos h1, if_pos h2]
      repeat' (first | exact True.intro | with_reducible assumption | with_reducible refine And.intro ?_ ?_ | intro _)
      all_goals first
        | omega
        | assumption
        | rfl
        | (split <;> omega)
        | grind
        | skip
    · skip
      refine hZ (fun _ => false) 16 0 _ _ _ _ _ ?_
      simp only [sm_run, sm_blk, sm_get, sm_ent, sm_ents, sm_wds, sm_wd, sm_nl, sm_pop, sm_back, sm_cases, oK, oLK, oL, oI, oA, oJ, oIs, oAs, oJs, oInc, oAdd, oSub, oMul, oDiv, oRem, oNeg, oAnd, oAndB, oOr, oShl, oI2c, oI2l, oL2i, oLand, oLor, oLshl, oLshr, oLushr, oLcmp, oDup, oDup2, oPop, oGo, oFg, oEq, oNe, oLt, oGe, oGt, oLe, oEq0, oNe0, oLt0, oGe0, oGt0, oLe0, oSw, oGi, oGr, oPi, oPz, oPr, oLen, oIl, oZl, oCl, oRl, oIst, oZst, oCst, oRst, oCopy, oNew, oNa, oNa2, oObj, oCs, oCv, oCi, oIr, oZr, oVr, Nat.beq, List.getElem?_cons_zero, List.getElem?_cons_succ, List.set_cons_zero, List.set_cons_succ, List.length_cons, List.length_nil, List.nil_append, List.cons_append, List.append_nil, List.replicate_succ, List.replicate_zero, Nat.reduceAdd, Nat.reduceSub, Nat.reduceLT, Nat.reduceLeDiff, Nat.reduceBEq, true_and, and_true, Nat.zero_add, Nat.add_zero, Nat.le_refl, Option.some.injEq, exists_eq_left', true_or, or_true, or_false, false_or, reduceCtorEq, Prod.mk.injEq, Sum.inl.injEq, and_self, false_and, and_false, not_true_eq_false, not_false_eq_true, false_implies, true_implies, sm_r, Int.add_zero, Int.zero_add, wI_wsI, wS_wsI, wR_wsI, wI_wCp, wS_wCp, wR_wCp, Nat.reduceEqDiff, reduceIte, sT_iff, sT_iffC, wIf_ne, ne_eq, Bool.false_or, Bool.true_or, Bool.or_false, Bool.or_true, Bool.or_self, tb_X8_delayIfSlow, p_X8_delayNow, p_X8_layAside, p_X8_layBack, p_X8_whyNotRun, f_X8_delayNow, f_X8_layAside, f_X8_layBack, f_X8_whyNotRun, p_X8_delayIfSlow, f_X8_delayIfSlow, sS_154 hT, if_pos h1, if_neg h2]
      repeat' (first | exact True.intro | with_reducible assumption | with_reducible refine And.intro ?_ ?_ | intro _)
      all_goals first
        | omega
        | assumption
        | rfl
        | (split <;> omega)
        | grind
        | skip
  · skip
    refine hZ (fun _ => false) 16 0 _ _ _ _ _ ?_
    simp only [sm_run, sm_blk, sm_get, sm_ent, sm_ents, sm_wds, sm_wd, sm_nl, sm_pop, sm_back, sm_cases, oK, oLK, oL, oI, oA, oJ, oIs, oAs, oJs, oInc, oAdd, oSub, oMul, oDiv, oRem, oNeg, oAnd, oAndB, oOr, oShl, oI2c, oI2l, oL2i, oLand, oLor, oLshl, oLshr, oLushr, oLcmp, oDup, oDup2, oPop, oGo, oFg, oEq, oNe, oLt, oGe, oGt, oLe, oEq0, oNe0, oLt0, oGe0, oGt0, oLe0, oSw, oGi, oGr, oPi, oPz, oPr, oLen, oIl, oZl, oCl, oRl, oIst, oZst, oCst, oRst, oCopy, oNew, oNa, oNa2, oObj, oCs, oCv, oCi, oIr, oZr, oVr, Nat.beq, List.getElem?_cons_zero, List.getElem?_cons_succ, List.set_cons_zero, List.set_cons_succ, List.length_cons, List.length_nil, List.nil_append, List.cons_append, List.append_nil, List.replicate_succ, List.replicate_zero, Nat.reduceAdd, Nat.reduceSub, Nat.reduceLT, Nat.reduceLeDiff, Nat.reduceBEq, true_and, and_true, Nat.zero_add, Nat.add_zero, Nat.le_refl, Option.some.injEq, exists_eq_left', true_or, or_true, or_false, false_or, reduceCtorEq, Prod.mk.injEq, Sum.inl.injEq, and_self, false_and, and_false, not_true_eq_false, not_false_eq_true, false_implies, true_implies, sm_r, Int.add_zero, Int.zero_add, wI_wsI, wS_wsI, wR_wsI, wI_wCp, wS_wCp, wR_wCp, Nat.reduceEqDiff, reduceIte, sT_iff, sT_iffC, wIf_ne, ne_eq, Bool.false_or, Bool.true_or, Bool.or_false, Bool.or_true, Bool.or_self, tb_X8_delayIfSlow, p_X8_delayNow, p_X8_layAside, p_X8_layBack, p_X8_whyNotRun, f_X8_delayNow, f_X8_layAside, f_X8_layBack, f_X8_whyNotRun, p_X8_delayIfSlow, f_X8_delayIfSlow, sS_154 hT, if_neg h1]
    repeat' (first | exact True.intro | with_reducible assumption | with_reducible refine And.intro ?_ ?_ | intro _)
    all_goals first
      | omega
      | assumption
      | rfl
      | (split <;> omega)
      | grind
      | skip
theorem met_X8_delayIfSlow (l : Launch) : sm_Met l yX8_delayIfSlow cX8_delayIfSlow 5 (some .int) 8 0 0 p_X8_delayIfSlow f_X8_delayIfSlow := sm_met 1 (Or.inr (Or.inl ⟨rfl, rfl⟩)) (by decide +kernel) (sn_X8_delayIfSlow l) ok_X8_delayIfSlow
def mBtU (w : sm_W) (s : Int) : sm_W := wsI w 155 (2 + s) (wI w 155 (2 + s) + 1)
def mBtD (R : sm_W) (s : Int) : sm_W := wsI R 155 (2 + s) (wI R 155 (2 + s) - 1)
def mBtB (s D : Int) (b : Int × Int) : Int × Int := if D < 0 then b else (if b.1 < 0 then (s, D) else (if D < b.2 then (s, D) else b))
def mBt1 (s : Int) (r : sm_W × Int × Int) : sm_W × Int × Int := if wI r.1 155 (2 + s) < 4 then (mBtD (mRun (mBtU r.1 s)) s, mBtB s (mDl (mRun (mBtU r.1 s))) r.2) else r
def mBt (w : sm_W) : Int → sm_W × Int × Int := itI mBt1 (w, -6, 0)
theorem mBtU_gd {w : sm_W} {s : Int} (hG : mGd0 w) (s0 : 0 ≤ s) (s1 : s < 8) (h : wI w 155 (2 + s) < 4) : mGd0 (mBtU w s) := by
  have hq := vOK_tr hG.1.2 s0 s1
  exact mGd0_of hG (sT_wsI hG.1.1) (vOK_cell hG.1.2 (by omega)) (fun b h1 _ _ _ => wIf_ne h1)
theorem mBt1_gd {w : sm_W} {s : Int} (hG : mGd0 w) (s0 : 0 ≤ s) (s1 : s < 8) (h : wI w 155 (2 + s) < 4) : mGd0 (mBtD (mRun (mBtU w s)) s) ∧ wI (mBtD (mRun (mBtU w s)) s) 155 = wI w 155 := by
  have h1 := mRun_st (mBtU_gd hG s0 s1 h)
  generalize mRun (mBtU w s) = R at *
  obtain ⟨h1, h2⟩ := h1
  have e : wI (mBtD R s) 155 = wI w 155 := by
    funext j
    unfold mBtD
    rw [wI_wsI, h2]
    unfold mBtU
    rw [wI_wsI, wI_wsI]
    by_cases c : j = 2 + s
    · rw [if_pos ⟨rfl, c⟩, if_pos ⟨rfl, rfl⟩, c]
      omega
    · rw [if_neg (fun h => c h.2), if_neg (fun h => c h.2)]
  exact ⟨mGd0_of h1 (sT_wsI h1.1.1) (by rw [e]; exact hG.1.2) (fun b h1 _ _ _ => wIf_ne h1), e⟩
theorem mBt_inv {w : sm_W} (hG : mGd0 w) (n : Int) (n0 : 0 ≤ n) (n1 : n ≤ 8) : mGd0 (mBt w n).1 ∧ wI (mBt w n).1 155 = wI w 155 := by
  refine itI_ind (f := mBt1) (fun _ r => mGd0 r.1 ∧ wI r.1 155 = wI w 155) n ⟨hG, rfl⟩ (fun i r i0 i1 hr => ?_) n n0 (Int.le_refl _)
  unfold mBt1
  split
  · next h =>
    have := mBt1_gd hr.1 i0 (by omega) h
    exact ⟨this.1, this.2.trans hr.2⟩
  · exact hr
def p_X8_bestTrack : List sm_V → sm_W → Prop
  | [.inr (.inl m), .inl k], w => m = 154 ∧ mGd0 w
  | _, _ => False
def f_X8_bestTrack : sm_F
  | [.inr (.inl m), .inl k], w => (some (.inl (if 0 ≤ k ∧ k ≤ 1 then (if (mBt w 8).2.1 < 0 then (mBt w 8).2.1 else (if k = 0 then (mBt w 8).2.1 else (mBt w 8).2.2)) else -2)), (if 0 ≤ k ∧ k ≤ 1 then (mBt w 8).1 else w))
  | _, w => (none, w)
def tb_X8_bestTrack : List (Nat × List sm_O) := [(0, [oI 1, oK 0, oK 1, oCs p_X8_in f_X8_in 0 0 3, oNe0 12, oK (-2), oIr]),
  (12, [oK (-6), oIs 2, oK 0, oIs 3, oK 0, oIs 4, oFg 5, oGo 20]),
  (20, [oI 4, oK 8, oGe 99, oA 0, oGr 8 30 0, oK 2, oI 4, oAdd, oIl, oK 4, oGe 93, oA 0, oGr 8 30 0, oK 2, oI 4, oAdd, oDup2, oIl, oK 1, oAdd, oIst, oA 0, oCv 8 30 p_X8_delayNow f_X8_delayNow 0 0 1, oIs 5, oA 0, oGr 8 30 0, oK 2, oI 4, oAdd, oDup2, oIl, oK 1, oSub, oIst, oI 5, oLt0 93, oI 2, oLt0 87, oI 5, oI 3, oGe 93, oGo 87]),
  (87, [oI 4, oIs 2, oI 5, oIs 3, oGo 93]),
  (93, [oInc 4 1, oFg 5, oGo 20]),
  (99, [oI 2, oLt0 107, oI 1, oNe0 111, oGo 107]),
  (107, [oI 2, oGo 112]),
  (111, [oI 3, oGo 112]),
  (112, [oIr])]
set_option maxRecDepth 100000 in
theorem sb_X8_bestTrack_0 (l : Launch) : sm_SndB l RX8 "bestTrack" cX8_bestTrack 6 1 8 0 [oI 1, oK 0, oK 1, oCs p_X8_in f_X8_in 0 0 3, oNe0 12, oK (-2), oIr] := sb_cons (sd_iload_n (by decide +kernel : decode cX8_bestTrack 0 = .ok (.iload_n 1, 1)) rfl) (sb_cons (sd_iconst (by decide +kernel : decode cX8_bestTrack 1 = .ok (.iconst 0, 1)) ⟨by decide, by decide⟩) (sb_cons (sd_iconst (by decide +kernel : decode cX8_bestTrack 2 = .ok (.iconst 1, 1)) ⟨by decide, by decide⟩) (sb_cons (sd_calls (n := 3) (met_X8_in l) (by decide) (by decide) wm_710 wm_708 wm_10 ⟨by decide +kernel, by decide +kernel, by decide +kernel⟩ wm_709 (by decide +kernel : decode cX8_bestTrack 3 = .ok (.invokestatic 74, 3))) (sb_cons (sd_ne0 (by decide +kernel : decode cX8_bestTrack 6 = .ok (.ifCond .ne 6, 3)) (by decide)) (sb_cons (sd_bipush (by decide +kernel : decode cX8_bestTrack 9 = .ok (.bipush (-2), 2)) ⟨by decide, by decide⟩ (by decide)) (sb_cons (sd_ireturn (x := 0) rfl (by decide +kernel : decode cX8_bestTrack 11 = .ok (.ireturn, 1))) sb_nil))))))
set_option maxRecDepth 100000 in
theorem sb_X8_bestTrack_12 (l : Launch) : sm_SndB l RX8 "bestTrack" cX8_bestTrack 6 1 8 12 [oK (-6), oIs 2, oK 0, oIs 3, oK 0, oIs 4, oFg 5, oGo 20] := sb_cons (sd_bipush (by decide +kernel : decode cX8_bestTrack 12 = .ok (.bipush (-6), 2)) ⟨by decide, by decide⟩ (by decide)) (sb_cons (sd_istore_n (by decide +kernel : decode cX8_bestTrack 14 = .ok (.istore_n 2, 1)) rfl) (sb_cons (sd_iconst (by decide +kernel : decode cX8_bestTrack 15 = .ok (.iconst 0, 1)) ⟨by decide, by decide⟩) (sb_cons (sd_istore_n (by decide +kernel : decode cX8_bestTrack 16 = .ok (.istore_n 3, 1)) rfl) (sb_cons (sd_iconst (by decide +kernel : decode cX8_bestTrack 17 = .ok (.iconst 0, 1)) ⟨by decide, by decide⟩) (sb_cons (sd_istore (by decide +kernel : decode cX8_bestTrack 18 = .ok (.istore 4, 2))) (sb_cons (sd_fg) (sb_cons (sd_fall (x := 0)) sb_nil)))))))
set_option maxRecDepth 100000 in
theorem sb_X8_bestTrack_20 (l : Launch) : sm_SndB l RX8 "bestTrack" cX8_bestTrack 6 1 8 20 [oI 4, oK 8, oGe 99, oA 0, oGr 8 30 0, oK 2, oI 4, oAdd, oIl, oK 4, oGe 93, oA 0, oGr 8 30 0, oK 2, oI 4, oAdd, oDup2, oIl, oK 1, oAdd, oIst, oA 0, oCv 8 30 p_X8_delayNow f_X8_delayNow 0 0 1, oIs 5, oA 0, oGr 8 30 0, oK 2, oI 4, oAdd, oDup2, oIl, oK 1, oSub, oIst, oI 5, oLt0 93, oI 2, oLt0 87, oI 5, oI 3, oGe 93, oGo 87] := sb_cons (sd_iload (by decide +kernel : decode cX8_bestTrack 20 = .ok (.iload 4, 2))) (sb_cons (sd_bipush (by decide +kernel : decode cX8_bestTrack 22 = .ok (.bipush 8, 2)) ⟨by decide, by decide⟩ (by decide)) (sb_cons (sd_ge (by decide +kernel : decode cX8_bestTrack 24 = .ok (.if_icmp .ge 75, 3)) (by decide)) (sb_cons (sd_aload_n (by decide +kernel : decode cX8_bestTrack 27 = .ok (.aload_n 0, 1)) rfl) (sb_cons (sd_getr (k := 0) kl_8 (by decide) rfl wm_673 (by decide +kernel : decode cX8_bestTrack 28 = .ok (.getfield 7, 3))) (sb_cons (sd_iconst (by decide +kernel : decode cX8_bestTrack 31 = .ok (.iconst 2, 1)) ⟨by decide, by decide⟩) (sb_cons (sd_iload (by decide +kernel : decode cX8_bestTrack 32 = .ok (.iload 4, 2))) (sb_cons (sd_iadd (by decide +kernel : decode cX8_bestTrack 34 = .ok (.iadd, 1))) (sb_cons (sd_iaload (by decide +kernel : decode cX8_bestTrack 35 = .ok (.iaload, 1))) (sb_cons (sd_iconst (by decide +kernel : decode cX8_bestTrack 36 = .ok (.iconst 4, 1)) ⟨by decide, by decide⟩) (sb_cons (sd_ge (by decide +kernel : decode cX8_bestTrack 37 = .ok (.if_icmp .ge 56, 3)) (by decide)) (sb_cons (sd_aload_n (by decide +kernel : decode cX8_bestTrack 40 = .ok (.aload_n 0, 1)) rfl) (sb_cons (sd_getr (k := 0) kl_8 (by decide) rfl wm_673 (by decide +kernel : decode cX8_bestTrack 41 = .ok (.getfield 7, 3))) (sb_cons (sd_iconst (by decide +kernel : decode cX8_bestTrack 44 = .ok (.iconst 2, 1)) ⟨by decide, by decide⟩) (sb_cons (sd_iload (by decide +kernel : decode cX8_bestTrack 45 = .ok (.iload 4, 2))) (sb_cons (sd_iadd (by decide +kernel : decode cX8_bestTrack 47 = .ok (.iadd, 1))) (sb_cons (sd_dup2 (by decide +kernel : decode cX8_bestTrack 48 = .ok (.dup2, 1))) (sb_cons (sd_iaload (by decide +kernel : decode cX8_bestTrack 49 = .ok (.iaload, 1))) (sb_cons (sd_iconst (by decide +kernel : decode cX8_bestTrack 50 = .ok (.iconst 1, 1)) ⟨by decide, by decide⟩) (sb_cons (sd_iadd (by decide +kernel : decode cX8_bestTrack 51 = .ok (.iadd, 1))) (sb_cons (sd_iastore (by decide +kernel : decode cX8_bestTrack 52 = .ok (.iastore, 1))) (sb_cons (sd_aload_n (by decide +kernel : decode cX8_bestTrack 53 = .ok (.aload_n 0, 1)) rfl) (sb_cons (sd_callv (n := 0) (met_X8_delayNow l) (by decide) (by decide) wm_976 wm_974 wm_10 ⟨by decide +kernel, by decide +kernel, by decide +kernel⟩ kl_8 wm_975 wm_1149 (by decide +kernel : decode cX8_bestTrack 54 = .ok (.invokevirtual 253, 3))) (sb_cons (sd_istore (by decide +kernel : decode cX8_bestTrack 57 = .ok (.istore 5, 2))) (sb_cons (sd_aload_n (by decide +kernel : decode cX8_bestTrack 59 = .ok (.aload_n 0, 1)) rfl) (sb_cons (sd_getr (k := 0) kl_8 (by decide) rfl wm_673 (by decide +kernel : decode cX8_bestTrack 60 = .ok (.getfield 7, 3))) (sb_cons (sd_iconst (by decide +kernel : decode cX8_bestTrack 63 = .ok (.iconst 2, 1)) ⟨by decide, by decide⟩) (sb_cons (sd_iload (by decide +kernel : decode cX8_bestTrack 64 = .ok (.iload 4, 2))) (sb_cons (sd_iadd (by decide +kernel : decode cX8_bestTrack 66 = .ok (.iadd, 1))) (sb_cons (sd_dup2 (by decide +kernel : decode cX8_bestTrack 67 = .ok (.dup2, 1))) (sb_cons (sd_iaload (by decide +kernel : decode cX8_bestTrack 68 = .ok (.iaload, 1))) (sb_cons (sd_iconst (by decide +kernel : decode cX8_bestTrack 69 = .ok (.iconst 1, 1)) ⟨by decide, by decide⟩) (sb_cons (sd_isub (by decide +kernel : decode cX8_bestTrack 70 = .ok (.isub, 1))) (sb_cons (sd_iastore (by decide +kernel : decode cX8_bestTrack 71 = .ok (.iastore, 1))) (sb_cons (sd_iload (by decide +kernel : decode cX8_bestTrack 72 = .ok (.iload 5, 2))) (sb_cons (sd_lt0 (by decide +kernel : decode cX8_bestTrack 74 = .ok (.ifCond .lt 19, 3)) (by decide)) (sb_cons (sd_iload_n (by decide +kernel : decode cX8_bestTrack 77 = .ok (.iload_n 2, 1)) rfl) (sb_cons (sd_lt0 (by decide +kernel : decode cX8_bestTrack 78 = .ok (.ifCond .lt 9, 3)) (by decide)) (sb_cons (sd_iload (by decide +kernel : decode cX8_bestTrack 81 = .ok (.iload 5, 2))) (sb_cons (sd_iload_n (by decide +kernel : decode cX8_bestTrack 83 = .ok (.iload_n 3, 1)) rfl) (sb_cons (sd_ge (by decide +kernel : decode cX8_bestTrack 84 = .ok (.if_icmp .ge 9, 3)) (by decide)) (sb_cons (sd_fall (x := 0)) sb_nil)))))))))))))))))))))))))))))))))))))))))
set_option maxRecDepth 100000 in
theorem sb_X8_bestTrack_87 (l : Launch) : sm_SndB l RX8 "bestTrack" cX8_bestTrack 6 1 8 87 [oI 4, oIs 2, oI 5, oIs 3, oGo 93] := sb_cons (sd_iload (by decide +kernel : decode cX8_bestTrack 87 = .ok (.iload 4, 2))) (sb_cons (sd_istore_n (by decide +kernel : decode cX8_bestTrack 89 = .ok (.istore_n 2, 1)) rfl) (sb_cons (sd_iload (by decide +kernel : decode cX8_bestTrack 90 = .ok (.iload 5, 2))) (sb_cons (sd_istore_n (by decide +kernel : decode cX8_bestTrack 92 = .ok (.istore_n 3, 1)) rfl) (sb_cons (sd_fall (x := 0)) sb_nil))))
set_option maxRecDepth 100000 in
theorem sb_X8_bestTrack_93 (l : Launch) : sm_SndB l RX8 "bestTrack" cX8_bestTrack 6 1 8 93 [oInc 4 1, oFg 5, oGo 20] := sb_cons (sd_iinc (by decide +kernel : decode cX8_bestTrack 93 = .ok (.iinc 4 1, 3))) (sb_cons (sd_fg) (sb_cons (sd_goto (x := 0) (by decide +kernel : decode cX8_bestTrack 96 = .ok (.goto (-76), 3)) (by decide)) sb_nil))
set_option maxRecDepth 100000 in
theorem sb_X8_bestTrack_99 (l : Launch) : sm_SndB l RX8 "bestTrack" cX8_bestTrack 6 1 8 99 [oI 2, oLt0 107, oI 1, oNe0 111, oGo 107] := sb_cons (sd_iload_n (by decide +kernel : decode cX8_bestTrack 99 = .ok (.iload_n 2, 1)) rfl) (sb_cons (sd_lt0 (by decide +kernel : decode cX8_bestTrack 100 = .ok (.ifCond .lt 7, 3)) (by decide)) (sb_cons (sd_iload_n (by decide +kernel : decode cX8_bestTrack 103 = .ok (.iload_n 1, 1)) rfl) (sb_cons (sd_ne0 (by decide +kernel : decode cX8_bestTrack 104 = .ok (.ifCond .ne 7, 3)) (by decide)) (sb_cons (sd_fall (x := 0)) sb_nil))))
set_option maxRecDepth 100000 in
theorem sb_X8_bestTrack_107 (l : Launch) : sm_SndB l RX8 "bestTrack" cX8_bestTrack 6 1 8 107 [oI 2, oGo 112] := sb_cons (sd_iload_n (by decide +kernel : decode cX8_bestTrack 107 = .ok (.iload_n 2, 1)) rfl) (sb_cons (sd_goto (x := 0) (by decide +kernel : decode cX8_bestTrack 108 = .ok (.goto 4, 3)) (by decide)) sb_nil)
set_option maxRecDepth 100000 in
theorem sb_X8_bestTrack_111 (l : Launch) : sm_SndB l RX8 "bestTrack" cX8_bestTrack 6 1 8 111 [oI 3, oGo 112] := sb_cons (sd_iload_n (by decide +kernel : decode cX8_bestTrack 111 = .ok (.iload_n 3, 1)) rfl) (sb_cons (sd_fall (x := 0)) sb_nil)
set_option maxRecDepth 100000 in
theorem sb_X8_bestTrack_112 (l : Launch) : sm_SndB l RX8 "bestTrack" cX8_bestTrack 6 1 8 112 [oIr] := sb_cons (sd_ireturn (x := 0) rfl (by decide +kernel : decode cX8_bestTrack 112 = .ok (.ireturn, 1))) sb_nil
theorem sn_X8_bestTrack (l : Launch) : sm_SndT l RX8 "bestTrack" cX8_bestTrack 6 1 8 tb_X8_bestTrack := st_cons (sb_X8_bestTrack_0 l) (st_cons (sb_X8_bestTrack_12 l) (st_cons (sb_X8_bestTrack_20 l) (st_cons (sb_X8_bestTrack_87 l) (st_cons (sb_X8_bestTrack_93 l) (st_cons (sb_X8_bestTrack_99 l) (st_cons (sb_X8_bestTrack_107 l) (st_cons (sb_X8_bestTrack_111 l) (st_cons (sb_X8_bestTrack_112 l) (st_nil)))))))))
set_option maxRecDepth 100000 in
set_option maxHeartbeats 4000000 in
theorem ok_X8_bestTrack : sm_Ok tb_X8_bestTrack 6 0 0 p_X8_bestTrack f_X8_bestTrack := by
  intro as w hp ha hw
  match as, hp with
  | [.inr (.inl m), .inl k], hp =>
  refine ⟨Nat.le_of_ble_eq_true rfl, fun Z hZ => ?_⟩
  obtain ⟨rfl, hG⟩ := hp
  have hT := hG.1.1
  by_cases hk : 0 ≤ k ∧ k ≤ 1
  · have hl := sm_loopI Z 20 0 8 (fun i => [some (.inr (.inl 154)), some (.inl k), some (.inl (mBt w i).2.1), some (.inl (mBt w i).2.2), some (.inl i), none]) (fun i => (mBt w i).1) 0 0 (by decide) (fun i g0 g1 ih => by
      have hI := mBt_inv hG i g0 g1
      have hu : mBt w (i + 1) = mBt1 i (mBt w i) := itI_s _ _ g0
      have he : i = 8 → mBt w i = mBt w 8 := fun e => by rw [e]
      rw [hu] at ih
      generalize hE : mBt w 8 = E at *
      generalize mBt w i = r at *
      obtain ⟨u, b, l⟩ := r
      dsimp only at *
      obtain ⟨hU, hat⟩ := hI
      have hTu := hU.1.1
      by_cases e : i = 8
      · subst e
        have he := he rfl
        subst he
        clear ih
        refine hZ (fun u => Nat.beq u 20) 14 20 _ _ _ _ _ ?_
        simp only [sm_run, sm_blk, sm_get, sm_ent, sm_ents, sm_wds, sm_wd, sm_nl, sm_pop, sm_back, sm_cases, oK, oLK, oL, oI, oA, oJ, oIs, oAs, oJs, oInc, oAdd, oSub, oMul, oDiv, oRem, oNeg, oAnd, oAndB, oOr, oShl, oI2c, oI2l, oL2i, oLand, oLor, oLshl, oLshr, oLushr, oLcmp, oDup, oDup2, oPop, oGo, oFg, oEq, oNe, oLt, oGe, oGt, oLe, oEq0, oNe0, oLt0, oGe0, oGt0, oLe0, oSw, oGi, oGr, oPi, oPz, oPr, oLen, oIl, oZl, oCl, oRl, oIst, oZst, oCst, oRst, oCopy, oNew, oNa, oNa2, oObj, oCs, oCv, oCi, oIr, oZr, oVr, Nat.beq, List.getElem?_cons_zero, List.getElem?_cons_succ, List.set_cons_zero, List.set_cons_succ, List.length_cons, List.length_nil, List.nil_append, List.cons_append, List.append_nil, List.replicate_succ, List.replicate_zero, Nat.reduceAdd, Nat.reduceSub, Nat.reduceLT, Nat.reduceLeDiff, Nat.reduceBEq, true_and, and_true, Nat.zero_add, Nat.add_zero, Nat.le_refl, Option.some.injEq, exists_eq_left', true_or, or_true, or_false, false_or, reduceCtorEq, Prod.mk.injEq, Sum.inl.injEq, and_self, false_and, and_false, not_true_eq_false, not_false_eq_true, false_implies, true_implies, sm_r, Int.add_zero, Int.zero_add, wI_wsI, wS_wsI, wR_wsI, wI_wCp, wS_wCp, wR_wCp, Nat.reduceEqDiff, reduceIte, sT_iff, sT_iffC, wIf_ne, ne_eq, Bool.false_or, Bool.true_or, Bool.or_false, Bool.or_true, Bool.or_self, tb_X8_bestTrack, p_X8_delayNow, p_X8_in, f_X8_delayNow, f_X8_in, p_X8_bestTrack, f_X8_bestTrack, if_pos hk, hE]
        repeat' (first | exact True.intro | with_reducible assumption | with_reducible refine And.intro ?_ ?_ | intro _)
        all_goals first
          | omega
          | assumption
          | rfl
          | (split <;> omega)
          | (have k9 := ih (by omega)
             (repeat' split at k9) <;> first | exact k9 | omega)
          | (have k9 := ih2 (by omega)
             (repeat' split at k9) <;> first | exact k9 | omega)
          | exact he (by omega)
          | (congr 1; omega)
          | (rw [if_pos (by omega)] at he; exact he)
          | exact hD1 (by omega)
          | exact hD2 (by omega)
          | skip
      · have hlt : i < 8 := by omega
        have ih := ih hlt
        clear he
        have hq := vOK_tr hU.1.2 g0 hlt
        by_cases c : wI u 155 (2 + i) < 4
        · unfold mBt1 at ih
          rw [if_pos c] at ih
          have hGu := mBtU_gd hU g0 hlt c
          have hR := mRun_st hGu
          have hTr := hR.1.1.1
          have hr2 := vOK_tr hR.1.1.2 g0 hlt
          have eU : wsI u 155 (2 + i) (wI u 155 (2 + i) + 1) = mBtU u i := rfl
          have hTU := hGu.1.1
          generalize hFe : mRun (mBtU u i) = R at *
          generalize hD : mDl R = D at *
          unfold mBtD mBtB at ih
          dsimp only at ih
          by_cases c1 : D < 0
          · simp only [if_pos c1] at ih
            refine hZ (fun u => Nat.beq u 20) 14 20 _ _ _ _ _ ?_
            simp only [sm_run, sm_blk, sm_get, sm_ent, sm_ents, sm_wds, sm_wd, sm_nl, sm_pop, sm_back, sm_cases, oK, oLK, oL, oI, oA, oJ, oIs, oAs, oJs, oInc, oAdd, oSub, oMul, oDiv, oRem, oNeg, oAnd, oAndB, oOr, oShl, oI2c, oI2l, oL2i, oLand, oLor, oLshl, oLshr, oLushr, oLcmp, oDup, oDup2, oPop, oGo, oFg, oEq, oNe, oLt, oGe, oGt, oLe, oEq0, oNe0, oLt0, oGe0, oGt0, oLe0, oSw, oGi, oGr, oPi, oPz, oPr, oLen, oIl, oZl, oCl, oRl, oIst, oZst, oCst, oRst, oCopy, oNew, oNa, oNa2, oObj, oCs, oCv, oCi, oIr, oZr, oVr, Nat.beq, List.getElem?_cons_zero, List.getElem?_cons_succ, List.set_cons_zero, List.set_cons_succ, List.length_cons, List.length_nil, List.nil_append, List.cons_append, List.append_nil, List.replicate_succ, List.replicate_zero, Nat.reduceAdd, Nat.reduceSub, Nat.reduceLT, Nat.reduceLeDiff, Nat.reduceBEq, true_and, and_true, Nat.zero_add, Nat.add_zero, Nat.le_refl, Option.some.injEq, exists_eq_left', true_or, or_true, or_false, false_or, reduceCtorEq, Prod.mk.injEq, Sum.inl.injEq, and_self, false_and, and_false, not_true_eq_false, not_false_eq_true, false_implies, true_implies, sm_r, Int.add_zero, Int.zero_add, wI_wsI, wS_wsI, wR_wsI, wI_wCp, wS_wCp, wR_wCp, Nat.reduceEqDiff, reduceIte, sT_iff, sT_iffC, wIf_ne, ne_eq, Bool.false_or, Bool.true_or, Bool.or_false, Bool.or_true, Bool.or_self, tb_X8_bestTrack, p_X8_delayNow, p_X8_in, f_X8_delayNow, f_X8_in, p_X8_bestTrack, f_X8_bestTrack, sS_154 hTu, sR_154_0 hTu, sS_155 hTu, sS_154 hTU, eU, hGu, sS_154 hTr, sR_154_0 hTr, sS_155 hTr, hD, hFe]
            repeat' (first | exact True.intro | with_reducible assumption | with_reducible refine And.intro ?_ ?_ | intro _)
            all_goals first
              | omega
              | assumption
              | rfl
              | (split <;> omega)
              | (have k9 := ih (by omega)
                 (repeat' split at k9) <;> first | exact k9 | omega)
              | (have k9 := ih2 (by omega)
                 (repeat' split at k9) <;> first | exact k9 | omega)
              | exact he (by omega)
              | (congr 1; omega)
              | (rw [if_pos (by omega)] at he; exact he)
              | exact hD1 (by omega)
              | exact hD2 (by omega)
              | grind
              | skip
          · simp only [if_neg c1] at ih
            by_cases c2 : b < 0
            · simp only [if_pos c2] at ih
              refine hZ (fun u => Nat.beq u 20) 14 20 _ _ _ _ _ ?_
              simp only [sm_run, sm_blk, sm_get, sm_ent, sm_ents, sm_wds, sm_wd, sm_nl, sm_pop, sm_back, sm_cases, oK, oLK, oL, oI, oA, oJ, oIs, oAs, oJs, oInc, oAdd, oSub, oMul, oDiv, oRem, oNeg, oAnd, oAndB, oOr, oShl, oI2c, oI2l, oL2i, oLand, oLor, oLshl, oLshr, oLushr, oLcmp, oDup, oDup2, oPop, oGo, oFg, oEq, oNe, oLt, oGe, oGt, oLe, oEq0, oNe0, oLt0, oGe0, oGt0, oLe0, oSw, oGi, oGr, oPi, oPz, oPr, oLen, oIl, oZl, oCl, oRl, oIst, oZst, oCst, oRst, oCopy, oNew, oNa, oNa2, oObj, oCs, oCv, oCi, oIr, oZr, oVr, Nat.beq, List.getElem?_cons_zero, List.getElem?_cons_succ, List.set_cons_zero, List.set_cons_succ, List.length_cons, List.length_nil, List.nil_append, List.cons_append, List.append_nil, List.replicate_succ, List.replicate_zero, Nat.reduceAdd, Nat.reduceSub, Nat.reduceLT, Nat.reduceLeDiff, Nat.reduceBEq, true_and, and_true, Nat.zero_add, Nat.add_zero, Nat.le_refl, Option.some.injEq, exists_eq_left', true_or, or_true, or_false, false_or, reduceCtorEq, Prod.mk.injEq, Sum.inl.injEq, and_self, false_and, and_false, not_true_eq_false, not_false_eq_true, false_implies, true_implies, sm_r, Int.add_zero, Int.zero_add, wI_wsI, wS_wsI, wR_wsI, wI_wCp, wS_wCp, wR_wCp, Nat.reduceEqDiff, reduceIte, sT_iff, sT_iffC, wIf_ne, ne_eq, Bool.false_or, Bool.true_or, Bool.or_false, Bool.or_true, Bool.or_self, tb_X8_bestTrack, p_X8_delayNow, p_X8_in, f_X8_delayNow, f_X8_in, p_X8_bestTrack, f_X8_bestTrack, sS_154 hTu, sR_154_0 hTu, sS_155 hTu, sS_154 hTU, eU, hGu, sS_154 hTr, sR_154_0 hTr, sS_155 hTr, hD, hFe]
              repeat' (first | exact True.intro | with_reducible assumption | with_reducible refine And.intro ?_ ?_ | intro _)
              all_goals first
                | omega
                | assumption
                | rfl
                | (split <;> omega)
                | (have k9 := ih (by omega)
                   (repeat' split at k9) <;> first | exact k9 | omega)
                | (have k9 := ih2 (by omega)
                   (repeat' split at k9) <;> first | exact k9 | omega)
                | exact he (by omega)
                | (congr 1; omega)
                | (rw [if_pos (by omega)] at he; exact he)
                | exact hD1 (by omega)
                | exact hD2 (by omega)
                | grind
                | skip
            · simp only [if_neg c2] at ih
              by_cases c3 : D < l
              · simp only [if_pos c3] at ih
                refine hZ (fun u => Nat.beq u 20) 14 20 _ _ _ _ _ ?_
                simp only [sm_run, sm_blk, sm_get, sm_ent, sm_ents, sm_wds, sm_wd, sm_nl, sm_pop, sm_back, sm_cases, oK, oLK, oL, oI, oA, oJ, oIs, oAs, oJs, oInc, oAdd, oSub, oMul, oDiv, oRem, oNeg, oAnd, oAndB, oOr, oShl, oI2c, oI2l, oL2i, oLand, oLor, oLshl, oLshr, oLushr, oLcmp, oDup, oDup2, oPop, oGo, oFg, oEq, oNe, oLt, oGe, oGt, oLe, oEq0, oNe0, oLt0, oGe0, oGt0, oLe0, oSw, oGi, oGr, oPi, oPz, oPr, oLen, oIl, oZl, oCl, oRl, oIst, oZst, oCst, oRst, oCopy, oNew, oNa, oNa2, oObj, oCs, oCv, oCi, oIr, oZr, oVr, Nat.beq, List.getElem?_cons_zero, List.getElem?_cons_succ, List.set_cons_zero, List.set_cons_succ, List.length_cons, List.length_nil, List.nil_append, List.cons_append, List.append_nil, List.replicate_succ, List.replicate_zero, Nat.reduceAdd, Nat.reduceSub, Nat.reduceLT, Nat.reduceLeDiff, Nat.reduceBEq, true_and, and_true, Nat.zero_add, Nat.add_zero, Nat.le_refl, Option.some.injEq, exists_eq_left', true_or, or_true, or_false, false_or, reduceCtorEq, Prod.mk.injEq, Sum.inl.injEq, and_self, false_and, and_false, not_true_eq_false, not_false_eq_true, false_implies, true_implies, sm_r, Int.add_zero, Int.zero_add, wI_wsI, wS_wsI, wR_wsI, wI_wCp, wS_wCp, wR_wCp, Nat.reduceEqDiff, reduceIte, sT_iff, sT_iffC, wIf_ne, ne_eq, Bool.false_or, Bool.true_or, Bool.or_false, Bool.or_true, Bool.or_self, tb_X8_bestTrack, p_X8_delayNow, p_X8_in, f_X8_delayNow, f_X8_in, p_X8_bestTrack, f_X8_bestTrack, sS_154 hTu, sR_154_0 hTu, sS_155 hTu, sS_154 hTU, eU, hGu, sS_154 hTr, sR_154_0 hTr, sS_155 hTr, hD, hFe]
                repeat' (first | exact True.intro | with_reducible assumption | with_reducible refine And.intro ?_ ?_ | intro _)
                all_goals first
                  | omega
                  | assumption
                  | rfl
                  | (split <;> omega)
                  | (have k9 := ih (by omega)
                     (repeat' split at k9) <;> first | exact k9 | omega)
                  | (have k9 := ih2 (by omega)
                     (repeat' split at k9) <;> first | exact k9 | omega)
                  | exact he (by omega)
                  | (congr 1; omega)
                  | (rw [if_pos (by omega)] at he; exact he)
                  | exact hD1 (by omega)
                  | exact hD2 (by omega)
                  | grind
                  | skip
              · simp only [if_neg c3] at ih
                refine hZ (fun u => Nat.beq u 20) 14 20 _ _ _ _ _ ?_
                simp only [sm_run, sm_blk, sm_get, sm_ent, sm_ents, sm_wds, sm_wd, sm_nl, sm_pop, sm_back, sm_cases, oK, oLK, oL, oI, oA, oJ, oIs, oAs, oJs, oInc, oAdd, oSub, oMul, oDiv, oRem, oNeg, oAnd, oAndB, oOr, oShl, oI2c, oI2l, oL2i, oLand, oLor, oLshl, oLshr, oLushr, oLcmp, oDup, oDup2, oPop, oGo, oFg, oEq, oNe, oLt, oGe, oGt, oLe, oEq0, oNe0, oLt0, oGe0, oGt0, oLe0, oSw, oGi, oGr, oPi, oPz, oPr, oLen, oIl, oZl, oCl, oRl, oIst, oZst, oCst, oRst, oCopy, oNew, oNa, oNa2, oObj, oCs, oCv, oCi, oIr, oZr, oVr, Nat.beq, List.getElem?_cons_zero, List.getElem?_cons_succ, List.set_cons_zero, List.set_cons_succ, List.length_cons, List.length_nil, List.nil_append, List.cons_append, List.append_nil, List.replicate_succ, List.replicate_zero, Nat.reduceAdd, Nat.reduceSub, Nat.reduceLT, Nat.reduceLeDiff, Nat.reduceBEq, true_and, and_true, Nat.zero_add, Nat.add_zero, Nat.le_refl, Option.some.injEq, exists_eq_left', true_or, or_true, or_false, false_or, reduceCtorEq, Prod.mk.injEq, Sum.inl.injEq, and_self, false_and, and_false, not_true_eq_false, not_false_eq_true, false_implies, true_implies, sm_r, Int.add_zero, Int.zero_add, wI_wsI, wS_wsI, wR_wsI, wI_wCp, wS_wCp, wR_wCp, Nat.reduceEqDiff, reduceIte, sT_iff, sT_iffC, wIf_ne, ne_eq, Bool.false_or, Bool.true_or, Bool.or_false, Bool.or_true, Bool.or_self, tb_X8_bestTrack, p_X8_delayNow, p_X8_in, f_X8_delayNow, f_X8_in, p_X8_bestTrack, f_X8_bestTrack, sS_154 hTu, sR_154_0 hTu, sS_155 hTu, sS_154 hTU, eU, hGu, sS_154 hTr, sR_154_0 hTr, sS_155 hTr, hD, hFe]
                repeat' (first | exact True.intro | with_reducible assumption | with_reducible refine And.intro ?_ ?_ | intro _)
                all_goals first
                  | omega
                  | assumption
                  | rfl
                  | (split <;> omega)
                  | (have k9 := ih (by omega)
                     (repeat' split at k9) <;> first | exact k9 | omega)
                  | (have k9 := ih2 (by omega)
                     (repeat' split at k9) <;> first | exact k9 | omega)
                  | exact he (by omega)
                  | (congr 1; omega)
                  | (rw [if_pos (by omega)] at he; exact he)
                  | exact hD1 (by omega)
                  | exact hD2 (by omega)
                  | grind
                  | skip
        · unfold mBt1 at ih
          rw [if_neg c] at ih
          refine hZ (fun u => Nat.beq u 20) 14 20 _ _ _ _ _ ?_
          simp only [sm_run, sm_blk, sm_get, sm_ent, sm_ents, sm_wds, sm_wd, sm_nl, sm_pop, sm_back, sm_cases, oK, oLK, oL, oI, oA, oJ, oIs, oAs, oJs, oInc, oAdd, oSub, oMul, oDiv, oRem, oNeg, oAnd, oAndB, oOr, oShl, oI2c, oI2l, oL2i, oLand, oLor, oLshl, oLshr, oLushr, oLcmp, oDup, oDup2, oPop, oGo, oFg, oEq, oNe, oLt, oGe, oGt, oLe, oEq0, oNe0, oLt0, oGe0, oGt0, oLe0, oSw, oGi, oGr, oPi, oPz, oPr, oLen, oIl, oZl, oCl, oRl, oIst, oZst, oCst, oRst, oCopy, oNew, oNa, oNa2, oObj, oCs, oCv, oCi, oIr, oZr, oVr, Nat.beq, List.getElem?_cons_zero, List.getElem?_cons_succ, List.set_cons_zero, List.set_cons_succ, List.length_cons, List.length_nil, List.nil_append, List.cons_append, List.append_nil, List.replicate_succ, List.replicate_zero, Nat.reduceAdd, Nat.reduceSub, Nat.reduceLT, Nat.reduceLeDiff, Nat.reduceBEq, true_and, and_true, Nat.zero_add, Nat.add_zero, Nat.le_refl, Option.some.injEq, exists_eq_left', true_or, or_true, or_false, false_or, reduceCtorEq, Prod.mk.injEq, Sum.inl.injEq, and_self, false_and, and_false, not_true_eq_false, not_false_eq_true, false_implies, true_implies, sm_r, Int.add_zero, Int.zero_add, wI_wsI, wS_wsI, wR_wsI, wI_wCp, wS_wCp, wR_wCp, Nat.reduceEqDiff, reduceIte, sT_iff, sT_iffC, wIf_ne, ne_eq, Bool.false_or, Bool.true_or, Bool.or_false, Bool.or_true, Bool.or_self, tb_X8_bestTrack, p_X8_delayNow, p_X8_in, f_X8_delayNow, f_X8_in, p_X8_bestTrack, f_X8_bestTrack, sS_154 hTu, sR_154_0 hTu, sS_155 hTu]
          repeat' (first | exact True.intro | with_reducible assumption | with_reducible refine And.intro ?_ ?_ | intro _)
          all_goals first
            | omega
            | assumption
            | rfl
            | (split <;> omega)
            | (have k9 := ih (by omega)
               (repeat' split at k9) <;> first | exact k9 | omega)
            | (have k9 := ih2 (by omega)
               (repeat' split at k9) <;> first | exact k9 | omega)
            | exact he (by omega)
            | (congr 1; omega)
            | (rw [if_pos (by omega)] at he; exact he)
            | exact hD1 (by omega)
            | exact hD2 (by omega)
            | grind
            | skip
      )
    have hl : Z 20 [some (.inr (.inl 154)), some (.inl k), some (.inl (-6)), some (.inl 0), some (.inl 0), none] [] w 0 0 := hl
    refine hZ (fun u => Nat.beq u 20) 14 0 _ _ _ _ _ ?_
    simp only [sm_run, sm_blk, sm_get, sm_ent, sm_ents, sm_wds, sm_wd, sm_nl, sm_pop, sm_back, sm_cases, oK, oLK, oL, oI, oA, oJ, oIs, oAs, oJs, oInc, oAdd, oSub, oMul, oDiv, oRem, oNeg, oAnd, oAndB, oOr, oShl, oI2c, oI2l, oL2i, oLand, oLor, oLshl, oLshr, oLushr, oLcmp, oDup, oDup2, oPop, oGo, oFg, oEq, oNe, oLt, oGe, oGt, oLe, oEq0, oNe0, oLt0, oGe0, oGt0, oLe0, oSw, oGi, oGr, oPi, oPz, oPr, oLen, oIl, oZl, oCl, oRl, oIst, oZst, oCst, oRst, oCopy, oNew, oNa, oNa2, oObj, oCs, oCv, oCi, oIr, oZr, oVr, Nat.beq, List.getElem?_cons_zero, List.getElem?_cons_succ, List.set_cons_zero, List.set_cons_succ, List.length_cons, List.length_nil, List.nil_append, List.cons_append, List.append_nil, List.replicate_succ, List.replicate_zero, Nat.reduceAdd, Nat.reduceSub, Nat.reduceLT, Nat.reduceLeDiff, Nat.reduceBEq, true_and, and_true, Nat.zero_add, Nat.add_zero, Nat.le_refl, Option.some.injEq, exists_eq_left', true_or, or_true, or_false, false_or, reduceCtorEq, Prod.mk.injEq, Sum.inl.injEq, and_self, false_and, and_false, not_true_eq_false, not_false_eq_true, false_implies, true_implies, sm_r, Int.add_zero, Int.zero_add, wI_wsI, wS_wsI, wR_wsI, wI_wCp, wS_wCp, wR_wCp, Nat.reduceEqDiff, reduceIte, sT_iff, sT_iffC, wIf_ne, ne_eq, Bool.false_or, Bool.true_or, Bool.or_false, Bool.or_true, Bool.or_self, tb_X8_bestTrack, p_X8_delayNow, p_X8_in, f_X8_delayNow, f_X8_in, p_X8_bestTrack, f_X8_bestTrack, b01, if_pos hk]
    repeat' (first | exact True.intro | with_reducible assumption | with_reducible refine And.intro ?_ ?_ | intro _)
    all_goals first
      | omega
      | assumption
      | rfl
      | (split <;> omega)
      | (have k9 := ih (by omega)
         (repeat' split at k9) <;> first | exact k9 | omega)
      | (have k9 := ih2 (by omega)
         (repeat' split at k9) <;> first | exact k9 | omega)
      | exact he (by omega)
      | (congr 1; omega)
      | (rw [if_pos (by omega)] at he; exact he)
      | exact hD1 (by omega)
      | exact hD2 (by omega)
      | skip
  · skip
    refine hZ (fun u => Nat.beq u 20) 14 0 _ _ _ _ _ ?_
    simp only [sm_run, sm_blk, sm_get, sm_ent, sm_ents, sm_wds, sm_wd, sm_nl, sm_pop, sm_back, sm_cases, oK, oLK, oL, oI, oA, oJ, oIs, oAs, oJs, oInc, oAdd, oSub, oMul, oDiv, oRem, oNeg, oAnd, oAndB, oOr, oShl, oI2c, oI2l, oL2i, oLand, oLor, oLshl, oLshr, oLushr, oLcmp, oDup, oDup2, oPop, oGo, oFg, oEq, oNe, oLt, oGe, oGt, oLe, oEq0, oNe0, oLt0, oGe0, oGt0, oLe0, oSw, oGi, oGr, oPi, oPz, oPr, oLen, oIl, oZl, oCl, oRl, oIst, oZst, oCst, oRst, oCopy, oNew, oNa, oNa2, oObj, oCs, oCv, oCi, oIr, oZr, oVr, Nat.beq, List.getElem?_cons_zero, List.getElem?_cons_succ, List.set_cons_zero, List.set_cons_succ, List.length_cons, List.length_nil, List.nil_append, List.cons_append, List.append_nil, List.replicate_succ, List.replicate_zero, Nat.reduceAdd, Nat.reduceSub, Nat.reduceLT, Nat.reduceLeDiff, Nat.reduceBEq, true_and, and_true, Nat.zero_add, Nat.add_zero, Nat.le_refl, Option.some.injEq, exists_eq_left', true_or, or_true, or_false, false_or, reduceCtorEq, Prod.mk.injEq, Sum.inl.injEq, and_self, false_and, and_false, not_true_eq_false, not_false_eq_true, false_implies, true_implies, sm_r, Int.add_zero, Int.zero_add, wI_wsI, wS_wsI, wR_wsI, wI_wCp, wS_wCp, wR_wCp, Nat.reduceEqDiff, reduceIte, sT_iff, sT_iffC, wIf_ne, ne_eq, Bool.false_or, Bool.true_or, Bool.or_false, Bool.or_true, Bool.or_self, tb_X8_bestTrack, p_X8_delayNow, p_X8_in, f_X8_delayNow, f_X8_in, p_X8_bestTrack, f_X8_bestTrack, b01, if_neg hk]
    repeat' (first | exact True.intro | with_reducible assumption | with_reducible refine And.intro ?_ ?_ | intro _)
    all_goals first
      | omega
      | assumption
      | rfl
      | (split <;> omega)
      | (have k9 := ih (by omega)
         (repeat' split at k9) <;> first | exact k9 | omega)
      | (have k9 := ih2 (by omega)
         (repeat' split at k9) <;> first | exact k9 | omega)
      | exact he (by omega)
      | (congr 1; omega)
      | (rw [if_pos (by omega)] at he; exact he)
      | exact hD1 (by omega)
      | exact hD2 (by omega)
      | grind
      | skip
theorem met_X8_bestTrack (l : Launch) : sm_Met l yX8_bestTrack cX8_bestTrack 6 (some .int) 8 0 0 p_X8_bestTrack f_X8_bestTrack := sm_met 1 (Or.inr (Or.inl ⟨rfl, rfl⟩)) (by decide +kernel) (sn_X8_bestTrack l) ok_X8_bestTrack
def mDo1 (k : Int) (w : sm_W) : sm_W := wsI w 155 (17 + 5 * wI w 171 k + 4) (9 - k)
def mDo (w : sm_W) : sm_W := itI mDo1 w (wI w 155 1)
def mDoP (w : sm_W) : Prop := wI w 155 1 ≤ 5 ∧ ∀ k, 0 ≤ k → k < wI w 155 1 → 0 ≤ wI w 171 k ∧ wI w 171 k < wI w 155 1
theorem mDoL {w : sm_W} (hO : mOK w) (hP : mDoP w) (n : Int) (n0 : 0 ≤ n) (n1 : n ≤ wI w 155 1) : mOK (itI mDo1 w n) ∧ (∀ a, a ≠ 155 → wI (itI mDo1 w n) a = wI w a) ∧ wI (itI mDo1 w n) 155 1 = wI w 155 1 := by
  refine itI_ind (f := mDo1) (fun _ r => mOK r ∧ (∀ a, a ≠ 155 → wI r a = wI w a) ∧ wI r 155 1 = wI w 155 1) n ⟨hO, fun _ _ => rfl, rfl⟩ (fun i r i0 i1 hr => ?_) n n0 (Int.le_refl _)
  have hq := hP.2 i i0 (by omega)
  rw [← hr.2.1 171 (by decide)] at hq
  have h5 := hP.1
  refine ⟨⟨sT_wsI hr.1.1, vOK_sh4 hr.1.2 hq.1 (by omega)⟩, fun a h => ?_, ?_⟩
  · unfold mDo1
    rw [wIf_ne h, hr.2.1 a h]
  · unfold mDo1
    rw [wI_wsI, if_neg (by omega), hr.2.2]
theorem mDo_gd {w : sm_W} (hG : mGd0 w) (hP : mDoP w) : mGd0 (mDo w) ∧ wI (mDo w) 155 1 = wI w 155 1 := by
  have hm := vOK_many hG.1.2
  have h := mDoL hG.1 hP (wI w 155 1) hm.1 (Int.le_refl _)
  exact ⟨mGd0_of hG h.1.1 h.1.2 (fun b h1 _ _ _ => h.2.1 b h1), h.2.2⟩
def p_X8_delayInOrder : List sm_V → sm_W → Prop
  | [.inr (.inl m)], w => m = 154 ∧ mGd0 w ∧ mDoP w
  | _, _ => False
def f_X8_delayInOrder : sm_F
  | [.inr (.inl m)], w => (some (.inl (mDl (mRun (mDo w)))), mRun (mDo w))
  | _, w => (none, w)
def tb_X8_delayInOrder : List (Nat × List sm_O) := [(0, [oK 0, oIs 1, oGo 2]),
  (2, [oI 1, oA 0, oGr 8 30 0, oK 1, oIl, oGe 40, oA 0, oGr 8 30 0, oK 17, oK 5, oA 0, oGr 8 30 21, oI 1, oIl, oMul, oAdd, oK 4, oAdd, oK 9, oI 1, oSub, oIst, oInc 1 1, oGo 2]),
  (40, [oA 0, oCv 8 30 p_X8_delayNow f_X8_delayNow 0 0 1, oIr])]
set_option maxRecDepth 100000 in
theorem sb_X8_delayInOrder_0 (l : Launch) : sm_SndB l RX8 "delayInOrder" cX8_delayInOrder 2 1 8 0 [oK 0, oIs 1, oGo 2] := sb_cons (sd_iconst (by decide +kernel : decode cX8_delayInOrder 0 = .ok (.iconst 0, 1)) ⟨by decide, by decide⟩) (sb_cons (sd_istore_n (by decide +kernel : decode cX8_delayInOrder 1 = .ok (.istore_n 1, 1)) rfl) (sb_cons (sd_fall (x := 0)) sb_nil))
set_option maxRecDepth 100000 in
theorem sb_X8_delayInOrder_2 (l : Launch) : sm_SndB l RX8 "delayInOrder" cX8_delayInOrder 2 1 8 2 [oI 1, oA 0, oGr 8 30 0, oK 1, oIl, oGe 40, oA 0, oGr 8 30 0, oK 17, oK 5, oA 0, oGr 8 30 21, oI 1, oIl, oMul, oAdd, oK 4, oAdd, oK 9, oI 1, oSub, oIst, oInc 1 1, oGo 2] := sb_cons (sd_iload_n (by decide +kernel : decode cX8_delayInOrder 2 = .ok (.iload_n 1, 1)) rfl) (sb_cons (sd_aload_n (by decide +kernel : decode cX8_delayInOrder 3 = .ok (.aload_n 0, 1)) rfl) (sb_cons (sd_getr (k := 0) kl_8 (by decide) rfl wm_673 (by decide +kernel : decode cX8_delayInOrder 4 = .ok (.getfield 7, 3))) (sb_cons (sd_iconst (by decide +kernel : decode cX8_delayInOrder 7 = .ok (.iconst 1, 1)) ⟨by decide, by decide⟩) (sb_cons (sd_iaload (by decide +kernel : decode cX8_delayInOrder 8 = .ok (.iaload, 1))) (sb_cons (sd_ge (by decide +kernel : decode cX8_delayInOrder 9 = .ok (.if_icmp .ge 31, 3)) (by decide)) (sb_cons (sd_aload_n (by decide +kernel : decode cX8_delayInOrder 12 = .ok (.aload_n 0, 1)) rfl) (sb_cons (sd_getr (k := 0) kl_8 (by decide) rfl wm_673 (by decide +kernel : decode cX8_delayInOrder 13 = .ok (.getfield 7, 3))) (sb_cons (sd_bipush (by decide +kernel : decode cX8_delayInOrder 16 = .ok (.bipush 17, 2)) ⟨by decide, by decide⟩ (by decide)) (sb_cons (sd_iconst (by decide +kernel : decode cX8_delayInOrder 18 = .ok (.iconst 5, 1)) ⟨by decide, by decide⟩) (sb_cons (sd_aload_n (by decide +kernel : decode cX8_delayInOrder 19 = .ok (.aload_n 0, 1)) rfl) (sb_cons (sd_getr (k := 21) kl_8 (by decide) rfl wm_694 (by decide +kernel : decode cX8_delayInOrder 20 = .ok (.getfield 59, 3))) (sb_cons (sd_iload_n (by decide +kernel : decode cX8_delayInOrder 23 = .ok (.iload_n 1, 1)) rfl) (sb_cons (sd_iaload (by decide +kernel : decode cX8_delayInOrder 24 = .ok (.iaload, 1))) (sb_cons (sd_imul (by decide +kernel : decode cX8_delayInOrder 25 = .ok (.imul, 1))) (sb_cons (sd_iadd (by decide +kernel : decode cX8_delayInOrder 26 = .ok (.iadd, 1))) (sb_cons (sd_iconst (by decide +kernel : decode cX8_delayInOrder 27 = .ok (.iconst 4, 1)) ⟨by decide, by decide⟩) (sb_cons (sd_iadd (by decide +kernel : decode cX8_delayInOrder 28 = .ok (.iadd, 1))) (sb_cons (sd_bipush (by decide +kernel : decode cX8_delayInOrder 29 = .ok (.bipush 9, 2)) ⟨by decide, by decide⟩ (by decide)) (sb_cons (sd_iload_n (by decide +kernel : decode cX8_delayInOrder 31 = .ok (.iload_n 1, 1)) rfl) (sb_cons (sd_isub (by decide +kernel : decode cX8_delayInOrder 32 = .ok (.isub, 1))) (sb_cons (sd_iastore (by decide +kernel : decode cX8_delayInOrder 33 = .ok (.iastore, 1))) (sb_cons (sd_iinc (by decide +kernel : decode cX8_delayInOrder 34 = .ok (.iinc 1 1, 3))) (sb_cons (sd_goto (x := 0) (by decide +kernel : decode cX8_delayInOrder 37 = .ok (.goto (-35), 3)) (by decide)) sb_nil)))))))))))))))))))))))
set_option maxRecDepth 100000 in
theorem sb_X8_delayInOrder_40 (l : Launch) : sm_SndB l RX8 "delayInOrder" cX8_delayInOrder 2 1 8 40 [oA 0, oCv 8 30 p_X8_delayNow f_X8_delayNow 0 0 1, oIr] := sb_cons (sd_aload_n (by decide +kernel : decode cX8_delayInOrder 40 = .ok (.aload_n 0, 1)) rfl) (sb_cons (sd_callv (n := 0) (met_X8_delayNow l) (by decide) (by decide) wm_976 wm_974 wm_10 ⟨by decide +kernel, by decide +kernel, by decide +kernel⟩ kl_8 wm_975 wm_1149 (by decide +kernel : decode cX8_delayInOrder 41 = .ok (.invokevirtual 253, 3))) (sb_cons (sd_ireturn (x := 0) rfl (by decide +kernel : decode cX8_delayInOrder 44 = .ok (.ireturn, 1))) sb_nil))
theorem sn_X8_delayInOrder (l : Launch) : sm_SndT l RX8 "delayInOrder" cX8_delayInOrder 2 1 8 tb_X8_delayInOrder := st_cons (sb_X8_delayInOrder_0 l) (st_cons (sb_X8_delayInOrder_2 l) (st_cons (sb_X8_delayInOrder_40 l) (st_nil)))
set_option maxRecDepth 100000 in
set_option maxHeartbeats 4000000 in
theorem ok_X8_delayInOrder : sm_Ok tb_X8_delayInOrder 2 0 0 p_X8_delayInOrder f_X8_delayInOrder := by
  intro as w hp ha hw
  match as, hp with
  | [.inr (.inl m)], hp =>
  refine ⟨Nat.le_of_ble_eq_true rfl, fun Z hZ => ?_⟩
  obtain ⟨rfl, hG, hP⟩ := hp
  have hO := hG.1
  have hm := vOK_many hO.2
  have hGd := mDo_gd hG hP
  have hP5 := hP.1
  have hl := sm_loopI Z 2 0 (wI w 155 1) (fun i => [some (.inr (.inl 154)), some (.inl i)]) (fun i => itI mDo1 w i) 0 0 hm.1 (fun i g0 g1 ih => by
    have hI := mDoL hO hP i g0 g1
    rw [itI_s _ _ g0] at ih
    have hk := hP.2 i g0
    have he : i = wI w 155 1 → itI mDo1 w i = mDo w := fun e => by rw [e]; rfl
    generalize hFe : mRun (mDo w) = R at *
    generalize itI mDo1 w i = u at *
    generalize hE : mDo w = E at *
    obtain ⟨hU, ho, h1⟩ := hI
    have hT := hU.1
    have h171 : wI u 171 i = wI w 171 i := by rw [ho 171 (by decide)]
    unfold mDo1 at ih
    by_cases e : i = wI w 155 1
    · have he := he e
      subst he
      have hGu := hGd.1
      clear ih
      refine hZ (fun u => Nat.beq u 2) 14 2 _ _ _ _ _ ?_
      simp only [sm_run, sm_blk, sm_get, sm_ent, sm_ents, sm_wds, sm_wd, sm_nl, sm_pop, sm_back, sm_cases, oK, oLK, oL, oI, oA, oJ, oIs, oAs, oJs, oInc, oAdd, oSub, oMul, oDiv, oRem, oNeg, oAnd, oAndB, oOr, oShl, oI2c, oI2l, oL2i, oLand, oLor, oLshl, oLshr, oLushr, oLcmp, oDup, oDup2, oPop, oGo, oFg, oEq, oNe, oLt, oGe, oGt, oLe, oEq0, oNe0, oLt0, oGe0, oGt0, oLe0, oSw, oGi, oGr, oPi, oPz, oPr, oLen, oIl, oZl, oCl, oRl, oIst, oZst, oCst, oRst, oCopy, oNew, oNa, oNa2, oObj, oCs, oCv, oCi, oIr, oZr, oVr, Nat.beq, List.getElem?_cons_zero, List.getElem?_cons_succ, List.set_cons_zero, List.set_cons_succ, List.length_cons, List.length_nil, List.nil_append, List.cons_append, List.append_nil, List.replicate_succ, List.replicate_zero, Nat.reduceAdd, Nat.reduceSub, Nat.reduceLT, Nat.reduceLeDiff, Nat.reduceBEq, true_and, and_true, Nat.zero_add, Nat.add_zero, Nat.le_refl, Option.some.injEq, exists_eq_left', true_or, or_true, or_false, false_or, reduceCtorEq, Prod.mk.injEq, Sum.inl.injEq, and_self, false_and, and_false, not_true_eq_false, not_false_eq_true, false_implies, true_implies, sm_r, Int.add_zero, Int.zero_add, wI_wsI, wS_wsI, wR_wsI, wI_wCp, wS_wCp, wR_wCp, Nat.reduceEqDiff, reduceIte, sT_iff, sT_iffC, wIf_ne, ne_eq, Bool.false_or, Bool.true_or, Bool.or_false, Bool.or_true, Bool.or_self, tb_X8_delayInOrder, p_X8_delayNow, f_X8_delayNow, p_X8_delayInOrder, f_X8_delayInOrder, sS_154 hT, sR_154_0 hT, sS_155 hT, h1, hGu, hE, hFe]
      repeat' (first | exact True.intro | with_reducible assumption | with_reducible refine And.intro ?_ ?_ | intro _)
      all_goals first
        | omega
        | assumption
        | rfl
        | (split <;> omega)
        | (have k9 := ih (by omega)
           (repeat' split at k9) <;> first | exact k9 | omega)
        | (have k9 := ih2 (by omega)
           (repeat' split at k9) <;> first | exact k9 | omega)
        | exact he (by omega)
        | (congr 1; omega)
        | (rw [if_pos (by omega)] at he; exact he)
        | exact hD1 (by omega)
        | exact hD2 (by omega)
        | grind
        | skip
    · have hlt : i < wI w 155 1 := by omega
      have ih := ih hlt
      have hk := hk hlt
      clear he hGd
      rw [h171] at ih
      refine hZ (fun u => Nat.beq u 2) 14 2 _ _ _ _ _ ?_
      simp only [sm_run, sm_blk, sm_get, sm_ent, sm_ents, sm_wds, sm_wd, sm_nl, sm_pop, sm_back, sm_cases, oK, oLK, oL, oI, oA, oJ, oIs, oAs, oJs, oInc, oAdd, oSub, oMul, oDiv, oRem, oNeg, oAnd, oAndB, oOr, oShl, oI2c, oI2l, oL2i, oLand, oLor, oLshl, oLshr, oLushr, oLcmp, oDup, oDup2, oPop, oGo, oFg, oEq, oNe, oLt, oGe, oGt, oLe, oEq0, oNe0, oLt0, oGe0, oGt0, oLe0, oSw, oGi, oGr, oPi, oPz, oPr, oLen, oIl, oZl, oCl, oRl, oIst, oZst, oCst, oRst, oCopy, oNew, oNa, oNa2, oObj, oCs, oCv, oCi, oIr, oZr, oVr, Nat.beq, List.getElem?_cons_zero, List.getElem?_cons_succ, List.set_cons_zero, List.set_cons_succ, List.length_cons, List.length_nil, List.nil_append, List.cons_append, List.append_nil, List.replicate_succ, List.replicate_zero, Nat.reduceAdd, Nat.reduceSub, Nat.reduceLT, Nat.reduceLeDiff, Nat.reduceBEq, true_and, and_true, Nat.zero_add, Nat.add_zero, Nat.le_refl, Option.some.injEq, exists_eq_left', true_or, or_true, or_false, false_or, reduceCtorEq, Prod.mk.injEq, Sum.inl.injEq, and_self, false_and, and_false, not_true_eq_false, not_false_eq_true, false_implies, true_implies, sm_r, Int.add_zero, Int.zero_add, wI_wsI, wS_wsI, wR_wsI, wI_wCp, wS_wCp, wR_wCp, Nat.reduceEqDiff, reduceIte, sT_iff, sT_iffC, wIf_ne, ne_eq, Bool.false_or, Bool.true_or, Bool.or_false, Bool.or_true, Bool.or_self, tb_X8_delayInOrder, p_X8_delayNow, f_X8_delayNow, p_X8_delayInOrder, f_X8_delayInOrder, sS_154 hT, sR_154_0 hT, sS_155 hT, h1, sR_154_21 hT, sS_171 hT, h171]
      repeat' (first | exact True.intro | with_reducible assumption | with_reducible refine And.intro ?_ ?_ | intro _)
      all_goals first
        | omega
        | assumption
        | rfl
        | (split <;> omega)
        | (have k9 := ih (by omega)
           (repeat' split at k9) <;> first | exact k9 | omega)
        | (have k9 := ih2 (by omega)
           (repeat' split at k9) <;> first | exact k9 | omega)
        | exact he (by omega)
        | (congr 1; omega)
        | (rw [if_pos (by omega)] at he; exact he)
        | exact hD1 (by omega)
        | exact hD2 (by omega)
        | grind
        | skip
    )
  rw [itI_0] at hl
  refine hZ (fun u => Nat.beq u 2) 14 0 _ _ _ _ _ ?_
  simp only [sm_run, sm_blk, sm_get, sm_ent, sm_ents, sm_wds, sm_wd, sm_nl, sm_pop, sm_back, sm_cases, oK, oLK, oL, oI, oA, oJ, oIs, oAs, oJs, oInc, oAdd, oSub, oMul, oDiv, oRem, oNeg, oAnd, oAndB, oOr, oShl, oI2c, oI2l, oL2i, oLand, oLor, oLshl, oLshr, oLushr, oLcmp, oDup, oDup2, oPop, oGo, oFg, oEq, oNe, oLt, oGe, oGt, oLe, oEq0, oNe0, oLt0, oGe0, oGt0, oLe0, oSw, oGi, oGr, oPi, oPz, oPr, oLen, oIl, oZl, oCl, oRl, oIst, oZst, oCst, oRst, oCopy, oNew, oNa, oNa2, oObj, oCs, oCv, oCi, oIr, oZr, oVr, Nat.beq, List.getElem?_cons_zero, List.getElem?_cons_succ, List.set_cons_zero, List.set_cons_succ, List.length_cons, List.length_nil, List.nil_append, List.cons_append, List.append_nil, List.replicate_succ, List.replicate_zero, Nat.reduceAdd, Nat.reduceSub, Nat.reduceLT, Nat.reduceLeDiff, Nat.reduceBEq, true_and, and_true, Nat.zero_add, Nat.add_zero, Nat.le_refl, Option.some.injEq, exists_eq_left', true_or, or_true, or_false, false_or, reduceCtorEq, Prod.mk.injEq, Sum.inl.injEq, and_self, false_and, and_false, not_true_eq_false, not_false_eq_true, false_implies, true_implies, sm_r, Int.add_zero, Int.zero_add, wI_wsI, wS_wsI, wR_wsI, wI_wCp, wS_wCp, wR_wCp, Nat.reduceEqDiff, reduceIte, sT_iff, sT_iffC, wIf_ne, ne_eq, Bool.false_or, Bool.true_or, Bool.or_false, Bool.or_true, Bool.or_self, tb_X8_delayInOrder, p_X8_delayNow, f_X8_delayNow, p_X8_delayInOrder, f_X8_delayInOrder]
  repeat' (first | exact True.intro | with_reducible assumption | with_reducible refine And.intro ?_ ?_ | intro _)
  all_goals first
    | omega
    | assumption
    | rfl
    | (split <;> omega)
    | (have k9 := ih (by omega)
       (repeat' split at k9) <;> first | exact k9 | omega)
    | (have k9 := ih2 (by omega)
       (repeat' split at k9) <;> first | exact k9 | omega)
    | exact he (by omega)
    | (congr 1; omega)
    | (rw [if_pos (by omega)] at he; exact he)
    | exact hD1 (by omega)
    | exact hD2 (by omega)
    | skip

theorem met_X8_delayInOrder (l : Launch) : sm_Met l yX8_delayInOrder cX8_delayInOrder 2 (some .int) 8 0 0 p_X8_delayInOrder f_X8_delayInOrder := sm_met 1 (Or.inr (Or.inl ⟨rfl, rfl⟩)) (by decide +kernel) (sn_X8_delayInOrder l) ok_X8_delayInOrder