/-! THE REFERENCE: what is asked of a day that was run -/
/-- what a day writes down is small -/
def mRec (w : sm_W) : Prop := (∀ i, -6 ≤ wI w 163 i ∧ wI w 163 i ≤ 100000) ∧ (∀ i, -6 ≤ wI w 165 i ∧ wI w 165 i ≤ 100000) ∧ (∀ i, -6 ≤ wI w 164 i ∧ wI w 164 i ≤ 200000) ∧ mCtr w 2000000
def mEndOf (w : sm_W) (x : Int) : Int := wI w 163 (8 * x + wI w 155 (17 + 5 * x + 1))
def p_X8_endOf : List sm_V → sm_W → Prop
  | [.inr (.inl m), .inl x], w => m = 154 ∧ mOK w ∧ 0 ≤ x ∧ x < wI w 155 1
  | _, _ => False
def f_X8_endOf : sm_F
  | [.inr (.inl m), .inl x], w => (some (.inl (mEndOf w x)), w)
  | _, w => (none, w)
def tb_X8_endOf : List (Nat × List sm_O) := [(0, [oA 0, oGr 8 30 10, oK 8, oI 1, oMul, oA 0, oI 1, oK 1, oCv 8 30 p_X8_of f_X8_of 0 0 3, oAdd, oIl, oIr])]
set_option maxRecDepth 100000 in
theorem sb_X8_endOf_0 (l : Launch) : sm_SndB l RX8 "endOf" cX8_endOf 2 1 1 0 [oA 0, oGr 8 30 10, oK 8, oI 1, oMul, oA 0, oI 1, oK 1, oCv 8 30 p_X8_of f_X8_of 0 0 3, oAdd, oIl, oIr] := sb_cons (sd_aload_n (by decide +kernel : decode cX8_endOf 0 = .ok (.aload_n 0, 1)) rfl) (sb_cons (sd_getr (k := 10) kl_8 (by decide) rfl wm_683 (by decide +kernel : decode cX8_endOf 1 = .ok (.getfield 35, 3))) (sb_cons (sd_bipush (by decide +kernel : decode cX8_endOf 4 = .ok (.bipush 8, 2)) ⟨by decide, by decide⟩ (by decide)) (sb_cons (sd_iload_n (by decide +kernel : decode cX8_endOf 6 = .ok (.iload_n 1, 1)) rfl) (sb_cons (sd_imul (by decide +kernel : decode cX8_endOf 7 = .ok (.imul, 1))) (sb_cons (sd_aload_n (by decide +kernel : decode cX8_endOf 8 = .ok (.aload_n 0, 1)) rfl) (sb_cons (sd_iload_n (by decide +kernel : decode cX8_endOf 9 = .ok (.iload_n 1, 1)) rfl) (sb_cons (sd_iconst (by decide +kernel : decode cX8_endOf 10 = .ok (.iconst 1, 1)) ⟨by decide, by decide⟩) (sb_cons (sd_callv (n := 2) (met_X8_of l) (by decide) (by decide) wm_778 wm_776 wm_10 ⟨by decide +kernel, by decide +kernel, by decide +kernel⟩ kl_8 wm_777 wm_1113 (by decide +kernel : decode cX8_endOf 11 = .ok (.invokevirtual 78, 3))) (sb_cons (sd_iadd (by decide +kernel : decode cX8_endOf 14 = .ok (.iadd, 1))) (sb_cons (sd_iaload (by decide +kernel : decode cX8_endOf 15 = .ok (.iaload, 1))) (sb_cons (sd_ireturn (x := 0) rfl (by decide +kernel : decode cX8_endOf 16 = .ok (.ireturn, 1))) sb_nil)))))))))))
theorem sn_X8_endOf (l : Launch) : sm_SndT l RX8 "endOf" cX8_endOf 2 1 1 tb_X8_endOf := st_cons (sb_X8_endOf_0 l) (st_nil)
set_option maxRecDepth 100000 in
set_option maxHeartbeats 4000000 in
theorem ok_X8_endOf : sm_Ok tb_X8_endOf 2 0 0 p_X8_endOf f_X8_endOf := by
  intro as w hp ha hw
  match as, hp with
  | [.inr (.inl m), .inl x], hp =>
  refine ⟨Nat.le_of_ble_eq_true rfl, fun Z hZ => ?_⟩
  obtain ⟨rfl, ⟨hT, hv⟩, h1, h2⟩ := hp
  have hm := vOK_many hv
  have hq := vOK_sh hv h1 h2
  refine hZ (fun _ => false) 16 0 _ _ _ _ _ ?_
  simp only [sm_run, sm_blk, sm_get, sm_ent, sm_ents, sm_wds, sm_wd, sm_nl, sm_pop, sm_back, sm_cases, oK, oLK, oL, oI, oA, oJ, oIs, oAs, oJs, oInc, oAdd, oSub, oMul, oDiv, oRem, oNeg, oAnd, oAndB, oOr, oShl, oI2c, oI2l, oL2i, oLand, oLor, oLshl, oLshr, oLushr, oLcmp, oDup, oDup2, oPop, oGo, oFg, oEq, oNe, oLt, oGe, oGt, oLe, oEq0, oNe0, oLt0, oGe0, oGt0, oLe0, oSw, oGi, oGr, oPi, oPz, oPr, oLen, oIl, oZl, oCl, oRl, oIst, oZst, oCst, oRst, oCopy, oNew, oNa, oNa2, oObj, oCs, oCv, oCi, oIr, oZr, oVr, Nat.beq, List.getElem?_cons_zero, List.getElem?_cons_succ, List.set_cons_zero, List.set_cons_succ, List.length_cons, List.length_nil, List.nil_append, List.cons_append, List.append_nil, List.replicate_succ, List.replicate_zero, Nat.reduceAdd, Nat.reduceSub, Nat.reduceLT, Nat.reduceLeDiff, Nat.reduceBEq, true_and, and_true, Nat.zero_add, Nat.add_zero, Nat.le_refl, Option.some.injEq, exists_eq_left', true_or, or_true, or_false, false_or, reduceCtorEq, Prod.mk.injEq, Sum.inl.injEq, and_self, false_and, and_false, not_true_eq_false, not_false_eq_true, false_implies, true_implies, sm_r, Int.add_zero, Int.zero_add, wI_wsI, wS_wsI, wR_wsI, wI_wCp, wS_wCp, wR_wCp, Nat.reduceEqDiff, reduceIte, sT_iff, sT_iffC, wIf_ne, ne_eq, Bool.false_or, Bool.true_or, Bool.or_false, Bool.or_true, Bool.or_self, tb_X8_endOf, p_X8_of, f_X8_of, p_X8_endOf, f_X8_endOf, sS_154 hT, sR_154_10 hT, sS_163 hT, hT]
  repeat' (first | exact True.intro | with_reducible assumption | with_reducible refine And.intro ?_ ?_ | intro _)
  all_goals first
    | omega
    | assumption
    | rfl
    | (split <;> omega)
    | skip
theorem met_X8_endOf (l : Launch) : sm_Met l yX8_endOf cX8_endOf 2 (some .int) 1 0 0 p_X8_endOf f_X8_endOf := sm_met 1 (Or.inr (Or.inl ⟨rfl, rfl⟩)) (by decide +kernel) (sn_X8_endOf l) ok_X8_endOf
def mDelay (w : sm_W) (x : Int) : Int := if mEndOf w x < 0 then -6 else mEndOf w x - wI w 155 (17 + 5 * x + 2) - vTime (wI w 155) x (wI w 155 (17 + 5 * x))
theorem vTime_b {v : Int → Int} (hv : vOK v) {x : Int} (h0 : 0 ≤ x) (h1 : x < v 1) {fr : Int} (f0 : 0 ≤ fr) (f1 : fr ≤ 7) : 0 ≤ vTime v x fr ∧ vTime v x fr ≤ 400 := by
  have hq := vOK_sh hv h0 h1
  unfold vTime
  split
  · exact wT_b hv (by omega) (by omega) f0 (by omega) (by omega)
  · exact wT_b hv (by omega) (by omega) (by omega) (by omega) f1
theorem mDelay_b {w : sm_W} (hO : mOK w) (hR : mRec w) {x : Int} (h0 : 0 ≤ x) (h1 : x < wI w 155 1) : -1000 ≤ mDelay w x ∧ mDelay w x ≤ 100000 := by
  have hq := vOK_sh hO.2 h0 h1
  have ht := vTime_b hO.2 h0 h1 (fr := wI w 155 (17 + 5 * x)) (by omega) (by omega)
  have hr := hR.1 (8 * x + wI w 155 (17 + 5 * x + 1))
  unfold mDelay mEndOf
  split <;> omega
def p_X8_delayOf : List sm_V → sm_W → Prop
  | [.inr (.inl m), .inl x], w => m = 154 ∧ mOK w ∧ 0 ≤ x ∧ x < wI w 155 1 ∧ mRec w
  | _, _ => False
def f_X8_delayOf : sm_F
  | [.inr (.inl m), .inl x], w => (some (.inl (mDelay w x)), w)
  | _, w => (none, w)
def tb_X8_delayOf : List (Nat × List sm_O) := [(0, [oA 0, oI 1, oCv 8 30 p_X8_endOf f_X8_endOf 0 0 2, oGe0 13, oK (-6), oGo 37]),
  (13, [oA 0, oI 1, oCv 8 30 p_X8_endOf f_X8_endOf 0 0 2, oA 0, oI 1, oK 2, oCv 8 30 p_X8_of f_X8_of 0 0 3, oSub, oA 0, oI 1, oA 0, oI 1, oK 0, oCv 8 30 p_X8_of f_X8_of 0 0 3, oCv 8 30 p_X8_timeOf f_X8_timeOf 0 0 3, oSub, oGo 37]),
  (37, [oIr])]
set_option maxRecDepth 100000 in
theorem sb_X8_delayOf_0 (l : Launch) : sm_SndB l RX8 "delayOf" cX8_delayOf 2 1 3 0 [oA 0, oI 1, oCv 8 30 p_X8_endOf f_X8_endOf 0 0 2, oGe0 13, oK (-6), oGo 37] := sb_cons (sd_aload_n (by decide +kernel : decode cX8_delayOf 0 = .ok (.aload_n 0, 1)) rfl) (sb_cons (sd_iload_n (by decide +kernel : decode cX8_delayOf 1 = .ok (.iload_n 1, 1)) rfl) (sb_cons (sd_callv (n := 1) (met_X8_endOf l) (by decide) (by decide) wm_881 wm_879 wm_10 ⟨by decide +kernel, by decide +kernel, by decide +kernel⟩ kl_8 wm_880 wm_1134 (by decide +kernel : decode cX8_delayOf 2 = .ok (.invokevirtual 161, 3))) (sb_cons (sd_ge0 (by decide +kernel : decode cX8_delayOf 5 = .ok (.ifCond .ge 8, 3)) (by decide)) (sb_cons (sd_bipush (by decide +kernel : decode cX8_delayOf 8 = .ok (.bipush (-6), 2)) ⟨by decide, by decide⟩ (by decide)) (sb_cons (sd_goto (x := 0) (by decide +kernel : decode cX8_delayOf 10 = .ok (.goto 27, 3)) (by decide)) sb_nil)))))
set_option maxRecDepth 100000 in
theorem sb_X8_delayOf_13 (l : Launch) : sm_SndB l RX8 "delayOf" cX8_delayOf 2 1 3 13 [oA 0, oI 1, oCv 8 30 p_X8_endOf f_X8_endOf 0 0 2, oA 0, oI 1, oK 2, oCv 8 30 p_X8_of f_X8_of 0 0 3, oSub, oA 0, oI 1, oA 0, oI 1, oK 0, oCv 8 30 p_X8_of f_X8_of 0 0 3, oCv 8 30 p_X8_timeOf f_X8_timeOf 0 0 3, oSub, oGo 37] := sb_cons (sd_aload_n (by decide +kernel : decode cX8_delayOf 13 = .ok (.aload_n 0, 1)) rfl) (sb_cons (sd_iload_n (by decide +kernel : decode cX8_delayOf 14 = .ok (.iload_n 1, 1)) rfl) (sb_cons (sd_callv (n := 1) (met_X8_endOf l) (by decide) (by decide) wm_881 wm_879 wm_10 ⟨by decide +kernel, by decide +kernel, by decide +kernel⟩ kl_8 wm_880 wm_1134 (by decide +kernel : decode cX8_delayOf 15 = .ok (.invokevirtual 161, 3))) (sb_cons (sd_aload_n (by decide +kernel : decode cX8_delayOf 18 = .ok (.aload_n 0, 1)) rfl) (sb_cons (sd_iload_n (by decide +kernel : decode cX8_delayOf 19 = .ok (.iload_n 1, 1)) rfl) (sb_cons (sd_iconst (by decide +kernel : decode cX8_delayOf 20 = .ok (.iconst 2, 1)) ⟨by decide, by decide⟩) (sb_cons (sd_callv (n := 2) (met_X8_of l) (by decide) (by decide) wm_778 wm_776 wm_10 ⟨by decide +kernel, by decide +kernel, by decide +kernel⟩ kl_8 wm_777 wm_1113 (by decide +kernel : decode cX8_delayOf 21 = .ok (.invokevirtual 78, 3))) (sb_cons (sd_isub (by decide +kernel : decode cX8_delayOf 24 = .ok (.isub, 1))) (sb_cons (sd_aload_n (by decide +kernel : decode cX8_delayOf 25 = .ok (.aload_n 0, 1)) rfl) (sb_cons (sd_iload_n (by decide +kernel : decode cX8_delayOf 26 = .ok (.iload_n 1, 1)) rfl) (sb_cons (sd_aload_n (by decide +kernel : decode cX8_delayOf 27 = .ok (.aload_n 0, 1)) rfl) (sb_cons (sd_iload_n (by decide +kernel : decode cX8_delayOf 28 = .ok (.iload_n 1, 1)) rfl) (sb_cons (sd_iconst (by decide +kernel : decode cX8_delayOf 29 = .ok (.iconst 0, 1)) ⟨by decide, by decide⟩) (sb_cons (sd_callv (n := 2) (met_X8_of l) (by decide) (by decide) wm_778 wm_776 wm_10 ⟨by decide +kernel, by decide +kernel, by decide +kernel⟩ kl_8 wm_777 wm_1113 (by decide +kernel : decode cX8_delayOf 30 = .ok (.invokevirtual 78, 3))) (sb_cons (sd_callv (n := 2) (met_X8_timeOf l) (by decide) (by decide) wm_865 wm_863 wm_10 ⟨by decide +kernel, by decide +kernel, by decide +kernel⟩ kl_8 wm_864 wm_1130 (by decide +kernel : decode cX8_delayOf 33 = .ok (.invokevirtual 115, 3))) (sb_cons (sd_isub (by decide +kernel : decode cX8_delayOf 36 = .ok (.isub, 1))) (sb_cons (sd_fall (x := 0)) sb_nil))))))))))))))))
set_option maxRecDepth 100000 in
theorem sb_X8_delayOf_37 (l : Launch) : sm_SndB l RX8 "delayOf" cX8_delayOf 2 1 3 37 [oIr] := sb_cons (sd_ireturn (x := 0) rfl (by decide +kernel : decode cX8_delayOf 37 = .ok (.ireturn, 1))) sb_nil
theorem sn_X8_delayOf (l : Launch) : sm_SndT l RX8 "delayOf" cX8_delayOf 2 1 3 tb_X8_delayOf := st_cons (sb_X8_delayOf_0 l) (st_cons (sb_X8_delayOf_13 l) (st_cons (sb_X8_delayOf_37 l) (st_nil)))
set_option maxRecDepth 100000 in
set_option maxHeartbeats 4000000 in
theorem ok_X8_delayOf : sm_Ok tb_X8_delayOf 2 0 0 p_X8_delayOf f_X8_delayOf := by
  intro as w hp ha hw
  match as, hp with
  | [.inr (.inl m), .inl x], hp =>
  refine ⟨Nat.le_of_ble_eq_true rfl, fun Z hZ => ?_⟩
  obtain ⟨rfl, ⟨hT, hv⟩, h1, h2, hR⟩ := hp
  have hO : mOK w := ⟨hT, hv⟩
  have hq := vOK_sh hv h1 h2
  have hm := vOK_many hv
  have ht := vTime_b hv h1 h2 (fr := wI w 155 (17 + 5 * x)) (by omega) (by omega)
  have hr := hR.1 (8 * x + wI w 155 (17 + 5 * x + 1))
  have hr2 : mEndOf w x = wI w 163 (8 * x + wI w 155 (17 + 5 * x + 1)) := rfl
  refine hZ (fun _ => false) 16 0 _ _ _ _ _ ?_
  simp only [sm_run, sm_blk, sm_get, sm_ent, sm_ents, sm_wds, sm_wd, sm_nl, sm_pop, sm_back, sm_cases, oK, oLK, oL, oI, oA, oJ, oIs, oAs, oJs, oInc, oAdd, oSub, oMul, oDiv, oRem, oNeg, oAnd, oAndB, oOr, oShl, oI2c, oI2l, oL2i, oLand, oLor, oLshl, oLshr, oLushr, oLcmp, oDup, oDup2, oPop, oGo, oFg, oEq, oNe, oLt, oGe, oGt, oLe, oEq0, oNe0, oLt0, oGe0, oGt0, oLe0, oSw, oGi, oGr, oPi, oPz, oPr, oLen, oIl, oZl, oCl, oRl, oIst, oZst, oCst, oRst, oCopy, oNew, oNa, oNa2, oObj, oCs, oCv, oCi, oIr, oZr, oVr, Nat.beq, List.getElem?_cons_zero, List.getElem?_cons_succ, List.set_cons_zero, List.set_cons_succ, List.length_cons, List.length_nil, List.nil_append, List.cons_append, List.append_nil, List.replicate_succ, List.replicate_zero, Nat.reduceAdd, Nat.reduceSub, Nat.reduceLT, Nat.reduceLeDiff, Nat.reduceBEq, true_and, and_true, Nat.zero_add, Nat.add_zero, Nat.le_refl, Option.some.injEq, exists_eq_left', true_or, or_true, or_false, false_or, reduceCtorEq, Prod.mk.injEq, Sum.inl.injEq, and_self, false_and, and_false, not_true_eq_false, not_false_eq_true, false_implies, true_implies, sm_r, Int.add_zero, Int.zero_add, wI_wsI, wS_wsI, wR_wsI, wI_wCp, wS_wCp, wR_wCp, Nat.reduceEqDiff, reduceIte, sT_iff, sT_iffC, wIf_ne, ne_eq, Bool.false_or, Bool.true_or, Bool.or_false, Bool.or_true, Bool.or_self, tb_X8_delayOf, p_X8_endOf, p_X8_of, p_X8_timeOf, f_X8_endOf, f_X8_of, f_X8_timeOf, p_X8_delayOf, f_X8_delayOf, sS_154 hT, hT, hO]
  repeat' (first | exact True.intro | with_reducible assumption | with_reducible refine And.intro ?_ ?_ | intro _)
  all_goals first
    | omega
    | assumption
    | rfl
    | (split <;> omega)
    | grind [mDelay]
    | skip
theorem met_X8_delayOf (l : Launch) : sm_Met l yX8_delayOf cX8_delayOf 2 (some .int) 3 0 0 p_X8_delayOf f_X8_delayOf := sm_met 1 (Or.inr (Or.inl ⟨rfl, rfl⟩)) (by decide +kernel) (sn_X8_delayOf l) ok_X8_delayOf
def mDlS (w : sm_W) : Int → Int := itI (fun x r => r + mDelay w x) 0
theorem mDlS_b {w : sm_W} (hO : mOK w) (hR : mRec w) (n : Int) (h0 : 0 ≤ n) (h1 : n ≤ wI w 155 1) : -1000 * n ≤ mDlS w n ∧ mDlS w n ≤ 100000 * n := by
  refine itI_ind (fun i r => -1000 * i ≤ r ∧ r ≤ 100000 * i) n ⟨by decide, by decide⟩ (fun i r i0 i1 hr => ?_) n h0 (Int.le_refl _)
  have := mDelay_b hO hR i0 (by omega)
  omega
def mDl (w : sm_W) : Int := if wI w 154 18 = 0 then mDlS w (wI w 155 1) else -6
def p_X8_delay : List sm_V → sm_W → Prop
  | [.inr (.inl m)], w => m = 154 ∧ mOK w ∧ mRec w
  | _, _ => False
def f_X8_delay : sm_F
  | [.inr (.inl m)], w => (some (.inl (mDl w)), w)
  | _, w => (none, w)
def tb_X8_delay : List (Nat × List sm_O) := [(0, [oK 0, oIs 1, oK 0, oIs 2, oGo 4]),
  (4, [oI 2, oA 0, oGr 8 30 0, oK 1, oIl, oGe 28, oI 1, oA 0, oI 2, oCv 8 30 p_X8_delayOf f_X8_delayOf 0 0 2, oAdd, oIs 1, oInc 2 1, oGo 4]),
  (28, [oA 0, oGi 8 30 18, oEq0 40, oK (-6), oGo 41]),
  (40, [oI 1, oGo 41]),
  (41, [oIr])]
set_option maxRecDepth 100000 in
theorem sb_X8_delay_0 (l : Launch) : sm_SndB l RX8 "delay" cX8_delay 3 1 4 0 [oK 0, oIs 1, oK 0, oIs 2, oGo 4] := sb_cons (sd_iconst (by decide +kernel : decode cX8_delay 0 = .ok (.iconst 0, 1)) ⟨by decide, by decide⟩) (sb_cons (sd_istore_n (by decide +kernel : decode cX8_delay 1 = .ok (.istore_n 1, 1)) rfl) (sb_cons (sd_iconst (by decide +kernel : decode cX8_delay 2 = .ok (.iconst 0, 1)) ⟨by decide, by decide⟩) (sb_cons (sd_istore_n (by decide +kernel : decode cX8_delay 3 = .ok (.istore_n 2, 1)) rfl) (sb_cons (sd_fall (x := 0)) sb_nil))))
set_option maxRecDepth 100000 in
theorem sb_X8_delay_4 (l : Launch) : sm_SndB l RX8 "delay" cX8_delay 3 1 4 4 [oI 2, oA 0, oGr 8 30 0, oK 1, oIl, oGe 28, oI 1, oA 0, oI 2, oCv 8 30 p_X8_delayOf f_X8_delayOf 0 0 2, oAdd, oIs 1, oInc 2 1, oGo 4] := sb_cons (sd_iload_n (by decide +kernel : decode cX8_delay 4 = .ok (.iload_n 2, 1)) rfl) (sb_cons (sd_aload_n (by decide +kernel : decode cX8_delay 5 = .ok (.aload_n 0, 1)) rfl) (sb_cons (sd_getr (k := 0) kl_8 (by decide) rfl wm_673 (by decide +kernel : decode cX8_delay 6 = .ok (.getfield 7, 3))) (sb_cons (sd_iconst (by decide +kernel : decode cX8_delay 9 = .ok (.iconst 1, 1)) ⟨by decide, by decide⟩) (sb_cons (sd_iaload (by decide +kernel : decode cX8_delay 10 = .ok (.iaload, 1))) (sb_cons (sd_ge (by decide +kernel : decode cX8_delay 11 = .ok (.if_icmp .ge 17, 3)) (by decide)) (sb_cons (sd_iload_n (by decide +kernel : decode cX8_delay 14 = .ok (.iload_n 1, 1)) rfl) (sb_cons (sd_aload_n (by decide +kernel : decode cX8_delay 15 = .ok (.aload_n 0, 1)) rfl) (sb_cons (sd_iload_n (by decide +kernel : decode cX8_delay 16 = .ok (.iload_n 2, 1)) rfl) (sb_cons (sd_callv (n := 1) (met_X8_delayOf l) (by decide) (by decide) wm_885 wm_883 wm_10 ⟨by decide +kernel, by decide +kernel, by decide +kernel⟩ kl_8 wm_884 wm_1135 (by decide +kernel : decode cX8_delay 17 = .ok (.invokevirtual 164, 3))) (sb_cons (sd_iadd (by decide +kernel : decode cX8_delay 20 = .ok (.iadd, 1))) (sb_cons (sd_istore_n (by decide +kernel : decode cX8_delay 21 = .ok (.istore_n 1, 1)) rfl) (sb_cons (sd_iinc (by decide +kernel : decode cX8_delay 22 = .ok (.iinc 2 1, 3))) (sb_cons (sd_goto (x := 0) (by decide +kernel : decode cX8_delay 25 = .ok (.goto (-21), 3)) (by decide)) sb_nil)))))))))))))
set_option maxRecDepth 100000 in
theorem sb_X8_delay_28 (l : Launch) : sm_SndB l RX8 "delay" cX8_delay 3 1 4 28 [oA 0, oGi 8 30 18, oEq0 40, oK (-6), oGo 41] := sb_cons (sd_aload_n (by decide +kernel : decode cX8_delay 28 = .ok (.aload_n 0, 1)) rfl) (sb_cons (sd_geti (k := 18) kl_8 (by decide) rfl wm_691 (by decide +kernel : decode cX8_delay 29 = .ok (.getfield 92, 3))) (sb_cons (sd_eq0 (by decide +kernel : decode cX8_delay 32 = .ok (.ifCond .eq 8, 3)) (by decide)) (sb_cons (sd_bipush (by decide +kernel : decode cX8_delay 35 = .ok (.bipush (-6), 2)) ⟨by decide, by decide⟩ (by decide)) (sb_cons (sd_goto (x := 0) (by decide +kernel : decode cX8_delay 37 = .ok (.goto 4, 3)) (by decide)) sb_nil))))
set_option maxRecDepth 100000 in
theorem sb_X8_delay_40 (l : Launch) : sm_SndB l RX8 "delay" cX8_delay 3 1 4 40 [oI 1, oGo 41] := sb_cons (sd_iload_n (by decide +kernel : decode cX8_delay 40 = .ok (.iload_n 1, 1)) rfl) (sb_cons (sd_fall (x := 0)) sb_nil)
set_option maxRecDepth 100000 in
theorem sb_X8_delay_41 (l : Launch) : sm_SndB l RX8 "delay" cX8_delay 3 1 4 41 [oIr] := sb_cons (sd_ireturn (x := 0) rfl (by decide +kernel : decode cX8_delay 41 = .ok (.ireturn, 1))) sb_nil
theorem sn_X8_delay (l : Launch) : sm_SndT l RX8 "delay" cX8_delay 3 1 4 tb_X8_delay := st_cons (sb_X8_delay_0 l) (st_cons (sb_X8_delay_4 l) (st_cons (sb_X8_delay_28 l) (st_cons (sb_X8_delay_40 l) (st_cons (sb_X8_delay_41 l) (st_nil)))))
set_option maxRecDepth 100000 in
set_option maxHeartbeats 4000000 in
theorem ok_X8_delay : sm_Ok tb_X8_delay 3 0 0 p_X8_delay f_X8_delay := by
  intro as w hp ha hw
  match as, hp with
  | [.inr (.inl m)], hp =>
  refine ⟨Nat.le_of_ble_eq_true rfl, fun Z hZ => ?_⟩
  obtain ⟨rfl, hO, hR⟩ := hp
  have hT := hO.1
  have hm := vOK_many hO.2
  have hl := sm_loopI Z 4 0 (wI w 155 1) (fun i => [some (.inr (.inl 154)), some (.inl (mDlS w i)), some (.inl i)]) (fun _ => w) 0 0 hm.1 (fun i h0 h1 ih => by
    have hb := mDlS_b hO hR i h0 h1
    have hd := fun hlt => mDelay_b hO hR h0 hlt
    have hu : mDlS w (i + 1) = mDlS w i + mDelay w i := itI_s _ _ h0
    have hx1 : i = wI w 155 1 → mDlS w i = mDlS w (wI w 155 1) := fun e => by rw [e]
    rw [hu] at ih
    refine hZ (fun u => Nat.beq u 4) 14 4 _ _ _ _ _ ?_
    simp only [sm_run, sm_blk, sm_get, sm_ent, sm_ents, sm_wds, sm_wd, sm_nl, sm_pop, sm_back, sm_cases, oK, oLK, oL, oI, oA, oJ, oIs, oAs, oJs, oInc, oAdd, oSub, oMul, oDiv, oRem, oNeg, oAnd, oAndB, oOr, oShl, oI2c, oI2l, oL2i, oLand, oLor, oLshl, oLshr, oLushr, oLcmp, oDup, oDup2, oPop, oGo, oFg, oEq, oNe, oLt, oGe, oGt, oLe, oEq0, oNe0, oLt0, oGe0, oGt0, oLe0, oSw, oGi, oGr, oPi, oPz, oPr, oLen, oIl, oZl, oCl, oRl, oIst, oZst, oCst, oRst, oCopy, oNew, oNa, oNa2, oObj, oCs, oCv, oCi, oIr, oZr, oVr, Nat.beq, List.getElem?_cons_zero, List.getElem?_cons_succ, List.set_cons_zero, List.set_cons_succ, List.length_cons, List.length_nil, List.nil_append, List.cons_append, List.append_nil, List.replicate_succ, List.replicate_zero, Nat.reduceAdd, Nat.reduceSub, Nat.reduceLT, Nat.reduceLeDiff, Nat.reduceBEq, true_and, and_true, Nat.zero_add, Nat.add_zero, Nat.le_refl, Option.some.injEq, exists_eq_left', true_or, or_true, or_false, false_or, reduceCtorEq, Prod.mk.injEq, Sum.inl.injEq, and_self, false_and, and_false, not_true_eq_false, not_false_eq_true, false_implies, true_implies, sm_r, Int.add_zero, Int.zero_add, wI_wsI, wS_wsI, wR_wsI, wI_wCp, wS_wCp, wR_wCp, Nat.reduceEqDiff, reduceIte, sT_iff, sT_iffC, wIf_ne, ne_eq, Bool.false_or, Bool.true_or, Bool.or_false, Bool.or_true, Bool.or_self, tb_X8_delay, p_X8_delayOf, f_X8_delayOf, p_X8_delay, f_X8_delay, sS_154 hT, sR_154_0 hT, sS_155 hT, hT, hO, hR]
    repeat' (first | exact True.intro | with_reducible assumption | with_reducible refine And.intro ?_ ?_ | intro _)
    all_goals first
      | omega
      | assumption
      | rfl
      | (split <;> omega)
      | (have k9 := ih (by omega)
         (repeat' split at k9) <;> first | exact k9 | omega)
      | (have k9 := ih2 (by omega)
         (repeat' split at k9) <;> first | exact k9 | omega)
      | exact he (by omega)
      | (congr 1; omega)
      | (rw [if_pos (by omega)] at he; exact he)
      | exact hD1 (by omega)
      | exact hD2 (by omega)
      | grind [mDl]
      | skip
    )
  refine hZ (fun u => Nat.beq u 4) 14 0 _ _ _ _ _ ?_
  simp only [sm_run, sm_blk, sm_get, sm_ent, sm_ents, sm_wds, sm_wd, sm_nl, sm_pop, sm_back, sm_cases, oK, oLK, oL, oI, oA, oJ, oIs, oAs, oJs, oInc, oAdd, oSub, oMul, oDiv, oRem, oNeg, oAnd, oAndB, oOr, oShl, oI2c, oI2l, oL2i, oLand, oLor, oLshl, oLshr, oLushr, oLcmp, oDup, oDup2, oPop, oGo, oFg, oEq, oNe, oLt, oGe, oGt, oLe, oEq0, oNe0, oLt0, oGe0, oGt0, oLe0, oSw, oGi, oGr, oPi, oPz, oPr, oLen, oIl, oZl, oCl, oRl, oIst, oZst, oCst, oRst, oCopy, oNew, oNa, oNa2, oObj, oCs, oCv, oCi, oIr, oZr, oVr, Nat.beq, List.getElem?_cons_zero, List.getElem?_cons_succ, List.set_cons_zero, List.set_cons_succ, List.length_cons, List.length_nil, List.nil_append, List.cons_append, List.append_nil, List.replicate_succ, List.replicate_zero, Nat.reduceAdd, Nat.reduceSub, Nat.reduceLT, Nat.reduceLeDiff, Nat.reduceBEq, true_and, and_true, Nat.zero_add, Nat.add_zero, Nat.le_refl, Option.some.injEq, exists_eq_left', true_or, or_true, or_false, false_or, reduceCtorEq, Prod.mk.injEq, Sum.inl.injEq, and_self, false_and, and_false, not_true_eq_false, not_false_eq_true, false_implies, true_implies, sm_r, Int.add_zero, Int.zero_add, wI_wsI, wS_wsI, wR_wsI, wI_wCp, wS_wCp, wR_wCp, Nat.reduceEqDiff, reduceIte, sT_iff, sT_iffC, wIf_ne, ne_eq, Bool.false_or, Bool.true_or, Bool.or_false, Bool.or_true, Bool.or_self, tb_X8_delay, p_X8_delayOf, f_X8_delayOf, p_X8_delay, f_X8_delay]
  repeat' (first | exact True.intro | with_reducible assumption | with_reducible refine And.intro ?_ ?_ | intro _)
  all_goals first
    | omega
    | assumption
    | rfl
    | (split <;> omega)
    | (have k9 := ih (by omega)
       (repeat' split at k9) <;> first | exact k9 | omega)
    | (have k9 := ih2 (by omega)
       (repeat' split at k9) <;> first | exact k9 | omega)
    | exact he (by omega)
    | (congr 1; omega)
    | (rw [if_pos (by omega)] at he; exact he)
    | exact hD1 (by omega)
    | exact hD2 (by omega)
    | skip
theorem met_X8_delay (l : Launch) : sm_Met l yX8_delay cX8_delay 3 (some .int) 4 0 0 p_X8_delay f_X8_delay := sm_met 1 (Or.inr (Or.inl ⟨rfl, rfl⟩)) (by decide +kernel) (sn_X8_delay l) ok_X8_delay
def mWtd (w : sm_W) (x : Int) : Int := wI w 169 (4 * x + 1) + wI w 169 (4 * x + 2) + wI w 169 (4 * x + 3)
def p_X8_waited : List sm_V → sm_W → Prop
  | [.inr (.inl m), .inl x], w => m = 154 ∧ sT w ∧ 0 ≤ x ∧ x < 8 ∧ mRec w
  | _, _ => False
def f_X8_waited : sm_F
  | [.inr (.inl m), .inl x], w => (some (.inl (mWtd w x)), w)
  | _, w => (none, w)
def tb_X8_waited : List (Nat × List sm_O) := [(0, [oA 0, oGr 8 30 16, oK 4, oI 1, oMul, oK 1, oAdd, oIl, oA 0, oGr 8 30 16, oK 4, oI 1, oMul, oK 2, oAdd, oIl, oAdd, oA 0, oGr 8 30 16, oK 4, oI 1, oMul, oK 3, oAdd, oIl, oAdd, oIr])]
set_option maxRecDepth 100000 in
theorem sb_X8_waited_0 (l : Launch) : sm_SndB l RX8 "waited" cX8_waited 2 1 0 0 [oA 0, oGr 8 30 16, oK 4, oI 1, oMul, oK 1, oAdd, oIl, oA 0, oGr 8 30 16, oK 4, oI 1, oMul, oK 2, oAdd, oIl, oAdd, oA 0, oGr 8 30 16, oK 4, oI 1, oMul, oK 3, oAdd, oIl, oAdd, oIr] := sb_cons (sd_aload_n (by decide +kernel : decode cX8_waited 0 = .ok (.aload_n 0, 1)) rfl) (sb_cons (sd_getr (k := 16) kl_8 (by decide) rfl wm_689 (by decide +kernel : decode cX8_waited 1 = .ok (.getfield 53, 3))) (sb_cons (sd_iconst (by decide +kernel : decode cX8_waited 4 = .ok (.iconst 4, 1)) ⟨by decide, by decide⟩) (sb_cons (sd_iload_n (by decide +kernel : decode cX8_waited 5 = .ok (.iload_n 1, 1)) rfl) (sb_cons (sd_imul (by decide +kernel : decode cX8_waited 6 = .ok (.imul, 1))) (sb_cons (sd_iconst (by decide +kernel : decode cX8_waited 7 = .ok (.iconst 1, 1)) ⟨by decide, by decide⟩) (sb_cons (sd_iadd (by decide +kernel : decode cX8_waited 8 = .ok (.iadd, 1))) (sb_cons (sd_iaload (by decide +kernel : decode cX8_waited 9 = .ok (.iaload, 1))) (sb_cons (sd_aload_n (by decide +kernel : decode cX8_waited 10 = .ok (.aload_n 0, 1)) rfl) (sb_cons (sd_getr (k := 16) kl_8 (by decide) rfl wm_689 (by decide +kernel : decode cX8_waited 11 = .ok (.getfield 53, 3))) (sb_cons (sd_iconst (by decide +kernel : decode cX8_waited 14 = .ok (.iconst 4, 1)) ⟨by decide, by decide⟩) (sb_cons (sd_iload_n (by decide +kernel : decode cX8_waited 15 = .ok (.iload_n 1, 1)) rfl) (sb_cons (sd_imul (by decide +kernel : decode cX8_waited 16 = .ok (.imul, 1))) (sb_cons (sd_iconst (by decide +kernel : decode cX8_waited 17 = .ok (.iconst 2, 1)) ⟨by decide, by decide⟩) (sb_cons (sd_iadd (by decide +kernel : decode cX8_waited 18 = .ok (.iadd, 1))) (sb_cons (sd_iaload (by decide +kernel : decode cX8_waited 19 = .ok (.iaload, 1))) (sb_cons (sd_iadd (by decide +kernel : decode cX8_waited 20 = .ok (.iadd, 1))) (sb_cons (sd_aload_n (by decide +kernel : decode cX8_waited 21 = .ok (.aload_n 0, 1)) rfl) (sb_cons (sd_getr (k := 16) kl_8 (by decide) rfl wm_689 (by decide +kernel : decode cX8_waited 22 = .ok (.getfield 53, 3))) (sb_cons (sd_iconst (by decide +kernel : decode cX8_waited 25 = .ok (.iconst 4, 1)) ⟨by decide, by decide⟩) (sb_cons (sd_iload_n (by decide +kernel : decode cX8_waited 26 = .ok (.iload_n 1, 1)) rfl) (sb_cons (sd_imul (by decide +kernel : decode cX8_waited 27 = .ok (.imul, 1))) (sb_cons (sd_iconst (by decide +kernel : decode cX8_waited 28 = .ok (.iconst 3, 1)) ⟨by decide, by decide⟩) (sb_cons (sd_iadd (by decide +kernel : decode cX8_waited 29 = .ok (.iadd, 1))) (sb_cons (sd_iaload (by decide +kernel : decode cX8_waited 30 = .ok (.iaload, 1))) (sb_cons (sd_iadd (by decide +kernel : decode cX8_waited 31 = .ok (.iadd, 1))) (sb_cons (sd_ireturn (x := 0) rfl (by decide +kernel : decode cX8_waited 32 = .ok (.ireturn, 1))) sb_nil))))))))))))))))))))))))))
theorem sn_X8_waited (l : Launch) : sm_SndT l RX8 "waited" cX8_waited 2 1 0 tb_X8_waited := st_cons (sb_X8_waited_0 l) (st_nil)
set_option maxRecDepth 100000 in
set_option maxHeartbeats 4000000 in
theorem ok_X8_waited : sm_Ok tb_X8_waited 2 0 0 p_X8_waited f_X8_waited := by
  intro as w hp ha hw
  match as, hp with
  | [.inr (.inl m), .inl x], hp =>
  refine ⟨Nat.le_of_ble_eq_true rfl, fun Z hZ => ?_⟩
  obtain ⟨rfl, hT, h1, h2, hR⟩ := hp
  have c1 := hR.2.2.2 (4 * x + 1)
  have c2 := hR.2.2.2 (4 * x + 2)
  have c3 := hR.2.2.2 (4 * x + 3)
  refine hZ (fun _ => false) 16 0 _ _ _ _ _ ?_
  simp only [sm_run, sm_blk, sm_get, sm_ent, sm_ents, sm_wds, sm_wd, sm_nl, sm_pop, sm_back, sm_cases, oK, oLK, oL, oI, oA, oJ, oIs, oAs, oJs, oInc, oAdd, oSub, oMul, oDiv, oRem, oNeg, oAnd, oAndB, oOr, oShl, oI2c, oI2l, oL2i, oLand, oLor, oLshl, oLshr, oLushr, oLcmp, oDup, oDup2, oPop, oGo, oFg, oEq, oNe, oLt, oGe, oGt, oLe, oEq0, oNe0, oLt0, oGe0, oGt0, oLe0, oSw, oGi, oGr, oPi, oPz, oPr, oLen, oIl, oZl, oCl, oRl, oIst, oZst, oCst, oRst, oCopy, oNew, oNa, oNa2, oObj, oCs, oCv, oCi, oIr, oZr, oVr, Nat.beq, List.getElem?_cons_zero, List.getElem?_cons_succ, List.set_cons_zero, List.set_cons_succ, List.length_cons, List.length_nil, List.nil_append, List.cons_append, List.append_nil, List.replicate_succ, List.replicate_zero, Nat.reduceAdd, Nat.reduceSub, Nat.reduceLT, Nat.reduceLeDiff, Nat.reduceBEq, true_and, and_true, Nat.zero_add, Nat.add_zero, Nat.le_refl, Option.some.injEq, exists_eq_left', true_or, or_true, or_false, false_or, reduceCtorEq, Prod.mk.injEq, Sum.inl.injEq, and_self, false_and, and_false, not_true_eq_false, not_false_eq_true, false_implies, true_implies, sm_r, Int.add_zero, Int.zero_add, wI_wsI, wS_wsI, wR_wsI, wI_wCp, wS_wCp, wR_wCp, Nat.reduceEqDiff, reduceIte, sT_iff, sT_iffC, wIf_ne, ne_eq, Bool.false_or, Bool.true_or, Bool.or_false, Bool.or_true, Bool.or_self, tb_X8_waited, p_X8_waited, f_X8_waited, sS_154 hT, sR_154_16 hT, sS_169 hT, hT]
  repeat' (first | exact True.intro | with_reducible assumption | with_reducible refine And.intro ?_ ?_ | intro _)
  all_goals first
    | omega
    | assumption
    | rfl
    | (split <;> omega)
    | skip
theorem met_X8_waited (l : Launch) : sm_Met l yX8_waited cX8_waited 2 (some .int) 0 0 0 p_X8_waited f_X8_waited := sm_met 1 (Or.inr (Or.inl ⟨rfl, rfl⟩)) (by decide +kernel) (sn_X8_waited l) ok_X8_waited
def mBl1 (w : sm_W) (x y : Int) (r : Int × Int) : Int × Int := if r.2 < wI w 168 (8 * x + y) then (y, wI w 168 (8 * x + y)) else r
def mBlm (w : sm_W) (x : Int) : Int → Int × Int := itI (mBl1 w x) (-6, 0)
def p_X8_blamed : List sm_V → sm_W → Prop
  | [.inr (.inl m), .inl x], w => m = 154 ∧ mOK w ∧ 0 ≤ x ∧ x < wI w 155 1
  | _, _ => False
def f_X8_blamed : sm_F
  | [.inr (.inl m), .inl x], w => (some (.inl (mBlm w x (wI w 155 1)).1), w)
  | _, w => (none, w)
def tb_X8_blamed : List (Nat × List sm_O) := [(0, [oK (-6), oIs 2, oK 0, oIs 3, oK 0, oIs 4, oGo 8]),
  (8, [oI 4, oA 0, oGr 8 30 0, oK 1, oIl, oGe 57, oA 0, oGr 8 30 15, oK 8, oI 1, oMul, oI 4, oAdd, oIl, oI 3, oLe 51, oI 4, oIs 2, oA 0, oGr 8 30 15, oK 8, oI 1, oMul, oI 4, oAdd, oIl, oIs 3, oGo 51]),
  (51, [oInc 4 1, oGo 8]),
  (57, [oI 2, oIr])]
set_option maxRecDepth 100000 in
theorem sb_X8_blamed_0 (l : Launch) : sm_SndB l RX8 "blamed" cX8_blamed 5 1 0 0 [oK (-6), oIs 2, oK 0, oIs 3, oK 0, oIs 4, oGo 8] := sb_cons (sd_bipush (by decide +kernel : decode cX8_blamed 0 = .ok (.bipush (-6), 2)) ⟨by decide, by decide⟩ (by decide)) (sb_cons (sd_istore_n (by decide +kernel : decode cX8_blamed 2 = .ok (.istore_n 2, 1)) rfl) (sb_cons (sd_iconst (by decide +kernel : decode cX8_blamed 3 = .ok (.iconst 0, 1)) ⟨by decide, by decide⟩) (sb_cons (sd_istore_n (by decide +kernel : decode cX8_blamed 4 = .ok (.istore_n 3, 1)) rfl) (sb_cons (sd_iconst (by decide +kernel : decode cX8_blamed 5 = .ok (.iconst 0, 1)) ⟨by decide, by decide⟩) (sb_cons (sd_istore (by decide +kernel : decode cX8_blamed 6 = .ok (.istore 4, 2))) (sb_cons (sd_fall (x := 0)) sb_nil))))))
set_option maxRecDepth 100000 in
theorem sb_X8_blamed_8 (l : Launch) : sm_SndB l RX8 "blamed" cX8_blamed 5 1 0 8 [oI 4, oA 0, oGr 8 30 0, oK 1, oIl, oGe 57, oA 0, oGr 8 30 15, oK 8, oI 1, oMul, oI 4, oAdd, oIl, oI 3, oLe 51, oI 4, oIs 2, oA 0, oGr 8 30 15, oK 8, oI 1, oMul, oI 4, oAdd, oIl, oIs 3, oGo 51] := sb_cons (sd_iload (by decide +kernel : decode cX8_blamed 8 = .ok (.iload 4, 2))) (sb_cons (sd_aload_n (by decide +kernel : decode cX8_blamed 10 = .ok (.aload_n 0, 1)) rfl) (sb_cons (sd_getr (k := 0) kl_8 (by decide) rfl wm_673 (by decide +kernel : decode cX8_blamed 11 = .ok (.getfield 7, 3))) (sb_cons (sd_iconst (by decide +kernel : decode cX8_blamed 14 = .ok (.iconst 1, 1)) ⟨by decide, by decide⟩) (sb_cons (sd_iaload (by decide +kernel : decode cX8_blamed 15 = .ok (.iaload, 1))) (sb_cons (sd_ge (by decide +kernel : decode cX8_blamed 16 = .ok (.if_icmp .ge 41, 3)) (by decide)) (sb_cons (sd_aload_n (by decide +kernel : decode cX8_blamed 19 = .ok (.aload_n 0, 1)) rfl) (sb_cons (sd_getr (k := 15) kl_8 (by decide) rfl wm_688 (by decide +kernel : decode cX8_blamed 20 = .ok (.getfield 50, 3))) (sb_cons (sd_bipush (by decide +kernel : decode cX8_blamed 23 = .ok (.bipush 8, 2)) ⟨by decide, by decide⟩ (by decide)) (sb_cons (sd_iload_n (by decide +kernel : decode cX8_blamed 25 = .ok (.iload_n 1, 1)) rfl) (sb_cons (sd_imul (by decide +kernel : decode cX8_blamed 26 = .ok (.imul, 1))) (sb_cons (sd_iload (by decide +kernel : decode cX8_blamed 27 = .ok (.iload 4, 2))) (sb_cons (sd_iadd (by decide +kernel : decode cX8_blamed 29 = .ok (.iadd, 1))) (sb_cons (sd_iaload (by decide +kernel : decode cX8_blamed 30 = .ok (.iaload, 1))) (sb_cons (sd_iload_n (by decide +kernel : decode cX8_blamed 31 = .ok (.iload_n 3, 1)) rfl) (sb_cons (sd_le (by decide +kernel : decode cX8_blamed 32 = .ok (.if_icmp .le 19, 3)) (by decide)) (sb_cons (sd_iload (by decide +kernel : decode cX8_blamed 35 = .ok (.iload 4, 2))) (sb_cons (sd_istore_n (by decide +kernel : decode cX8_blamed 37 = .ok (.istore_n 2, 1)) rfl) (sb_cons (sd_aload_n (by decide +kernel : decode cX8_blamed 38 = .ok (.aload_n 0, 1)) rfl) (sb_cons (sd_getr (k := 15) kl_8 (by decide) rfl wm_688 (by decide +kernel : decode cX8_blamed 39 = .ok (.getfield 50, 3))) (sb_cons (sd_bipush (by decide +kernel : decode cX8_blamed 42 = .ok (.bipush 8, 2)) ⟨by decide, by decide⟩ (by decide)) (sb_cons (sd_iload_n (by decide +kernel : decode cX8_blamed 44 = .ok (.iload_n 1, 1)) rfl) (sb_cons (sd_imul (by decide +kernel : decode cX8_blamed 45 = .ok (.imul, 1))) (sb_cons (sd_iload (by decide +kernel : decode cX8_blamed 46 = .ok (.iload 4, 2))) (sb_cons (sd_iadd (by decide +kernel : decode cX8_blamed 48 = .ok (.iadd, 1))) (sb_cons (sd_iaload (by decide +kernel : decode cX8_blamed 49 = .ok (.iaload, 1))) (sb_cons (sd_istore_n (by decide +kernel : decode cX8_blamed 50 = .ok (.istore_n 3, 1)) rfl) (sb_cons (sd_fall (x := 0)) sb_nil)))))))))))))))))))))))))))
set_option maxRecDepth 100000 in
theorem sb_X8_blamed_51 (l : Launch) : sm_SndB l RX8 "blamed" cX8_blamed 5 1 0 51 [oInc 4 1, oGo 8] := sb_cons (sd_iinc (by decide +kernel : decode cX8_blamed 51 = .ok (.iinc 4 1, 3))) (sb_cons (sd_goto (x := 0) (by decide +kernel : decode cX8_blamed 54 = .ok (.goto (-46), 3)) (by decide)) sb_nil)
set_option maxRecDepth 100000 in
theorem sb_X8_blamed_57 (l : Launch) : sm_SndB l RX8 "blamed" cX8_blamed 5 1 0 57 [oI 2, oIr] := sb_cons (sd_iload_n (by decide +kernel : decode cX8_blamed 57 = .ok (.iload_n 2, 1)) rfl) (sb_cons (sd_ireturn (x := 0) rfl (by decide +kernel : decode cX8_blamed 58 = .ok (.ireturn, 1))) sb_nil)
theorem sn_X8_blamed (l : Launch) : sm_SndT l RX8 "blamed" cX8_blamed 5 1 0 tb_X8_blamed := st_cons (sb_X8_blamed_0 l) (st_cons (sb_X8_blamed_8 l) (st_cons (sb_X8_blamed_51 l) (st_cons (sb_X8_blamed_57 l) (st_nil))))
set_option maxRecDepth 100000 in
set_option maxHeartbeats 4000000 in
theorem ok_X8_blamed : sm_Ok tb_X8_blamed 5 0 0 p_X8_blamed f_X8_blamed := by
  intro as w hp ha hw
  match as, hp with
  | [.inr (.inl m), .inl x], hp =>
  refine ⟨Nat.le_of_ble_eq_true rfl, fun Z hZ => ?_⟩
  obtain ⟨rfl, ⟨hT, hv⟩, h1, h2⟩ := hp
  have hm := vOK_many hv
  have hl := sm_loopI Z 8 0 (wI w 155 1) (fun i => [some (.inr (.inl 154)), some (.inl x), some (.inl (mBlm w x i).1), some (.inl (mBlm w x i).2), some (.inl i)]) (fun _ => w) 0 0 hm.1 (fun i h0 h3 ih => by
    have hu : mBlm w x (i + 1) = mBl1 w x i (mBlm w x i) := itI_s _ _ h0
    have hx1 : i = wI w 155 1 → (mBlm w x i).1 = (mBlm w x (wI w 155 1)).1 := fun e => by rw [e]
    rw [hu] at ih
    unfold mBl1 at ih
    by_cases hc : (mBlm w x i).2 < wI w 168 (8 * x + i)
    · rw [if_pos hc] at ih
      refine hZ (fun u => Nat.beq u 8) 14 8 _ _ _ _ _ ?_
      simp only [sm_run, sm_blk, sm_get, sm_ent, sm_ents, sm_wds, sm_wd, sm_nl, sm_pop, sm_back, sm_cases, oK, oLK, oL, oI, oA, oJ, oIs, oAs, oJs, oInc, oAdd, oSub, oMul, oDiv, oRem, oNeg, oAnd, oAndB, oOr, oShl, oI2c, oI2l, oL2i, oLand, oLor, oLshl, oLshr, oLushr, oLcmp, oDup, oDup2, oPop, oGo, oFg, oEq, oNe, oLt, oGe, oGt, oLe, oEq0, oNe0, oLt0, oGe0, oGt0, oLe0, oSw, oGi, oGr, oPi, oPz, oPr, oLen, oIl, oZl, oCl, oRl, oIst, oZst, oCst, oRst, oCopy, oNew, oNa, oNa2, oObj, oCs, oCv, oCi, oIr, oZr, oVr, Nat.beq, List.getElem?_cons_zero, List.getElem?_cons_succ, List.set_cons_zero, List.set_cons_succ, List.length_cons, List.length_nil, List.nil_append, List.cons_append, List.append_nil, List.replicate_succ, List.replicate_zero, Nat.reduceAdd, Nat.reduceSub, Nat.reduceLT, Nat.reduceLeDiff, Nat.reduceBEq, true_and, and_true, Nat.zero_add, Nat.add_zero, Nat.le_refl, Option.some.injEq, exists_eq_left', true_or, or_true, or_false, false_or, reduceCtorEq, Prod.mk.injEq, Sum.inl.injEq, and_self, false_and, and_false, not_true_eq_false, not_false_eq_true, false_implies, true_implies, sm_r, Int.add_zero, Int.zero_add, wI_wsI, wS_wsI, wR_wsI, wI_wCp, wS_wCp, wR_wCp, Nat.reduceEqDiff, reduceIte, sT_iff, sT_iffC, wIf_ne, ne_eq, Bool.false_or, Bool.true_or, Bool.or_false, Bool.or_true, Bool.or_self, tb_X8_blamed, p_X8_blamed, f_X8_blamed, sS_154 hT, sR_154_0 hT, sS_155 hT, sR_154_15 hT, sS_168 hT]
      repeat' (first | exact True.intro | with_reducible assumption | with_reducible refine And.intro ?_ ?_ | intro _)
      all_goals first
        | omega
        | assumption
        | rfl
        | (split <;> omega)
        | (have k9 := ih (by omega)
           (repeat' split at k9) <;> first | exact k9 | omega)
        | (have k9 := ih2 (by omega)
           (repeat' split at k9) <;> first | exact k9 | omega)
        | exact he (by omega)
        | (congr 1; omega)
        | (rw [if_pos (by omega)] at he; exact he)
        | exact hD1 (by omega)
        | exact hD2 (by omega)
        | grind
        | skip
    · rw [if_neg hc] at ih
      refine hZ (fun u => Nat.beq u 8) 14 8 _ _ _ _ _ ?_
      simp only [sm_run, sm_blk, sm_get, sm_ent, sm_ents, sm_wds, sm_wd, sm_nl, sm_pop, sm_back, sm_cases, oK, oLK, oL, oI, oA, oJ, oIs, oAs, oJs, oInc, oAdd, oSub, oMul, oDiv, oRem, oNeg, oAnd, oAndB, oOr, oShl, oI2c, oI2l, oL2i, oLand, oLor, oLshl, oLshr, oLushr, oLcmp, oDup, oDup2, oPop, oGo, oFg, oEq, oNe, oLt, oGe, oGt, oLe, oEq0, oNe0, oLt0, oGe0, oGt0, oLe0, oSw, oGi, oGr, oPi, oPz, oPr, oLen, oIl, oZl, oCl, oRl, oIst, oZst, oCst, oRst, oCopy, oNew, oNa, oNa2, oObj, oCs, oCv, oCi, oIr, oZr, oVr, Nat.beq, List.getElem?_cons_zero, List.getElem?_cons_succ, List.set_cons_zero, List.set_cons_succ, List.length_cons, List.length_nil, List.nil_append, List.cons_append, List.append_nil, List.replicate_succ, List.replicate_zero, Nat.reduceAdd, Nat.reduceSub, Nat.reduceLT, Nat.reduceLeDiff, Nat.reduceBEq, true_and, and_true, Nat.zero_add, Nat.add_zero, Nat.le_refl, Option.some.injEq, exists_eq_left', true_or, or_true, or_false, false_or, reduceCtorEq, Prod.mk.injEq, Sum.inl.injEq, and_self, false_and, and_false, not_true_eq_false, not_false_eq_true, false_implies, true_implies, sm_r, Int.add_zero, Int.zero_add, wI_wsI, wS_wsI, wR_wsI, wI_wCp, wS_wCp, wR_wCp, Nat.reduceEqDiff, reduceIte, sT_iff, sT_iffC, wIf_ne, ne_eq, Bool.false_or, Bool.true_or, Bool.or_false, Bool.or_true, Bool.or_self, tb_X8_blamed, p_X8_blamed, f_X8_blamed, sS_154 hT, sR_154_0 hT, sS_155 hT, sR_154_15 hT, sS_168 hT]
      repeat' (first | exact True.intro | with_reducible assumption | with_reducible refine And.intro ?_ ?_ | intro _)
      all_goals first
        | omega
        | assumption
        | rfl
        | (split <;> omega)
        | (have k9 := ih (by omega)
           (repeat' split at k9) <;> first | exact k9 | omega)
        | (have k9 := ih2 (by omega)
           (repeat' split at k9) <;> first | exact k9 | omega)
        | exact he (by omega)
        | (congr 1; omega)
        | (rw [if_pos (by omega)] at he; exact he)
        | exact hD1 (by omega)
        | exact hD2 (by omega)
        | grind
        | skip
    )
  refine hZ (fun u => Nat.beq u 8) 14 0 _ _ _ _ _ ?_
  simp only [sm_run, sm_blk, sm_get, sm_ent, sm_ents, sm_wds, sm_wd, sm_nl, sm_pop, sm_back, sm_cases, oK, oLK, oL, oI, oA, oJ, oIs, oAs, oJs, oInc, oAdd, oSub, oMul, oDiv, oRem, oNeg, oAnd, oAndB, oOr, oShl, oI2c, oI2l, oL2i, oLand, oLor, oLshl, oLshr, oLushr, oLcmp, oDup, oDup2, oPop, oGo, oFg, oEq, oNe, oLt, oGe, oGt, oLe, oEq0, oNe0, oLt0, oGe0, oGt0, oLe0, oSw, oGi, oGr, oPi, oPz, oPr, oLen, oIl, oZl, oCl, oRl, oIst, oZst, oCst, oRst, oCopy, oNew, oNa, oNa2, oObj, oCs, oCv, oCi, oIr, oZr, oVr, Nat.beq, List.getElem?_cons_zero, List.getElem?_cons_succ, List.set_cons_zero, List.set_cons_succ, List.length_cons, List.length_nil, List.nil_append, List.cons_append, List.append_nil, List.replicate_succ, List.replicate_zero, Nat.reduceAdd, Nat.reduceSub, Nat.reduceLT, Nat.reduceLeDiff, Nat.reduceBEq, true_and, and_true, Nat.zero_add, Nat.add_zero, Nat.le_refl, Option.some.injEq, exists_eq_left', true_or, or_true, or_false, false_or, reduceCtorEq, Prod.mk.injEq, Sum.inl.injEq, and_self, false_and, and_false, not_true_eq_false, not_false_eq_true, false_implies, true_implies, sm_r, Int.add_zero, Int.zero_add, wI_wsI, wS_wsI, wR_wsI, wI_wCp, wS_wCp, wR_wCp, Nat.reduceEqDiff, reduceIte, sT_iff, sT_iffC, wIf_ne, ne_eq, Bool.false_or, Bool.true_or, Bool.or_false, Bool.or_true, Bool.or_self, tb_X8_blamed, p_X8_blamed, f_X8_blamed]
  repeat' (first | exact True.intro | with_reducible assumption | with_reducible refine And.intro ?_ ?_ | intro _)
  all_goals first
    | omega
    | assumption
    | rfl
    | (split <;> omega)
    | (have k9 := ih (by omega)
       (repeat' split at k9) <;> first | exact k9 | omega)
    | (have k9 := ih2 (by omega)
       (repeat' split at k9) <;> first | exact k9 | omega)
    | exact he (by omega)
    | (congr 1; omega)
    | (rw [if_pos (by omega)] at he; exact he)
    | exact hD1 (by omega)
    | exact hD2 (by omega)
    | skip
theorem met_X8_blamed (l : Launch) : sm_Met l yX8_blamed cX8_blamed 5 (some .int) 0 0 0 p_X8_blamed f_X8_blamed := sm_met 1 (Or.inr (Or.inl ⟨rfl, rfl⟩)) (by decide +kernel) (sn_X8_blamed l) ok_X8_blamed
def mMtn (w : sm_W) : Int → Int := itI (fun k r => if wI w 166 k < 0 then r else r + 1) 0
theorem mMtn_b (w : sm_W) (n : Int) (hn : 0 ≤ n) : 0 ≤ mMtn w n ∧ mMtn w n ≤ n := by
  refine itI_ind (fun i r => 0 ≤ r ∧ r ≤ i) n ⟨by decide, by decide⟩ (fun i r h0 h1 h => ?_) n hn (Int.le_refl _)
  split <;> omega
def p_X8_meetings : List sm_V → sm_W → Prop
  | [.inr (.inl m)], w => m = 154 ∧ sT w
  | _, _ => False
def f_X8_meetings : sm_F
  | [.inr (.inl m)], w => (some (.inl (mMtn w 64)), w)
  | _, w => (none, w)
def tb_X8_meetings : List (Nat × List sm_O) := [(0, [oK 0, oIs 1, oK 0, oIs 2, oGo 4]),
  (4, [oI 2, oK 64, oGe 33, oI 1, oA 0, oGr 8 30 13, oI 2, oIl, oLt0 24, oK 1, oGo 25]),
  (24, [oK 0, oGo 25]),
  (25, [oAdd, oIs 1, oInc 2 1, oGo 4]),
  (33, [oI 1, oIr])]
set_option maxRecDepth 100000 in
theorem sb_X8_meetings_0 (l : Launch) : sm_SndB l RX8 "meetings" cX8_meetings 3 1 0 0 [oK 0, oIs 1, oK 0, oIs 2, oGo 4] := sb_cons (sd_iconst (by decide +kernel : decode cX8_meetings 0 = .ok (.iconst 0, 1)) ⟨by decide, by decide⟩) (sb_cons (sd_istore_n (by decide +kernel : decode cX8_meetings 1 = .ok (.istore_n 1, 1)) rfl) (sb_cons (sd_iconst (by decide +kernel : decode cX8_meetings 2 = .ok (.iconst 0, 1)) ⟨by decide, by decide⟩) (sb_cons (sd_istore_n (by decide +kernel : decode cX8_meetings 3 = .ok (.istore_n 2, 1)) rfl) (sb_cons (sd_fall (x := 0)) sb_nil))))
set_option maxRecDepth 100000 in
theorem sb_X8_meetings_4 (l : Launch) : sm_SndB l RX8 "meetings" cX8_meetings 3 1 0 4 [oI 2, oK 64, oGe 33, oI 1, oA 0, oGr 8 30 13, oI 2, oIl, oLt0 24, oK 1, oGo 25] := sb_cons (sd_iload_n (by decide +kernel : decode cX8_meetings 4 = .ok (.iload_n 2, 1)) rfl) (sb_cons (sd_bipush (by decide +kernel : decode cX8_meetings 5 = .ok (.bipush 64, 2)) ⟨by decide, by decide⟩ (by decide)) (sb_cons (sd_ge (by decide +kernel : decode cX8_meetings 7 = .ok (.if_icmp .ge 26, 3)) (by decide)) (sb_cons (sd_iload_n (by decide +kernel : decode cX8_meetings 10 = .ok (.iload_n 1, 1)) rfl) (sb_cons (sd_aload_n (by decide +kernel : decode cX8_meetings 11 = .ok (.aload_n 0, 1)) rfl) (sb_cons (sd_getr (k := 13) kl_8 (by decide) rfl wm_686 (by decide +kernel : decode cX8_meetings 12 = .ok (.getfield 44, 3))) (sb_cons (sd_iload_n (by decide +kernel : decode cX8_meetings 15 = .ok (.iload_n 2, 1)) rfl) (sb_cons (sd_iaload (by decide +kernel : decode cX8_meetings 16 = .ok (.iaload, 1))) (sb_cons (sd_lt0 (by decide +kernel : decode cX8_meetings 17 = .ok (.ifCond .lt 7, 3)) (by decide)) (sb_cons (sd_iconst (by decide +kernel : decode cX8_meetings 20 = .ok (.iconst 1, 1)) ⟨by decide, by decide⟩) (sb_cons (sd_goto (x := 0) (by decide +kernel : decode cX8_meetings 21 = .ok (.goto 4, 3)) (by decide)) sb_nil))))))))))
set_option maxRecDepth 100000 in
theorem sb_X8_meetings_24 (l : Launch) : sm_SndB l RX8 "meetings" cX8_meetings 3 1 0 24 [oK 0, oGo 25] := sb_cons (sd_iconst (by decide +kernel : decode cX8_meetings 24 = .ok (.iconst 0, 1)) ⟨by decide, by decide⟩) (sb_cons (sd_fall (x := 0)) sb_nil)
set_option maxRecDepth 100000 in
theorem sb_X8_meetings_25 (l : Launch) : sm_SndB l RX8 "meetings" cX8_meetings 3 1 0 25 [oAdd, oIs 1, oInc 2 1, oGo 4] := sb_cons (sd_iadd (by decide +kernel : decode cX8_meetings 25 = .ok (.iadd, 1))) (sb_cons (sd_istore_n (by decide +kernel : decode cX8_meetings 26 = .ok (.istore_n 1, 1)) rfl) (sb_cons (sd_iinc (by decide +kernel : decode cX8_meetings 27 = .ok (.iinc 2 1, 3))) (sb_cons (sd_goto (x := 0) (by decide +kernel : decode cX8_meetings 30 = .ok (.goto (-26), 3)) (by decide)) sb_nil)))
set_option maxRecDepth 100000 in
theorem sb_X8_meetings_33 (l : Launch) : sm_SndB l RX8 "meetings" cX8_meetings 3 1 0 33 [oI 1, oIr] := sb_cons (sd_iload_n (by decide +kernel : decode cX8_meetings 33 = .ok (.iload_n 1, 1)) rfl) (sb_cons (sd_ireturn (x := 0) rfl (by decide +kernel : decode cX8_meetings 34 = .ok (.ireturn, 1))) sb_nil)
theorem sn_X8_meetings (l : Launch) : sm_SndT l RX8 "meetings" cX8_meetings 3 1 0 tb_X8_meetings := st_cons (sb_X8_meetings_0 l) (st_cons (sb_X8_meetings_4 l) (st_cons (sb_X8_meetings_24 l) (st_cons (sb_X8_meetings_25 l) (st_cons (sb_X8_meetings_33 l) (st_nil)))))
set_option maxRecDepth 100000 in
set_option maxHeartbeats 4000000 in
theorem ok_X8_meetings : sm_Ok tb_X8_meetings 3 0 0 p_X8_meetings f_X8_meetings := by
  intro as w hp ha hw
  match as, hp with
  | [.inr (.inl m)], hp =>
  refine ⟨Nat.le_of_ble_eq_true rfl, fun Z hZ => ?_⟩
  obtain ⟨rfl, hT⟩ := hp
  have hl := sm_loopI Z 4 0 64 (fun i => [some (.inr (.inl 154)), some (.inl (mMtn w i)), some (.inl i)]) (fun _ => w) 0 0 (by decide) (fun i h0 h1 ih => by
    have hb := mMtn_b w i h0
    have hu : mMtn w (i + 1) = if wI w 166 i < 0 then mMtn w i else mMtn w i + 1 := itI_s _ _ h0
    rw [hu] at ih
    refine hZ (fun u => Nat.beq u 4) 14 4 _ _ _ _ _ ?_
    simp only [sm_run, sm_blk, sm_get, sm_ent, sm_ents, sm_wds, sm_wd, sm_nl, sm_pop, sm_back, sm_cases, oK, oLK, oL, oI, oA, oJ, oIs, oAs, oJs, oInc, oAdd, oSub, oMul, oDiv, oRem, oNeg, oAnd, oAndB, oOr, oShl, oI2c, oI2l, oL2i, oLand, oLor, oLshl, oLshr, oLushr, oLcmp, oDup, oDup2, oPop, oGo, oFg, oEq, oNe, oLt, oGe, oGt, oLe, oEq0, oNe0, oLt0, oGe0, oGt0, oLe0, oSw, oGi, oGr, oPi, oPz, oPr, oLen, oIl, oZl, oCl, oRl, oIst, oZst, oCst, oRst, oCopy, oNew, oNa, oNa2, oObj, oCs, oCv, oCi, oIr, oZr, oVr, Nat.beq, List.getElem?_cons_zero, List.getElem?_cons_succ, List.set_cons_zero, List.set_cons_succ, List.length_cons, List.length_nil, List.nil_append, List.cons_append, List.append_nil, List.replicate_succ, List.replicate_zero, Nat.reduceAdd, Nat.reduceSub, Nat.reduceLT, Nat.reduceLeDiff, Nat.reduceBEq, true_and, and_true, Nat.zero_add, Nat.add_zero, Nat.le_refl, Option.some.injEq, exists_eq_left', true_or, or_true, or_false, false_or, reduceCtorEq, Prod.mk.injEq, Sum.inl.injEq, and_self, false_and, and_false, not_true_eq_false, not_false_eq_true, false_implies, true_implies, sm_r, Int.add_zero, Int.zero_add, wI_wsI, wS_wsI, wR_wsI, wI_wCp, wS_wCp, wR_wCp, Nat.reduceEqDiff, reduceIte, sT_iff, sT_iffC, wIf_ne, ne_eq, Bool.false_or, Bool.true_or, Bool.or_false, Bool.or_true, Bool.or_self, tb_X8_meetings, p_X8_meetings, f_X8_meetings, sS_154 hT, sR_154_13 hT, sS_166 hT]
    repeat' (first | exact True.intro | with_reducible assumption | with_reducible refine And.intro ?_ ?_ | intro _)
    all_goals first
      | omega
      | assumption
      | rfl
      | (split <;> omega)
      | (have k9 := ih (by omega)
         (repeat' split at k9) <;> first | exact k9 | omega)
      | (have k9 := ih2 (by omega)
         (repeat' split at k9) <;> first | exact k9 | omega)
      | exact he (by omega)
      | (congr 1; omega)
      | (rw [if_pos (by omega)] at he; exact he)
      | exact hD1 (by omega)
      | exact hD2 (by omega)
      | grind
      | skip
    )
  refine hZ (fun u => Nat.beq u 4) 14 0 _ _ _ _ _ ?_
  simp only [sm_run, sm_blk, sm_get, sm_ent, sm_ents, sm_wds, sm_wd, sm_nl, sm_pop, sm_back, sm_cases, oK, oLK, oL, oI, oA, oJ, oIs, oAs, oJs, oInc, oAdd, oSub, oMul, oDiv, oRem, oNeg, oAnd, oAndB, oOr, oShl, oI2c, oI2l, oL2i, oLand, oLor, oLshl, oLshr, oLushr, oLcmp, oDup, oDup2, oPop, oGo, oFg, oEq, oNe, oLt, oGe, oGt, oLe, oEq0, oNe0, oLt0, oGe0, oGt0, oLe0, oSw, oGi, oGr, oPi, oPz, oPr, oLen, oIl, oZl, oCl, oRl, oIst, oZst, oCst, oRst, oCopy, oNew, oNa, oNa2, oObj, oCs, oCv, oCi, oIr, oZr, oVr, Nat.beq, List.getElem?_cons_zero, List.getElem?_cons_succ, List.set_cons_zero, List.set_cons_succ, List.length_cons, List.length_nil, List.nil_append, List.cons_append, List.append_nil, List.replicate_succ, List.replicate_zero, Nat.reduceAdd, Nat.reduceSub, Nat.reduceLT, Nat.reduceLeDiff, Nat.reduceBEq, true_and, and_true, Nat.zero_add, Nat.add_zero, Nat.le_refl, Option.some.injEq, exists_eq_left', true_or, or_true, or_false, false_or, reduceCtorEq, Prod.mk.injEq, Sum.inl.injEq, and_self, false_and, and_false, not_true_eq_false, not_false_eq_true, false_implies, true_implies, sm_r, Int.add_zero, Int.zero_add, wI_wsI, wS_wsI, wR_wsI, wI_wCp, wS_wCp, wR_wCp, Nat.reduceEqDiff, reduceIte, sT_iff, sT_iffC, wIf_ne, ne_eq, Bool.false_or, Bool.true_or, Bool.or_false, Bool.or_true, Bool.or_self, tb_X8_meetings, p_X8_meetings, f_X8_meetings]
  repeat' (first | exact True.intro | with_reducible assumption | with_reducible refine And.intro ?_ ?_ | intro _)
  all_goals first
    | omega
    | assumption
    | rfl
    | (split <;> omega)
    | (have k9 := ih (by omega)
       (repeat' split at k9) <;> first | exact k9 | omega)
    | (have k9 := ih2 (by omega)
       (repeat' split at k9) <;> first | exact k9 | omega)
    | exact he (by omega)
    | (congr 1; omega)
    | (rw [if_pos (by omega)] at he; exact he)
    | exact hD1 (by omega)
    | exact hD2 (by omega)
    | skip
theorem met_X8_meetings (l : Launch) : sm_Met l yX8_meetings cX8_meetings 3 (some .int) 0 0 0 p_X8_meetings f_X8_meetings := sm_met 1 (Or.inr (Or.inl ⟨rfl, rfl⟩)) (by decide +kernel) (sn_X8_meetings l) ok_X8_meetings
def mAw (w : sm_W) : Int → Int := itI (fun x r => r + mWtd w x) 0
theorem mAw_b {w : sm_W} (hR : mRec w) (n : Int) (h0 : 0 ≤ n) : 0 ≤ mAw w n ∧ mAw w n ≤ 6000000 * n := by
  refine itI_ind (fun i r => 0 ≤ r ∧ r ≤ 6000000 * i) n ⟨by decide, by decide⟩ (fun i r i0 i1 hr => ?_) n h0 (Int.le_refl _)
  have c1 := hR.2.2.2 (4 * i + 1)
  have c2 := hR.2.2.2 (4 * i + 2)
  have c3 := hR.2.2.2 (4 * i + 3)
  unfold mWtd
  omega
def p_X8_allWaits : List sm_V → sm_W → Prop
  | [.inr (.inl m)], w => m = 154 ∧ mOK w ∧ mRec w
  | _, _ => False
def f_X8_allWaits : sm_F
  | [.inr (.inl m)], w => (some (.inl (mAw w (wI w 155 1))), w)
  | _, w => (none, w)
def tb_X8_allWaits : List (Nat × List sm_O) := [(0, [oK 0, oIs 1, oK 0, oIs 2, oGo 4]),
  (4, [oI 2, oA 0, oGr 8 30 0, oK 1, oIl, oGe 28, oI 1, oA 0, oI 2, oCv 8 30 p_X8_waited f_X8_waited 0 0 2, oAdd, oIs 1, oInc 2 1, oGo 4]),
  (28, [oI 1, oIr])]
set_option maxRecDepth 100000 in
theorem sb_X8_allWaits_0 (l : Launch) : sm_SndB l RX8 "allWaits" cX8_allWaits 3 1 1 0 [oK 0, oIs 1, oK 0, oIs 2, oGo 4] := sb_cons (sd_iconst (by decide +kernel : decode cX8_allWaits 0 = .ok (.iconst 0, 1)) ⟨by decide, by decide⟩) (sb_cons (sd_istore_n (by decide +kernel : decode cX8_allWaits 1 = .ok (.istore_n 1, 1)) rfl) (sb_cons (sd_iconst (by decide +kernel : decode cX8_allWaits 2 = .ok (.iconst 0, 1)) ⟨by decide, by decide⟩) (sb_cons (sd_istore_n (by decide +kernel : decode cX8_allWaits 3 = .ok (.istore_n 2, 1)) rfl) (sb_cons (sd_fall (x := 0)) sb_nil))))
set_option maxRecDepth 100000 in
theorem sb_X8_allWaits_4 (l : Launch) : sm_SndB l RX8 "allWaits" cX8_allWaits 3 1 1 4 [oI 2, oA 0, oGr 8 30 0, oK 1, oIl, oGe 28, oI 1, oA 0, oI 2, oCv 8 30 p_X8_waited f_X8_waited 0 0 2, oAdd, oIs 1, oInc 2 1, oGo 4] := sb_cons (sd_iload_n (by decide +kernel : decode cX8_allWaits 4 = .ok (.iload_n 2, 1)) rfl) (sb_cons (sd_aload_n (by decide +kernel : decode cX8_allWaits 5 = .ok (.aload_n 0, 1)) rfl) (sb_cons (sd_getr (k := 0) kl_8 (by decide) rfl wm_673 (by decide +kernel : decode cX8_allWaits 6 = .ok (.getfield 7, 3))) (sb_cons (sd_iconst (by decide +kernel : decode cX8_allWaits 9 = .ok (.iconst 1, 1)) ⟨by decide, by decide⟩) (sb_cons (sd_iaload (by decide +kernel : decode cX8_allWaits 10 = .ok (.iaload, 1))) (sb_cons (sd_ge (by decide +kernel : decode cX8_allWaits 11 = .ok (.if_icmp .ge 17, 3)) (by decide)) (sb_cons (sd_iload_n (by decide +kernel : decode cX8_allWaits 14 = .ok (.iload_n 1, 1)) rfl) (sb_cons (sd_aload_n (by decide +kernel : decode cX8_allWaits 15 = .ok (.aload_n 0, 1)) rfl) (sb_cons (sd_iload_n (by decide +kernel : decode cX8_allWaits 16 = .ok (.iload_n 2, 1)) rfl) (sb_cons (sd_callv (n := 1) (met_X8_waited l) (by decide) (by decide) wm_889 wm_887 wm_10 ⟨by decide +kernel, by decide +kernel, by decide +kernel⟩ kl_8 wm_888 wm_1136 (by decide +kernel : decode cX8_allWaits 17 = .ok (.invokevirtual 214, 3))) (sb_cons (sd_iadd (by decide +kernel : decode cX8_allWaits 20 = .ok (.iadd, 1))) (sb_cons (sd_istore_n (by decide +kernel : decode cX8_allWaits 21 = .ok (.istore_n 1, 1)) rfl) (sb_cons (sd_iinc (by decide +kernel : decode cX8_allWaits 22 = .ok (.iinc 2 1, 3))) (sb_cons (sd_goto (x := 0) (by decide +kernel : decode cX8_allWaits 25 = .ok (.goto (-21), 3)) (by decide)) sb_nil)))))))))))))
set_option maxRecDepth 100000 in
theorem sb_X8_allWaits_28 (l : Launch) : sm_SndB l RX8 "allWaits" cX8_allWaits 3 1 1 28 [oI 1, oIr] := sb_cons (sd_iload_n (by decide +kernel : decode cX8_allWaits 28 = .ok (.iload_n 1, 1)) rfl) (sb_cons (sd_ireturn (x := 0) rfl (by decide +kernel : decode cX8_allWaits 29 = .ok (.ireturn, 1))) sb_nil)
theorem sn_X8_allWaits (l : Launch) : sm_SndT l RX8 "allWaits" cX8_allWaits 3 1 1 tb_X8_allWaits := st_cons (sb_X8_allWaits_0 l) (st_cons (sb_X8_allWaits_4 l) (st_cons (sb_X8_allWaits_28 l) (st_nil)))
set_option maxRecDepth 100000 in
set_option maxHeartbeats 4000000 in
theorem ok_X8_allWaits : sm_Ok tb_X8_allWaits 3 0 0 p_X8_allWaits f_X8_allWaits := by
  intro as w hp ha hw
  match as, hp with
  | [.inr (.inl m)], hp =>
  refine ⟨Nat.le_of_ble_eq_true rfl, fun Z hZ => ?_⟩
  obtain ⟨rfl, hO, hR⟩ := hp
  have hT := hO.1
  have hm := vOK_many hO.2
  have hl := sm_loopI Z 4 0 (wI w 155 1) (fun i => [some (.inr (.inl 154)), some (.inl (mAw w i)), some (.inl i)]) (fun _ => w) 0 0 hm.1 (fun i h0 h1 ih => by
    have hb := mAw_b hR i h0
    have hb1 := mAw_b hR (i + 1) (by omega)
    have hu : mAw w (i + 1) = mAw w i + mWtd w i := itI_s _ _ h0
    have hx1 : i = wI w 155 1 → mAw w i = mAw w (wI w 155 1) := fun e => by rw [e]
    rw [hu] at ih
    refine hZ (fun u => Nat.beq u 4) 14 4 _ _ _ _ _ ?_
    simp only [sm_run, sm_blk, sm_get, sm_ent, sm_ents, sm_wds, sm_wd, sm_nl, sm_pop, sm_back, sm_cases, oK, oLK, oL, oI, oA, oJ, oIs, oAs, oJs, oInc, oAdd, oSub, oMul, oDiv, oRem, oNeg, oAnd, oAndB, oOr, oShl, oI2c, oI2l, oL2i, oLand, oLor, oLshl, oLshr, oLushr, oLcmp, oDup, oDup2, oPop, oGo, oFg, oEq, oNe, oLt, oGe, oGt, oLe, oEq0, oNe0, oLt0, oGe0, oGt0, oLe0, oSw, oGi, oGr, oPi, oPz, oPr, oLen, oIl, oZl, oCl, oRl, oIst, oZst, oCst, oRst, oCopy, oNew, oNa, oNa2, oObj, oCs, oCv, oCi, oIr, oZr, oVr, Nat.beq, List.getElem?_cons_zero, List.getElem?_cons_succ, List.set_cons_zero, List.set_cons_succ, List.length_cons, List.length_nil, List.nil_append, List.cons_append, List.append_nil, List.replicate_succ, List.replicate_zero, Nat.reduceAdd, Nat.reduceSub, Nat.reduceLT, Nat.reduceLeDiff, Nat.reduceBEq, true_and, and_true, Nat.zero_add, Nat.add_zero, Nat.le_refl, Option.some.injEq, exists_eq_left', true_or, or_true, or_false, false_or, reduceCtorEq, Prod.mk.injEq, Sum.inl.injEq, and_self, false_and, and_false, not_true_eq_false, not_false_eq_true, false_implies, true_implies, sm_r, Int.add_zero, Int.zero_add, wI_wsI, wS_wsI, wR_wsI, wI_wCp, wS_wCp, wR_wCp, Nat.reduceEqDiff, reduceIte, sT_iff, sT_iffC, wIf_ne, ne_eq, Bool.false_or, Bool.true_or, Bool.or_false, Bool.or_true, Bool.or_self, tb_X8_allWaits, p_X8_waited, f_X8_waited, p_X8_allWaits, f_X8_allWaits, sS_154 hT, sR_154_0 hT, sS_155 hT, hT, hR]
    repeat' (first | exact True.intro | with_reducible assumption | with_reducible refine And.intro ?_ ?_ | intro _)
    all_goals first
      | omega
      | assumption
      | rfl
      | (split <;> omega)
      | (have k9 := ih (by omega)
         (repeat' split at k9) <;> first | exact k9 | omega)
      | (have k9 := ih2 (by omega)
         (repeat' split at k9) <;> first | exact k9 | omega)
      | exact he (by omega)
      | (congr 1; omega)
      | (rw [if_pos (by omega)] at he; exact he)
      | exact hD1 (by omega)
      | exact hD2 (by omega)
      | grind
      | skip
    )
  refine hZ (fun u => Nat.beq u 4) 14 0 _ _ _ _ _ ?_
  simp only [sm_run, sm_blk, sm_get, sm_ent, sm_ents, sm_wds, sm_wd, sm_nl, sm_pop, sm_back, sm_cases, oK, oLK, oL, oI, oA, oJ, oIs, oAs, oJs, oInc, oAdd, oSub, oMul, oDiv, oRem, oNeg, oAnd, oAndB, oOr, oShl, oI2c, oI2l, oL2i, oLand, oLor, oLshl, oLshr, oLushr, oLcmp, oDup, oDup2, oPop, oGo, oFg, oEq, oNe, oLt, oGe, oGt, oLe, oEq0, oNe0, oLt0, oGe0, oGt0, oLe0, oSw, oGi, oGr, oPi, oPz, oPr, oLen, oIl, oZl, oCl, oRl, oIst, oZst, oCst, oRst, oCopy, oNew, oNa, oNa2, oObj, oCs, oCv, oCi, oIr, oZr, oVr, Nat.beq, List.getElem?_cons_zero, List.getElem?_cons_succ, List.set_cons_zero, List.set_cons_succ, List.length_cons, List.length_nil, List.nil_append, List.cons_append, List.append_nil, List.replicate_succ, List.replicate_zero, Nat.reduceAdd, Nat.reduceSub, Nat.reduceLT, Nat.reduceLeDiff, Nat.reduceBEq, true_and, and_true, Nat.zero_add, Nat.add_zero, Nat.le_refl, Option.some.injEq, exists_eq_left', true_or, or_true, or_false, false_or, reduceCtorEq, Prod.mk.injEq, Sum.inl.injEq, and_self, false_and, and_false, not_true_eq_false, not_false_eq_true, false_implies, true_implies, sm_r, Int.add_zero, Int.zero_add, wI_wsI, wS_wsI, wR_wsI, wI_wCp, wS_wCp, wR_wCp, Nat.reduceEqDiff, reduceIte, sT_iff, sT_iffC, wIf_ne, ne_eq, Bool.false_or, Bool.true_or, Bool.or_false, Bool.or_true, Bool.or_self, tb_X8_allWaits, p_X8_waited, f_X8_waited, p_X8_allWaits, f_X8_allWaits]
  repeat' (first | exact True.intro | with_reducible assumption | with_reducible refine And.intro ?_ ?_ | intro _)
  all_goals first
    | omega
    | assumption
    | rfl
    | (split <;> omega)
    | (have k9 := ih (by omega)
       (repeat' split at k9) <;> first | exact k9 | omega)
    | (have k9 := ih2 (by omega)
       (repeat' split at k9) <;> first | exact k9 | omega)
    | exact he (by omega)
    | (congr 1; omega)
    | (rw [if_pos (by omega)] at he; exact he)
    | exact hD1 (by omega)
    | exact hD2 (by omega)
    | skip
theorem met_X8_allWaits (l : Launch) : sm_Met l yX8_allWaits cX8_allWaits 3 (some .int) 1 0 0 p_X8_allWaits f_X8_allWaits := sm_met 1 (Or.inr (Or.inl ⟨rfl, rfl⟩)) (by decide +kernel) (sn_X8_allWaits l) ok_X8_allWaits
def mGd (w : sm_W) : Int → Int := itI (fun x r => if mEndOf w x < 0 then r else (if r < mDelay w x then mDelay w x else r)) (-6)
def p_X8_greatestDelay : List sm_V → sm_W → Prop
  | [.inr (.inl m)], w => m = 154 ∧ mOK w ∧ mRec w
  | _, _ => False
def f_X8_greatestDelay : sm_F
  | [.inr (.inl m)], w => (some (.inl (mGd w (wI w 155 1))), w)
  | _, w => (none, w)
def tb_X8_greatestDelay : List (Nat × List sm_O) := [(0, [oK (-6), oIs 1, oK 0, oIs 2, oGo 5]),
  (5, [oI 2, oA 0, oGr 8 30 0, oK 1, oIl, oGe 48, oA 0, oI 2, oCv 8 30 p_X8_endOf f_X8_endOf 0 0 2, oLt0 40, oA 0, oI 2, oCv 8 30 p_X8_delayOf f_X8_delayOf 0 0 2, oI 1, oLe 40, oA 0, oI 2, oCv 8 30 p_X8_delayOf f_X8_delayOf 0 0 2, oGo 41]),
  (40, [oI 1, oGo 41]),
  (41, [oIs 1, oInc 2 1, oGo 5]),
  (48, [oI 1, oIr])]
set_option maxRecDepth 100000 in
theorem sb_X8_greatestDelay_0 (l : Launch) : sm_SndB l RX8 "greatestDelay" cX8_greatestDelay 3 1 4 0 [oK (-6), oIs 1, oK 0, oIs 2, oGo 5] := sb_cons (sd_bipush (by decide +kernel : decode cX8_greatestDelay 0 = .ok (.bipush (-6), 2)) ⟨by decide, by decide⟩ (by decide)) (sb_cons (sd_istore_n (by decide +kernel : decode cX8_greatestDelay 2 = .ok (.istore_n 1, 1)) rfl) (sb_cons (sd_iconst (by decide +kernel : decode cX8_greatestDelay 3 = .ok (.iconst 0, 1)) ⟨by decide, by decide⟩) (sb_cons (sd_istore_n (by decide +kernel : decode cX8_greatestDelay 4 = .ok (.istore_n 2, 1)) rfl) (sb_cons (sd_fall (x := 0)) sb_nil))))
set_option maxRecDepth 100000 in
theorem sb_X8_greatestDelay_5 (l : Launch) : sm_SndB l RX8 "greatestDelay" cX8_greatestDelay 3 1 4 5 [oI 2, oA 0, oGr 8 30 0, oK 1, oIl, oGe 48, oA 0, oI 2, oCv 8 30 p_X8_endOf f_X8_endOf 0 0 2, oLt0 40, oA 0, oI 2, oCv 8 30 p_X8_delayOf f_X8_delayOf 0 0 2, oI 1, oLe 40, oA 0, oI 2, oCv 8 30 p_X8_delayOf f_X8_delayOf 0 0 2, oGo 41] := sb_cons (sd_iload_n (by decide +kernel : decode cX8_greatestDelay 5 = .ok (.iload_n 2, 1)) rfl) (sb_cons (sd_aload_n (by decide +kernel : decode cX8_greatestDelay 6 = .ok (.aload_n 0, 1)) rfl) (sb_cons (sd_getr (k := 0) kl_8 (by decide) rfl wm_673 (by decide +kernel : decode cX8_greatestDelay 7 = .ok (.getfield 7, 3))) (sb_cons (sd_iconst (by decide +kernel : decode cX8_greatestDelay 10 = .ok (.iconst 1, 1)) ⟨by decide, by decide⟩) (sb_cons (sd_iaload (by decide +kernel : decode cX8_greatestDelay 11 = .ok (.iaload, 1))) (sb_cons (sd_ge (by decide +kernel : decode cX8_greatestDelay 12 = .ok (.if_icmp .ge 36, 3)) (by decide)) (sb_cons (sd_aload_n (by decide +kernel : decode cX8_greatestDelay 15 = .ok (.aload_n 0, 1)) rfl) (sb_cons (sd_iload_n (by decide +kernel : decode cX8_greatestDelay 16 = .ok (.iload_n 2, 1)) rfl) (sb_cons (sd_callv (n := 1) (met_X8_endOf l) (by decide) (by decide) wm_881 wm_879 wm_10 ⟨by decide +kernel, by decide +kernel, by decide +kernel⟩ kl_8 wm_880 wm_1134 (by decide +kernel : decode cX8_greatestDelay 17 = .ok (.invokevirtual 161, 3))) (sb_cons (sd_lt0 (by decide +kernel : decode cX8_greatestDelay 20 = .ok (.ifCond .lt 20, 3)) (by decide)) (sb_cons (sd_aload_n (by decide +kernel : decode cX8_greatestDelay 23 = .ok (.aload_n 0, 1)) rfl) (sb_cons (sd_iload_n (by decide +kernel : decode cX8_greatestDelay 24 = .ok (.iload_n 2, 1)) rfl) (sb_cons (sd_callv (n := 1) (met_X8_delayOf l) (by decide) (by decide) wm_885 wm_883 wm_10 ⟨by decide +kernel, by decide +kernel, by decide +kernel⟩ kl_8 wm_884 wm_1135 (by decide +kernel : decode cX8_greatestDelay 25 = .ok (.invokevirtual 164, 3))) (sb_cons (sd_iload_n (by decide +kernel : decode cX8_greatestDelay 28 = .ok (.iload_n 1, 1)) rfl) (sb_cons (sd_le (by decide +kernel : decode cX8_greatestDelay 29 = .ok (.if_icmp .le 11, 3)) (by decide)) (sb_cons (sd_aload_n (by decide +kernel : decode cX8_greatestDelay 32 = .ok (.aload_n 0, 1)) rfl) (sb_cons (sd_iload_n (by decide +kernel : decode cX8_greatestDelay 33 = .ok (.iload_n 2, 1)) rfl) (sb_cons (sd_callv (n := 1) (met_X8_delayOf l) (by decide) (by decide) wm_885 wm_883 wm_10 ⟨by decide +kernel, by decide +kernel, by decide +kernel⟩ kl_8 wm_884 wm_1135 (by decide +kernel : decode cX8_greatestDelay 34 = .ok (.invokevirtual 164, 3))) (sb_cons (sd_goto (x := 0) (by decide +kernel : decode cX8_greatestDelay 37 = .ok (.goto 4, 3)) (by decide)) sb_nil))))))))))))))))))
set_option maxRecDepth 100000 in
theorem sb_X8_greatestDelay_40 (l : Launch) : sm_SndB l RX8 "greatestDelay" cX8_greatestDelay 3 1 4 40 [oI 1, oGo 41] := sb_cons (sd_iload_n (by decide +kernel : decode cX8_greatestDelay 40 = .ok (.iload_n 1, 1)) rfl) (sb_cons (sd_fall (x := 0)) sb_nil)
set_option maxRecDepth 100000 in
theorem sb_X8_greatestDelay_41 (l : Launch) : sm_SndB l RX8 "greatestDelay" cX8_greatestDelay 3 1 4 41 [oIs 1, oInc 2 1, oGo 5] := sb_cons (sd_istore_n (by decide +kernel : decode cX8_greatestDelay 41 = .ok (.istore_n 1, 1)) rfl) (sb_cons (sd_iinc (by decide +kernel : decode cX8_greatestDelay 42 = .ok (.iinc 2 1, 3))) (sb_cons (sd_goto (x := 0) (by decide +kernel : decode cX8_greatestDelay 45 = .ok (.goto (-40), 3)) (by decide)) sb_nil))
set_option maxRecDepth 100000 in
theorem sb_X8_greatestDelay_48 (l : Launch) : sm_SndB l RX8 "greatestDelay" cX8_greatestDelay 3 1 4 48 [oI 1, oIr] := sb_cons (sd_iload_n (by decide +kernel : decode cX8_greatestDelay 48 = .ok (.iload_n 1, 1)) rfl) (sb_cons (sd_ireturn (x := 0) rfl (by decide +kernel : decode cX8_greatestDelay 49 = .ok (.ireturn, 1))) sb_nil)
theorem sn_X8_greatestDelay (l : Launch) : sm_SndT l RX8 "greatestDelay" cX8_greatestDelay 3 1 4 tb_X8_greatestDelay := st_cons (sb_X8_greatestDelay_0 l) (st_cons (sb_X8_greatestDelay_5 l) (st_cons (sb_X8_greatestDelay_40 l) (st_cons (sb_X8_greatestDelay_41 l) (st_cons (sb_X8_greatestDelay_48 l) (st_nil)))))
set_option maxRecDepth 100000 in
set_option maxHeartbeats 4000000 in
theorem ok_X8_greatestDelay : sm_Ok tb_X8_greatestDelay 3 0 0 p_X8_greatestDelay f_X8_greatestDelay := by
  intro as w hp ha hw
  match as, hp with
  | [.inr (.inl m)], hp =>
  refine ⟨Nat.le_of_ble_eq_true rfl, fun Z hZ => ?_⟩
  obtain ⟨rfl, hO, hR⟩ := hp
  have hT := hO.1
  have hm := vOK_many hO.2
  have hl := sm_loopI Z 5 0 (wI w 155 1) (fun i => [some (.inr (.inl 154)), some (.inl (mGd w i)), some (.inl i)]) (fun _ => w) 0 0 hm.1 (fun i h0 h1 ih => by
    have hu : mGd w (i + 1) = if mEndOf w i < 0 then mGd w i else (if mGd w i < mDelay w i then mDelay w i else mGd w i) := itI_s _ _ h0
    have hx1 : i = wI w 155 1 → mGd w i = mGd w (wI w 155 1) := fun e => by rw [e]
    rw [hu] at ih
    refine hZ (fun u => Nat.beq u 5) 14 5 _ _ _ _ _ ?_
    simp only [sm_run, sm_blk, sm_get, sm_ent, sm_ents, sm_wds, sm_wd, sm_nl, sm_pop, sm_back, sm_cases, oK, oLK, oL, oI, oA, oJ, oIs, oAs, oJs, oInc, oAdd, oSub, oMul, oDiv, oRem, oNeg, oAnd, oAndB, oOr, oShl, oI2c, oI2l, oL2i, oLand, oLor, oLshl, oLshr, oLushr, oLcmp, oDup, oDup2, oPop, oGo, oFg, oEq, oNe, oLt, oGe, oGt, oLe, oEq0, oNe0, oLt0, oGe0, oGt0, oLe0, oSw, oGi, oGr, oPi, oPz, oPr, oLen, oIl, oZl, oCl, oRl, oIst, oZst, oCst, oRst, oCopy, oNew, oNa, oNa2, oObj, oCs, oCv, oCi, oIr, oZr, oVr, Nat.beq, List.getElem?_cons_zero, List.getElem?_cons_succ, List.set_cons_zero, List.set_cons_succ, List.length_cons, List.length_nil, List.nil_append, List.cons_append, List.append_nil, List.replicate_succ, List.replicate_zero, Nat.reduceAdd, Nat.reduceSub, Nat.reduceLT, Nat.reduceLeDiff, Nat.reduceBEq, true_and, and_true, Nat.zero_add, Nat.add_zero, Nat.le_refl, Option.some.injEq, exists_eq_left', true_or, or_true, or_false, false_or, reduceCtorEq, Prod.mk.injEq, Sum.inl.injEq, and_self, false_and, and_false, not_true_eq_false, not_false_eq_true, false_implies, true_implies, sm_r, Int.add_zero, Int.zero_add, wI_wsI, wS_wsI, wR_wsI, wI_wCp, wS_wCp, wR_wCp, Nat.reduceEqDiff, reduceIte, sT_iff, sT_iffC, wIf_ne, ne_eq, Bool.false_or, Bool.true_or, Bool.or_false, Bool.or_true, Bool.or_self, tb_X8_greatestDelay, p_X8_delayOf, p_X8_endOf, f_X8_delayOf, f_X8_endOf, p_X8_greatestDelay, f_X8_greatestDelay, sS_154 hT, sR_154_0 hT, sS_155 hT, hT, hO, hR]
    repeat' (first | exact True.intro | with_reducible assumption | with_reducible refine And.intro ?_ ?_ | intro _)
    all_goals first
      | omega
      | assumption
      | rfl
      | (split <;> omega)
      | (have k9 := ih (by omega)
         (repeat' split at k9) <;> first | exact k9 | omega)
      | (have k9 := ih2 (by omega)
         (repeat' split at k9) <;> first | exact k9 | omega)
      | exact he (by omega)
      | (congr 1; omega)
      | (rw [if_pos (by omega)] at he; exact he)
      | exact hD1 (by omega)
      | exact hD2 (by omega)
      | grind
      | skip
    )
  refine hZ (fun u => Nat.beq u 5) 14 0 _ _ _ _ _ ?_
  simp only [sm_run, sm_blk, sm_get, sm_ent, sm_ents, sm_wds, sm_wd, sm_nl, sm_pop, sm_back, sm_cases, oK, oLK, oL, oI, oA, oJ, oIs, oAs, oJs, oInc, oAdd, oSub, oMul, oDiv, oRem, oNeg, oAnd, oAndB, oOr, oShl, oI2c, oI2l, oL2i, oLand, oLor, oLshl, oLshr, oLushr, oLcmp, oDup, oDup2, oPop, oGo, oFg, oEq, oNe, oLt, oGe, oGt, oLe, oEq0, oNe0, oLt0, oGe0, oGt0, oLe0, oSw, oGi, oGr, oPi, oPz, oPr, oLen, oIl, oZl, oCl, oRl, oIst, oZst, oCst, oRst, oCopy, oNew, oNa, oNa2, oObj, oCs, oCv, oCi, oIr, oZr, oVr, Nat.beq, List.getElem?_cons_zero, List.getElem?_cons_succ, List.set_cons_zero, List.set_cons_succ, List.length_cons, List.length_nil, List.nil_append, List.cons_append, List.append_nil, List.replicate_succ, List.replicate_zero, Nat.reduceAdd, Nat.reduceSub, Nat.reduceLT, Nat.reduceLeDiff, Nat.reduceBEq, true_and, and_true, Nat.zero_add, Nat.add_zero, Nat.le_refl, Option.some.injEq, exists_eq_left', true_or, or_true, or_false, false_or, reduceCtorEq, Prod.mk.injEq, Sum.inl.injEq, and_self, false_and, and_false, not_true_eq_false, not_false_eq_true, false_implies, true_implies, sm_r, Int.add_zero, Int.zero_add, wI_wsI, wS_wsI, wR_wsI, wI_wCp, wS_wCp, wR_wCp, Nat.reduceEqDiff, reduceIte, sT_iff, sT_iffC, wIf_ne, ne_eq, Bool.false_or, Bool.true_or, Bool.or_false, Bool.or_true, Bool.or_self, tb_X8_greatestDelay, p_X8_delayOf, p_X8_endOf, f_X8_delayOf, f_X8_endOf, p_X8_greatestDelay, f_X8_greatestDelay]
  repeat' (first | exact True.intro | with_reducible assumption | with_reducible refine And.intro ?_ ?_ | intro _)
  all_goals first
    | omega
    | assumption
    | rfl
    | (split <;> omega)
    | (have k9 := ih (by omega)
       (repeat' split at k9) <;> first | exact k9 | omega)
    | (have k9 := ih2 (by omega)
       (repeat' split at k9) <;> first | exact k9 | omega)
    | exact he (by omega)
    | (congr 1; omega)
    | (rw [if_pos (by omega)] at he; exact he)
    | exact hD1 (by omega)
    | exact hD2 (by omega)
    | skip
theorem met_X8_greatestDelay (l : Launch) : sm_Met l yX8_greatestDelay cX8_greatestDelay 3 (some .int) 4 0 0 p_X8_greatestDelay f_X8_greatestDelay := sm_met 1 (Or.inr (Or.inl ⟨rfl, rfl⟩)) (by decide +kernel) (sn_X8_greatestDelay l) ok_X8_greatestDelay
def mLeftB (w : sm_W) (x s t : Int) : Int := if wI w 165 (8 * x + s) < 0 then 0 else (if t < wI w 165 (8 * x + s) then 0 else 1)
def p_X8_hasLeft : List sm_V → sm_W → Prop
  | [.inr (.inl m), .inl x, .inl s, .inl t], w => m = 154 ∧ sT w ∧ 0 ≤ x ∧ x < 8 ∧ 0 ≤ s ∧ s < 8
  | _, _ => False
def f_X8_hasLeft : sm_F
  | [.inr (.inl m), .inl x, .inl s, .inl t], w => (some (.inl (mLeftB w x s t)), w)
  | _, w => (none, w)
def tb_X8_hasLeft : List (Nat × List sm_O) := [(0, [oA 0, oGr 8 30 12, oK 8, oI 1, oMul, oI 2, oAdd, oIl, oLt0 33, oA 0, oGr 8 30 12, oK 8, oI 1, oMul, oI 2, oAdd, oIl, oI 3, oGt 33, oK 1, oGo 34]),
  (33, [oK 0, oGo 34]),
  (34, [oZr])]
set_option maxRecDepth 100000 in
theorem sb_X8_hasLeft_0 (l : Launch) : sm_SndB l RX8 "hasLeft" cX8_hasLeft 4 2 0 0 [oA 0, oGr 8 30 12, oK 8, oI 1, oMul, oI 2, oAdd, oIl, oLt0 33, oA 0, oGr 8 30 12, oK 8, oI 1, oMul, oI 2, oAdd, oIl, oI 3, oGt 33, oK 1, oGo 34] := sb_cons (sd_aload_n (by decide +kernel : decode cX8_hasLeft 0 = .ok (.aload_n 0, 1)) rfl) (sb_cons (sd_getr (k := 12) kl_8 (by decide) rfl wm_685 (by decide +kernel : decode cX8_hasLeft 1 = .ok (.getfield 41, 3))) (sb_cons (sd_bipush (by decide +kernel : decode cX8_hasLeft 4 = .ok (.bipush 8, 2)) ⟨by decide, by decide⟩ (by decide)) (sb_cons (sd_iload_n (by decide +kernel : decode cX8_hasLeft 6 = .ok (.iload_n 1, 1)) rfl) (sb_cons (sd_imul (by decide +kernel : decode cX8_hasLeft 7 = .ok (.imul, 1))) (sb_cons (sd_iload_n (by decide +kernel : decode cX8_hasLeft 8 = .ok (.iload_n 2, 1)) rfl) (sb_cons (sd_iadd (by decide +kernel : decode cX8_hasLeft 9 = .ok (.iadd, 1))) (sb_cons (sd_iaload (by decide +kernel : decode cX8_hasLeft 10 = .ok (.iaload, 1))) (sb_cons (sd_lt0 (by decide +kernel : decode cX8_hasLeft 11 = .ok (.ifCond .lt 22, 3)) (by decide)) (sb_cons (sd_aload_n (by decide +kernel : decode cX8_hasLeft 14 = .ok (.aload_n 0, 1)) rfl) (sb_cons (sd_getr (k := 12) kl_8 (by decide) rfl wm_685 (by decide +kernel : decode cX8_hasLeft 15 = .ok (.getfield 41, 3))) (sb_cons (sd_bipush (by decide +kernel : decode cX8_hasLeft 18 = .ok (.bipush 8, 2)) ⟨by decide, by decide⟩ (by decide)) (sb_cons (sd_iload_n (by decide +kernel : decode cX8_hasLeft 20 = .ok (.iload_n 1, 1)) rfl) (sb_cons (sd_imul (by decide +kernel : decode cX8_hasLeft 21 = .ok (.imul, 1))) (sb_cons (sd_iload_n (by decide +kernel : decode cX8_hasLeft 22 = .ok (.iload_n 2, 1)) rfl) (sb_cons (sd_iadd (by decide +kernel : decode cX8_hasLeft 23 = .ok (.iadd, 1))) (sb_cons (sd_iaload (by decide +kernel : decode cX8_hasLeft 24 = .ok (.iaload, 1))) (sb_cons (sd_iload_n (by decide +kernel : decode cX8_hasLeft 25 = .ok (.iload_n 3, 1)) rfl) (sb_cons (sd_gt (by decide +kernel : decode cX8_hasLeft 26 = .ok (.if_icmp .gt 7, 3)) (by decide)) (sb_cons (sd_iconst (by decide +kernel : decode cX8_hasLeft 29 = .ok (.iconst 1, 1)) ⟨by decide, by decide⟩) (sb_cons (sd_goto (x := 0) (by decide +kernel : decode cX8_hasLeft 30 = .ok (.goto 4, 3)) (by decide)) sb_nil))))))))))))))))))))
set_option maxRecDepth 100000 in
theorem sb_X8_hasLeft_33 (l : Launch) : sm_SndB l RX8 "hasLeft" cX8_hasLeft 4 2 0 33 [oK 0, oGo 34] := sb_cons (sd_iconst (by decide +kernel : decode cX8_hasLeft 33 = .ok (.iconst 0, 1)) ⟨by decide, by decide⟩) (sb_cons (sd_fall (x := 0)) sb_nil)
set_option maxRecDepth 100000 in
theorem sb_X8_hasLeft_34 (l : Launch) : sm_SndB l RX8 "hasLeft" cX8_hasLeft 4 2 0 34 [oZr] := sb_cons (sd_zreturn (x := 0) rfl (by decide +kernel : decode cX8_hasLeft 34 = .ok (.ireturn, 1))) sb_nil
theorem sn_X8_hasLeft (l : Launch) : sm_SndT l RX8 "hasLeft" cX8_hasLeft 4 2 0 tb_X8_hasLeft := st_cons (sb_X8_hasLeft_0 l) (st_cons (sb_X8_hasLeft_33 l) (st_cons (sb_X8_hasLeft_34 l) (st_nil)))
set_option maxRecDepth 100000 in
set_option maxHeartbeats 4000000 in
theorem ok_X8_hasLeft : sm_Ok tb_X8_hasLeft 4 0 0 p_X8_hasLeft f_X8_hasLeft := by
  intro as w hp ha hw
  match as, hp with
  | [.inr (.inl m), .inl x, .inl s, .inl t], hp =>
  refine ⟨Nat.le_of_ble_eq_true rfl, fun Z hZ => ?_⟩
  obtain ⟨rfl, hT, h1, h2, h3, h4⟩ := hp
  refine hZ (fun _ => false) 16 0 _ _ _ _ _ ?_
  simp only [sm_run, sm_blk, sm_get, sm_ent, sm_ents, sm_wds, sm_wd, sm_nl, sm_pop, sm_back, sm_cases, oK, oLK, oL, oI, oA, oJ, oIs, oAs, oJs, oInc, oAdd, oSub, oMul, oDiv, oRem, oNeg, oAnd, oAndB, oOr, oShl, oI2c, oI2l, oL2i, oLand, oLor, oLshl, oLshr, oLushr, oLcmp, oDup, oDup2, oPop, oGo, oFg, oEq, oNe, oLt, oGe, oGt, oLe, oEq0, oNe0, oLt0, oGe0, oGt0, oLe0, oSw, oGi, oGr, oPi, oPz, oPr, oLen, oIl, oZl, oCl, oRl, oIst, oZst, oCst, oRst, oCopy, oNew, oNa, oNa2, oObj, oCs, oCv, oCi, oIr, oZr, oVr, Nat.beq, List.getElem?_cons_zero, List.getElem?_cons_succ, List.set_cons_zero, List.set_cons_succ, List.length_cons, List.length_nil, List.nil_append, List.cons_append, List.append_nil, List.replicate_succ, List.replicate_zero, Nat.reduceAdd, Nat.reduceSub, Nat.reduceLT, Nat.reduceLeDiff, Nat.reduceBEq, true_and, and_true, Nat.zero_add, Nat.add_zero, Nat.le_refl, Option.some.injEq, exists_eq_left', true_or, or_true, or_false, false_or, reduceCtorEq, Prod.mk.injEq, Sum.inl.injEq, and_self, false_and, and_false, not_true_eq_false, not_false_eq_true, false_implies, true_implies, sm_r, Int.add_zero, Int.zero_add, wI_wsI, wS_wsI, wR_wsI, wI_wCp, wS_wCp, wR_wCp, Nat.reduceEqDiff, reduceIte, sT_iff, sT_iffC, wIf_ne, ne_eq, Bool.false_or, Bool.true_or, Bool.or_false, Bool.or_true, Bool.or_self, tb_X8_hasLeft, p_X8_hasLeft, f_X8_hasLeft, sS_154 hT, sR_154_12 hT, sS_165 hT]
  repeat' (first | exact True.intro | with_reducible assumption | with_reducible refine And.intro ?_ ?_ | intro _)
  all_goals first
    | omega
    | assumption
    | rfl
    | (split <;> omega)
    | grind [mLeftB]
    | skip
theorem met_X8_hasLeft (l : Launch) : sm_Met l yX8_hasLeft cX8_hasLeft 4 (some .boolean) 0 0 0 p_X8_hasLeft f_X8_hasLeft := sm_met 2 (Or.inr (Or.inr ⟨rfl, rfl⟩)) (by decide +kernel) (sn_X8_hasLeft l) ok_X8_hasLeft
def mIsAh (w : sm_W) (k l : Int) : Int := if wI w 166 k ≠ wI w 166 l then (if wI w 166 k < wI w 166 l then 1 else 0) else (if wI w 167 k ≠ wI w 167 l then (if wI w 167 k < wI w 167 l then 1 else 0) else (if k < l then 1 else 0))
def p_X8_isAhead : List sm_V → sm_W → Prop
  | [.inr (.inl m), .inl k, .inl l], w => m = 154 ∧ sT w ∧ 0 ≤ k ∧ k < 64 ∧ 0 ≤ l ∧ l < 64
  | _, _ => False
def f_X8_isAhead : sm_F
  | [.inr (.inl m), .inl k, .inl l], w => (some (.inl (mIsAh w k l)), w)
  | _, w => (none, w)
def tb_X8_isAhead : List (Nat × List sm_O) := [(0, [oA 0, oGr 8 30 13, oI 1, oIl, oA 0, oGr 8 30 13, oI 2, oIl, oEq 36, oA 0, oGr 8 30 13, oI 1, oIl, oA 0, oGr 8 30 13, oI 2, oIl, oGe 34, oK 1, oGo 35]),
  (34, [oK 0, oGo 35]),
  (35, [oZr]),
  (36, [oA 0, oGr 8 30 14, oI 1, oIl, oA 0, oGr 8 30 14, oI 2, oIl, oEq 74, oA 0, oGr 8 30 14, oI 1, oIl, oA 0, oGr 8 30 14, oI 2, oIl, oGe 70, oK 1, oGo 84]),
  (70, [oK 0, oGo 84]),
  (74, [oI 1, oI 2, oGe 83, oK 1, oGo 84]),
  (83, [oK 0, oGo 84]),
  (84, [oZr])]
set_option maxRecDepth 100000 in
theorem sb_X8_isAhead_0 (l : Launch) : sm_SndB l RX8 "isAhead" cX8_isAhead 3 2 0 0 [oA 0, oGr 8 30 13, oI 1, oIl, oA 0, oGr 8 30 13, oI 2, oIl, oEq 36, oA 0, oGr 8 30 13, oI 1, oIl, oA 0, oGr 8 30 13, oI 2, oIl, oGe 34, oK 1, oGo 35] := sb_cons (sd_aload_n (by decide +kernel : decode cX8_isAhead 0 = .ok (.aload_n 0, 1)) rfl) (sb_cons (sd_getr (k := 13) kl_8 (by decide) rfl wm_686 (by decide +kernel : decode cX8_isAhead 1 = .ok (.getfield 44, 3))) (sb_cons (sd_iload_n (by decide +kernel : decode cX8_isAhead 4 = .ok (.iload_n 1, 1)) rfl) (sb_cons (sd_iaload (by decide +kernel : decode cX8_isAhead 5 = .ok (.iaload, 1))) (sb_cons (sd_aload_n (by decide +kernel : decode cX8_isAhead 6 = .ok (.aload_n 0, 1)) rfl) (sb_cons (sd_getr (k := 13) kl_8 (by decide) rfl wm_686 (by decide +kernel : decode cX8_isAhead 7 = .ok (.getfield 44, 3))) (sb_cons (sd_iload_n (by decide +kernel : decode cX8_isAhead 10 = .ok (.iload_n 2, 1)) rfl) (sb_cons (sd_iaload (by decide +kernel : decode cX8_isAhead 11 = .ok (.iaload, 1))) (sb_cons (sd_eq (by decide +kernel : decode cX8_isAhead 12 = .ok (.if_icmp .eq 24, 3)) (by decide)) (sb_cons (sd_aload_n (by decide +kernel : decode cX8_isAhead 15 = .ok (.aload_n 0, 1)) rfl) (sb_cons (sd_getr (k := 13) kl_8 (by decide) rfl wm_686 (by decide +kernel : decode cX8_isAhead 16 = .ok (.getfield 44, 3))) (sb_cons (sd_iload_n (by decide +kernel : decode cX8_isAhead 19 = .ok (.iload_n 1, 1)) rfl) (sb_cons (sd_iaload (by decide +kernel : decode cX8_isAhead 20 = .ok (.iaload, 1))) (sb_cons (sd_aload_n (by decide +kernel : decode cX8_isAhead 21 = .ok (.aload_n 0, 1)) rfl) (sb_cons (sd_getr (k := 13) kl_8 (by decide) rfl wm_686 (by decide +kernel : decode cX8_isAhead 22 = .ok (.getfield 44, 3))) (sb_cons (sd_iload_n (by decide +kernel : decode cX8_isAhead 25 = .ok (.iload_n 2, 1)) rfl) (sb_cons (sd_iaload (by decide +kernel : decode cX8_isAhead 26 = .ok (.iaload, 1))) (sb_cons (sd_ge (by decide +kernel : decode cX8_isAhead 27 = .ok (.if_icmp .ge 7, 3)) (by decide)) (sb_cons (sd_iconst (by decide +kernel : decode cX8_isAhead 30 = .ok (.iconst 1, 1)) ⟨by decide, by decide⟩) (sb_cons (sd_goto (x := 0) (by decide +kernel : decode cX8_isAhead 31 = .ok (.goto 4, 3)) (by decide)) sb_nil)))))))))))))))))))
set_option maxRecDepth 100000 in
theorem sb_X8_isAhead_34 (l : Launch) : sm_SndB l RX8 "isAhead" cX8_isAhead 3 2 0 34 [oK 0, oGo 35] := sb_cons (sd_iconst (by decide +kernel : decode cX8_isAhead 34 = .ok (.iconst 0, 1)) ⟨by decide, by decide⟩) (sb_cons (sd_fall (x := 0)) sb_nil)
set_option maxRecDepth 100000 in
theorem sb_X8_isAhead_35 (l : Launch) : sm_SndB l RX8 "isAhead" cX8_isAhead 3 2 0 35 [oZr] := sb_cons (sd_zreturn (x := 0) rfl (by decide +kernel : decode cX8_isAhead 35 = .ok (.ireturn, 1))) sb_nil
set_option maxRecDepth 100000 in
theorem sb_X8_isAhead_36 (l : Launch) : sm_SndB l RX8 "isAhead" cX8_isAhead 3 2 0 36 [oA 0, oGr 8 30 14, oI 1, oIl, oA 0, oGr 8 30 14, oI 2, oIl, oEq 74, oA 0, oGr 8 30 14, oI 1, oIl, oA 0, oGr 8 30 14, oI 2, oIl, oGe 70, oK 1, oGo 84] := sb_cons (sd_aload_n (by decide +kernel : decode cX8_isAhead 36 = .ok (.aload_n 0, 1)) rfl) (sb_cons (sd_getr (k := 14) kl_8 (by decide) rfl wm_687 (by decide +kernel : decode cX8_isAhead 37 = .ok (.getfield 47, 3))) (sb_cons (sd_iload_n (by decide +kernel : decode cX8_isAhead 40 = .ok (.iload_n 1, 1)) rfl) (sb_cons (sd_iaload (by decide +kernel : decode cX8_isAhead 41 = .ok (.iaload, 1))) (sb_cons (sd_aload_n (by decide +kernel : decode cX8_isAhead 42 = .ok (.aload_n 0, 1)) rfl) (sb_cons (sd_getr (k := 14) kl_8 (by decide) rfl wm_687 (by decide +kernel : decode cX8_isAhead 43 = .ok (.getfield 47, 3))) (sb_cons (sd_iload_n (by decide +kernel : decode cX8_isAhead 46 = .ok (.iload_n 2, 1)) rfl) (sb_cons (sd_iaload (by decide +kernel : decode cX8_isAhead 47 = .ok (.iaload, 1))) (sb_cons (sd_eq (by decide +kernel : decode cX8_isAhead 48 = .ok (.if_icmp .eq 26, 3)) (by decide)) (sb_cons (sd_aload_n (by decide +kernel : decode cX8_isAhead 51 = .ok (.aload_n 0, 1)) rfl) (sb_cons (sd_getr (k := 14) kl_8 (by decide) rfl wm_687 (by decide +kernel : decode cX8_isAhead 52 = .ok (.getfield 47, 3))) (sb_cons (sd_iload_n (by decide +kernel : decode cX8_isAhead 55 = .ok (.iload_n 1, 1)) rfl) (sb_cons (sd_iaload (by decide +kernel : decode cX8_isAhead 56 = .ok (.iaload, 1))) (sb_cons (sd_aload_n (by decide +kernel : decode cX8_isAhead 57 = .ok (.aload_n 0, 1)) rfl) (sb_cons (sd_getr (k := 14) kl_8 (by decide) rfl wm_687 (by decide +kernel : decode cX8_isAhead 58 = .ok (.getfield 47, 3))) (sb_cons (sd_iload_n (by decide +kernel : decode cX8_isAhead 61 = .ok (.iload_n 2, 1)) rfl) (sb_cons (sd_iaload (by decide +kernel : decode cX8_isAhead 62 = .ok (.iaload, 1))) (sb_cons (sd_ge (by decide +kernel : decode cX8_isAhead 63 = .ok (.if_icmp .ge 7, 3)) (by decide)) (sb_cons (sd_iconst (by decide +kernel : decode cX8_isAhead 66 = .ok (.iconst 1, 1)) ⟨by decide, by decide⟩) (sb_cons (sd_goto (x := 0) (by decide +kernel : decode cX8_isAhead 67 = .ok (.goto 17, 3)) (by decide)) sb_nil)))))))))))))))))))
set_option maxRecDepth 100000 in
theorem sb_X8_isAhead_70 (l : Launch) : sm_SndB l RX8 "isAhead" cX8_isAhead 3 2 0 70 [oK 0, oGo 84] := sb_cons (sd_iconst (by decide +kernel : decode cX8_isAhead 70 = .ok (.iconst 0, 1)) ⟨by decide, by decide⟩) (sb_cons (sd_goto (x := 0) (by decide +kernel : decode cX8_isAhead 71 = .ok (.goto 13, 3)) (by decide)) sb_nil)
set_option maxRecDepth 100000 in
theorem sb_X8_isAhead_74 (l : Launch) : sm_SndB l RX8 "isAhead" cX8_isAhead 3 2 0 74 [oI 1, oI 2, oGe 83, oK 1, oGo 84] := sb_cons (sd_iload_n (by decide +kernel : decode cX8_isAhead 74 = .ok (.iload_n 1, 1)) rfl) (sb_cons (sd_iload_n (by decide +kernel : decode cX8_isAhead 75 = .ok (.iload_n 2, 1)) rfl) (sb_cons (sd_ge (by decide +kernel : decode cX8_isAhead 76 = .ok (.if_icmp .ge 7, 3)) (by decide)) (sb_cons (sd_iconst (by decide +kernel : decode cX8_isAhead 79 = .ok (.iconst 1, 1)) ⟨by decide, by decide⟩) (sb_cons (sd_goto (x := 0) (by decide +kernel : decode cX8_isAhead 80 = .ok (.goto 4, 3)) (by decide)) sb_nil))))
set_option maxRecDepth 100000 in
theorem sb_X8_isAhead_83 (l : Launch) : sm_SndB l RX8 "isAhead" cX8_isAhead 3 2 0 83 [oK 0, oGo 84] := sb_cons (sd_iconst (by decide +kernel : decode cX8_isAhead 83 = .ok (.iconst 0, 1)) ⟨by decide, by decide⟩) (sb_cons (sd_fall (x := 0)) sb_nil)
set_option maxRecDepth 100000 in
theorem sb_X8_isAhead_84 (l : Launch) : sm_SndB l RX8 "isAhead" cX8_isAhead 3 2 0 84 [oZr] := sb_cons (sd_zreturn (x := 0) rfl (by decide +kernel : decode cX8_isAhead 84 = .ok (.ireturn, 1))) sb_nil
theorem sn_X8_isAhead (l : Launch) : sm_SndT l RX8 "isAhead" cX8_isAhead 3 2 0 tb_X8_isAhead := st_cons (sb_X8_isAhead_0 l) (st_cons (sb_X8_isAhead_34 l) (st_cons (sb_X8_isAhead_35 l) (st_cons (sb_X8_isAhead_36 l) (st_cons (sb_X8_isAhead_70 l) (st_cons (sb_X8_isAhead_74 l) (st_cons (sb_X8_isAhead_83 l) (st_cons (sb_X8_isAhead_84 l) (st_nil))))))))
set_option maxRecDepth 100000 in
set_option maxHeartbeats 4000000 in
theorem ok_X8_isAhead : sm_Ok tb_X8_isAhead 3 0 0 p_X8_isAhead f_X8_isAhead := by
  intro as w hp ha hw
  match as, hp with
  | [.inr (.inl m), .inl k, .inl l], hp =>
  refine ⟨Nat.le_of_ble_eq_true rfl, fun Z hZ => ?_⟩
  obtain ⟨rfl, hT, h1, h2, h3, h4⟩ := hp
  refine hZ (fun _ => false) 16 0 _ _ _ _ _ ?_
  simp only [sm_run, sm_blk, sm_get, sm_ent, sm_ents, sm_wds, sm_wd, sm_nl, sm_pop, sm_back, sm_cases, oK, oLK, oL, oI, oA, oJ, oIs, oAs, oJs, oInc, oAdd, oSub, oMul, oDiv, oRem, oNeg, oAnd, oAndB, oOr, oShl, oI2c, oI2l, oL2i, oLand, oLor, oLshl, oLshr, oLushr, oLcmp, oDup, oDup2, oPop, oGo, oFg, oEq, oNe, oLt, oGe, oGt, oLe, oEq0, oNe0, oLt0, oGe0, oGt0, oLe0, oSw, oGi, oGr, oPi, oPz, oPr, oLen, oIl, oZl, oCl, oRl, oIst, oZst, oCst, oRst, oCopy, oNew, oNa, oNa2, oObj, oCs, oCv, oCi, oIr, oZr, oVr, Nat.beq, List.getElem?_cons_zero, List.getElem?_cons_succ, List.set_cons_zero, List.set_cons_succ, List.length_cons, List.length_nil, List.nil_append, List.cons_append, List.append_nil, List.replicate_succ, List.replicate_zero, Nat.reduceAdd, Nat.reduceSub, Nat.reduceLT, Nat.reduceLeDiff, Nat.reduceBEq, true_and, and_true, Nat.zero_add, Nat.add_zero, Nat.le_refl, Option.some.injEq, exists_eq_left', true_or, or_true, or_false, false_or, reduceCtorEq, Prod.mk.injEq, Sum.inl.injEq, and_self, false_and, and_false, not_true_eq_false, not_false_eq_true, false_implies, true_implies, sm_r, Int.add_zero, Int.zero_add, wI_wsI, wS_wsI, wR_wsI, wI_wCp, wS_wCp, wR_wCp, Nat.reduceEqDiff, reduceIte, sT_iff, sT_iffC, wIf_ne, ne_eq, Bool.false_or, Bool.true_or, Bool.or_false, Bool.or_true, Bool.or_self, tb_X8_isAhead, p_X8_isAhead, f_X8_isAhead, sS_154 hT, sR_154_13 hT, sS_166 hT, sR_154_14 hT, sS_167 hT]
  repeat' (first | exact True.intro | with_reducible assumption | with_reducible refine And.intro ?_ ?_ | intro _)
  all_goals first
    | omega
    | assumption
    | rfl
    | (split <;> omega)
    | grind [mIsAh]
    | skip
theorem met_X8_isAhead (l : Launch) : sm_Met l yX8_isAhead cX8_isAhead 3 (some .boolean) 0 0 0 p_X8_isAhead f_X8_isAhead := sm_met 2 (Or.inr (Or.inr ⟨rfl, rfl⟩)) (by decide +kernel) (sn_X8_isAhead l) ok_X8_isAhead
def mAh (w : sm_W) (o : Int) : Int → Int := itI (fun k r => if wI w 166 k < 0 then r else (if mIsAh w k o = 1 then r + 1 else r)) 0
theorem mAh_b (w : sm_W) (o n : Int) (hn : 0 ≤ n) : 0 ≤ mAh w o n ∧ mAh w o n ≤ n := by
  refine itI_ind (fun i r => 0 ≤ r ∧ r ≤ i) n ⟨by decide, by decide⟩ (fun i r h0 h1 h => ?_) n hn (Int.le_refl _)
  grind
theorem mIsAh_01 (w : sm_W) (k l : Int) : mIsAh w k l = 0 ∨ mIsAh w k l = 1 := by
  unfold mIsAh
  grind
def p_X8_ahead : List sm_V → sm_W → Prop
  | [.inr (.inl m), .inl o], w => m = 154 ∧ sT w ∧ 0 ≤ o ∧ o < 64
  | _, _ => False
def f_X8_ahead : sm_F
  | [.inr (.inl m), .inl o], w => (some (.inl (mAh w o 64)), w)
  | _, w => (none, w)
def tb_X8_ahead : List (Nat × List sm_O) := [(0, [oK 0, oIs 2, oK 0, oIs 3, oGo 4]),
  (4, [oI 3, oK 64, oGe 42, oI 2, oA 0, oGr 8 30 13, oI 3, oIl, oLt0 33, oA 0, oI 3, oI 1, oCv 8 30 p_X8_isAhead f_X8_isAhead 0 0 3, oEq0 33, oK 1, oGo 34]),
  (33, [oK 0, oGo 34]),
  (34, [oAdd, oIs 2, oInc 3 1, oGo 4]),
  (42, [oI 2, oIr])]
set_option maxRecDepth 100000 in
theorem sb_X8_ahead_0 (l : Launch) : sm_SndB l RX8 "ahead" cX8_ahead 4 1 1 0 [oK 0, oIs 2, oK 0, oIs 3, oGo 4] := sb_cons (sd_iconst (by decide +kernel : decode cX8_ahead 0 = .ok (.iconst 0, 1)) ⟨by decide, by decide⟩) (sb_cons (sd_istore_n (by decide +kernel : decode cX8_ahead 1 = .ok (.istore_n 2, 1)) rfl) (sb_cons (sd_iconst (by decide +kernel : decode cX8_ahead 2 = .ok (.iconst 0, 1)) ⟨by decide, by decide⟩) (sb_cons (sd_istore_n (by decide +kernel : decode cX8_ahead 3 = .ok (.istore_n 3, 1)) rfl) (sb_cons (sd_fall (x := 0)) sb_nil))))
set_option maxRecDepth 100000 in
theorem sb_X8_ahead_4 (l : Launch) : sm_SndB l RX8 "ahead" cX8_ahead 4 1 1 4 [oI 3, oK 64, oGe 42, oI 2, oA 0, oGr 8 30 13, oI 3, oIl, oLt0 33, oA 0, oI 3, oI 1, oCv 8 30 p_X8_isAhead f_X8_isAhead 0 0 3, oEq0 33, oK 1, oGo 34] := sb_cons (sd_iload_n (by decide +kernel : decode cX8_ahead 4 = .ok (.iload_n 3, 1)) rfl) (sb_cons (sd_bipush (by decide +kernel : decode cX8_ahead 5 = .ok (.bipush 64, 2)) ⟨by decide, by decide⟩ (by decide)) (sb_cons (sd_ge (by decide +kernel : decode cX8_ahead 7 = .ok (.if_icmp .ge 35, 3)) (by decide)) (sb_cons (sd_iload_n (by decide +kernel : decode cX8_ahead 10 = .ok (.iload_n 2, 1)) rfl) (sb_cons (sd_aload_n (by decide +kernel : decode cX8_ahead 11 = .ok (.aload_n 0, 1)) rfl) (sb_cons (sd_getr (k := 13) kl_8 (by decide) rfl wm_686 (by decide +kernel : decode cX8_ahead 12 = .ok (.getfield 44, 3))) (sb_cons (sd_iload_n (by decide +kernel : decode cX8_ahead 15 = .ok (.iload_n 3, 1)) rfl) (sb_cons (sd_iaload (by decide +kernel : decode cX8_ahead 16 = .ok (.iaload, 1))) (sb_cons (sd_lt0 (by decide +kernel : decode cX8_ahead 17 = .ok (.ifCond .lt 16, 3)) (by decide)) (sb_cons (sd_aload_n (by decide +kernel : decode cX8_ahead 20 = .ok (.aload_n 0, 1)) rfl) (sb_cons (sd_iload_n (by decide +kernel : decode cX8_ahead 21 = .ok (.iload_n 3, 1)) rfl) (sb_cons (sd_iload_n (by decide +kernel : decode cX8_ahead 22 = .ok (.iload_n 1, 1)) rfl) (sb_cons (sd_callv (n := 2) (met_X8_isAhead l) (by decide) (by decide) wm_963 wm_961 wm_10 ⟨by decide +kernel, by decide +kernel, by decide +kernel⟩ kl_8 wm_962 wm_1147 (by decide +kernel : decode cX8_ahead 23 = .ok (.invokevirtual 244, 3))) (sb_cons (sd_eq0 (by decide +kernel : decode cX8_ahead 26 = .ok (.ifCond .eq 7, 3)) (by decide)) (sb_cons (sd_iconst (by decide +kernel : decode cX8_ahead 29 = .ok (.iconst 1, 1)) ⟨by decide, by decide⟩) (sb_cons (sd_goto (x := 0) (by decide +kernel : decode cX8_ahead 30 = .ok (.goto 4, 3)) (by decide)) sb_nil)))))))))))))))
set_option maxRecDepth 100000 in
theorem sb_X8_ahead_33 (l : Launch) : sm_SndB l RX8 "ahead" cX8_ahead 4 1 1 33 [oK 0, oGo 34] := sb_cons (sd_iconst (by decide +kernel : decode cX8_ahead 33 = .ok (.iconst 0, 1)) ⟨by decide, by decide⟩) (sb_cons (sd_fall (x := 0)) sb_nil)
set_option maxRecDepth 100000 in
theorem sb_X8_ahead_34 (l : Launch) : sm_SndB l RX8 "ahead" cX8_ahead 4 1 1 34 [oAdd, oIs 2, oInc 3 1, oGo 4] := sb_cons (sd_iadd (by decide +kernel : decode cX8_ahead 34 = .ok (.iadd, 1))) (sb_cons (sd_istore_n (by decide +kernel : decode cX8_ahead 35 = .ok (.istore_n 2, 1)) rfl) (sb_cons (sd_iinc (by decide +kernel : decode cX8_ahead 36 = .ok (.iinc 3 1, 3))) (sb_cons (sd_goto (x := 0) (by decide +kernel : decode cX8_ahead 39 = .ok (.goto (-35), 3)) (by decide)) sb_nil)))
set_option maxRecDepth 100000 in
theorem sb_X8_ahead_42 (l : Launch) : sm_SndB l RX8 "ahead" cX8_ahead 4 1 1 42 [oI 2, oIr] := sb_cons (sd_iload_n (by decide +kernel : decode cX8_ahead 42 = .ok (.iload_n 2, 1)) rfl) (sb_cons (sd_ireturn (x := 0) rfl (by decide +kernel : decode cX8_ahead 43 = .ok (.ireturn, 1))) sb_nil)
theorem sn_X8_ahead (l : Launch) : sm_SndT l RX8 "ahead" cX8_ahead 4 1 1 tb_X8_ahead := st_cons (sb_X8_ahead_0 l) (st_cons (sb_X8_ahead_4 l) (st_cons (sb_X8_ahead_33 l) (st_cons (sb_X8_ahead_34 l) (st_cons (sb_X8_ahead_42 l) (st_nil)))))
set_option maxRecDepth 100000 in
set_option maxHeartbeats 4000000 in
theorem ok_X8_ahead : sm_Ok tb_X8_ahead 4 0 0 p_X8_ahead f_X8_ahead := by
  intro as w hp ha hw
  match as, hp with
  | [.inr (.inl m), .inl o], hp =>
  refine ⟨Nat.le_of_ble_eq_true rfl, fun Z hZ => ?_⟩
  obtain ⟨rfl, hT, o0, o1⟩ := hp
  have hl := sm_loopI Z 4 0 64 (fun i => [some (.inr (.inl 154)), some (.inl o), some (.inl (mAh w o i)), some (.inl i)]) (fun _ => w) 0 0 (by decide) (fun i h0 h1 ih => by
    have hb := mAh_b w o i h0
    have h01 := mIsAh_01 w i o
    have hu : mAh w o (i + 1) = if wI w 166 i < 0 then mAh w o i else (if mIsAh w i o = 1 then mAh w o i + 1 else mAh w o i) := itI_s _ _ h0
    rw [hu] at ih
    refine hZ (fun u => Nat.beq u 4) 14 4 _ _ _ _ _ ?_
    simp only [sm_run, sm_blk, sm_get, sm_ent, sm_ents, sm_wds, sm_wd, sm_nl, sm_pop, sm_back, sm_cases, oK, oLK, oL, oI, oA, oJ, oIs, oAs, oJs, oInc, oAdd, oSub, oMul, oDiv, oRem, oNeg, oAnd, oAndB, oOr, oShl, oI2c, oI2l, oL2i, oLand, oLor, oLshl, oLshr, oLushr, oLcmp, oDup, oDup2, oPop, oGo, oFg, oEq, oNe, oLt, oGe, oGt, oLe, oEq0, oNe0, oLt0, oGe0, oGt0, oLe0, oSw, oGi, oGr, oPi, oPz, oPr, oLen, oIl, oZl, oCl, oRl, oIst, oZst, oCst, oRst, oCopy, oNew, oNa, oNa2, oObj, oCs, oCv, oCi, oIr, oZr, oVr, Nat.beq, List.getElem?_cons_zero, List.getElem?_cons_succ, List.set_cons_zero, List.set_cons_succ, List.length_cons, List.length_nil, List.nil_append, List.cons_append, List.append_nil, List.replicate_succ, List.replicate_zero, Nat.reduceAdd, Nat.reduceSub, Nat.reduceLT, Nat.reduceLeDiff, Nat.reduceBEq, true_and, and_true, Nat.zero_add, Nat.add_zero, Nat.le_refl, Option.some.injEq, exists_eq_left', true_or, or_true, or_false, false_or, reduceCtorEq, Prod.mk.injEq, Sum.inl.injEq, and_self, false_and, and_false, not_true_eq_false, not_false_eq_true, false_implies, true_implies, sm_r, Int.add_zero, Int.zero_add, wI_wsI, wS_wsI, wR_wsI, wI_wCp, wS_wCp, wR_wCp, Nat.reduceEqDiff, reduceIte, sT_iff, sT_iffC, wIf_ne, ne_eq, Bool.false_or, Bool.true_or, Bool.or_false, Bool.or_true, Bool.or_self, tb_X8_ahead, p_X8_isAhead, f_X8_isAhead, p_X8_ahead, f_X8_ahead, sS_154 hT, sR_154_13 hT, sS_166 hT, hT]
    repeat' (first | exact True.intro | with_reducible assumption | with_reducible refine And.intro ?_ ?_ | intro _)
    all_goals first
      | omega
      | assumption
      | rfl
      | (split <;> omega)
      | (have k9 := ih (by omega)
         (repeat' split at k9) <;> first | exact k9 | omega)
      | (have k9 := ih2 (by omega)
         (repeat' split at k9) <;> first | exact k9 | omega)
      | exact he (by omega)
      | (congr 1; omega)
      | (rw [if_pos (by omega)] at he; exact he)
      | exact hD1 (by omega)
      | exact hD2 (by omega)
      | grind
      | skip
    )
  refine hZ (fun u => Nat.beq u 4) 14 0 _ _ _ _ _ ?_
  simp only [sm_run, sm_blk, sm_get, sm_ent, sm_ents, sm_wds, sm_wd, sm_nl, sm_pop, sm_back, sm_cases, oK, oLK, oL, oI, oA, oJ, oIs, oAs, oJs, oInc, oAdd, oSub, oMul, oDiv, oRem, oNeg, oAnd, oAndB, oOr, oShl, oI2c, oI2l, oL2i, oLand, oLor, oLshl, oLshr, oLushr, oLcmp, oDup, oDup2, oPop, oGo, oFg, oEq, oNe, oLt, oGe, oGt, oLe, oEq0, oNe0, oLt0, oGe0, oGt0, oLe0, oSw, oGi, oGr, oPi, oPz, oPr, oLen, oIl, oZl, oCl, oRl, oIst, oZst, oCst, oRst, oCopy, oNew, oNa, oNa2, oObj, oCs, oCv, oCi, oIr, oZr, oVr, Nat.beq, List.getElem?_cons_zero, List.getElem?_cons_succ, List.set_cons_zero, List.set_cons_succ, List.length_cons, List.length_nil, List.nil_append, List.cons_append, List.append_nil, List.replicate_succ, List.replicate_zero, Nat.reduceAdd, Nat.reduceSub, Nat.reduceLT, Nat.reduceLeDiff, Nat.reduceBEq, true_and, and_true, Nat.zero_add, Nat.add_zero, Nat.le_refl, Option.some.injEq, exists_eq_left', true_or, or_true, or_false, false_or, reduceCtorEq, Prod.mk.injEq, Sum.inl.injEq, and_self, false_and, and_false, not_true_eq_false, not_false_eq_true, false_implies, true_implies, sm_r, Int.add_zero, Int.zero_add, wI_wsI, wS_wsI, wR_wsI, wI_wCp, wS_wCp, wR_wCp, Nat.reduceEqDiff, reduceIte, sT_iff, sT_iffC, wIf_ne, ne_eq, Bool.false_or, Bool.true_or, Bool.or_false, Bool.or_true, Bool.or_self, tb_X8_ahead, p_X8_isAhead, f_X8_isAhead, p_X8_ahead, f_X8_ahead]
  repeat' (first | exact True.intro | with_reducible assumption | with_reducible refine And.intro ?_ ?_ | intro _)
  all_goals first
    | omega
    | assumption
    | rfl
    | (split <;> omega)
    | (have k9 := ih (by omega)
       (repeat' split at k9) <;> first | exact k9 | omega)
    | (have k9 := ih2 (by omega)
       (repeat' split at k9) <;> first | exact k9 | omega)
    | exact he (by omega)
    | (congr 1; omega)
    | (rw [if_pos (by omega)] at he; exact he)
    | exact hD1 (by omega)
    | exact hD2 (by omega)
    | skip
theorem met_X8_ahead (l : Launch) : sm_Met l yX8_ahead cX8_ahead 4 (some .int) 1 0 0 p_X8_ahead f_X8_ahead := sm_met 1 (Or.inr (Or.inl ⟨rfl, rfl⟩)) (by decide +kernel) (sn_X8_ahead l) ok_X8_ahead
def mStn : Nat → sm_W → Int → Int → Int → Int
  | 0, _, _, _, s => s
  | n + 1, w, x, t, s => if s = wI w 155 (17 + 5 * x + 1) then s else (if wI w 163 (8 * x + (s + mWay (wI w 155) x)) < 0 then s else (if t < wI w 163 (8 * x + (s + mWay (wI w 155) x)) then s else mStn n w x t (s + mWay (wI w 155) x)))
theorem mStn_s (n : Nat) (w : sm_W) (x t s : Int) : mStn (n + 1) w x t s = if s = wI w 155 (17 + 5 * x + 1) then s else (if wI w 163 (8 * x + (s + mWay (wI w 155) x)) < 0 then s else (if t < wI w 163 (8 * x + (s + mWay (wI w 155) x)) then s else mStn n w x t (s + mWay (wI w 155) x))) := rfl
/-- a station on a shuttle's way -/
def onWay (v : Int → Int) (x s : Int) : Prop := (v (17 + 5 * x) < v (17 + 5 * x + 1) → v (17 + 5 * x) ≤ s ∧ s ≤ v (17 + 5 * x + 1)) ∧ (v (17 + 5 * x + 1) < v (17 + 5 * x) → v (17 + 5 * x + 1) ≤ s ∧ s ≤ v (17 + 5 * x))
theorem mStn_on {w : sm_W} (hO : mOK w) {x t : Int} (h0 : 0 ≤ x) (h1 : x < wI w 155 1) (n : Nat) : ∀ s, onWay (wI w 155) x s → onWay (wI w 155) x (mStn n w x t s) := by
  have hq := vOK_sh hO.2 h0 h1
  have hwp := mWay_pm (wI w 155) x
  induction n with
  | zero => exact fun _ h => h
  | succ n ih =>
    intro s hs
    rw [mStn_s]
    split
    · exact hs
    · split
      · exact hs
      · split
        · exact hs
        · refine ih _ ?_
          unfold onWay at *
          omega
def mStat (w : sm_W) (x t : Int) : Int := mStn 8 w x t (wI w 155 (17 + 5 * x))
theorem mStat_on {w : sm_W} (hO : mOK w) {x t : Int} (h0 : 0 ≤ x) (h1 : x < wI w 155 1) : onWay (wI w 155) x (mStat w x t) := by
  have hq := vOK_sh hO.2 h0 h1
  exact mStn_on hO h0 h1 8 _ (by unfold onWay; omega)
def p_X8_stationIn : List sm_V → sm_W → Prop
  | [.inr (.inl m), .inl x, .inl t], w => m = 154 ∧ mOK w ∧ 0 ≤ x ∧ x < wI w 155 1
  | _, _ => False
def f_X8_stationIn : sm_F
  | [.inr (.inl m), .inl x, .inl t], w => (some (.inl (mStat w x t)), w)
  | _, w => (none, w)
def tb_X8_stationIn : List (Nat × List sm_O) := [(0, [oA 0, oI 1, oK 0, oCv 8 30 p_X8_of f_X8_of 0 0 3, oIs 3, oGo 7]),
  (7, [oI 3, oA 0, oI 1, oK 1, oCv 8 30 p_X8_of f_X8_of 0 0 3, oEq 69, oA 0, oGr 8 30 10, oK 8, oI 1, oMul, oI 3, oAdd, oA 0, oI 1, oCv 8 30 p_X8_way f_X8_way 0 0 2, oAdd, oIl, oLt0 69, oA 0, oGr 8 30 10, oK 8, oI 1, oMul, oI 3, oAdd, oA 0, oI 1, oCv 8 30 p_X8_way f_X8_way 0 0 2, oAdd, oIl, oI 2, oGt 69, oI 3, oA 0, oI 1, oCv 8 30 p_X8_way f_X8_way 0 0 2, oAdd, oIs 3, oGo 7]),
  (69, [oI 3, oIr])]
set_option maxRecDepth 100000 in
theorem sb_X8_stationIn_0 (l : Launch) : sm_SndB l RX8 "stationIn" cX8_stationIn 4 1 2 0 [oA 0, oI 1, oK 0, oCv 8 30 p_X8_of f_X8_of 0 0 3, oIs 3, oGo 7] := sb_cons (sd_aload_n (by decide +kernel : decode cX8_stationIn 0 = .ok (.aload_n 0, 1)) rfl) (sb_cons (sd_iload_n (by decide +kernel : decode cX8_stationIn 1 = .ok (.iload_n 1, 1)) rfl) (sb_cons (sd_iconst (by decide +kernel : decode cX8_stationIn 2 = .ok (.iconst 0, 1)) ⟨by decide, by decide⟩) (sb_cons (sd_callv (n := 2) (met_X8_of l) (by decide) (by decide) wm_778 wm_776 wm_10 ⟨by decide +kernel, by decide +kernel, by decide +kernel⟩ kl_8 wm_777 wm_1113 (by decide +kernel : decode cX8_stationIn 3 = .ok (.invokevirtual 78, 3))) (sb_cons (sd_istore_n (by decide +kernel : decode cX8_stationIn 6 = .ok (.istore_n 3, 1)) rfl) (sb_cons (sd_fall (x := 0)) sb_nil)))))
set_option maxRecDepth 100000 in
theorem sb_X8_stationIn_7 (l : Launch) : sm_SndB l RX8 "stationIn" cX8_stationIn 4 1 2 7 [oI 3, oA 0, oI 1, oK 1, oCv 8 30 p_X8_of f_X8_of 0 0 3, oEq 69, oA 0, oGr 8 30 10, oK 8, oI 1, oMul, oI 3, oAdd, oA 0, oI 1, oCv 8 30 p_X8_way f_X8_way 0 0 2, oAdd, oIl, oLt0 69, oA 0, oGr 8 30 10, oK 8, oI 1, oMul, oI 3, oAdd, oA 0, oI 1, oCv 8 30 p_X8_way f_X8_way 0 0 2, oAdd, oIl, oI 2, oGt 69, oI 3, oA 0, oI 1, oCv 8 30 p_X8_way f_X8_way 0 0 2, oAdd, oIs 3, oGo 7] := sb_cons (sd_iload_n (by decide +kernel : decode cX8_stationIn 7 = .ok (.iload_n 3, 1)) rfl) (sb_cons (sd_aload_n (by decide +kernel : decode cX8_stationIn 8 = .ok (.aload_n 0, 1)) rfl) (sb_cons (sd_iload_n (by decide +kernel : decode cX8_stationIn 9 = .ok (.iload_n 1, 1)) rfl) (sb_cons (sd_iconst (by decide +kernel : decode cX8_stationIn 10 = .ok (.iconst 1, 1)) ⟨by decide, by decide⟩) (sb_cons (sd_callv (n := 2) (met_X8_of l) (by decide) (by decide) wm_778 wm_776 wm_10 ⟨by decide +kernel, by decide +kernel, by decide +kernel⟩ kl_8 wm_777 wm_1113 (by decide +kernel : decode cX8_stationIn 11 = .ok (.invokevirtual 78, 3))) (sb_cons (sd_eq (by decide +kernel : decode cX8_stationIn 14 = .ok (.if_icmp .eq 55, 3)) (by decide)) (sb_cons (sd_aload_n (by decide +kernel : decode cX8_stationIn 17 = .ok (.aload_n 0, 1)) rfl) (sb_cons (sd_getr (k := 10) kl_8 (by decide) rfl wm_683 (by decide +kernel : decode cX8_stationIn 18 = .ok (.getfield 35, 3))) (sb_cons (sd_bipush (by decide +kernel : decode cX8_stationIn 21 = .ok (.bipush 8, 2)) ⟨by decide, by decide⟩ (by decide)) (sb_cons (sd_iload_n (by decide +kernel : decode cX8_stationIn 23 = .ok (.iload_n 1, 1)) rfl) (sb_cons (sd_imul (by decide +kernel : decode cX8_stationIn 24 = .ok (.imul, 1))) (sb_cons (sd_iload_n (by decide +kernel : decode cX8_stationIn 25 = .ok (.iload_n 3, 1)) rfl) (sb_cons (sd_iadd (by decide +kernel : decode cX8_stationIn 26 = .ok (.iadd, 1))) (sb_cons (sd_aload_n (by decide +kernel : decode cX8_stationIn 27 = .ok (.aload_n 0, 1)) rfl) (sb_cons (sd_iload_n (by decide +kernel : decode cX8_stationIn 28 = .ok (.iload_n 1, 1)) rfl) (sb_cons (sd_callv (n := 1) (met_X8_way l) (by decide) (by decide) wm_821 wm_819 wm_10 ⟨by decide +kernel, by decide +kernel, by decide +kernel⟩ kl_8 wm_820 wm_1120 (by decide +kernel : decode cX8_stationIn 29 = .ok (.invokevirtual 95, 3))) (sb_cons (sd_iadd (by decide +kernel : decode cX8_stationIn 32 = .ok (.iadd, 1))) (sb_cons (sd_iaload (by decide +kernel : decode cX8_stationIn 33 = .ok (.iaload, 1))) (sb_cons (sd_lt0 (by decide +kernel : decode cX8_stationIn 34 = .ok (.ifCond .lt 35, 3)) (by decide)) (sb_cons (sd_aload_n (by decide +kernel : decode cX8_stationIn 37 = .ok (.aload_n 0, 1)) rfl) (sb_cons (sd_getr (k := 10) kl_8 (by decide) rfl wm_683 (by decide +kernel : decode cX8_stationIn 38 = .ok (.getfield 35, 3))) (sb_cons (sd_bipush (by decide +kernel : decode cX8_stationIn 41 = .ok (.bipush 8, 2)) ⟨by decide, by decide⟩ (by decide)) (sb_cons (sd_iload_n (by decide +kernel : decode cX8_stationIn 43 = .ok (.iload_n 1, 1)) rfl) (sb_cons (sd_imul (by decide +kernel : decode cX8_stationIn 44 = .ok (.imul, 1))) (sb_cons (sd_iload_n (by decide +kernel : decode cX8_stationIn 45 = .ok (.iload_n 3, 1)) rfl) (sb_cons (sd_iadd (by decide +kernel : decode cX8_stationIn 46 = .ok (.iadd, 1))) (sb_cons (sd_aload_n (by decide +kernel : decode cX8_stationIn 47 = .ok (.aload_n 0, 1)) rfl) (sb_cons (sd_iload_n (by decide +kernel : decode cX8_stationIn 48 = .ok (.iload_n 1, 1)) rfl) (sb_cons (sd_callv (n := 1) (met_X8_way l) (by decide) (by decide) wm_821 wm_819 wm_10 ⟨by decide +kernel, by decide +kernel, by decide +kernel⟩ kl_8 wm_820 wm_1120 (by decide +kernel : decode cX8_stationIn 49 = .ok (.invokevirtual 95, 3))) (sb_cons (sd_iadd (by decide +kernel : decode cX8_stationIn 52 = .ok (.iadd, 1))) (sb_cons (sd_iaload (by decide +kernel : decode cX8_stationIn 53 = .ok (.iaload, 1))) (sb_cons (sd_iload_n (by decide +kernel : decode cX8_stationIn 54 = .ok (.iload_n 2, 1)) rfl) (sb_cons (sd_gt (by decide +kernel : decode cX8_stationIn 55 = .ok (.if_icmp .gt 14, 3)) (by decide)) (sb_cons (sd_iload_n (by decide +kernel : decode cX8_stationIn 58 = .ok (.iload_n 3, 1)) rfl) (sb_cons (sd_aload_n (by decide +kernel : decode cX8_stationIn 59 = .ok (.aload_n 0, 1)) rfl) (sb_cons (sd_iload_n (by decide +kernel : decode cX8_stationIn 60 = .ok (.iload_n 1, 1)) rfl) (sb_cons (sd_callv (n := 1) (met_X8_way l) (by decide) (by decide) wm_821 wm_819 wm_10 ⟨by decide +kernel, by decide +kernel, by decide +kernel⟩ kl_8 wm_820 wm_1120 (by decide +kernel : decode cX8_stationIn 61 = .ok (.invokevirtual 95, 3))) (sb_cons (sd_iadd (by decide +kernel : decode cX8_stationIn 64 = .ok (.iadd, 1))) (sb_cons (sd_istore_n (by decide +kernel : decode cX8_stationIn 65 = .ok (.istore_n 3, 1)) rfl) (sb_cons (sd_goto (x := 0) (by decide +kernel : decode cX8_stationIn 66 = .ok (.goto (-59), 3)) (by decide)) sb_nil)))))))))))))))))))))))))))))))))))))))
set_option maxRecDepth 100000 in
theorem sb_X8_stationIn_69 (l : Launch) : sm_SndB l RX8 "stationIn" cX8_stationIn 4 1 2 69 [oI 3, oIr] := sb_cons (sd_iload_n (by decide +kernel : decode cX8_stationIn 69 = .ok (.iload_n 3, 1)) rfl) (sb_cons (sd_ireturn (x := 0) rfl (by decide +kernel : decode cX8_stationIn 70 = .ok (.ireturn, 1))) sb_nil)
theorem sn_X8_stationIn (l : Launch) : sm_SndT l RX8 "stationIn" cX8_stationIn 4 1 2 tb_X8_stationIn := st_cons (sb_X8_stationIn_0 l) (st_cons (sb_X8_stationIn_7 l) (st_cons (sb_X8_stationIn_69 l) (st_nil)))
set_option maxRecDepth 100000 in
set_option maxHeartbeats 4000000 in
theorem ok_X8_stationIn : sm_Ok tb_X8_stationIn 4 0 0 p_X8_stationIn f_X8_stationIn := by
  intro as w hp ha hw
  match as, hp with
  | [.inr (.inl m), .inl x, .inl t], hp =>
  refine ⟨Nat.le_of_ble_eq_true rfl, fun Z hZ => ?_⟩
  obtain ⟨rfl, hO, h0, h1⟩ := hp
  have hT := hO.1
  have hm := vOK_many hO.2
  have hq := vOK_sh hO.2 h0 h1
  have hwp := mWay_pm (wI w 155) x
  have hl := sm_loopM (S := Nat × Int) Z 7 (fun s => s.1) (fun s => onWay (wI w 155) x s.2 ∧ (wI w 155 (17 + 5 * x) < wI w 155 (17 + 5 * x + 1) → wI w 155 (17 + 5 * x + 1) < s.2 + s.1) ∧ (wI w 155 (17 + 5 * x + 1) < wI w 155 (17 + 5 * x) → s.2 - s.1 < wI w 155 (17 + 5 * x + 1)) ∧ mStn s.1 w x t s.2 = mStat w x t) (fun s => [some (.inr (.inl 154)), some (.inl x), some (.inl t), some (.inl s.2)]) (fun _ => w) 0 0 (fun s hI ih => by
    obtain ⟨n, s⟩ := s
    dsimp only at hI ih ⊢
    obtain ⟨hs, hc1, hc2, he⟩ := hI
    unfold onWay at *
    cases n with
    | zero => exfalso; omega
    | succ n =>
      rw [mStn_s] at he
      have ih := fun hx0 : ¬ s = wI w 155 (17 + 5 * x + 1) => fun he9 => ih (n, s + mWay (wI w 155) x) ⟨by omega, by omega, by omega, he9⟩ (Nat.lt_succ_self n)
      by_cases c1 : s = wI w 155 (17 + 5 * x + 1)
      · rw [if_pos c1] at he
        refine hZ (fun u => Nat.beq u 7) 14 7 _ _ _ _ _ ?_
        simp only [sm_run, sm_blk, sm_get, sm_ent, sm_ents, sm_wds, sm_wd, sm_nl, sm_pop, sm_back, sm_cases, oK, oLK, oL, oI, oA, oJ, oIs, oAs, oJs, oInc, oAdd, oSub, oMul, oDiv, oRem, oNeg, oAnd, oAndB, oOr, oShl, oI2c, oI2l, oL2i, oLand, oLor, oLshl, oLshr, oLushr, oLcmp, oDup, oDup2, oPop, oGo, oFg, oEq, oNe, oLt, oGe, oGt, oLe, oEq0, oNe0, oLt0, oGe0, oGt0, oLe0, oSw, oGi, oGr, oPi, oPz, oPr, oLen, oIl, oZl, oCl, oRl, oIst, oZst, oCst, oRst, oCopy, oNew, oNa, oNa2, oObj, oCs, oCv, oCi, oIr, oZr, oVr, Nat.beq, List.getElem?_cons_zero, List.getElem?_cons_succ, List.set_cons_zero, List.set_cons_succ, List.length_cons, List.length_nil, List.nil_append, List.cons_append, List.append_nil, List.replicate_succ, List.replicate_zero, Nat.reduceAdd, Nat.reduceSub, Nat.reduceLT, Nat.reduceLeDiff, Nat.reduceBEq, true_and, and_true, Nat.zero_add, Nat.add_zero, Nat.le_refl, Option.some.injEq, exists_eq_left', true_or, or_true, or_false, false_or, reduceCtorEq, Prod.mk.injEq, Sum.inl.injEq, and_self, false_and, and_false, not_true_eq_false, not_false_eq_true, false_implies, true_implies, sm_r, Int.add_zero, Int.zero_add, wI_wsI, wS_wsI, wR_wsI, wI_wCp, wS_wCp, wR_wCp, Nat.reduceEqDiff, reduceIte, sT_iff, sT_iffC, wIf_ne, ne_eq, Bool.false_or, Bool.true_or, Bool.or_false, Bool.or_true, Bool.or_self, tb_X8_stationIn, p_X8_of, p_X8_way, f_X8_of, f_X8_way, p_X8_stationIn, f_X8_stationIn, sS_154 hT, sR_154_10 hT, sS_163 hT, hT]
        repeat' (first | exact True.intro | with_reducible assumption | with_reducible refine And.intro ?_ ?_ | intro _)
        all_goals first
          | omega
          | assumption
          | rfl
          | (split <;> omega)
          | (have k9 := ih (by omega)
             (repeat' split at k9) <;> first | exact k9 | omega)
          | (have k9 := ih2 (by omega)
             (repeat' split at k9) <;> first | exact k9 | omega)
          | exact he (by omega)
          | (congr 1; omega)
          | (rw [if_pos (by omega)] at he; exact he)
          | exact hD1 (by omega)
          | exact hD2 (by omega)
          | grind
          | skip
      · rw [if_neg c1] at he
        by_cases c2 : wI w 163 (8 * x + (s + mWay (wI w 155) x)) < 0
        · rw [if_pos c2] at he
          clear ih
          refine hZ (fun u => Nat.beq u 7) 14 7 _ _ _ _ _ ?_
          simp only [sm_run, sm_blk, sm_get, sm_ent, sm_ents, sm_wds, sm_wd, sm_nl, sm_pop, sm_back, sm_cases, oK, oLK, oL, oI, oA, oJ, oIs, oAs, oJs, oInc, oAdd, oSub, oMul, oDiv, oRem, oNeg, oAnd, oAndB, oOr, oShl, oI2c, oI2l, oL2i, oLand, oLor, oLshl, oLshr, oLushr, oLcmp, oDup, oDup2, oPop, oGo, oFg, oEq, oNe, oLt, oGe, oGt, oLe, oEq0, oNe0, oLt0, oGe0, oGt0, oLe0, oSw, oGi, oGr, oPi, oPz, oPr, oLen, oIl, oZl, oCl, oRl, oIst, oZst, oCst, oRst, oCopy, oNew, oNa, oNa2, oObj, oCs, oCv, oCi, oIr, oZr, oVr, Nat.beq, List.getElem?_cons_zero, List.getElem?_cons_succ, List.set_cons_zero, List.set_cons_succ, List.length_cons, List.length_nil, List.nil_append, List.cons_append, List.append_nil, List.replicate_succ, List.replicate_zero, Nat.reduceAdd, Nat.reduceSub, Nat.reduceLT, Nat.reduceLeDiff, Nat.reduceBEq, true_and, and_true, Nat.zero_add, Nat.add_zero, Nat.le_refl, Option.some.injEq, exists_eq_left', true_or, or_true, or_false, false_or, reduceCtorEq, Prod.mk.injEq, Sum.inl.injEq, and_self, false_and, and_false, not_true_eq_false, not_false_eq_true, false_implies, true_implies, sm_r, Int.add_zero, Int.zero_add, wI_wsI, wS_wsI, wR_wsI, wI_wCp, wS_wCp, wR_wCp, Nat.reduceEqDiff, reduceIte, sT_iff, sT_iffC, wIf_ne, ne_eq, Bool.false_or, Bool.true_or, Bool.or_false, Bool.or_true, Bool.or_self, tb_X8_stationIn, p_X8_of, p_X8_way, f_X8_of, f_X8_way, p_X8_stationIn, f_X8_stationIn, sS_154 hT, sR_154_10 hT, sS_163 hT, hT, Int.add_assoc]
          repeat' (first | exact True.intro | with_reducible assumption | with_reducible refine And.intro ?_ ?_ | intro _)
          all_goals first
            | omega
            | assumption
            | rfl
            | (split <;> omega)
            | (have k9 := ih (by omega)
               (repeat' split at k9) <;> first | exact k9 | omega)
            | (have k9 := ih2 (by omega)
               (repeat' split at k9) <;> first | exact k9 | omega)
            | exact he (by omega)
            | (congr 1; omega)
            | (rw [if_pos (by omega)] at he; exact he)
            | exact hD1 (by omega)
            | exact hD2 (by omega)
            | grind
            | skip
        · rw [if_neg c2] at he
          by_cases c3 : t < wI w 163 (8 * x + (s + mWay (wI w 155) x))
          · rw [if_pos c3] at he
            clear ih
            refine hZ (fun u => Nat.beq u 7) 14 7 _ _ _ _ _ ?_
            simp only [sm_run, sm_blk, sm_get, sm_ent, sm_ents, sm_wds, sm_wd, sm_nl, sm_pop, sm_back, sm_cases, oK, oLK, oL, oI, oA, oJ, oIs, oAs, oJs, oInc, oAdd, oSub, oMul, oDiv, oRem, oNeg, oAnd, oAndB, oOr, oShl, oI2c, oI2l, oL2i, oLand, oLor, oLshl, oLshr, oLushr, oLcmp, oDup, oDup2, oPop, oGo, oFg, oEq, oNe, oLt, oGe, oGt, oLe, oEq0, oNe0, oLt0, oGe0, oGt0, oLe0, oSw, oGi, oGr, oPi, oPz, oPr, oLen, oIl, oZl, oCl, oRl, oIst, oZst, oCst, oRst, oCopy, oNew, oNa, oNa2, oObj, oCs, oCv, oCi, oIr, oZr, oVr, Nat.beq, List.getElem?_cons_zero, List.getElem?_cons_succ, List.set_cons_zero, List.set_cons_succ, List.length_cons, List.length_nil, List.nil_append, List.cons_append, List.append_nil, List.replicate_succ, List.replicate_zero, Nat.reduceAdd, Nat.reduceSub, Nat.reduceLT, Nat.reduceLeDiff, Nat.reduceBEq, true_and, and_true, Nat.zero_add, Nat.add_zero, Nat.le_refl, Option.some.injEq, exists_eq_left', true_or, or_true, or_false, false_or, reduceCtorEq, Prod.mk.injEq, Sum.inl.injEq, and_self, false_and, and_false, not_true_eq_false, not_false_eq_true, false_implies, true_implies, sm_r, Int.add_zero, Int.zero_add, wI_wsI, wS_wsI, wR_wsI, wI_wCp, wS_wCp, wR_wCp, Nat.reduceEqDiff, reduceIte, sT_iff, sT_iffC, wIf_ne, ne_eq, Bool.false_or, Bool.true_or, Bool.or_false, Bool.or_true, Bool.or_self, tb_X8_stationIn, p_X8_of, p_X8_way, f_X8_of, f_X8_way, p_X8_stationIn, f_X8_stationIn, sS_154 hT, sR_154_10 hT, sS_163 hT, hT, Int.add_assoc]
            repeat' (first | exact True.intro | with_reducible assumption | with_reducible refine And.intro ?_ ?_ | intro _)
            all_goals first
              | omega
              | assumption
              | rfl
              | (split <;> omega)
              | (have k9 := ih (by omega)
                 (repeat' split at k9) <;> first | exact k9 | omega)
              | (have k9 := ih2 (by omega)
                 (repeat' split at k9) <;> first | exact k9 | omega)
              | exact he (by omega)
              | (congr 1; omega)
              | (rw [if_pos (by omega)] at he; exact he)
              | exact hD1 (by omega)
              | exact hD2 (by omega)
              | grind
              | skip
          · rw [if_neg c3] at he
            have ih := ih c1 he
            refine hZ (fun u => Nat.beq u 7) 14 7 _ _ _ _ _ ?_
            simp only [sm_run, sm_blk, sm_get, sm_ent, sm_ents, sm_wds, sm_wd, sm_nl, sm_pop, sm_back, sm_cases, oK, oLK, oL, oI, oA, oJ, oIs, oAs, oJs, oInc, oAdd, oSub, oMul, oDiv, oRem, oNeg, oAnd, oAndB, oOr, oShl, oI2c, oI2l, oL2i, oLand, oLor, oLshl, oLshr, oLushr, oLcmp, oDup, oDup2, oPop, oGo, oFg, oEq, oNe, oLt, oGe, oGt, oLe, oEq0, oNe0, oLt0, oGe0, oGt0, oLe0, oSw, oGi, oGr, oPi, oPz, oPr, oLen, oIl, oZl, oCl, oRl, oIst, oZst, oCst, oRst, oCopy, oNew, oNa, oNa2, oObj, oCs, oCv, oCi, oIr, oZr, oVr, Nat.beq, List.getElem?_cons_zero, List.getElem?_cons_succ, List.set_cons_zero, List.set_cons_succ, List.length_cons, List.length_nil, List.nil_append, List.cons_append, List.append_nil, List.replicate_succ, List.replicate_zero, Nat.reduceAdd, Nat.reduceSub, Nat.reduceLT, Nat.reduceLeDiff, Nat.reduceBEq, true_and, and_true, Nat.zero_add, Nat.add_zero, Nat.le_refl, Option.some.injEq, exists_eq_left', true_or, or_true, or_false, false_or, reduceCtorEq, Prod.mk.injEq, Sum.inl.injEq, and_self, false_and, and_false, not_true_eq_false, not_false_eq_true, false_implies, true_implies, sm_r, Int.add_zero, Int.zero_add, wI_wsI, wS_wsI, wR_wsI, wI_wCp, wS_wCp, wR_wCp, Nat.reduceEqDiff, reduceIte, sT_iff, sT_iffC, wIf_ne, ne_eq, Bool.false_or, Bool.true_or, Bool.or_false, Bool.or_true, Bool.or_self, tb_X8_stationIn, p_X8_of, p_X8_way, f_X8_of, f_X8_way, p_X8_stationIn, f_X8_stationIn, sS_154 hT, sR_154_10 hT, sS_163 hT, hT, Int.add_assoc]
            repeat' (first | exact True.intro | with_reducible assumption | with_reducible refine And.intro ?_ ?_ | intro _)
            all_goals first
              | omega
              | assumption
              | rfl
              | (split <;> omega)
              | (have k9 := ih (by omega)
                 (repeat' split at k9) <;> first | exact k9 | omega)
              | (have k9 := ih2 (by omega)
                 (repeat' split at k9) <;> first | exact k9 | omega)
              | exact he (by omega)
              | (congr 1; omega)
              | (rw [if_pos (by omega)] at he; exact he)
              | exact hD1 (by omega)
              | exact hD2 (by omega)
              | grind
              | skip
    )
  have h9 := hl (8, wI w 155 (17 + 5 * x)) ⟨by unfold onWay; omega, by dsimp only; omega, by dsimp only; omega, rfl⟩
  refine hZ (fun u => Nat.beq u 7) 14 0 _ _ _ _ _ ?_
  simp only [sm_run, sm_blk, sm_get, sm_ent, sm_ents, sm_wds, sm_wd, sm_nl, sm_pop, sm_back, sm_cases, oK, oLK, oL, oI, oA, oJ, oIs, oAs, oJs, oInc, oAdd, oSub, oMul, oDiv, oRem, oNeg, oAnd, oAndB, oOr, oShl, oI2c, oI2l, oL2i, oLand, oLor, oLshl, oLshr, oLushr, oLcmp, oDup, oDup2, oPop, oGo, oFg, oEq, oNe, oLt, oGe, oGt, oLe, oEq0, oNe0, oLt0, oGe0, oGt0, oLe0, oSw, oGi, oGr, oPi, oPz, oPr, oLen, oIl, oZl, oCl, oRl, oIst, oZst, oCst, oRst, oCopy, oNew, oNa, oNa2, oObj, oCs, oCv, oCi, oIr, oZr, oVr, Nat.beq, List.getElem?_cons_zero, List.getElem?_cons_succ, List.set_cons_zero, List.set_cons_succ, List.length_cons, List.length_nil, List.nil_append, List.cons_append, List.append_nil, List.replicate_succ, List.replicate_zero, Nat.reduceAdd, Nat.reduceSub, Nat.reduceLT, Nat.reduceLeDiff, Nat.reduceBEq, true_and, and_true, Nat.zero_add, Nat.add_zero, Nat.le_refl, Option.some.injEq, exists_eq_left', true_or, or_true, or_false, false_or, reduceCtorEq, Prod.mk.injEq, Sum.inl.injEq, and_self, false_and, and_false, not_true_eq_false, not_false_eq_true, false_implies, true_implies, sm_r, Int.add_zero, Int.zero_add, wI_wsI, wS_wsI, wR_wsI, wI_wCp, wS_wCp, wR_wCp, Nat.reduceEqDiff, reduceIte, sT_iff, sT_iffC, wIf_ne, ne_eq, Bool.false_or, Bool.true_or, Bool.or_false, Bool.or_true, Bool.or_self, tb_X8_stationIn, p_X8_of, p_X8_way, f_X8_of, f_X8_way, p_X8_stationIn, f_X8_stationIn, sS_154 hT, hT]
  repeat' (first | exact True.intro | with_reducible assumption | with_reducible refine And.intro ?_ ?_ | intro _)
  all_goals first
    | omega
    | assumption
    | rfl
    | (split <;> omega)
    | (have k9 := ih (by omega)
       (repeat' split at k9) <;> first | exact k9 | omega)
    | (have k9 := ih2 (by omega)
       (repeat' split at k9) <;> first | exact k9 | omega)
    | exact he (by omega)
    | (congr 1; omega)
    | (rw [if_pos (by omega)] at he; exact he)
    | exact hD1 (by omega)
    | exact hD2 (by omega)
    | skip
theorem met_X8_stationIn (l : Launch) : sm_Met l yX8_stationIn cX8_stationIn 4 (some .int) 2 0 0 p_X8_stationIn f_X8_stationIn := sm_met 1 (Or.inr (Or.inl ⟨rfl, rfl⟩)) (by decide +kernel) (sn_X8_stationIn l) ok_X8_stationIn
def mPlace (w : sm_W) (x t : Int) : Int := if mLeftB w x (mStat w x t) t = 0 then 2 * mStat w x t else 2 * sFrom (mStat w x t) (mWay (wI w 155) x) + 1
def p_X8_placeIn : List sm_V → sm_W → Prop
  | [.inr (.inl m), .inl x, .inl t], w => m = 154 ∧ mOK w ∧ 0 ≤ x ∧ x < wI w 155 1
  | _, _ => False
def f_X8_placeIn : sm_F
  | [.inr (.inl m), .inl x, .inl t], w => (some (.inl (mPlace w x t)), w)
  | _, w => (none, w)
def tb_X8_placeIn : List (Nat × List sm_O) := [(0, [oA 0, oI 1, oI 2, oCv 8 30 p_X8_stationIn f_X8_stationIn 0 0 3, oIs 3, oA 0, oI 1, oI 3, oI 2, oCv 8 30 p_X8_hasLeft f_X8_hasLeft 0 0 4, oEq0 33, oK 2, oI 3, oA 0, oI 1, oCv 8 30 p_X8_way f_X8_way 0 0 2, oCs p_X8_stretchFrom f_X8_stretchFrom 0 0 2, oMul, oK 1, oAdd, oGo 36]),
  (33, [oK 2, oI 3, oMul, oGo 36]),
  (36, [oIr])]
set_option maxRecDepth 100000 in
theorem sb_X8_placeIn_0 (l : Launch) : sm_SndB l RX8 "placeIn" cX8_placeIn 4 1 3 0 [oA 0, oI 1, oI 2, oCv 8 30 p_X8_stationIn f_X8_stationIn 0 0 3, oIs 3, oA 0, oI 1, oI 3, oI 2, oCv 8 30 p_X8_hasLeft f_X8_hasLeft 0 0 4, oEq0 33, oK 2, oI 3, oA 0, oI 1, oCv 8 30 p_X8_way f_X8_way 0 0 2, oCs p_X8_stretchFrom f_X8_stretchFrom 0 0 2, oMul, oK 1, oAdd, oGo 36] := sb_cons (sd_aload_n (by decide +kernel : decode cX8_placeIn 0 = .ok (.aload_n 0, 1)) rfl) (sb_cons (sd_iload_n (by decide +kernel : decode cX8_placeIn 1 = .ok (.iload_n 1, 1)) rfl) (sb_cons (sd_iload_n (by decide +kernel : decode cX8_placeIn 2 = .ok (.iload_n 2, 1)) rfl) (sb_cons (sd_callv (n := 2) (met_X8_stationIn l) (by decide) (by decide) wm_932 wm_930 wm_10 ⟨by decide +kernel, by decide +kernel, by decide +kernel⟩ kl_8 wm_931 wm_1143 (by decide +kernel : decode cX8_placeIn 3 = .ok (.invokevirtual 232, 3))) (sb_cons (sd_istore_n (by decide +kernel : decode cX8_placeIn 6 = .ok (.istore_n 3, 1)) rfl) (sb_cons (sd_aload_n (by decide +kernel : decode cX8_placeIn 7 = .ok (.aload_n 0, 1)) rfl) (sb_cons (sd_iload_n (by decide +kernel : decode cX8_placeIn 8 = .ok (.iload_n 1, 1)) rfl) (sb_cons (sd_iload_n (by decide +kernel : decode cX8_placeIn 9 = .ok (.iload_n 3, 1)) rfl) (sb_cons (sd_iload_n (by decide +kernel : decode cX8_placeIn 10 = .ok (.iload_n 2, 1)) rfl) (sb_cons (sd_callv (n := 3) (met_X8_hasLeft l) (by decide) (by decide) wm_936 wm_934 wm_10 ⟨by decide +kernel, by decide +kernel, by decide +kernel⟩ kl_8 wm_935 wm_1144 (by decide +kernel : decode cX8_placeIn 11 = .ok (.invokevirtual 235, 3))) (sb_cons (sd_eq0 (by decide +kernel : decode cX8_placeIn 14 = .ok (.ifCond .eq 19, 3)) (by decide)) (sb_cons (sd_iconst (by decide +kernel : decode cX8_placeIn 17 = .ok (.iconst 2, 1)) ⟨by decide, by decide⟩) (sb_cons (sd_iload_n (by decide +kernel : decode cX8_placeIn 18 = .ok (.iload_n 3, 1)) rfl) (sb_cons (sd_aload_n (by decide +kernel : decode cX8_placeIn 19 = .ok (.aload_n 0, 1)) rfl) (sb_cons (sd_iload_n (by decide +kernel : decode cX8_placeIn 20 = .ok (.iload_n 1, 1)) rfl) (sb_cons (sd_callv (n := 1) (met_X8_way l) (by decide) (by decide) wm_821 wm_819 wm_10 ⟨by decide +kernel, by decide +kernel, by decide +kernel⟩ kl_8 wm_820 wm_1120 (by decide +kernel : decode cX8_placeIn 21 = .ok (.invokevirtual 95, 3))) (sb_cons (sd_calls (n := 2) (met_X8_stretchFrom l) (by decide) (by decide) wm_849 wm_847 wm_10 ⟨by decide +kernel, by decide +kernel, by decide +kernel⟩ wm_848 (by decide +kernel : decode cX8_placeIn 24 = .ok (.invokestatic 106, 3))) (sb_cons (sd_imul (by decide +kernel : decode cX8_placeIn 27 = .ok (.imul, 1))) (sb_cons (sd_iconst (by decide +kernel : decode cX8_placeIn 28 = .ok (.iconst 1, 1)) ⟨by decide, by decide⟩) (sb_cons (sd_iadd (by decide +kernel : decode cX8_placeIn 29 = .ok (.iadd, 1))) (sb_cons (sd_goto (x := 0) (by decide +kernel : decode cX8_placeIn 30 = .ok (.goto 6, 3)) (by decide)) sb_nil))))))))))))))))))))
set_option maxRecDepth 100000 in
theorem sb_X8_placeIn_33 (l : Launch) : sm_SndB l RX8 "placeIn" cX8_placeIn 4 1 3 33 [oK 2, oI 3, oMul, oGo 36] := sb_cons (sd_iconst (by decide +kernel : decode cX8_placeIn 33 = .ok (.iconst 2, 1)) ⟨by decide, by decide⟩) (sb_cons (sd_iload_n (by decide +kernel : decode cX8_placeIn 34 = .ok (.iload_n 3, 1)) rfl) (sb_cons (sd_imul (by decide +kernel : decode cX8_placeIn 35 = .ok (.imul, 1))) (sb_cons (sd_fall (x := 0)) sb_nil)))
set_option maxRecDepth 100000 in
theorem sb_X8_placeIn_36 (l : Launch) : sm_SndB l RX8 "placeIn" cX8_placeIn 4 1 3 36 [oIr] := sb_cons (sd_ireturn (x := 0) rfl (by decide +kernel : decode cX8_placeIn 36 = .ok (.ireturn, 1))) sb_nil
theorem sn_X8_placeIn (l : Launch) : sm_SndT l RX8 "placeIn" cX8_placeIn 4 1 3 tb_X8_placeIn := st_cons (sb_X8_placeIn_0 l) (st_cons (sb_X8_placeIn_33 l) (st_cons (sb_X8_placeIn_36 l) (st_nil)))
set_option maxRecDepth 100000 in
set_option maxHeartbeats 4000000 in
theorem ok_X8_placeIn : sm_Ok tb_X8_placeIn 4 0 0 p_X8_placeIn f_X8_placeIn := by
  intro as w hp ha hw
  match as, hp with
  | [.inr (.inl m), .inl x, .inl t], hp =>
  refine ⟨Nat.le_of_ble_eq_true rfl, fun Z hZ => ?_⟩
  obtain ⟨rfl, hO, h0, h1⟩ := hp
  have hT := hO.1
  have hm := vOK_many hO.2
  have hq := vOK_sh hO.2 h0 h1
  have hon := mStat_on (t := t) hO h0 h1
  unfold onWay at hon
  have hsf : sFrom (mStat w x t) (mWay (wI w 155) x) = mStat w x t ∨ sFrom (mStat w x t) (mWay (wI w 155) x) = mStat w x t - 1 := by
    unfold sFrom
    split
    · exact Or.inl rfl
    · exact Or.inr rfl
  refine hZ (fun _ => false) 16 0 _ _ _ _ _ ?_
  simp only [sm_run, sm_blk, sm_get, sm_ent, sm_ents, sm_wds, sm_wd, sm_nl, sm_pop, sm_back, sm_cases, oK, oLK, oL, oI, oA, oJ, oIs, oAs, oJs, oInc, oAdd, oSub, oMul, oDiv, oRem, oNeg, oAnd, oAndB, oOr, oShl, oI2c, oI2l, oL2i, oLand, oLor, oLshl, oLshr, oLushr, oLcmp, oDup, oDup2, oPop, oGo, oFg, oEq, oNe, oLt, oGe, oGt, oLe, oEq0, oNe0, oLt0, oGe0, oGt0, oLe0, oSw, oGi, oGr, oPi, oPz, oPr, oLen, oIl, oZl, oCl, oRl, oIst, oZst, oCst, oRst, oCopy, oNew, oNa, oNa2, oObj, oCs, oCv, oCi, oIr, oZr, oVr, Nat.beq, List.getElem?_cons_zero, List.getElem?_cons_succ, List.set_cons_zero, List.set_cons_succ, List.length_cons, List.length_nil, List.nil_append, List.cons_append, List.append_nil, List.replicate_succ, List.replicate_zero, Nat.reduceAdd, Nat.reduceSub, Nat.reduceLT, Nat.reduceLeDiff, Nat.reduceBEq, true_and, and_true, Nat.zero_add, Nat.add_zero, Nat.le_refl, Option.some.injEq, exists_eq_left', true_or, or_true, or_false, false_or, reduceCtorEq, Prod.mk.injEq, Sum.inl.injEq, and_self, false_and, and_false, not_true_eq_false, not_false_eq_true, false_implies, true_implies, sm_r, Int.add_zero, Int.zero_add, wI_wsI, wS_wsI, wR_wsI, wI_wCp, wS_wCp, wR_wCp, Nat.reduceEqDiff, reduceIte, sT_iff, sT_iffC, wIf_ne, ne_eq, Bool.false_or, Bool.true_or, Bool.or_false, Bool.or_true, Bool.or_self, tb_X8_placeIn, p_X8_hasLeft, p_X8_stationIn, p_X8_stretchFrom, p_X8_way, f_X8_hasLeft, f_X8_stationIn, f_X8_stretchFrom, f_X8_way, p_X8_placeIn, f_X8_placeIn, sS_154 hT, hT, hO]
  repeat' (first | exact True.intro | with_reducible assumption | with_reducible refine And.intro ?_ ?_ | intro _)
  all_goals first
    | omega
    | assumption
    | rfl
    | (split <;> omega)
    | grind [mPlace]
    | skip
theorem met_X8_placeIn (l : Launch) : sm_Met l yX8_placeIn cX8_placeIn 4 (some .int) 3 0 0 p_X8_placeIn f_X8_placeIn := sm_met 1 (Or.inr (Or.inl ⟨rfl, rfl⟩)) (by decide +kernel) (sn_X8_placeIn l) ok_X8_placeIn
def mRi1 (w : sm_W) (x t y r : Int) : Int := if mPlace w y t = 2 * sFrom (mStat w x t) (mWay (wI w 155) x) + 1 then (if mWay (wI w 155) y = mWay (wI w 155) x then 2 else 1) else r
def mRi (w : sm_W) (x t : Int) : Int → Int := itI (mRi1 w x t) 3
def mReasonIn (w : sm_W) (x t : Int) : Int := if mStat w x t = wI w 155 (17 + 5 * x + 1) then 0 else (if wI w 164 (8 * x + mStat w x t) < 0 then 0 else (if t < wI w 164 (8 * x + mStat w x t) then 0 else (if mLeftB w x (mStat w x t) t = 0 then mRi w x t (wI w 155 1) else 0)))
def p_X8_reasonIn : List sm_V → sm_W → Prop
  | [.inr (.inl m), .inl x, .inl t], w => m = 154 ∧ mOK w ∧ 0 ≤ x ∧ x < wI w 155 1
  | _, _ => False
def f_X8_reasonIn : sm_F
  | [.inr (.inl m), .inl x, .inl t], w => (some (.inl (mReasonIn w x t)), w)
  | _, w => (none, w)
def tb_X8_reasonIn : List (Nat × List sm_O) := [(0, [oA 0, oI 1, oI 2, oCv 8 30 p_X8_stationIn f_X8_stationIn 0 0 3, oIs 3, oA 0, oGr 8 30 11, oK 8, oI 1, oMul, oI 3, oAdd, oIl, oIs 4, oI 3, oA 0, oI 1, oK 1, oCv 8 30 p_X8_of f_X8_of 0 0 3, oEq 51, oI 4, oLt0 51, oI 2, oI 4, oLt 51, oA 0, oI 1, oI 3, oI 2, oCv 8 30 p_X8_hasLeft f_X8_hasLeft 0 0 4, oEq0 53, oGo 51]),
  (51, [oK 0, oIr]),
  (53, [oK 3, oIs 5, oK 0, oIs 6, oFg 4, oGo 59]),
  (59, [oI 6, oA 0, oGr 8 30 0, oK 1, oIl, oGe 120, oA 0, oI 6, oI 2, oCv 8 30 p_X8_placeIn f_X8_placeIn 0 0 3, oK 2, oI 3, oA 0, oI 1, oCv 8 30 p_X8_way f_X8_way 0 0 2, oCs p_X8_stretchFrom f_X8_stretchFrom 0 0 2, oMul, oK 1, oAdd, oNe 114, oA 0, oI 6, oCv 8 30 p_X8_way f_X8_way 0 0 2, oA 0, oI 1, oCv 8 30 p_X8_way f_X8_way 0 0 2, oNe 111, oK 2, oGo 112]),
  (111, [oK 1, oGo 112]),
  (112, [oIs 5, oGo 114]),
  (114, [oInc 6 1, oFg 4, oGo 59]),
  (120, [oI 5, oIr])]
set_option maxRecDepth 100000 in
theorem sb_X8_reasonIn_0 (l : Launch) : sm_SndB l RX8 "reasonIn" cX8_reasonIn 7 1 4 0 [oA 0, oI 1, oI 2, oCv 8 30 p_X8_stationIn f_X8_stationIn 0 0 3, oIs 3, oA 0, oGr 8 30 11, oK 8, oI 1, oMul, oI 3, oAdd, oIl, oIs 4, oI 3, oA 0, oI 1, oK 1, oCv 8 30 p_X8_of f_X8_of 0 0 3, oEq 51, oI 4, oLt0 51, oI 2, oI 4, oLt 51, oA 0, oI 1, oI 3, oI 2, oCv 8 30 p_X8_hasLeft f_X8_hasLeft 0 0 4, oEq0 53, oGo 51] := sb_cons (sd_aload_n (by decide +kernel : decode cX8_reasonIn 0 = .ok (.aload_n 0, 1)) rfl) (sb_cons (sd_iload_n (by decide +kernel : decode cX8_reasonIn 1 = .ok (.iload_n 1, 1)) rfl) (sb_cons (sd_iload_n (by decide +kernel : decode cX8_reasonIn 2 = .ok (.iload_n 2, 1)) rfl) (sb_cons (sd_callv (n := 2) (met_X8_stationIn l) (by decide) (by decide) wm_932 wm_930 wm_10 ⟨by decide +kernel, by decide +kernel, by decide +kernel⟩ kl_8 wm_931 wm_1143 (by decide +kernel : decode cX8_reasonIn 3 = .ok (.invokevirtual 232, 3))) (sb_cons (sd_istore_n (by decide +kernel : decode cX8_reasonIn 6 = .ok (.istore_n 3, 1)) rfl) (sb_cons (sd_aload_n (by decide +kernel : decode cX8_reasonIn 7 = .ok (.aload_n 0, 1)) rfl) (sb_cons (sd_getr (k := 11) kl_8 (by decide) rfl wm_684 (by decide +kernel : decode cX8_reasonIn 8 = .ok (.getfield 38, 3))) (sb_cons (sd_bipush (by decide +kernel : decode cX8_reasonIn 11 = .ok (.bipush 8, 2)) ⟨by decide, by decide⟩ (by decide)) (sb_cons (sd_iload_n (by decide +kernel : decode cX8_reasonIn 13 = .ok (.iload_n 1, 1)) rfl) (sb_cons (sd_imul (by decide +kernel : decode cX8_reasonIn 14 = .ok (.imul, 1))) (sb_cons (sd_iload_n (by decide +kernel : decode cX8_reasonIn 15 = .ok (.iload_n 3, 1)) rfl) (sb_cons (sd_iadd (by decide +kernel : decode cX8_reasonIn 16 = .ok (.iadd, 1))) (sb_cons (sd_iaload (by decide +kernel : decode cX8_reasonIn 17 = .ok (.iaload, 1))) (sb_cons (sd_istore (by decide +kernel : decode cX8_reasonIn 18 = .ok (.istore 4, 2))) (sb_cons (sd_iload_n (by decide +kernel : decode cX8_reasonIn 20 = .ok (.iload_n 3, 1)) rfl) (sb_cons (sd_aload_n (by decide +kernel : decode cX8_reasonIn 21 = .ok (.aload_n 0, 1)) rfl) (sb_cons (sd_iload_n (by decide +kernel : decode cX8_reasonIn 22 = .ok (.iload_n 1, 1)) rfl) (sb_cons (sd_iconst (by decide +kernel : decode cX8_reasonIn 23 = .ok (.iconst 1, 1)) ⟨by decide, by decide⟩) (sb_cons (sd_callv (n := 2) (met_X8_of l) (by decide) (by decide) wm_778 wm_776 wm_10 ⟨by decide +kernel, by decide +kernel, by decide +kernel⟩ kl_8 wm_777 wm_1113 (by decide +kernel : decode cX8_reasonIn 24 = .ok (.invokevirtual 78, 3))) (sb_cons (sd_eq (by decide +kernel : decode cX8_reasonIn 27 = .ok (.if_icmp .eq 24, 3)) (by decide)) (sb_cons (sd_iload (by decide +kernel : decode cX8_reasonIn 30 = .ok (.iload 4, 2))) (sb_cons (sd_lt0 (by decide +kernel : decode cX8_reasonIn 32 = .ok (.ifCond .lt 19, 3)) (by decide)) (sb_cons (sd_iload_n (by decide +kernel : decode cX8_reasonIn 35 = .ok (.iload_n 2, 1)) rfl) (sb_cons (sd_iload (by decide +kernel : decode cX8_reasonIn 36 = .ok (.iload 4, 2))) (sb_cons (sd_lt (by decide +kernel : decode cX8_reasonIn 38 = .ok (.if_icmp .lt 13, 3)) (by decide)) (sb_cons (sd_aload_n (by decide +kernel : decode cX8_reasonIn 41 = .ok (.aload_n 0, 1)) rfl) (sb_cons (sd_iload_n (by decide +kernel : decode cX8_reasonIn 42 = .ok (.iload_n 1, 1)) rfl) (sb_cons (sd_iload_n (by decide +kernel : decode cX8_reasonIn 43 = .ok (.iload_n 3, 1)) rfl) (sb_cons (sd_iload_n (by decide +kernel : decode cX8_reasonIn 44 = .ok (.iload_n 2, 1)) rfl) (sb_cons (sd_callv (n := 3) (met_X8_hasLeft l) (by decide) (by decide) wm_936 wm_934 wm_10 ⟨by decide +kernel, by decide +kernel, by decide +kernel⟩ kl_8 wm_935 wm_1144 (by decide +kernel : decode cX8_reasonIn 45 = .ok (.invokevirtual 235, 3))) (sb_cons (sd_eq0 (by decide +kernel : decode cX8_reasonIn 48 = .ok (.ifCond .eq 5, 3)) (by decide)) (sb_cons (sd_fall (x := 0)) sb_nil)))))))))))))))))))))))))))))))
set_option maxRecDepth 100000 in
theorem sb_X8_reasonIn_51 (l : Launch) : sm_SndB l RX8 "reasonIn" cX8_reasonIn 7 1 4 51 [oK 0, oIr] := sb_cons (sd_iconst (by decide +kernel : decode cX8_reasonIn 51 = .ok (.iconst 0, 1)) ⟨by decide, by decide⟩) (sb_cons (sd_ireturn (x := 0) rfl (by decide +kernel : decode cX8_reasonIn 52 = .ok (.ireturn, 1))) sb_nil)
set_option maxRecDepth 100000 in
theorem sb_X8_reasonIn_53 (l : Launch) : sm_SndB l RX8 "reasonIn" cX8_reasonIn 7 1 4 53 [oK 3, oIs 5, oK 0, oIs 6, oFg 4, oGo 59] := sb_cons (sd_iconst (by decide +kernel : decode cX8_reasonIn 53 = .ok (.iconst 3, 1)) ⟨by decide, by decide⟩) (sb_cons (sd_istore (by decide +kernel : decode cX8_reasonIn 54 = .ok (.istore 5, 2))) (sb_cons (sd_iconst (by decide +kernel : decode cX8_reasonIn 56 = .ok (.iconst 0, 1)) ⟨by decide, by decide⟩) (sb_cons (sd_istore (by decide +kernel : decode cX8_reasonIn 57 = .ok (.istore 6, 2))) (sb_cons (sd_fg) (sb_cons (sd_fall (x := 0)) sb_nil)))))
set_option maxRecDepth 100000 in
theorem sb_X8_reasonIn_59 (l : Launch) : sm_SndB l RX8 "reasonIn" cX8_reasonIn 7 1 4 59 [oI 6, oA 0, oGr 8 30 0, oK 1, oIl, oGe 120, oA 0, oI 6, oI 2, oCv 8 30 p_X8_placeIn f_X8_placeIn 0 0 3, oK 2, oI 3, oA 0, oI 1, oCv 8 30 p_X8_way f_X8_way 0 0 2, oCs p_X8_stretchFrom f_X8_stretchFrom 0 0 2, oMul, oK 1, oAdd, oNe 114, oA 0, oI 6, oCv 8 30 p_X8_way f_X8_way 0 0 2, oA 0, oI 1, oCv 8 30 p_X8_way f_X8_way 0 0 2, oNe 111, oK 2, oGo 112] := sb_cons (sd_iload (by decide +kernel : decode cX8_reasonIn 59 = .ok (.iload 6, 2))) (sb_cons (sd_aload_n (by decide +kernel : decode cX8_reasonIn 61 = .ok (.aload_n 0, 1)) rfl) (sb_cons (sd_getr (k := 0) kl_8 (by decide) rfl wm_673 (by decide +kernel : decode cX8_reasonIn 62 = .ok (.getfield 7, 3))) (sb_cons (sd_iconst (by decide +kernel : decode cX8_reasonIn 65 = .ok (.iconst 1, 1)) ⟨by decide, by decide⟩) (sb_cons (sd_iaload (by decide +kernel : decode cX8_reasonIn 66 = .ok (.iaload, 1))) (sb_cons (sd_ge (by decide +kernel : decode cX8_reasonIn 67 = .ok (.if_icmp .ge 53, 3)) (by decide)) (sb_cons (sd_aload_n (by decide +kernel : decode cX8_reasonIn 70 = .ok (.aload_n 0, 1)) rfl) (sb_cons (sd_iload (by decide +kernel : decode cX8_reasonIn 71 = .ok (.iload 6, 2))) (sb_cons (sd_iload_n (by decide +kernel : decode cX8_reasonIn 73 = .ok (.iload_n 2, 1)) rfl) (sb_cons (sd_callv (n := 2) (met_X8_placeIn l) (by decide) (by decide) wm_928 wm_926 wm_10 ⟨by decide +kernel, by decide +kernel, by decide +kernel⟩ kl_8 wm_927 wm_1142 (by decide +kernel : decode cX8_reasonIn 74 = .ok (.invokevirtual 238, 3))) (sb_cons (sd_iconst (by decide +kernel : decode cX8_reasonIn 77 = .ok (.iconst 2, 1)) ⟨by decide, by decide⟩) (sb_cons (sd_iload_n (by decide +kernel : decode cX8_reasonIn 78 = .ok (.iload_n 3, 1)) rfl) (sb_cons (sd_aload_n (by decide +kernel : decode cX8_reasonIn 79 = .ok (.aload_n 0, 1)) rfl) (sb_cons (sd_iload_n (by decide +kernel : decode cX8_reasonIn 80 = .ok (.iload_n 1, 1)) rfl) (sb_cons (sd_callv (n := 1) (met_X8_way l) (by decide) (by decide) wm_821 wm_819 wm_10 ⟨by decide +kernel, by decide +kernel, by decide +kernel⟩ kl_8 wm_820 wm_1120 (by decide +kernel : decode cX8_reasonIn 81 = .ok (.invokevirtual 95, 3))) (sb_cons (sd_calls (n := 2) (met_X8_stretchFrom l) (by decide) (by decide) wm_849 wm_847 wm_10 ⟨by decide +kernel, by decide +kernel, by decide +kernel⟩ wm_848 (by decide +kernel : decode cX8_reasonIn 84 = .ok (.invokestatic 106, 3))) (sb_cons (sd_imul (by decide +kernel : decode cX8_reasonIn 87 = .ok (.imul, 1))) (sb_cons (sd_iconst (by decide +kernel : decode cX8_reasonIn 88 = .ok (.iconst 1, 1)) ⟨by decide, by decide⟩) (sb_cons (sd_iadd (by decide +kernel : decode cX8_reasonIn 89 = .ok (.iadd, 1))) (sb_cons (sd_ne (by decide +kernel : decode cX8_reasonIn 90 = .ok (.if_icmp .ne 24, 3)) (by decide)) (sb_cons (sd_aload_n (by decide +kernel : decode cX8_reasonIn 93 = .ok (.aload_n 0, 1)) rfl) (sb_cons (sd_iload (by decide +kernel : decode cX8_reasonIn 94 = .ok (.iload 6, 2))) (sb_cons (sd_callv (n := 1) (met_X8_way l) (by decide) (by decide) wm_821 wm_819 wm_10 ⟨by decide +kernel, by decide +kernel, by decide +kernel⟩ kl_8 wm_820 wm_1120 (by decide +kernel : decode cX8_reasonIn 96 = .ok (.invokevirtual 95, 3))) (sb_cons (sd_aload_n (by decide +kernel : decode cX8_reasonIn 99 = .ok (.aload_n 0, 1)) rfl) (sb_cons (sd_iload_n (by decide +kernel : decode cX8_reasonIn 100 = .ok (.iload_n 1, 1)) rfl) (sb_cons (sd_callv (n := 1) (met_X8_way l) (by decide) (by decide) wm_821 wm_819 wm_10 ⟨by decide +kernel, by decide +kernel, by decide +kernel⟩ kl_8 wm_820 wm_1120 (by decide +kernel : decode cX8_reasonIn 101 = .ok (.invokevirtual 95, 3))) (sb_cons (sd_ne (by decide +kernel : decode cX8_reasonIn 104 = .ok (.if_icmp .ne 7, 3)) (by decide)) (sb_cons (sd_iconst (by decide +kernel : decode cX8_reasonIn 107 = .ok (.iconst 2, 1)) ⟨by decide, by decide⟩) (sb_cons (sd_goto (x := 0) (by decide +kernel : decode cX8_reasonIn 108 = .ok (.goto 4, 3)) (by decide)) sb_nil))))))))))))))))))))))))))))
set_option maxRecDepth 100000 in
theorem sb_X8_reasonIn_111 (l : Launch) : sm_SndB l RX8 "reasonIn" cX8_reasonIn 7 1 4 111 [oK 1, oGo 112] := sb_cons (sd_iconst (by decide +kernel : decode cX8_reasonIn 111 = .ok (.iconst 1, 1)) ⟨by decide, by decide⟩) (sb_cons (sd_fall (x := 0)) sb_nil)
set_option maxRecDepth 100000 in
theorem sb_X8_reasonIn_112 (l : Launch) : sm_SndB l RX8 "reasonIn" cX8_reasonIn 7 1 4 112 [oIs 5, oGo 114] := sb_cons (sd_istore (by decide +kernel : decode cX8_reasonIn 112 = .ok (.istore 5, 2))) (sb_cons (sd_fall (x := 0)) sb_nil)
set_option maxRecDepth 100000 in
theorem sb_X8_reasonIn_114 (l : Launch) : sm_SndB l RX8 "reasonIn" cX8_reasonIn 7 1 4 114 [oInc 6 1, oFg 4, oGo 59] := sb_cons (sd_iinc (by decide +kernel : decode cX8_reasonIn 114 = .ok (.iinc 6 1, 3))) (sb_cons (sd_fg) (sb_cons (sd_goto (x := 0) (by decide +kernel : decode cX8_reasonIn 117 = .ok (.goto (-58), 3)) (by decide)) sb_nil))
set_option maxRecDepth 100000 in
theorem sb_X8_reasonIn_120 (l : Launch) : sm_SndB l RX8 "reasonIn" cX8_reasonIn 7 1 4 120 [oI 5, oIr] := sb_cons (sd_iload (by decide +kernel : decode cX8_reasonIn 120 = .ok (.iload 5, 2))) (sb_cons (sd_ireturn (x := 0) rfl (by decide +kernel : decode cX8_reasonIn 122 = .ok (.ireturn, 1))) sb_nil)
theorem sn_X8_reasonIn (l : Launch) : sm_SndT l RX8 "reasonIn" cX8_reasonIn 7 1 4 tb_X8_reasonIn := st_cons (sb_X8_reasonIn_0 l) (st_cons (sb_X8_reasonIn_51 l) (st_cons (sb_X8_reasonIn_53 l) (st_cons (sb_X8_reasonIn_59 l) (st_cons (sb_X8_reasonIn_111 l) (st_cons (sb_X8_reasonIn_112 l) (st_cons (sb_X8_reasonIn_114 l) (st_cons (sb_X8_reasonIn_120 l) (st_nil))))))))
set_option maxRecDepth 100000 in
set_option maxHeartbeats 4000000 in
theorem ok_X8_reasonIn : sm_Ok tb_X8_reasonIn 7 0 0 p_X8_reasonIn f_X8_reasonIn := by
  intro as w hp ha hw
  match as, hp with
  | [.inr (.inl m), .inl x, .inl t], hp =>
  refine ⟨Nat.le_of_ble_eq_true rfl, fun Z hZ => ?_⟩
  obtain ⟨rfl, hO, h0, h1⟩ := hp
  have hT := hO.1
  have hm := vOK_many hO.2
  have hq := vOK_sh hO.2 h0 h1
  have hon := mStat_on (t := t) hO h0 h1
  unfold onWay at hon
  have hsf : sFrom (mStat w x t) (mWay (wI w 155) x) = mStat w x t ∨ sFrom (mStat w x t) (mWay (wI w 155) x) = mStat w x t - 1 := by
    unfold sFrom
    split
    · exact Or.inl rfl
    · exact Or.inr rfl
  by_cases c1 : mStat w x t = wI w 155 (17 + 5 * x + 1)
  · have hr : mReasonIn w x t = 0 := by unfold mReasonIn; rw [if_pos c1]
    refine hZ (fun u => Nat.beq u 59) 14 0 _ _ _ _ _ ?_
    simp only [sm_run, sm_blk, sm_get, sm_ent, sm_ents, sm_wds, sm_wd, sm_nl, sm_pop, sm_back, sm_cases, oK, oLK, oL, oI, oA, oJ, oIs, oAs, oJs, oInc, oAdd, oSub, oMul, oDiv, oRem, oNeg, oAnd, oAndB, oOr, oShl, oI2c, oI2l, oL2i, oLand, oLor, oLshl, oLshr, oLushr, oLcmp, oDup, oDup2, oPop, oGo, oFg, oEq, oNe, oLt, oGe, oGt, oLe, oEq0, oNe0, oLt0, oGe0, oGt0, oLe0, oSw, oGi, oGr, oPi, oPz, oPr, oLen, oIl, oZl, oCl, oRl, oIst, oZst, oCst, oRst, oCopy, oNew, oNa, oNa2, oObj, oCs, oCv, oCi, oIr, oZr, oVr, Nat.beq, List.getElem?_cons_zero, List.getElem?_cons_succ, List.set_cons_zero, List.set_cons_succ, List.length_cons, List.length_nil, List.nil_append, List.cons_append, List.append_nil, List.replicate_succ, List.replicate_zero, Nat.reduceAdd, Nat.reduceSub, Nat.reduceLT, Nat.reduceLeDiff, Nat.reduceBEq, true_and, and_true, Nat.zero_add, Nat.add_zero, Nat.le_refl, Option.some.injEq, exists_eq_left', true_or, or_true, or_false, false_or, reduceCtorEq, Prod.mk.injEq, Sum.inl.injEq, and_self, false_and, and_false, not_true_eq_false, not_false_eq_true, false_implies, true_implies, sm_r, Int.add_zero, Int.zero_add, wI_wsI, wS_wsI, wR_wsI, wI_wCp, wS_wCp, wR_wCp, Nat.reduceEqDiff, reduceIte, sT_iff, sT_iffC, wIf_ne, ne_eq, Bool.false_or, Bool.true_or, Bool.or_false, Bool.or_true, Bool.or_self, tb_X8_reasonIn, p_X8_hasLeft, p_X8_of, p_X8_placeIn, p_X8_stationIn, p_X8_stretchFrom, p_X8_way, f_X8_hasLeft, f_X8_of, f_X8_placeIn, f_X8_stationIn, f_X8_stretchFrom, f_X8_way, p_X8_reasonIn, f_X8_reasonIn, sS_154 hT, sR_154_11 hT, sS_164 hT, hT, hO, hr]
    repeat' (first | exact True.intro | with_reducible assumption | with_reducible refine And.intro ?_ ?_ | intro _)
    all_goals first
      | omega
      | assumption
      | rfl
      | (split <;> omega)
      | (have k9 := ih (by omega)
         (repeat' split at k9) <;> first | exact k9 | omega)
      | (have k9 := ih2 (by omega)
         (repeat' split at k9) <;> first | exact k9 | omega)
      | exact he (by omega)
      | (congr 1; omega)
      | (rw [if_pos (by omega)] at he; exact he)
      | exact hD1 (by omega)
      | exact hD2 (by omega)
      | skip
  by_cases c2 : wI w 164 (8 * x + mStat w x t) < 0
  · have hr : mReasonIn w x t = 0 := by unfold mReasonIn; rw [if_neg c1, if_pos c2]
    refine hZ (fun u => Nat.beq u 59) 14 0 _ _ _ _ _ ?_
    simp only [sm_run, sm_blk, sm_get, sm_ent, sm_ents, sm_wds, sm_wd, sm_nl, sm_pop, sm_back, sm_cases, oK, oLK, oL, oI, oA, oJ, oIs, oAs, oJs, oInc, oAdd, oSub, oMul, oDiv, oRem, oNeg, oAnd, oAndB, oOr, oShl, oI2c, oI2l, oL2i, oLand, oLor, oLshl, oLshr, oLushr, oLcmp, oDup, oDup2, oPop, oGo, oFg, oEq, oNe, oLt, oGe, oGt, oLe, oEq0, oNe0, oLt0, oGe0, oGt0, oLe0, oSw, oGi, oGr, oPi, oPz, oPr, oLen, oIl, oZl, oCl, oRl, oIst, oZst, oCst, oRst, oCopy, oNew, oNa, oNa2, oObj, oCs, oCv, oCi, oIr, oZr, oVr, Nat.beq, List.getElem?_cons_zero, List.getElem?_cons_succ, List.set_cons_zero, List.set_cons_succ, List.length_cons, List.length_nil, List.nil_append, List.cons_append, List.append_nil, List.replicate_succ, List.replicate_zero, Nat.reduceAdd, Nat.reduceSub, Nat.reduceLT, Nat.reduceLeDiff, Nat.reduceBEq, true_and, and_true, Nat.zero_add, Nat.add_zero, Nat.le_refl, Option.some.injEq, exists_eq_left', true_or, or_true, or_false, false_or, reduceCtorEq, Prod.mk.injEq, Sum.inl.injEq, and_self, false_and, and_false, not_true_eq_false, not_false_eq_true, false_implies, true_implies, sm_r, Int.add_zero, Int.zero_add, wI_wsI, wS_wsI, wR_wsI, wI_wCp, wS_wCp, wR_wCp, Nat.reduceEqDiff, reduceIte, sT_iff, sT_iffC, wIf_ne, ne_eq, Bool.false_or, Bool.true_or, Bool.or_false, Bool.or_true, Bool.or_self, tb_X8_reasonIn, p_X8_hasLeft, p_X8_of, p_X8_placeIn, p_X8_stationIn, p_X8_stretchFrom, p_X8_way, f_X8_hasLeft, f_X8_of, f_X8_placeIn, f_X8_stationIn, f_X8_stretchFrom, f_X8_way, p_X8_reasonIn, f_X8_reasonIn, sS_154 hT, sR_154_11 hT, sS_164 hT, hT, hO, hr]
    repeat' (first | exact True.intro | with_reducible assumption | with_reducible refine And.intro ?_ ?_ | intro _)
    all_goals first
      | omega
      | assumption
      | rfl
      | (split <;> omega)
      | (have k9 := ih (by omega)
         (repeat' split at k9) <;> first | exact k9 | omega)
      | (have k9 := ih2 (by omega)
         (repeat' split at k9) <;> first | exact k9 | omega)
      | exact he (by omega)
      | (congr 1; omega)
      | (rw [if_pos (by omega)] at he; exact he)
      | exact hD1 (by omega)
      | exact hD2 (by omega)
      | skip
  by_cases c3 : t < wI w 164 (8 * x + mStat w x t)
  · have hr : mReasonIn w x t = 0 := by unfold mReasonIn; rw [if_neg c1, if_neg c2, if_pos c3]
    refine hZ (fun u => Nat.beq u 59) 14 0 _ _ _ _ _ ?_
    simp only [sm_run, sm_blk, sm_get, sm_ent, sm_ents, sm_wds, sm_wd, sm_nl, sm_pop, sm_back, sm_cases, oK, oLK, oL, oI, oA, oJ, oIs, oAs, oJs, oInc, oAdd, oSub, oMul, oDiv, oRem, oNeg, oAnd, oAndB, oOr, oShl, oI2c, oI2l, oL2i, oLand, oLor, oLshl, oLshr, oLushr, oLcmp, oDup, oDup2, oPop, oGo, oFg, oEq, oNe, oLt, oGe, oGt, oLe, oEq0, oNe0, oLt0, oGe0, oGt0, oLe0, oSw, oGi, oGr, oPi, oPz, oPr, oLen, oIl, oZl, oCl, oRl, oIst, oZst, oCst, oRst, oCopy, oNew, oNa, oNa2, oObj, oCs, oCv, oCi, oIr, oZr, oVr, Nat.beq, List.getElem?_cons_zero, List.getElem?_cons_succ, List.set_cons_zero, List.set_cons_succ, List.length_cons, List.length_nil, List.nil_append, List.cons_append, List.append_nil, List.replicate_succ, List.replicate_zero, Nat.reduceAdd, Nat.reduceSub, Nat.reduceLT, Nat.reduceLeDiff, Nat.reduceBEq, true_and, and_true, Nat.zero_add, Nat.add_zero, Nat.le_refl, Option.some.injEq, exists_eq_left', true_or, or_true, or_false, false_or, reduceCtorEq, Prod.mk.injEq, Sum.inl.injEq, and_self, false_and, and_false, not_true_eq_false, not_false_eq_true, false_implies, true_implies, sm_r, Int.add_zero, Int.zero_add, wI_wsI, wS_wsI, wR_wsI, wI_wCp, wS_wCp, wR_wCp, Nat.reduceEqDiff, reduceIte, sT_iff, sT_iffC, wIf_ne, ne_eq, Bool.false_or, Bool.true_or, Bool.or_false, Bool.or_true, Bool.or_self, tb_X8_reasonIn, p_X8_hasLeft, p_X8_of, p_X8_placeIn, p_X8_stationIn, p_X8_stretchFrom, p_X8_way, f_X8_hasLeft, f_X8_of, f_X8_placeIn, f_X8_stationIn, f_X8_stretchFrom, f_X8_way, p_X8_reasonIn, f_X8_reasonIn, sS_154 hT, sR_154_11 hT, sS_164 hT, hT, hO, hr]
    repeat' (first | exact True.intro | with_reducible assumption | with_reducible refine And.intro ?_ ?_ | intro _)
    all_goals first
      | omega
      | assumption
      | rfl
      | (split <;> omega)
      | (have k9 := ih (by omega)
         (repeat' split at k9) <;> first | exact k9 | omega)
      | (have k9 := ih2 (by omega)
         (repeat' split at k9) <;> first | exact k9 | omega)
      | exact he (by omega)
      | (congr 1; omega)
      | (rw [if_pos (by omega)] at he; exact he)
      | exact hD1 (by omega)
      | exact hD2 (by omega)
      | skip
  by_cases c4 : mLeftB w x (mStat w x t) t = 0
  · have hr : mReasonIn w x t = mRi w x t (wI w 155 1) := by unfold mReasonIn; rw [if_neg c1, if_neg c2, if_neg c3, if_pos c4]
    have hl := sm_loopI Z 59 0 (wI w 155 1) (fun i => [some (.inr (.inl 154)), some (.inl x), some (.inl t), some (.inl (mStat w x t)), none, some (.inl (mRi w x t i)), some (.inl i)]) (fun _ => w) 0 0 hm.1 (fun i g0 g1 ih => by
      have hu : mRi w x t (i + 1) = mRi1 w x t i (mRi w x t i) := itI_s _ _ g0
      have hx1 : i = wI w 155 1 → mRi w x t i = mReasonIn w x t := fun e => by rw [hr, e]
      rw [hu] at ih
      unfold mRi1 at ih
      refine hZ (fun u => Nat.beq u 59) 14 59 _ _ _ _ _ ?_
      simp only [sm_run, sm_blk, sm_get, sm_ent, sm_ents, sm_wds, sm_wd, sm_nl, sm_pop, sm_back, sm_cases, oK, oLK, oL, oI, oA, oJ, oIs, oAs, oJs, oInc, oAdd, oSub, oMul, oDiv, oRem, oNeg, oAnd, oAndB, oOr, oShl, oI2c, oI2l, oL2i, oLand, oLor, oLshl, oLshr, oLushr, oLcmp, oDup, oDup2, oPop, oGo, oFg, oEq, oNe, oLt, oGe, oGt, oLe, oEq0, oNe0, oLt0, oGe0, oGt0, oLe0, oSw, oGi, oGr, oPi, oPz, oPr, oLen, oIl, oZl, oCl, oRl, oIst, oZst, oCst, oRst, oCopy, oNew, oNa, oNa2, oObj, oCs, oCv, oCi, oIr, oZr, oVr, Nat.beq, List.getElem?_cons_zero, List.getElem?_cons_succ, List.set_cons_zero, List.set_cons_succ, List.length_cons, List.length_nil, List.nil_append, List.cons_append, List.append_nil, List.replicate_succ, List.replicate_zero, Nat.reduceAdd, Nat.reduceSub, Nat.reduceLT, Nat.reduceLeDiff, Nat.reduceBEq, true_and, and_true, Nat.zero_add, Nat.add_zero, Nat.le_refl, Option.some.injEq, exists_eq_left', true_or, or_true, or_false, false_or, reduceCtorEq, Prod.mk.injEq, Sum.inl.injEq, and_self, false_and, and_false, not_true_eq_false, not_false_eq_true, false_implies, true_implies, sm_r, Int.add_zero, Int.zero_add, wI_wsI, wS_wsI, wR_wsI, wI_wCp, wS_wCp, wR_wCp, Nat.reduceEqDiff, reduceIte, sT_iff, sT_iffC, wIf_ne, ne_eq, Bool.false_or, Bool.true_or, Bool.or_false, Bool.or_true, Bool.or_self, tb_X8_reasonIn, p_X8_hasLeft, p_X8_of, p_X8_placeIn, p_X8_stationIn, p_X8_stretchFrom, p_X8_way, f_X8_hasLeft, f_X8_of, f_X8_placeIn, f_X8_stationIn, f_X8_stretchFrom, f_X8_way, p_X8_reasonIn, f_X8_reasonIn, sS_154 hT, sR_154_0 hT, sS_155 hT, hT, hO]
      repeat' (first | exact True.intro | with_reducible assumption | with_reducible refine And.intro ?_ ?_ | intro _)
      all_goals first
        | omega
        | assumption
        | rfl
        | (split <;> omega)
        | (have k9 := ih (by omega)
           (repeat' split at k9) <;> first | exact k9 | omega)
        | (have k9 := ih2 (by omega)
           (repeat' split at k9) <;> first | exact k9 | omega)
        | exact he (by omega)
        | (congr 1; omega)
        | (rw [if_pos (by omega)] at he; exact he)
        | exact hD1 (by omega)
        | exact hD2 (by omega)
        | grind
        | skip
      )
    refine hZ (fun u => Nat.beq u 59) 14 0 _ _ _ _ _ ?_
    simp only [sm_run, sm_blk, sm_get, sm_ent, sm_ents, sm_wds, sm_wd, sm_nl, sm_pop, sm_back, sm_cases, oK, oLK, oL, oI, oA, oJ, oIs, oAs, oJs, oInc, oAdd, oSub, oMul, oDiv, oRem, oNeg, oAnd, oAndB, oOr, oShl, oI2c, oI2l, oL2i, oLand, oLor, oLshl, oLshr, oLushr, oLcmp, oDup, oDup2, oPop, oGo, oFg, oEq, oNe, oLt, oGe, oGt, oLe, oEq0, oNe0, oLt0, oGe0, oGt0, oLe0, oSw, oGi, oGr, oPi, oPz, oPr, oLen, oIl, oZl, oCl, oRl, oIst, oZst, oCst, oRst, oCopy, oNew, oNa, oNa2, oObj, oCs, oCv, oCi, oIr, oZr, oVr, Nat.beq, List.getElem?_cons_zero, List.getElem?_cons_succ, List.set_cons_zero, List.set_cons_succ, List.length_cons, List.length_nil, List.nil_append, List.cons_append, List.append_nil, List.replicate_succ, List.replicate_zero, Nat.reduceAdd, Nat.reduceSub, Nat.reduceLT, Nat.reduceLeDiff, Nat.reduceBEq, true_and, and_true, Nat.zero_add, Nat.add_zero, Nat.le_refl, Option.some.injEq, exists_eq_left', true_or, or_true, or_false, false_or, reduceCtorEq, Prod.mk.injEq, Sum.inl.injEq, and_self, false_and, and_false, not_true_eq_false, not_false_eq_true, false_implies, true_implies, sm_r, Int.add_zero, Int.zero_add, wI_wsI, wS_wsI, wR_wsI, wI_wCp, wS_wCp, wR_wCp, Nat.reduceEqDiff, reduceIte, sT_iff, sT_iffC, wIf_ne, ne_eq, Bool.false_or, Bool.true_or, Bool.or_false, Bool.or_true, Bool.or_self, tb_X8_reasonIn, p_X8_hasLeft, p_X8_of, p_X8_placeIn, p_X8_stationIn, p_X8_stretchFrom, p_X8_way, f_X8_hasLeft, f_X8_of, f_X8_placeIn, f_X8_stationIn, f_X8_stretchFrom, f_X8_way, p_X8_reasonIn, f_X8_reasonIn, sS_154 hT, sR_154_11 hT, sS_164 hT, hT, hO]
    repeat' (first | exact True.intro | with_reducible assumption | with_reducible refine And.intro ?_ ?_ | intro _)
    all_goals first
      | omega
      | assumption
      | rfl
      | (split <;> omega)
      | (have k9 := ih (by omega)
         (repeat' split at k9) <;> first | exact k9 | omega)
      | (have k9 := ih2 (by omega)
         (repeat' split at k9) <;> first | exact k9 | omega)
      | exact he (by omega)
      | (congr 1; omega)
      | (rw [if_pos (by omega)] at he; exact he)
      | exact hD1 (by omega)
      | exact hD2 (by omega)
      | skip
  · have hr : mReasonIn w x t = 0 := by unfold mReasonIn; rw [if_neg c1, if_neg c2, if_neg c3, if_neg c4]
    refine hZ (fun u => Nat.beq u 59) 14 0 _ _ _ _ _ ?_
    simp only [sm_run, sm_blk, sm_get, sm_ent, sm_ents, sm_wds, sm_wd, sm_nl, sm_pop, sm_back, sm_cases, oK, oLK, oL, oI, oA, oJ, oIs, oAs, oJs, oInc, oAdd, oSub, oMul, oDiv, oRem, oNeg, oAnd, oAndB, oOr, oShl, oI2c, oI2l, oL2i, oLand, oLor, oLshl, oLshr, oLushr, oLcmp, oDup, oDup2, oPop, oGo, oFg, oEq, oNe, oLt, oGe, oGt, oLe, oEq0, oNe0, oLt0, oGe0, oGt0, oLe0, oSw, oGi, oGr, oPi, oPz, oPr, oLen, oIl, oZl, oCl, oRl, oIst, oZst, oCst, oRst, oCopy, oNew, oNa, oNa2, oObj, oCs, oCv, oCi, oIr, oZr, oVr, Nat.beq, List.getElem?_cons_zero, List.getElem?_cons_succ, List.set_cons_zero, List.set_cons_succ, List.length_cons, List.length_nil, List.nil_append, List.cons_append, List.append_nil, List.replicate_succ, List.replicate_zero, Nat.reduceAdd, Nat.reduceSub, Nat.reduceLT, Nat.reduceLeDiff, Nat.reduceBEq, true_and, and_true, Nat.zero_add, Nat.add_zero, Nat.le_refl, Option.some.injEq, exists_eq_left', true_or, or_true, or_false, false_or, reduceCtorEq, Prod.mk.injEq, Sum.inl.injEq, and_self, false_and, and_false, not_true_eq_false, not_false_eq_true, false_implies, true_implies, sm_r, Int.add_zero, Int.zero_add, wI_wsI, wS_wsI, wR_wsI, wI_wCp, wS_wCp, wR_wCp, Nat.reduceEqDiff, reduceIte, sT_iff, sT_iffC, wIf_ne, ne_eq, Bool.false_or, Bool.true_or, Bool.or_false, Bool.or_true, Bool.or_self, tb_X8_reasonIn, p_X8_hasLeft, p_X8_of, p_X8_placeIn, p_X8_stationIn, p_X8_stretchFrom, p_X8_way, f_X8_hasLeft, f_X8_of, f_X8_placeIn, f_X8_stationIn, f_X8_stretchFrom, f_X8_way, p_X8_reasonIn, f_X8_reasonIn, sS_154 hT, sR_154_11 hT, sS_164 hT, hT, hO, hr]
    repeat' (first | exact True.intro | with_reducible assumption | with_reducible refine And.intro ?_ ?_ | intro _)
    all_goals first
      | omega
      | assumption
      | rfl
      | (split <;> omega)
      | (have k9 := ih (by omega)
         (repeat' split at k9) <;> first | exact k9 | omega)
      | (have k9 := ih2 (by omega)
         (repeat' split at k9) <;> first | exact k9 | omega)
      | exact he (by omega)
      | (congr 1; omega)
      | (rw [if_pos (by omega)] at he; exact he)
      | exact hD1 (by omega)
      | exact hD2 (by omega)
      | skip

theorem met_X8_reasonIn (l : Launch) : sm_Met l yX8_reasonIn cX8_reasonIn 7 (some .int) 4 0 0 p_X8_reasonIn f_X8_reasonIn := sm_met 1 (Or.inr (Or.inl ⟨rfl, rfl⟩)) (by decide +kernel) (sn_X8_reasonIn l) ok_X8_reasonIn