/-! THE CLASS: what if, texts, undo, slots -/
theorem cpL_ok {w : sm_W} {a b : Nat} (hb : lOK w b) (ha : sm_isL a) (h : a ≠ b) : lOK (cpL a b w) a := by
  refine ⟨sFr_sT (cpL_fr a b w) hb.1, ha, vOK_57 (vL_cp (isL_ne ha hb.2.1 h)) hb.2.2⟩
theorem lOK_o {S : Nat → Int → Int → Prop} {w u : sm_W} {a : Nat} (h : lOK w a) (hf : sFr S w u) (hS : ∀ k i v, k ≤ 8 → ¬ S (a + k) i v) : lOK u a ∧ vL u a = vL w a := by
  have e : vL u a = vL w a := vL_cong (fun k hk => hf.outA (fun i v hs => hS k i v hk hs))
  exact ⟨⟨sFr_sT hf h.1, h.2.1, by rw [e]; exact h.2.2⟩, e⟩
def p_X7_trialDelay : List sm_V → sm_W → Prop
  | [.inr (.inl o)], w => o = 0 ∧ dOK w 34
  | _, _ => False
def f_X7_trialDelay : sm_F
  | [.inr (.inl o)], w => (some (.inl (xDl (xRun 34 w) 34)), xRun 34 w)
  | _, w => (none, w)
def tb_X7_trialDelay : List (Nat × List sm_O) := [(0, [oA 0, oGr 7 12 2, oCv 0 11 p_X0_run f_X0_run 0 0 1, oA 0, oGr 7 12 2, oCv 0 11 p_X0_delay f_X0_delay 0 0 1, oIr])]
set_option maxRecDepth 100000 in
theorem sb_X7_trialDelay_0 (l : Launch) : sm_SndB l RX7 "trialDelay" cX7_trialDelay 1 1 6 0 [oA 0, oGr 7 12 2, oCv 0 11 p_X0_run f_X0_run 0 0 1, oA 0, oGr 7 12 2, oCv 0 11 p_X0_delay f_X0_delay 0 0 1, oIr] := sb_cons (sd_aload_n (by decide +kernel : decode cX7_trialDelay 0 = .ok (.aload_n 0, 1)) rfl) (sb_cons (sd_getr (k := 2) kl_7 (by decide) rfl wm_147 (by decide +kernel : decode cX7_trialDelay 1 = .ok (.getfield 21, 3))) (sb_cons (sd_callv (n := 0) (met_X0_run l) (by decide) (by decide) wm_287 wm_284 wm_2 ⟨by decide +kernel, by decide +kernel, by decide +kernel⟩ kl_0 wm_285 wm_286 (by decide +kernel : decode cX7_trialDelay 4 = .ok (.invokevirtual 117, 3))) (sb_cons (sd_aload_n (by decide +kernel : decode cX7_trialDelay 7 = .ok (.aload_n 0, 1)) rfl) (sb_cons (sd_getr (k := 2) kl_7 (by decide) rfl wm_147 (by decide +kernel : decode cX7_trialDelay 8 = .ok (.getfield 21, 3))) (sb_cons (sd_callv (n := 0) (met_X0_delay l) (by decide) (by decide) wm_433 wm_430 wm_2 ⟨by decide +kernel, by decide +kernel, by decide +kernel⟩ kl_0 wm_431 wm_432 (by decide +kernel : decode cX7_trialDelay 11 = .ok (.invokevirtual 163, 3))) (sb_cons (sd_ireturn (x := 0) rfl (by decide +kernel : decode cX7_trialDelay 14 = .ok (.ireturn, 1))) sb_nil))))))
theorem sn_X7_trialDelay (l : Launch) : sm_SndT l RX7 "trialDelay" cX7_trialDelay 1 1 6 tb_X7_trialDelay := st_cons (sb_X7_trialDelay_0 l) (st_nil)
set_option maxRecDepth 100000 in
set_option maxHeartbeats 4000000 in
theorem ok_X7_trialDelay : sm_Ok tb_X7_trialDelay 1 0 0 p_X7_trialDelay f_X7_trialDelay := by
  intro as w hp ha hw
  match as, hp with
  | [.inr (.inl o)], hp =>
  refine ⟨Nat.le_of_ble_eq_true rfl, fun Z hZ => ?_⟩
  obtain ⟨rfl, hD⟩ := hp
  have hT := hD.2.1
  have hR := (xRun_ok hD).1
  have hTR := hR.1.2.1
  generalize hRe : xRun 34 w = R at *
  refine hZ (fun _ => false) 16 0 _ _ _ _ _ ?_
  simp only [sm_run, sm_blk, sm_get, sm_ent, sm_ents, sm_wds, sm_wd, sm_nl, sm_pop, sm_back, sm_cases, oK, oLK, oL, oI, oA, oJ, oIs, oAs, oJs, oInc, oAdd, oSub, oMul, oDiv, oRem, oNeg, oAnd, oAndB, oOr, oShl, oI2c, oI2l, oL2i, oLand, oLor, oLshl, oLshr, oLushr, oLcmp, oDup, oDup2, oPop, oGo, oFg, oEq, oNe, oLt, oGe, oGt, oLe, oEq0, oNe0, oLt0, oGe0, oGt0, oLe0, oSw, oGi, oGr, oPi, oPz, oPr, oLen, oIl, oZl, oCl, oRl, oIst, oZst, oCst, oRst, oCopy, oNew, oNa, oNa2, oObj, oCs, oCv, oCi, oIr, oZr, oVr, Nat.beq, List.getElem?_cons_zero, List.getElem?_cons_succ, List.set_cons_zero, List.set_cons_succ, List.length_cons, List.length_nil, List.nil_append, List.cons_append, List.append_nil, List.replicate_succ, List.replicate_zero, Nat.reduceAdd, Nat.reduceSub, Nat.reduceLT, Nat.reduceLeDiff, Nat.reduceBEq, true_and, and_true, Nat.zero_add, Nat.add_zero, Nat.le_refl, Option.some.injEq, exists_eq_left', true_or, or_true, or_false, false_or, reduceCtorEq, Prod.mk.injEq, Sum.inl.injEq, and_self, false_and, and_false, not_true_eq_false, not_false_eq_true, false_implies, true_implies, sm_r, Int.add_zero, Int.zero_add, wI_wsI, wS_wsI, wR_wsI, wI_wCp, wS_wCp, wR_wCp, Nat.reduceEqDiff, reduceIte, sT_iff, sT_iffC, wIf_ne, ne_eq, Bool.false_or, Bool.true_or, Bool.or_false, Bool.or_true, Bool.or_self, Nat.left_eq_add, Nat.add_eq_left, Nat.add_left_inj, oMax, oMin, oAbs, tb_X7_trialDelay, p_X0_delay, p_X0_run, f_X0_delay, f_X0_run, p_X7_trialDelay, f_X7_trialDelay, sS_0 hT, sR_0_2 hT, dS34 hT, hD, hRe, sS_0 hTR, sR_0_2 hTR, dS34 hTR, hR]
  repeat' (first | exact True.intro | with_reducible assumption | with_reducible refine And.intro ?_ ?_ | intro _)
  all_goals first
    | omega
    | assumption
    | rfl
    | (split <;> omega)
    | skip
theorem met_X7_trialDelay (l : Launch) : sm_Met l yX7_trialDelay cX7_trialDelay 1 (some .int) 6 0 0 p_X7_trialDelay f_X7_trialDelay := sm_met 1 (Or.inr (Or.inl ⟨rfl, rfl⟩)) (by decide +kernel) (sn_X7_trialDelay l) ok_X7_trialDelay
def cT (w : sm_W) : sm_W := cpL 35 2 w
theorem cT_in {w : sm_W} (h : lOK w 2) : sT (cT w) ∧ lOK (cT w) 35 ∧ (∀ a, (a < 35 ∨ 42 < a) → wI (cT w) a = wI w a) ∧ eq57 (vL (cT w) 35) (vL w 2) ∧ lOK (cT w) 2 ∧ vL (cT w) 2 = vL w 2 := by
  have hf := cpL_fr 35 2 w
  have h2 := lOK_o h hf (fun k i v hk hs => by unfold sLn at hs; omega)
  exact ⟨sFr_sT hf h.1, cpL_ok h is35 (by decide), fun a ha => hf.outA (fun i v hs => by unfold sLn at hs; omega), vL_cp (by decide), h2⟩
def cTL (w : sm_W) (x v : Int) : sm_W := wsI (cT w) 40 x (wI (cT w) 40 x + v)
theorem cTL_ok {w : sm_W} {x v : Int} (h : lOK w 2) (hl : ¬ lLateE (cT w) 35 x v < 0) : dOK (cTL w x v) 34 := by
  obtain ⟨h1, h2, -⟩ := cT_in h
  have hq := lLateE_0 hl
  have hs := lOK_s h2 hq.1 hq.2.1
  refine ⟨Or.inr rfl, lOK_st h2 (sT_wsI h1) ?_⟩
  have e : vL (cTL w x v) 35 = updI (vL (cT w) 35) (17 + 5 * x + 2) (wI (cT w) 40 x + v) := vL_u5 (cT w) 35 _ hq.1
  rw [e]
  exact vOK_updI h2.2.2 (Or.inr (Or.inr (Or.inr (Or.inl ⟨x, hq.1, rfl, by have := hs.2.2.2.1; have e5 : wI (cT w) (35 + 5) x = wI (cT w) 40 x := rfl; omega, hq.2.2.2.2⟩))))
def p_X7_delayIfLate : List sm_V → sm_W → Prop
  | [.inr (.inl o), .inl x, .inl v], w => o = 0 ∧ cOK w
  | _, _ => False
def f_X7_delayIfLate : sm_F
  | [.inr (.inl o), .inl x, .inl v], w => (some (.inl (if lLateE (cT w) 35 x v < 0 then lLateE (cT w) 35 x v else xDl (xRun 34 (cTL w x v)) 34)), (if lLateE (cT w) 35 x v < 0 then cT w else xRun 34 (cTL w x v)))
  | _, w => (none, w)
def tb_X7_delayIfLate : List (Nat × List sm_O) := [(0, [oA 0, oGr 7 12 3, oA 0, oGr 7 12 1, oCv 2 9 p_X2_copyFrom f_X2_copyFrom 0 0 2, oA 0, oGr 7 12 3, oI 1, oI 2, oCv 2 9 p_X2_startLater f_X2_startLater 0 0 3, oIs 3, oI 3, oGe0 29, oI 3, oGo 33]),
  (29, [oA 0, oCv 7 12 p_X7_trialDelay f_X7_trialDelay 0 0 1, oGo 33]),
  (33, [oIr])]
set_option maxRecDepth 100000 in
theorem sb_X7_delayIfLate_0 (l : Launch) : sm_SndB l RX7 "delayIfLate" cX7_delayIfLate 4 1 7 0 [oA 0, oGr 7 12 3, oA 0, oGr 7 12 1, oCv 2 9 p_X2_copyFrom f_X2_copyFrom 0 0 2, oA 0, oGr 7 12 3, oI 1, oI 2, oCv 2 9 p_X2_startLater f_X2_startLater 0 0 3, oIs 3, oI 3, oGe0 29, oI 3, oGo 33] := sb_cons (sd_aload_n (by decide +kernel : decode cX7_delayIfLate 0 = .ok (.aload_n 0, 1)) rfl) (sb_cons (sd_getr (k := 3) kl_7 (by decide) rfl wm_148 (by decide +kernel : decode cX7_delayIfLate 1 = .ok (.getfield 24, 3))) (sb_cons (sd_aload_n (by decide +kernel : decode cX7_delayIfLate 4 = .ok (.aload_n 0, 1)) rfl) (sb_cons (sd_getr (k := 1) kl_7 (by decide) rfl wm_146 (by decide +kernel : decode cX7_delayIfLate 5 = .ok (.getfield 20, 3))) (sb_cons (sd_callv (n := 1) (met_X2_copyFrom l) (by decide) (by decide) wm_165 wm_162 wm_3 ⟨by decide +kernel, by decide +kernel, by decide +kernel⟩ kl_2 wm_163 wm_164 (by decide +kernel : decode cX7_delayIfLate 8 = .ok (.invokevirtual 76, 3))) (sb_cons (sd_aload_n (by decide +kernel : decode cX7_delayIfLate 11 = .ok (.aload_n 0, 1)) rfl) (sb_cons (sd_getr (k := 3) kl_7 (by decide) rfl wm_148 (by decide +kernel : decode cX7_delayIfLate 12 = .ok (.getfield 24, 3))) (sb_cons (sd_iload_n (by decide +kernel : decode cX7_delayIfLate 15 = .ok (.iload_n 1, 1)) rfl) (sb_cons (sd_iload_n (by decide +kernel : decode cX7_delayIfLate 16 = .ok (.iload_n 2, 1)) rfl) (sb_cons (sd_callv (n := 2) (met_X2_startLater l) (by decide) (by decide) wm_233 wm_230 wm_3 ⟨by decide +kernel, by decide +kernel, by decide +kernel⟩ kl_2 wm_231 wm_232 (by decide +kernel : decode cX7_delayIfLate 17 = .ok (.invokevirtual 98, 3))) (sb_cons (sd_istore_n (by decide +kernel : decode cX7_delayIfLate 20 = .ok (.istore_n 3, 1)) rfl) (sb_cons (sd_iload_n (by decide +kernel : decode cX7_delayIfLate 21 = .ok (.iload_n 3, 1)) rfl) (sb_cons (sd_ge0 (by decide +kernel : decode cX7_delayIfLate 22 = .ok (.ifCond .ge 7, 3)) (by decide)) (sb_cons (sd_iload_n (by decide +kernel : decode cX7_delayIfLate 25 = .ok (.iload_n 3, 1)) rfl) (sb_cons (sd_goto (x := 0) (by decide +kernel : decode cX7_delayIfLate 26 = .ok (.goto 7, 3)) (by decide)) sb_nil))))))))))))))
set_option maxRecDepth 100000 in
theorem sb_X7_delayIfLate_29 (l : Launch) : sm_SndB l RX7 "delayIfLate" cX7_delayIfLate 4 1 7 29 [oA 0, oCv 7 12 p_X7_trialDelay f_X7_trialDelay 0 0 1, oGo 33] := sb_cons (sd_aload_n (by decide +kernel : decode cX7_delayIfLate 29 = .ok (.aload_n 0, 1)) rfl) (sb_cons (sd_callv (n := 0) (met_X7_trialDelay l) (by decide) (by decide) wm_519 wm_517 wm_1 ⟨by decide +kernel, by decide +kernel, by decide +kernel⟩ kl_7 wm_518 wm_1093 (by decide +kernel : decode cX7_delayIfLate 30 = .ok (.invokevirtual 199, 3))) (sb_cons (sd_fall (x := 0)) sb_nil))
set_option maxRecDepth 100000 in
theorem sb_X7_delayIfLate_33 (l : Launch) : sm_SndB l RX7 "delayIfLate" cX7_delayIfLate 4 1 7 33 [oIr] := sb_cons (sd_ireturn (x := 0) rfl (by decide +kernel : decode cX7_delayIfLate 33 = .ok (.ireturn, 1))) sb_nil
theorem sn_X7_delayIfLate (l : Launch) : sm_SndT l RX7 "delayIfLate" cX7_delayIfLate 4 1 7 tb_X7_delayIfLate := st_cons (sb_X7_delayIfLate_0 l) (st_cons (sb_X7_delayIfLate_29 l) (st_cons (sb_X7_delayIfLate_33 l) (st_nil)))
set_option maxRecDepth 100000 in
set_option maxHeartbeats 4000000 in
theorem ok_X7_delayIfLate : sm_Ok tb_X7_delayIfLate 4 0 0 p_X7_delayIfLate f_X7_delayIfLate := by
  intro as w hp ha hw
  match as, hp with
  | [.inr (.inl o), .inl x, .inl v], hp =>
  refine ⟨Nat.le_of_ble_eq_true rfl, fun Z hZ => ?_⟩
  obtain ⟨rfl, hC⟩ := hp
  have hT := hC.1.1
  obtain ⟨h1, h2, h3, h4, h5, h6⟩ := cT_in hC.1
  have hTe : cpL 35 2 w = cT w := rfl
  have hok := fun h => cTL_ok (x := x) (v := v) hC.1 h
  have hTLe : wsI (cT w) 40 x (wI (cT w) 40 x + v) = cTL w x v := rfl
  have hs := fun h0 h1 => lOK_s h2 (s := x) h0 h1
  by_cases c : lLateE (cT w) 35 x v < 0
  · clear hok
    generalize hze : lLateE (cT w) 35 x v = z at *
    generalize hTL : cTL w x v = TL at *
    generalize hTT : cT w = T at *
    refine hZ (fun _ => false) 16 0 _ _ _ _ _ ?_
    simp only [sm_run, sm_blk, sm_get, sm_ent, sm_ents, sm_wds, sm_wd, sm_nl, sm_pop, sm_back, sm_cases, oK, oLK, oL, oI, oA, oJ, oIs, oAs, oJs, oInc, oAdd, oSub, oMul, oDiv, oRem, oNeg, oAnd, oAndB, oOr, oShl, oI2c, oI2l, oL2i, oLand, oLor, oLshl, oLshr, oLushr, oLcmp, oDup, oDup2, oPop, oGo, oFg, oEq, oNe, oLt, oGe, oGt, oLe, oEq0, oNe0, oLt0, oGe0, oGt0, oLe0, oSw, oGi, oGr, oPi, oPz, oPr, oLen, oIl, oZl, oCl, oRl, oIst, oZst, oCst, oRst, oCopy, oNew, oNa, oNa2, oObj, oCs, oCv, oCi, oIr, oZr, oVr, Nat.beq, List.getElem?_cons_zero, List.getElem?_cons_succ, List.set_cons_zero, List.set_cons_succ, List.length_cons, List.length_nil, List.nil_append, List.cons_append, List.append_nil, List.replicate_succ, List.replicate_zero, Nat.reduceAdd, Nat.reduceSub, Nat.reduceLT, Nat.reduceLeDiff, Nat.reduceBEq, true_and, and_true, Nat.zero_add, Nat.add_zero, Nat.le_refl, Option.some.injEq, exists_eq_left', true_or, or_true, or_false, false_or, reduceCtorEq, Prod.mk.injEq, Sum.inl.injEq, and_self, false_and, and_false, not_true_eq_false, not_false_eq_true, false_implies, true_implies, sm_r, Int.add_zero, Int.zero_add, wI_wsI, wS_wsI, wR_wsI, wI_wCp, wS_wCp, wR_wCp, Nat.reduceEqDiff, reduceIte, sT_iff, sT_iffC, wIf_ne, ne_eq, Bool.false_or, Bool.true_or, Bool.or_false, Bool.or_true, Bool.or_self, Nat.left_eq_add, Nat.add_eq_left, Nat.add_left_inj, oMax, oMin, oAbs, tb_X7_delayIfLate, p_X2_copyFrom, p_X2_startLater, p_X7_trialDelay, f_X2_copyFrom, f_X2_startLater, f_X7_trialDelay, p_X7_delayIfLate, f_X7_delayIfLate, sS_0 hT, sR_0_3 hT, sR_0_1 hT, wS35 hT, hT, is35, is2, hTe, sS_0 h1, sR_0_3 h1, wS35 h1, h2, hze, hTT, if_pos c]
    repeat' (first | exact True.intro | with_reducible assumption | with_reducible refine And.intro ?_ ?_ | intro _)
    all_goals first
      | omega
      | assumption
      | rfl
      | (split <;> omega)
      | grind
      | skip
  · have hok := hok c
    have hq := lLateE_0 c
    have hs5 : 0 ≤ wI (cT w) 40 x ∧ wI (cT w) 40 x ≤ 300 := (hs hq.1 hq.2.1).2.2.2.1
    have hTo := hok.2.1
    generalize hze : lLateE (cT w) 35 x v = z at *
    generalize hTL : cTL w x v = TL at *
    generalize hTT : cT w = T at *
    refine hZ (fun _ => false) 16 0 _ _ _ _ _ ?_
    simp only [sm_run, sm_blk, sm_get, sm_ent, sm_ents, sm_wds, sm_wd, sm_nl, sm_pop, sm_back, sm_cases, oK, oLK, oL, oI, oA, oJ, oIs, oAs, oJs, oInc, oAdd, oSub, oMul, oDiv, oRem, oNeg, oAnd, oAndB, oOr, oShl, oI2c, oI2l, oL2i, oLand, oLor, oLshl, oLshr, oLushr, oLcmp, oDup, oDup2, oPop, oGo, oFg, oEq, oNe, oLt, oGe, oGt, oLe, oEq0, oNe0, oLt0, oGe0, oGt0, oLe0, oSw, oGi, oGr, oPi, oPz, oPr, oLen, oIl, oZl, oCl, oRl, oIst, oZst, oCst, oRst, oCopy, oNew, oNa, oNa2, oObj, oCs, oCv, oCi, oIr, oZr, oVr, Nat.beq, List.getElem?_cons_zero, List.getElem?_cons_succ, List.set_cons_zero, List.set_cons_succ, List.length_cons, List.length_nil, List.nil_append, List.cons_append, List.append_nil, List.replicate_succ, List.replicate_zero, Nat.reduceAdd, Nat.reduceSub, Nat.reduceLT, Nat.reduceLeDiff, Nat.reduceBEq, true_and, and_true, Nat.zero_add, Nat.add_zero, Nat.le_refl, Option.some.injEq, exists_eq_left', true_or, or_true, or_false, false_or, reduceCtorEq, Prod.mk.injEq, Sum.inl.injEq, and_self, false_and, and_false, not_true_eq_false, not_false_eq_true, false_implies, true_implies, sm_r, Int.add_zero, Int.zero_add, wI_wsI, wS_wsI, wR_wsI, wI_wCp, wS_wCp, wR_wCp, Nat.reduceEqDiff, reduceIte, sT_iff, sT_iffC, wIf_ne, ne_eq, Bool.false_or, Bool.true_or, Bool.or_false, Bool.or_true, Bool.or_self, Nat.left_eq_add, Nat.add_eq_left, Nat.add_left_inj, oMax, oMin, oAbs, tb_X7_delayIfLate, p_X2_copyFrom, p_X2_startLater, p_X7_trialDelay, f_X2_copyFrom, f_X2_startLater, f_X7_trialDelay, p_X7_delayIfLate, f_X7_delayIfLate, sS_0 hT, sR_0_3 hT, sR_0_1 hT, wS35 hT, hT, is35, is2, hTe, sS_0 h1, sR_0_3 h1, wS35 h1, h2, hze, hTT, hTLe, hTL, hok, sS_0 hTo, Nat.reduceAdd, if_neg c]
    repeat' (first | exact True.intro | with_reducible assumption | with_reducible refine And.intro ?_ ?_ | intro _)
    all_goals first
      | omega
      | assumption
      | rfl
      | (split <;> omega)
      | grind
      | skip
theorem met_X7_delayIfLate (l : Launch) : sm_Met l yX7_delayIfLate cX7_delayIfLate 4 (some .int) 7 0 0 p_X7_delayIfLate f_X7_delayIfLate := sm_met 1 (Or.inr (Or.inl ⟨rfl, rfl⟩)) (by decide +kernel) (sn_X7_delayIfLate l) ok_X7_delayIfLate
def cTS (w : sm_W) (s v : Int) : sm_W := wsI (cT w) 37 s v
theorem cTS_ok {w : sm_W} {s v : Int} (h : lOK w 2) (hs : 0 ≤ s ∧ s ≤ 6) (hv : 1 ≤ v ∧ v ≤ 30) : dOK (cTS w s v) 34 := by
  obtain ⟨h1, h2, -⟩ := cT_in h
  refine ⟨Or.inr rfl, lOK_st h2 (sT_wsI h1) ?_⟩
  have e : vL (cTS w s v) 35 = updI (vL (cT w) 35) (10 + s) v := vL_u2 (cT w) 35 v hs.1 (by omega)
  rw [e]
  exact vOK_updI h2.2.2 (Or.inr (Or.inr (Or.inl (by omega))))
def p_X7_delayIfSlow : List sm_V → sm_W → Prop
  | [.inr (.inl o), .inl s, .inl v], w => o = 0 ∧ cOK w
  | _, _ => False
def f_X7_delayIfSlow : sm_F
  | [.inr (.inl o), .inl s, .inl v], w => (some (.inl (if 0 ≤ s ∧ s ≤ 6 then (if 1 ≤ v ∧ v ≤ 30 then xDl (xRun 34 (cTS w s v)) 34 else -2) else -1)), (if 0 ≤ s ∧ s ≤ 6 then (if 1 ≤ v ∧ v ≤ 30 then xRun 34 (cTS w s v) else cT w) else cT w))
  | _, w => (none, w)
def tb_X7_delayIfSlow : List (Nat × List sm_O) := [(0, [oA 0, oGr 7 12 3, oA 0, oGr 7 12 1, oCv 2 9 p_X2_copyFrom f_X2_copyFrom 0 0 2, oA 0, oGr 7 12 3, oI 1, oI 2, oCv 2 9 p_X2_setRunning f_X2_setRunning 0 0 3, oIs 3, oI 3, oGe0 29, oI 3, oGo 33]),
  (29, [oA 0, oCv 7 12 p_X7_trialDelay f_X7_trialDelay 0 0 1, oGo 33]),
  (33, [oIr])]
set_option maxRecDepth 100000 in
theorem sb_X7_delayIfSlow_0 (l : Launch) : sm_SndB l RX7 "delayIfSlow" cX7_delayIfSlow 4 1 7 0 [oA 0, oGr 7 12 3, oA 0, oGr 7 12 1, oCv 2 9 p_X2_copyFrom f_X2_copyFrom 0 0 2, oA 0, oGr 7 12 3, oI 1, oI 2, oCv 2 9 p_X2_setRunning f_X2_setRunning 0 0 3, oIs 3, oI 3, oGe0 29, oI 3, oGo 33] := sb_cons (sd_aload_n (by decide +kernel : decode cX7_delayIfSlow 0 = .ok (.aload_n 0, 1)) rfl) (sb_cons (sd_getr (k := 3) kl_7 (by decide) rfl wm_148 (by decide +kernel : decode cX7_delayIfSlow 1 = .ok (.getfield 24, 3))) (sb_cons (sd_aload_n (by decide +kernel : decode cX7_delayIfSlow 4 = .ok (.aload_n 0, 1)) rfl) (sb_cons (sd_getr (k := 1) kl_7 (by decide) rfl wm_146 (by decide +kernel : decode cX7_delayIfSlow 5 = .ok (.getfield 20, 3))) (sb_cons (sd_callv (n := 1) (met_X2_copyFrom l) (by decide) (by decide) wm_165 wm_162 wm_3 ⟨by decide +kernel, by decide +kernel, by decide +kernel⟩ kl_2 wm_163 wm_164 (by decide +kernel : decode cX7_delayIfSlow 8 = .ok (.invokevirtual 76, 3))) (sb_cons (sd_aload_n (by decide +kernel : decode cX7_delayIfSlow 11 = .ok (.aload_n 0, 1)) rfl) (sb_cons (sd_getr (k := 3) kl_7 (by decide) rfl wm_148 (by decide +kernel : decode cX7_delayIfSlow 12 = .ok (.getfield 24, 3))) (sb_cons (sd_iload_n (by decide +kernel : decode cX7_delayIfSlow 15 = .ok (.iload_n 1, 1)) rfl) (sb_cons (sd_iload_n (by decide +kernel : decode cX7_delayIfSlow 16 = .ok (.iload_n 2, 1)) rfl) (sb_cons (sd_callv (n := 2) (met_X2_setRunning l) (by decide) (by decide) wm_210 wm_207 wm_3 ⟨by decide +kernel, by decide +kernel, by decide +kernel⟩ kl_2 wm_208 wm_209 (by decide +kernel : decode cX7_delayIfSlow 17 = .ok (.invokevirtual 91, 3))) (sb_cons (sd_istore_n (by decide +kernel : decode cX7_delayIfSlow 20 = .ok (.istore_n 3, 1)) rfl) (sb_cons (sd_iload_n (by decide +kernel : decode cX7_delayIfSlow 21 = .ok (.iload_n 3, 1)) rfl) (sb_cons (sd_ge0 (by decide +kernel : decode cX7_delayIfSlow 22 = .ok (.ifCond .ge 7, 3)) (by decide)) (sb_cons (sd_iload_n (by decide +kernel : decode cX7_delayIfSlow 25 = .ok (.iload_n 3, 1)) rfl) (sb_cons (sd_goto (x := 0) (by decide +kernel : decode cX7_delayIfSlow 26 = .ok (.goto 7, 3)) (by decide)) sb_nil))))))))))))))
set_option maxRecDepth 100000 in
theorem sb_X7_delayIfSlow_29 (l : Launch) : sm_SndB l RX7 "delayIfSlow" cX7_delayIfSlow 4 1 7 29 [oA 0, oCv 7 12 p_X7_trialDelay f_X7_trialDelay 0 0 1, oGo 33] := sb_cons (sd_aload_n (by decide +kernel : decode cX7_delayIfSlow 29 = .ok (.aload_n 0, 1)) rfl) (sb_cons (sd_callv (n := 0) (met_X7_trialDelay l) (by decide) (by decide) wm_519 wm_517 wm_1 ⟨by decide +kernel, by decide +kernel, by decide +kernel⟩ kl_7 wm_518 wm_1093 (by decide +kernel : decode cX7_delayIfSlow 30 = .ok (.invokevirtual 199, 3))) (sb_cons (sd_fall (x := 0)) sb_nil))
set_option maxRecDepth 100000 in
theorem sb_X7_delayIfSlow_33 (l : Launch) : sm_SndB l RX7 "delayIfSlow" cX7_delayIfSlow 4 1 7 33 [oIr] := sb_cons (sd_ireturn (x := 0) rfl (by decide +kernel : decode cX7_delayIfSlow 33 = .ok (.ireturn, 1))) sb_nil
theorem sn_X7_delayIfSlow (l : Launch) : sm_SndT l RX7 "delayIfSlow" cX7_delayIfSlow 4 1 7 tb_X7_delayIfSlow := st_cons (sb_X7_delayIfSlow_0 l) (st_cons (sb_X7_delayIfSlow_29 l) (st_cons (sb_X7_delayIfSlow_33 l) (st_nil)))
set_option maxRecDepth 100000 in
set_option maxHeartbeats 4000000 in
theorem ok_X7_delayIfSlow : sm_Ok tb_X7_delayIfSlow 4 0 0 p_X7_delayIfSlow f_X7_delayIfSlow := by
  intro as w hp ha hw
  match as, hp with
  | [.inr (.inl o), .inl s, .inl v], hp =>
  refine ⟨Nat.le_of_ble_eq_true rfl, fun Z hZ => ?_⟩
  obtain ⟨rfl, hC⟩ := hp
  have hT := hC.1.1
  obtain ⟨h1, h2, h3, h4, h5, h6⟩ := cT_in hC.1
  have hTe : cpL 35 2 w = cT w := rfl
  have hTLe : wsI (cT w) 37 s v = cTS w s v := rfl
  by_cases c : 0 ≤ s ∧ s ≤ 6
  · by_cases c2 : 1 ≤ v ∧ v ≤ 30
    · have hok := cTS_ok hC.1 c c2
      have hTo := hok.2.1
      have hr : 1 ≤ wI (cT w) 37 s ∧ wI (cT w) 37 s ≤ 30 := lOK_r h2 c.1 (by omega)
      generalize hTL : cTS w s v = TL at *
      generalize hTT : cT w = T at *
      refine hZ (fun _ => false) 16 0 _ _ _ _ _ ?_
      simp only [sm_run, sm_blk, sm_get, sm_ent, sm_ents, sm_wds, sm_wd, sm_nl, sm_pop, sm_back, sm_cases, oK, oLK, oL, oI, oA, oJ, oIs, oAs, oJs, oInc, oAdd, oSub, oMul, oDiv, oRem, oNeg, oAnd, oAndB, oOr, oShl, oI2c, oI2l, oL2i, oLand, oLor, oLshl, oLshr, oLushr, oLcmp, oDup, oDup2, oPop, oGo, oFg, oEq, oNe, oLt, oGe, oGt, oLe, oEq0, oNe0, oLt0, oGe0, oGt0, oLe0, oSw, oGi, oGr, oPi, oPz, oPr, oLen, oIl, oZl, oCl, oRl, oIst, oZst, oCst, oRst, oCopy, oNew, oNa, oNa2, oObj, oCs, oCv, oCi, oIr, oZr, oVr, Nat.beq, List.getElem?_cons_zero, List.getElem?_cons_succ, List.set_cons_zero, List.set_cons_succ, List.length_cons, List.length_nil, List.nil_append, List.cons_append, List.append_nil, List.replicate_succ, List.replicate_zero, Nat.reduceAdd, Nat.reduceSub, Nat.reduceLT, Nat.reduceLeDiff, Nat.reduceBEq, true_and, and_true, Nat.zero_add, Nat.add_zero, Nat.le_refl, Option.some.injEq, exists_eq_left', true_or, or_true, or_false, false_or, reduceCtorEq, Prod.mk.injEq, Sum.inl.injEq, and_self, false_and, and_false, not_true_eq_false, not_false_eq_true, false_implies, true_implies, sm_r, Int.add_zero, Int.zero_add, wI_wsI, wS_wsI, wR_wsI, wI_wCp, wS_wCp, wR_wCp, Nat.reduceEqDiff, reduceIte, sT_iff, sT_iffC, wIf_ne, ne_eq, Bool.false_or, Bool.true_or, Bool.or_false, Bool.or_true, Bool.or_self, Nat.left_eq_add, Nat.add_eq_left, Nat.add_left_inj, oMax, oMin, oAbs, tb_X7_delayIfSlow, p_X2_copyFrom, p_X2_setRunning, p_X7_trialDelay, f_X2_copyFrom, f_X2_setRunning, f_X7_trialDelay, p_X7_delayIfSlow, f_X7_delayIfSlow, sS_0 hT, sR_0_3 hT, sR_0_1 hT, wS35 hT, hT, is35, is2, hTe, sS_0 h1, sR_0_3 h1, wS35 h1, h1, hTT, hTLe, hTL, hok, sS_0 hTo, Nat.reduceAdd, if_pos c, if_pos c2]
      repeat' (first | exact True.intro | with_reducible assumption | with_reducible refine And.intro ?_ ?_ | intro _)
      all_goals first
        | omega
        | assumption
        | rfl
        | (split <;> omega)
        | grind
        | skip
    · generalize hTT : cT w = T at *
      refine hZ (fun _ => false) 16 0 _ _ _ _ _ ?_
      simp only [sm_run, sm_blk, sm_get, sm_ent, sm_ents, sm_wds, sm_wd, sm_nl, sm_pop, sm_back, sm_cases, oK, oLK, oL, oI, oA, oJ, oIs, oAs, oJs, oInc, oAdd, oSub, oMul, oDiv, oRem, oNeg, oAnd, oAndB, oOr, oShl, oI2c, oI2l, oL2i, oLand, oLor, oLshl, oLshr, oLushr, oLcmp, oDup, oDup2, oPop, oGo, oFg, oEq, oNe, oLt, oGe, oGt, oLe, oEq0, oNe0, oLt0, oGe0, oGt0, oLe0, oSw, oGi, oGr, oPi, oPz, oPr, oLen, oIl, oZl, oCl, oRl, oIst, oZst, oCst, oRst, oCopy, oNew, oNa, oNa2, oObj, oCs, oCv, oCi, oIr, oZr, oVr, Nat.beq, List.getElem?_cons_zero, List.getElem?_cons_succ, List.set_cons_zero, List.set_cons_succ, List.length_cons, List.length_nil, List.nil_append, List.cons_append, List.append_nil, List.replicate_succ, List.replicate_zero, Nat.reduceAdd, Nat.reduceSub, Nat.reduceLT, Nat.reduceLeDiff, Nat.reduceBEq, true_and, and_true, Nat.zero_add, Nat.add_zero, Nat.le_refl, Option.some.injEq, exists_eq_left', true_or, or_true, or_false, false_or, reduceCtorEq, Prod.mk.injEq, Sum.inl.injEq, and_self, false_and, and_false, not_true_eq_false, not_false_eq_true, false_implies, true_implies, sm_r, Int.add_zero, Int.zero_add, wI_wsI, wS_wsI, wR_wsI, wI_wCp, wS_wCp, wR_wCp, Nat.reduceEqDiff, reduceIte, sT_iff, sT_iffC, wIf_ne, ne_eq, Bool.false_or, Bool.true_or, Bool.or_false, Bool.or_true, Bool.or_self, Nat.left_eq_add, Nat.add_eq_left, Nat.add_left_inj, oMax, oMin, oAbs, tb_X7_delayIfSlow, p_X2_copyFrom, p_X2_setRunning, p_X7_trialDelay, f_X2_copyFrom, f_X2_setRunning, f_X7_trialDelay, p_X7_delayIfSlow, f_X7_delayIfSlow, sS_0 hT, sR_0_3 hT, sR_0_1 hT, wS35 hT, hT, is35, is2, hTe, sS_0 h1, sR_0_3 h1, wS35 h1, h1, hTT, Nat.reduceAdd, if_pos c, if_neg c2]
      repeat' (first | exact True.intro | with_reducible assumption | with_reducible refine And.intro ?_ ?_ | intro _)
      all_goals first
        | omega
        | assumption
        | rfl
        | (split <;> omega)
        | grind
        | skip
  · generalize hTT : cT w = T at *
    refine hZ (fun _ => false) 16 0 _ _ _ _ _ ?_
    simp only [sm_run, sm_blk, sm_get, sm_ent, sm_ents, sm_wds, sm_wd, sm_nl, sm_pop, sm_back, sm_cases, oK, oLK, oL, oI, oA, oJ, oIs, oAs, oJs, oInc, oAdd, oSub, oMul, oDiv, oRem, oNeg, oAnd, oAndB, oOr, oShl, oI2c, oI2l, oL2i, oLand, oLor, oLshl, oLshr, oLushr, oLcmp, oDup, oDup2, oPop, oGo, oFg, oEq, oNe, oLt, oGe, oGt, oLe, oEq0, oNe0, oLt0, oGe0, oGt0, oLe0, oSw, oGi, oGr, oPi, oPz, oPr, oLen, oIl, oZl, oCl, oRl, oIst, oZst, oCst, oRst, oCopy, oNew, oNa, oNa2, oObj, oCs, oCv, oCi, oIr, oZr, oVr, Nat.beq, List.getElem?_cons_zero, List.getElem?_cons_succ, List.set_cons_zero, List.set_cons_succ, List.length_cons, List.length_nil, List.nil_append, List.cons_append, List.append_nil, List.replicate_succ, List.replicate_zero, Nat.reduceAdd, Nat.reduceSub, Nat.reduceLT, Nat.reduceLeDiff, Nat.reduceBEq, true_and, and_true, Nat.zero_add, Nat.add_zero, Nat.le_refl, Option.some.injEq, exists_eq_left', true_or, or_true, or_false, false_or, reduceCtorEq, Prod.mk.injEq, Sum.inl.injEq, and_self, false_and, and_false, not_true_eq_false, not_false_eq_true, false_implies, true_implies, sm_r, Int.add_zero, Int.zero_add, wI_wsI, wS_wsI, wR_wsI, wI_wCp, wS_wCp, wR_wCp, Nat.reduceEqDiff, reduceIte, sT_iff, sT_iffC, wIf_ne, ne_eq, Bool.false_or, Bool.true_or, Bool.or_false, Bool.or_true, Bool.or_self, Nat.left_eq_add, Nat.add_eq_left, Nat.add_left_inj, oMax, oMin, oAbs, tb_X7_delayIfSlow, p_X2_copyFrom, p_X2_setRunning, p_X7_trialDelay, f_X2_copyFrom, f_X2_setRunning, f_X7_trialDelay, p_X7_delayIfSlow, f_X7_delayIfSlow, sS_0 hT, sR_0_3 hT, sR_0_1 hT, wS35 hT, hT, is35, is2, hTe, sS_0 h1, sR_0_3 h1, wS35 h1, h1, hTT, Nat.reduceAdd, if_neg c]
    repeat' (first | exact True.intro | with_reducible assumption | with_reducible refine And.intro ?_ ?_ | intro _)
    all_goals first
      | omega
      | assumption
      | rfl
      | (split <;> omega)
      | grind
      | skip
theorem met_X7_delayIfSlow (l : Launch) : sm_Met l yX7_delayIfSlow cX7_delayIfSlow 4 (some .int) 7 0 0 p_X7_delayIfSlow f_X7_delayIfSlow := sm_met 1 (Or.inr (Or.inl ⟨rfl, rfl⟩)) (by decide +kernel) (sn_X7_delayIfSlow l) ok_X7_delayIfSlow
def bTB (s D : Int) (b : Int × Int) : Int × Int := if D < 0 then b else (if b.2 < 0 then (s, D) else (if D < b.2 then (s, D) else b))
def bTU (r : sm_W) (s : Int) : sm_W := wsI (cT r) 36 s (wI (cT r) 3 s + 1)
def bT1 (s : Int) (r : sm_W × Int × Int) : sm_W × Int × Int := if wI (cT r.1) 3 s + 1 ≤ 4 then (xRun 34 (bTU r.1 s), bTB s (xDl (xRun 34 (bTU r.1 s)) 34) r.2) else (cT r.1, r.2)
def bT (w : sm_W) : Int → sm_W × Int × Int := itI bT1 (w, -6, -6)
theorem bTU_ok {r : sm_W} {s : Int} (h : lOK r 2) (s0 : 0 ≤ s) (s1 : s < 8) (hq : wI (cT r) 3 s + 1 ≤ 4) : dOK (bTU r s) 34 := by
  obtain ⟨h1, h2, h3, h4, h5, h6⟩ := cT_in h
  have ht : 1 ≤ wI (cT r) 3 s ∧ wI (cT r) 3 s ≤ 4 := lOK_t h5 s0 s1
  refine ⟨Or.inr rfl, lOK_st h2 (sT_wsI h1) ?_⟩
  have e : vL (bTU r s) 35 = updI (vL (cT r) 35) (2 + s) (wI (cT r) 3 s + 1) := vL_u1 (cT r) 35 _ s0 s1
  rw [e]
  exact vOK_updI h2.2.2 (Or.inr (Or.inl (by omega)))
theorem bT1_ok {r : sm_W × Int × Int} {s : Int} (h : lOK r.1 2) (s0 : 0 ≤ s) (s1 : s < 8) : lOK (bT1 s r).1 2 ∧ vL (bT1 s r).1 2 = vL r.1 2 := by
  obtain ⟨h1, h2, h3, h4, h5, h6⟩ := cT_in h
  unfold bT1
  split
  · next c =>
    have hU := bTU_ok h s0 s1 c
    have a := lOK_o (u := bTU r.1 s) (S := sLn 35) h5 ((sFr.refl _).st ⟨by decide, by decide⟩) (fun k i v hk hs => by unfold sLn at hs; omega)
    have b := lOK_o a.1 (xRun_fr hU).1 (fun k i v hk hs => by unfold sDy at hs; omega)
    exact ⟨b.1, b.2.trans (a.2.trans h6)⟩
  · exact ⟨h5, h6⟩
theorem bT_ok {w : sm_W} (h : lOK w 2) (n : Int) (n0 : 0 ≤ n) (n1 : n ≤ 8) : lOK (bT w n).1 2 ∧ vL (bT w n).1 2 = vL w 2 := by
  refine itI_ind (f := bT1) (fun _ r => lOK r.1 2 ∧ vL r.1 2 = vL w 2) n ⟨h, rfl⟩ (fun i r i0 i1 hr => ?_) n n0 (Int.le_refl _)
  have := bT1_ok hr.1 i0 (by omega)
  exact ⟨this.1, this.2.trans hr.2⟩
def p_X7_bestTrack : List sm_V → sm_W → Prop
  | [.inr (.inl o), .inl k], w => o = 0 ∧ cOK w
  | _, _ => False
def f_X7_bestTrack : sm_F
  | [.inr (.inl o), .inl k], w => (some (.inl (if k = 0 then (bT w 8).2.1 else (if k = 1 then (bT w 8).2.2 else -2))), (if k = 0 then (bT w 8).1 else (if k = 1 then (bT w 8).1 else w)))
  | _, w => (none, w)
def tb_X7_bestTrack : List (Nat × List sm_O) := [(0, [oI 1, oEq0 12, oI 1, oK 1, oEq 12, oK (-2), oIr]),
  (12, [oK (-6), oIs 2, oK (-6), oIs 3, oK 0, oIs 4, oFg 5, oFg 6, oGo 21]),
  (21, [oI 4, oK 8, oGe 105, oA 0, oGr 7 12 3, oA 0, oGr 7 12 1, oCv 2 9 p_X2_copyFrom f_X2_copyFrom 0 0 2, oA 0, oGr 7 12 3, oI 4, oA 0, oGr 7 12 1, oGr 2 9 0, oI 4, oIl, oK 1, oAdd, oCv 2 9 p_X2_setTracks f_X2_setTracks 0 0 3, oIs 5, oI 5, oGe0 72, oK (-6), oGo 76]),
  (72, [oA 0, oCv 7 12 p_X7_trialDelay f_X7_trialDelay 0 0 1, oGo 76]),
  (76, [oIs 6, oI 6, oLt0 99, oI 3, oLt0 93, oI 6, oI 3, oGe 99, oGo 93]),
  (93, [oI 4, oIs 2, oI 6, oIs 3, oGo 99]),
  (99, [oInc 4 1, oFg 5, oFg 6, oGo 21]),
  (105, [oI 1, oNe0 113, oI 2, oGo 114]),
  (113, [oI 3, oGo 114]),
  (114, [oIr])]
set_option maxRecDepth 100000 in
theorem sb_X7_bestTrack_0 (l : Launch) : sm_SndB l RX7 "bestTrack" cX7_bestTrack 7 1 7 0 [oI 1, oEq0 12, oI 1, oK 1, oEq 12, oK (-2), oIr] := sb_cons (sd_iload_n (by decide +kernel : decode cX7_bestTrack 0 = .ok (.iload_n 1, 1)) rfl) (sb_cons (sd_eq0 (by decide +kernel : decode cX7_bestTrack 1 = .ok (.ifCond .eq 11, 3)) (by decide)) (sb_cons (sd_iload_n (by decide +kernel : decode cX7_bestTrack 4 = .ok (.iload_n 1, 1)) rfl) (sb_cons (sd_iconst (by decide +kernel : decode cX7_bestTrack 5 = .ok (.iconst 1, 1)) ⟨by decide, by decide⟩) (sb_cons (sd_eq (by decide +kernel : decode cX7_bestTrack 6 = .ok (.if_icmp .eq 6, 3)) (by decide)) (sb_cons (sd_bipush (by decide +kernel : decode cX7_bestTrack 9 = .ok (.bipush (-2), 2)) ⟨by decide, by decide⟩ (by decide)) (sb_cons (sd_ireturn (x := 0) rfl (by decide +kernel : decode cX7_bestTrack 11 = .ok (.ireturn, 1))) sb_nil))))))
set_option maxRecDepth 100000 in
theorem sb_X7_bestTrack_12 (l : Launch) : sm_SndB l RX7 "bestTrack" cX7_bestTrack 7 1 7 12 [oK (-6), oIs 2, oK (-6), oIs 3, oK 0, oIs 4, oFg 5, oFg 6, oGo 21] := sb_cons (sd_bipush (by decide +kernel : decode cX7_bestTrack 12 = .ok (.bipush (-6), 2)) ⟨by decide, by decide⟩ (by decide)) (sb_cons (sd_istore_n (by decide +kernel : decode cX7_bestTrack 14 = .ok (.istore_n 2, 1)) rfl) (sb_cons (sd_bipush (by decide +kernel : decode cX7_bestTrack 15 = .ok (.bipush (-6), 2)) ⟨by decide, by decide⟩ (by decide)) (sb_cons (sd_istore_n (by decide +kernel : decode cX7_bestTrack 17 = .ok (.istore_n 3, 1)) rfl) (sb_cons (sd_iconst (by decide +kernel : decode cX7_bestTrack 18 = .ok (.iconst 0, 1)) ⟨by decide, by decide⟩) (sb_cons (sd_istore (by decide +kernel : decode cX7_bestTrack 19 = .ok (.istore 4, 2))) (sb_cons (sd_fg) (sb_cons (sd_fg) (sb_cons (sd_fall (x := 0)) sb_nil))))))))
set_option maxRecDepth 100000 in
theorem sb_X7_bestTrack_21 (l : Launch) : sm_SndB l RX7 "bestTrack" cX7_bestTrack 7 1 7 21 [oI 4, oK 8, oGe 105, oA 0, oGr 7 12 3, oA 0, oGr 7 12 1, oCv 2 9 p_X2_copyFrom f_X2_copyFrom 0 0 2, oA 0, oGr 7 12 3, oI 4, oA 0, oGr 7 12 1, oGr 2 9 0, oI 4, oIl, oK 1, oAdd, oCv 2 9 p_X2_setTracks f_X2_setTracks 0 0 3, oIs 5, oI 5, oGe0 72, oK (-6), oGo 76] := sb_cons (sd_iload (by decide +kernel : decode cX7_bestTrack 21 = .ok (.iload 4, 2))) (sb_cons (sd_bipush (by decide +kernel : decode cX7_bestTrack 23 = .ok (.bipush 8, 2)) ⟨by decide, by decide⟩ (by decide)) (sb_cons (sd_ge (by decide +kernel : decode cX7_bestTrack 25 = .ok (.if_icmp .ge 80, 3)) (by decide)) (sb_cons (sd_aload_n (by decide +kernel : decode cX7_bestTrack 28 = .ok (.aload_n 0, 1)) rfl) (sb_cons (sd_getr (k := 3) kl_7 (by decide) rfl wm_148 (by decide +kernel : decode cX7_bestTrack 29 = .ok (.getfield 24, 3))) (sb_cons (sd_aload_n (by decide +kernel : decode cX7_bestTrack 32 = .ok (.aload_n 0, 1)) rfl) (sb_cons (sd_getr (k := 1) kl_7 (by decide) rfl wm_146 (by decide +kernel : decode cX7_bestTrack 33 = .ok (.getfield 20, 3))) (sb_cons (sd_callv (n := 1) (met_X2_copyFrom l) (by decide) (by decide) wm_165 wm_162 wm_3 ⟨by decide +kernel, by decide +kernel, by decide +kernel⟩ kl_2 wm_163 wm_164 (by decide +kernel : decode cX7_bestTrack 36 = .ok (.invokevirtual 76, 3))) (sb_cons (sd_aload_n (by decide +kernel : decode cX7_bestTrack 39 = .ok (.aload_n 0, 1)) rfl) (sb_cons (sd_getr (k := 3) kl_7 (by decide) rfl wm_148 (by decide +kernel : decode cX7_bestTrack 40 = .ok (.getfield 24, 3))) (sb_cons (sd_iload (by decide +kernel : decode cX7_bestTrack 43 = .ok (.iload 4, 2))) (sb_cons (sd_aload_n (by decide +kernel : decode cX7_bestTrack 45 = .ok (.aload_n 0, 1)) rfl) (sb_cons (sd_getr (k := 1) kl_7 (by decide) rfl wm_146 (by decide +kernel : decode cX7_bestTrack 46 = .ok (.getfield 20, 3))) (sb_cons (sd_getr (k := 0) kl_2 (by decide) rfl wm_41 (by decide +kernel : decode cX7_bestTrack 49 = .ok (.getfield 153, 3))) (sb_cons (sd_iload (by decide +kernel : decode cX7_bestTrack 52 = .ok (.iload 4, 2))) (sb_cons (sd_iaload (by decide +kernel : decode cX7_bestTrack 54 = .ok (.iaload, 1))) (sb_cons (sd_iconst (by decide +kernel : decode cX7_bestTrack 55 = .ok (.iconst 1, 1)) ⟨by decide, by decide⟩) (sb_cons (sd_iadd (by decide +kernel : decode cX7_bestTrack 56 = .ok (.iadd, 1))) (sb_cons (sd_callv (n := 2) (met_X2_setTracks l) (by decide) (by decide) wm_197 wm_194 wm_3 ⟨by decide +kernel, by decide +kernel, by decide +kernel⟩ kl_2 wm_195 wm_196 (by decide +kernel : decode cX7_bestTrack 57 = .ok (.invokevirtual 87, 3))) (sb_cons (sd_istore (by decide +kernel : decode cX7_bestTrack 60 = .ok (.istore 5, 2))) (sb_cons (sd_iload (by decide +kernel : decode cX7_bestTrack 62 = .ok (.iload 5, 2))) (sb_cons (sd_ge0 (by decide +kernel : decode cX7_bestTrack 64 = .ok (.ifCond .ge 8, 3)) (by decide)) (sb_cons (sd_bipush (by decide +kernel : decode cX7_bestTrack 67 = .ok (.bipush (-6), 2)) ⟨by decide, by decide⟩ (by decide)) (sb_cons (sd_goto (x := 0) (by decide +kernel : decode cX7_bestTrack 69 = .ok (.goto 7, 3)) (by decide)) sb_nil)))))))))))))))))))))))
set_option maxRecDepth 100000 in
theorem sb_X7_bestTrack_72 (l : Launch) : sm_SndB l RX7 "bestTrack" cX7_bestTrack 7 1 7 72 [oA 0, oCv 7 12 p_X7_trialDelay f_X7_trialDelay 0 0 1, oGo 76] := sb_cons (sd_aload_n (by decide +kernel : decode cX7_bestTrack 72 = .ok (.aload_n 0, 1)) rfl) (sb_cons (sd_callv (n := 0) (met_X7_trialDelay l) (by decide) (by decide) wm_519 wm_517 wm_1 ⟨by decide +kernel, by decide +kernel, by decide +kernel⟩ kl_7 wm_518 wm_1093 (by decide +kernel : decode cX7_bestTrack 73 = .ok (.invokevirtual 199, 3))) (sb_cons (sd_fall (x := 0)) sb_nil))
set_option maxRecDepth 100000 in
theorem sb_X7_bestTrack_76 (l : Launch) : sm_SndB l RX7 "bestTrack" cX7_bestTrack 7 1 7 76 [oIs 6, oI 6, oLt0 99, oI 3, oLt0 93, oI 6, oI 3, oGe 99, oGo 93] := sb_cons (sd_istore (by decide +kernel : decode cX7_bestTrack 76 = .ok (.istore 6, 2))) (sb_cons (sd_iload (by decide +kernel : decode cX7_bestTrack 78 = .ok (.iload 6, 2))) (sb_cons (sd_lt0 (by decide +kernel : decode cX7_bestTrack 80 = .ok (.ifCond .lt 19, 3)) (by decide)) (sb_cons (sd_iload_n (by decide +kernel : decode cX7_bestTrack 83 = .ok (.iload_n 3, 1)) rfl) (sb_cons (sd_lt0 (by decide +kernel : decode cX7_bestTrack 84 = .ok (.ifCond .lt 9, 3)) (by decide)) (sb_cons (sd_iload (by decide +kernel : decode cX7_bestTrack 87 = .ok (.iload 6, 2))) (sb_cons (sd_iload_n (by decide +kernel : decode cX7_bestTrack 89 = .ok (.iload_n 3, 1)) rfl) (sb_cons (sd_ge (by decide +kernel : decode cX7_bestTrack 90 = .ok (.if_icmp .ge 9, 3)) (by decide)) (sb_cons (sd_fall (x := 0)) sb_nil))))))))
set_option maxRecDepth 100000 in
theorem sb_X7_bestTrack_93 (l : Launch) : sm_SndB l RX7 "bestTrack" cX7_bestTrack 7 1 7 93 [oI 4, oIs 2, oI 6, oIs 3, oGo 99] := sb_cons (sd_iload (by decide +kernel : decode cX7_bestTrack 93 = .ok (.iload 4, 2))) (sb_cons (sd_istore_n (by decide +kernel : decode cX7_bestTrack 95 = .ok (.istore_n 2, 1)) rfl) (sb_cons (sd_iload (by decide +kernel : decode cX7_bestTrack 96 = .ok (.iload 6, 2))) (sb_cons (sd_istore_n (by decide +kernel : decode cX7_bestTrack 98 = .ok (.istore_n 3, 1)) rfl) (sb_cons (sd_fall (x := 0)) sb_nil))))
set_option maxRecDepth 100000 in
theorem sb_X7_bestTrack_99 (l : Launch) : sm_SndB l RX7 "bestTrack" cX7_bestTrack 7 1 7 99 [oInc 4 1, oFg 5, oFg 6, oGo 21] := sb_cons (sd_iinc (by decide +kernel : decode cX7_bestTrack 99 = .ok (.iinc 4 1, 3))) (sb_cons (sd_fg) (sb_cons (sd_fg) (sb_cons (sd_goto (x := 0) (by decide +kernel : decode cX7_bestTrack 102 = .ok (.goto (-81), 3)) (by decide)) sb_nil)))
set_option maxRecDepth 100000 in
theorem sb_X7_bestTrack_105 (l : Launch) : sm_SndB l RX7 "bestTrack" cX7_bestTrack 7 1 7 105 [oI 1, oNe0 113, oI 2, oGo 114] := sb_cons (sd_iload_n (by decide +kernel : decode cX7_bestTrack 105 = .ok (.iload_n 1, 1)) rfl) (sb_cons (sd_ne0 (by decide +kernel : decode cX7_bestTrack 106 = .ok (.ifCond .ne 7, 3)) (by decide)) (sb_cons (sd_iload_n (by decide +kernel : decode cX7_bestTrack 109 = .ok (.iload_n 2, 1)) rfl) (sb_cons (sd_goto (x := 0) (by decide +kernel : decode cX7_bestTrack 110 = .ok (.goto 4, 3)) (by decide)) sb_nil)))
set_option maxRecDepth 100000 in
theorem sb_X7_bestTrack_113 (l : Launch) : sm_SndB l RX7 "bestTrack" cX7_bestTrack 7 1 7 113 [oI 3, oGo 114] := sb_cons (sd_iload_n (by decide +kernel : decode cX7_bestTrack 113 = .ok (.iload_n 3, 1)) rfl) (sb_cons (sd_fall (x := 0)) sb_nil)
set_option maxRecDepth 100000 in
theorem sb_X7_bestTrack_114 (l : Launch) : sm_SndB l RX7 "bestTrack" cX7_bestTrack 7 1 7 114 [oIr] := sb_cons (sd_ireturn (x := 0) rfl (by decide +kernel : decode cX7_bestTrack 114 = .ok (.ireturn, 1))) sb_nil
theorem sn_X7_bestTrack (l : Launch) : sm_SndT l RX7 "bestTrack" cX7_bestTrack 7 1 7 tb_X7_bestTrack := st_cons (sb_X7_bestTrack_0 l) (st_cons (sb_X7_bestTrack_12 l) (st_cons (sb_X7_bestTrack_21 l) (st_cons (sb_X7_bestTrack_72 l) (st_cons (sb_X7_bestTrack_76 l) (st_cons (sb_X7_bestTrack_93 l) (st_cons (sb_X7_bestTrack_99 l) (st_cons (sb_X7_bestTrack_105 l) (st_cons (sb_X7_bestTrack_113 l) (st_cons (sb_X7_bestTrack_114 l) (st_nil))))))))))
set_option maxRecDepth 100000 in
set_option maxHeartbeats 4000000 in
theorem ok_X7_bestTrack : sm_Ok tb_X7_bestTrack 7 0 0 p_X7_bestTrack f_X7_bestTrack := by
  intro as w hp ha hw
  match as, hp with
  | [.inr (.inl o), .inl k], hp =>
  refine ⟨Nat.le_of_ble_eq_true rfl, fun Z hZ => ?_⟩
  obtain ⟨rfl, hC⟩ := hp
  have hT := hC.1.1
  by_cases hk : k = 0 ∨ k = 1
  · have hF : Z 105 [some (.inr (.inl 0)), some (.inl k), some (.inl (bT w 8).2.1), some (.inl (bT w 8).2.2), some (.inl 8), none, none] [] (bT w 8).1 0 0 := by
      generalize hE : bT w 8 = E at *
      rcases hk with rfl | rfl
      · skip
        refine hZ (fun u => Nat.beq u 105) 14 105 _ _ _ _ _ ?_
        simp only [sm_run, sm_blk, sm_get, sm_ent, sm_ents, sm_wds, sm_wd, sm_nl, sm_pop, sm_back, sm_cases, oK, oLK, oL, oI, oA, oJ, oIs, oAs, oJs, oInc, oAdd, oSub, oMul, oDiv, oRem, oNeg, oAnd, oAndB, oOr, oShl, oI2c, oI2l, oL2i, oLand, oLor, oLshl, oLshr, oLushr, oLcmp, oDup, oDup2, oPop, oGo, oFg, oEq, oNe, oLt, oGe, oGt, oLe, oEq0, oNe0, oLt0, oGe0, oGt0, oLe0, oSw, oGi, oGr, oPi, oPz, oPr, oLen, oIl, oZl, oCl, oRl, oIst, oZst, oCst, oRst, oCopy, oNew, oNa, oNa2, oObj, oCs, oCv, oCi, oIr, oZr, oVr, Nat.beq, List.getElem?_cons_zero, List.getElem?_cons_succ, List.set_cons_zero, List.set_cons_succ, List.length_cons, List.length_nil, List.nil_append, List.cons_append, List.append_nil, List.replicate_succ, List.replicate_zero, Nat.reduceAdd, Nat.reduceSub, Nat.reduceLT, Nat.reduceLeDiff, Nat.reduceBEq, true_and, and_true, Nat.zero_add, Nat.add_zero, Nat.le_refl, Option.some.injEq, exists_eq_left', true_or, or_true, or_false, false_or, reduceCtorEq, Prod.mk.injEq, Sum.inl.injEq, and_self, false_and, and_false, not_true_eq_false, not_false_eq_true, false_implies, true_implies, sm_r, Int.add_zero, Int.zero_add, wI_wsI, wS_wsI, wR_wsI, wI_wCp, wS_wCp, wR_wCp, Nat.reduceEqDiff, reduceIte, sT_iff, sT_iffC, wIf_ne, ne_eq, Bool.false_or, Bool.true_or, Bool.or_false, Bool.or_true, Bool.or_self, Nat.left_eq_add, Nat.add_eq_left, Nat.add_left_inj, oMax, oMin, oAbs, tb_X7_bestTrack, p_X2_copyFrom, p_X2_setTracks, p_X7_trialDelay, f_X2_copyFrom, f_X2_setTracks, f_X7_trialDelay, p_X7_bestTrack, f_X7_bestTrack, hE]
        repeat' (first | exact True.intro | with_reducible assumption | with_reducible refine And.intro ?_ ?_ | intro _)
        all_goals first
          | omega
          | assumption
          | rfl
          | (split <;> omega)
          | (have k9 := ih (by omega)
             (repeat' split at k9) <;> first | exact k9 | omega)
          | (have k9 := ih2 (by omega)
             (repeat' split at k9) <;> first | exact k9 | omega)
          | exact he (by omega)
          | ((with_reducible congr 1) <;> omega)
          | (rw [if_pos (by omega)] at he; exact he)
          | exact hD1 (by omega)
          | exact hD2 (by omega)
          | grind
          | skip
      · skip
        refine hZ (fun u => Nat.beq u 105) 14 105 _ _ _ _ _ ?_
        simp only [sm_run, sm_blk, sm_get, sm_ent, sm_ents, sm_wds, sm_wd, sm_nl, sm_pop, sm_back, sm_cases, oK, oLK, oL, oI, oA, oJ, oIs, oAs, oJs, oInc, oAdd, oSub, oMul, oDiv, oRem, oNeg, oAnd, oAndB, oOr, oShl, oI2c, oI2l, oL2i, oLand, oLor, oLshl, oLshr, oLushr, oLcmp, oDup, oDup2, oPop, oGo, oFg, oEq, oNe, oLt, oGe, oGt, oLe, oEq0, oNe0, oLt0, oGe0, oGt0, oLe0, oSw, oGi, oGr, oPi, oPz, oPr, oLen, oIl, oZl, oCl, oRl, oIst, oZst, oCst, oRst, oCopy, oNew, oNa, oNa2, oObj, oCs, oCv, oCi, oIr, oZr, oVr, Nat.beq, List.getElem?_cons_zero, List.getElem?_cons_succ, List.set_cons_zero, List.set_cons_succ, List.length_cons, List.length_nil, List.nil_append, List.cons_append, List.append_nil, List.replicate_succ, List.replicate_zero, Nat.reduceAdd, Nat.reduceSub, Nat.reduceLT, Nat.reduceLeDiff, Nat.reduceBEq, true_and, and_true, Nat.zero_add, Nat.add_zero, Nat.le_refl, Option.some.injEq, exists_eq_left', true_or, or_true, or_false, false_or, reduceCtorEq, Prod.mk.injEq, Sum.inl.injEq, and_self, false_and, and_false, not_true_eq_false, not_false_eq_true, false_implies, true_implies, sm_r, Int.add_zero, Int.zero_add, wI_wsI, wS_wsI, wR_wsI, wI_wCp, wS_wCp, wR_wCp, Nat.reduceEqDiff, reduceIte, sT_iff, sT_iffC, wIf_ne, ne_eq, Bool.false_or, Bool.true_or, Bool.or_false, Bool.or_true, Bool.or_self, Nat.left_eq_add, Nat.add_eq_left, Nat.add_left_inj, oMax, oMin, oAbs, tb_X7_bestTrack, p_X2_copyFrom, p_X2_setTracks, p_X7_trialDelay, f_X2_copyFrom, f_X2_setTracks, f_X7_trialDelay, p_X7_bestTrack, f_X7_bestTrack, hE]
        repeat' (first | exact True.intro | with_reducible assumption | with_reducible refine And.intro ?_ ?_ | intro _)
        all_goals first
          | omega
          | assumption
          | rfl
          | (split <;> omega)
          | (have k9 := ih (by omega)
             (repeat' split at k9) <;> first | exact k9 | omega)
          | (have k9 := ih2 (by omega)
             (repeat' split at k9) <;> first | exact k9 | omega)
          | exact he (by omega)
          | ((with_reducible congr 1) <;> omega)
          | (rw [if_pos (by omega)] at he; exact he)
          | exact hD1 (by omega)
          | exact hD2 (by omega)
          | grind
          | skip
    have hl := sm_loopI Z 21 0 8 (fun i => [some (.inr (.inl 0)), some (.inl k), some (.inl (bT w i).2.1), some (.inl (bT w i).2.2), some (.inl i), none, none]) (fun i => (bT w i).1) 0 0 (by decide) (fun i h0 h1 ih => by
      have hI := bT_ok hC.1 i h0 h1
      have hu : bT w (i + 1) = bT1 i (bT w i) := itI_s _ _ h0
      have he : i = 8 → bT w i = bT w 8 := fun e => by rw [e]
      rw [hu] at ih
      generalize hE : bT w 8 = E at *
      generalize bT w i = r at *
      obtain ⟨u, b, l⟩ := r
      dsimp only at *
      have hTu := hI.1.1
      by_cases e : i = 8
      · subst e
        have he := he rfl
        subst he
        clear ih
        refine hZ (fun u => Nat.beq u 21 || Nat.beq u 105) 14 21 _ _ _ _ _ ?_
        simp only [sm_run, sm_blk, sm_get, sm_ent, sm_ents, sm_wds, sm_wd, sm_nl, sm_pop, sm_back, sm_cases, oK, oLK, oL, oI, oA, oJ, oIs, oAs, oJs, oInc, oAdd, oSub, oMul, oDiv, oRem, oNeg, oAnd, oAndB, oOr, oShl, oI2c, oI2l, oL2i, oLand, oLor, oLshl, oLshr, oLushr, oLcmp, oDup, oDup2, oPop, oGo, oFg, oEq, oNe, oLt, oGe, oGt, oLe, oEq0, oNe0, oLt0, oGe0, oGt0, oLe0, oSw, oGi, oGr, oPi, oPz, oPr, oLen, oIl, oZl, oCl, oRl, oIst, oZst, oCst, oRst, oCopy, oNew, oNa, oNa2, oObj, oCs, oCv, oCi, oIr, oZr, oVr, Nat.beq, List.getElem?_cons_zero, List.getElem?_cons_succ, List.set_cons_zero, List.set_cons_succ, List.length_cons, List.length_nil, List.nil_append, List.cons_append, List.append_nil, List.replicate_succ, List.replicate_zero, Nat.reduceAdd, Nat.reduceSub, Nat.reduceLT, Nat.reduceLeDiff, Nat.reduceBEq, true_and, and_true, Nat.zero_add, Nat.add_zero, Nat.le_refl, Option.some.injEq, exists_eq_left', true_or, or_true, or_false, false_or, reduceCtorEq, Prod.mk.injEq, Sum.inl.injEq, and_self, false_and, and_false, not_true_eq_false, not_false_eq_true, false_implies, true_implies, sm_r, Int.add_zero, Int.zero_add, wI_wsI, wS_wsI, wR_wsI, wI_wCp, wS_wCp, wR_wCp, Nat.reduceEqDiff, reduceIte, sT_iff, sT_iffC, wIf_ne, ne_eq, Bool.false_or, Bool.true_or, Bool.or_false, Bool.or_true, Bool.or_self, Nat.left_eq_add, Nat.add_eq_left, Nat.add_left_inj, oMax, oMin, oAbs, tb_X7_bestTrack, p_X2_copyFrom, p_X2_setTracks, p_X7_trialDelay, f_X2_copyFrom, f_X2_setTracks, f_X7_trialDelay, p_X7_bestTrack, f_X7_bestTrack]
        repeat' (first | exact True.intro | with_reducible assumption | with_reducible refine And.intro ?_ ?_ | intro _)
        all_goals first
          | omega
          | assumption
          | rfl
          | (split <;> omega)
          | (have k9 := ih (by omega)
             (repeat' split at k9) <;> first | exact k9 | omega)
          | (have k9 := ih2 (by omega)
             (repeat' split at k9) <;> first | exact k9 | omega)
          | exact he (by omega)
          | ((with_reducible congr 1) <;> omega)
          | (rw [if_pos (by omega)] at he; exact he)
          | exact hD1 (by omega)
          | exact hD2 (by omega)
          | skip
      · have ih := ih (by omega)
        clear he hF
        have hi8 : i < 8 := by omega
        obtain ⟨h1, h2, h3, h4, h5, h6⟩ := cT_in hI.1
        obtain ⟨l0, l1, l2, l3, l4, l5, l6, l7, r0, r1, r2, r3, r4, r5, r6⟩ := lS h1 is2
        simp only [Nat.reduceAdd] at l1 r0
        have ht : 1 ≤ wI (cT u) 3 i ∧ wI (cT u) 3 i ≤ 4 := lOK_t h5 h0 hi8
        have ht2 : 1 ≤ wI (cT u) 36 i ∧ wI (cT u) 36 i ≤ 4 := lOK_t h2 h0 hi8
        have hTe : cpL 35 2 u = cT u := rfl
        have hUe : wsI (cT u) 36 i (wI (cT u) 3 i + 1) = bTU u i := rfl
        have hi7 : 0 ≤ i ∧ i ≤ 7 := by omega
        by_cases c : wI (cT u) 3 i + 1 ≤ 4
        · have hok := bTU_ok hI.1 h0 hi8 c
          have hTo := hok.2.1
          have hc2 : 1 ≤ wI (cT u) 3 i + 1 ∧ wI (cT u) 3 i + 1 ≤ 4 := by omega
          unfold bT1 at ih
          dsimp only at ih
          rw [if_pos c] at ih
          generalize hUU : bTU u i = U at *
          generalize hXX : xRun 34 U = XR at *
          generalize hDD : xDl XR 34 = D at *
          generalize hTT : cT u = T at *
          unfold bTB at ih
          dsimp only at ih
          by_cases d1 : D < 0
          · simp only [if_pos d1] at ih
            refine hZ (fun u => Nat.beq u 21) 14 21 _ _ _ _ _ ?_
            simp only [sm_run, sm_blk, sm_get, sm_ent, sm_ents, sm_wds, sm_wd, sm_nl, sm_pop, sm_back, sm_cases, oK, oLK, oL, oI, oA, oJ, oIs, oAs, oJs, oInc, oAdd, oSub, oMul, oDiv, oRem, oNeg, oAnd, oAndB, oOr, oShl, oI2c, oI2l, oL2i, oLand, oLor, oLshl, oLshr, oLushr, oLcmp, oDup, oDup2, oPop, oGo, oFg, oEq, oNe, oLt, oGe, oGt, oLe, oEq0, oNe0, oLt0, oGe0, oGt0, oLe0, oSw, oGi, oGr, oPi, oPz, oPr, oLen, oIl, oZl, oCl, oRl, oIst, oZst, oCst, oRst, oCopy, oNew, oNa, oNa2, oObj, oCs, oCv, oCi, oIr, oZr, oVr, Nat.beq, List.getElem?_cons_zero, List.getElem?_cons_succ, List.set_cons_zero, List.set_cons_succ, List.length_cons, List.length_nil, List.nil_append, List.cons_append, List.append_nil, List.replicate_succ, List.replicate_zero, Nat.reduceAdd, Nat.reduceSub, Nat.reduceLT, Nat.reduceLeDiff, Nat.reduceBEq, true_and, and_true, Nat.zero_add, Nat.add_zero, Nat.le_refl, Option.some.injEq, exists_eq_left', true_or, or_true, or_false, false_or, reduceCtorEq, Prod.mk.injEq, Sum.inl.injEq, and_self, false_and, and_false, not_true_eq_false, not_false_eq_true, false_implies, true_implies, sm_r, Int.add_zero, Int.zero_add, wI_wsI, wS_wsI, wR_wsI, wI_wCp, wS_wCp, wR_wCp, Nat.reduceEqDiff, reduceIte, sT_iff, sT_iffC, wIf_ne, ne_eq, Bool.false_or, Bool.true_or, Bool.or_false, Bool.or_true, Bool.or_self, Nat.left_eq_add, Nat.add_eq_left, Nat.add_left_inj, oMax, oMin, oAbs, tb_X7_bestTrack, p_X2_copyFrom, p_X2_setTracks, p_X7_trialDelay, f_X2_copyFrom, f_X2_setTracks, f_X7_trialDelay, p_X7_bestTrack, f_X7_bestTrack, sS_0 hTu, sR_0_3 hTu, sR_0_1 hTu, wS35 hTu, hTu, is35, is2, hTe, sS_0 h1, sR_0_3 h1, sR_0_1 h1, l0, r0, l1, wS35 h1, h1, Nat.reduceAdd, hUe, sS_0 hTo, hok, hXX, hDD, if_pos hi7, if_pos hc2]
            repeat' (first | exact True.intro | with_reducible assumption | with_reducible refine And.intro ?_ ?_ | intro _)
            all_goals first
              | omega
              | assumption
              | rfl
              | (split <;> omega)
              | (have k9 := ih (by omega)
                 (repeat' split at k9) <;> first | exact k9 | omega)
              | (have k9 := ih2 (by omega)
                 (repeat' split at k9) <;> first | exact k9 | omega)
              | exact he (by omega)
              | ((with_reducible congr 1) <;> omega)
              | (rw [if_pos (by omega)] at he; exact he)
              | exact hD1 (by omega)
              | exact hD2 (by omega)
              | grind
              | skip
          · simp only [if_neg d1] at ih
            by_cases d2 : l < 0
            · simp only [if_pos d2] at ih
              refine hZ (fun u => Nat.beq u 21) 14 21 _ _ _ _ _ ?_
              simp only [sm_run, sm_blk, sm_get, sm_ent, sm_ents, sm_wds, sm_wd, sm_nl, sm_pop, sm_back, sm_cases, oK, oLK, oL, oI, oA, oJ, oIs, oAs, oJs, oInc, oAdd, oSub, oMul, oDiv, oRem, oNeg, oAnd, oAndB, oOr, oShl, oI2c, oI2l, oL2i, oLand, oLor, oLshl, oLshr, oLushr, oLcmp, oDup, oDup2, oPop, oGo, oFg, oEq, oNe, oLt, oGe, oGt, oLe, oEq0, oNe0, oLt0, oGe0, oGt0, oLe0, oSw, oGi, oGr, oPi, oPz, oPr, oLen, oIl, oZl, oCl, oRl, oIst, oZst, oCst, oRst, oCopy, oNew, oNa, oNa2, oObj, oCs, oCv, oCi, oIr, oZr, oVr, Nat.beq, List.getElem?_cons_zero, List.getElem?_cons_succ, List.set_cons_zero, List.set_cons_succ, List.length_cons, List.length_nil, List.nil_append, List.cons_append, List.append_nil, List.replicate_succ, List.replicate_zero, Nat.reduceAdd, Nat.reduceSub, Nat.reduceLT, Nat.reduceLeDiff, Nat.reduceBEq, true_and, and_true, Nat.zero_add, Nat.add_zero, Nat.le_refl, Option.some.injEq, exists_eq_left', true_or, or_true, or_false, false_or, reduceCtorEq, Prod.mk.injEq, Sum.inl.injEq, and_self, false_and, and_false, not_true_eq_false, not_false_eq_true, false_implies, true_implies, sm_r, Int.add_zero, Int.zero_add, wI_wsI, wS_wsI, wR_wsI, wI_wCp, wS_wCp, wR_wCp, Nat.reduceEqDiff, reduceIte, sT_iff, sT_iffC, wIf_ne, ne_eq, Bool.false_or, Bool.true_or, Bool.or_false, Bool.or_true, Bool.or_self, Nat.left_eq_add, Nat.add_eq_left, Nat.add_left_inj, oMax, oMin, oAbs, tb_X7_bestTrack, p_X2_copyFrom, p_X2_setTracks, p_X7_trialDelay, f_X2_copyFrom, f_X2_setTracks, f_X7_trialDelay, p_X7_bestTrack, f_X7_bestTrack, sS_0 hTu, sR_0_3 hTu, sR_0_1 hTu, wS35 hTu, hTu, is35, is2, hTe, sS_0 h1, sR_0_3 h1, sR_0_1 h1, l0, r0, l1, wS35 h1, h1, Nat.reduceAdd, hUe, sS_0 hTo, hok, hXX, hDD, if_pos hi7, if_pos hc2]
              repeat' (first | exact True.intro | with_reducible assumption | with_reducible refine And.intro ?_ ?_ | intro _)
              all_goals first
                | omega
                | assumption
                | rfl
                | (split <;> omega)
                | (have k9 := ih (by omega)
                   (repeat' split at k9) <;> first | exact k9 | omega)
                | (have k9 := ih2 (by omega)
                   (repeat' split at k9) <;> first | exact k9 | omega)
                | exact he (by omega)
                | ((with_reducible congr 1) <;> omega)
                | (rw [if_pos (by omega)] at he; exact he)
                | exact hD1 (by omega)
                | exact hD2 (by omega)
                | grind
                | skip
            · simp only [if_neg d2] at ih
              by_cases d3 : D < l
              · simp only [if_pos d3] at ih
                refine hZ (fun u => Nat.beq u 21) 14 21 _ _ _ _ _ ?_
                simp only [sm_run, sm_blk, sm_get, sm_ent, sm_ents, sm_wds, sm_wd, sm_nl, sm_pop, sm_back, sm_cases, oK, oLK, oL, oI, oA, oJ, oIs, oAs, oJs, oInc, oAdd, oSub, oMul, oDiv, oRem, oNeg, oAnd, oAndB, oOr, oShl, oI2c, oI2l, oL2i, oLand, oLor, oLshl, oLshr, oLushr, oLcmp, oDup, oDup2, oPop, oGo, oFg, oEq, oNe, oLt, oGe, oGt, oLe, oEq0, oNe0, oLt0, oGe0, oGt0, oLe0, oSw, oGi, oGr, oPi, oPz, oPr, oLen, oIl, oZl, oCl, oRl, oIst, oZst, oCst, oRst, oCopy, oNew, oNa, oNa2, oObj, oCs, oCv, oCi, oIr, oZr, oVr, Nat.beq, List.getElem?_cons_zero, List.getElem?_cons_succ, List.set_cons_zero, List.set_cons_succ, List.length_cons, List.length_nil, List.nil_append, List.cons_append, List.append_nil, List.replicate_succ, List.replicate_zero, Nat.reduceAdd, Nat.reduceSub, Nat.reduceLT, Nat.reduceLeDiff, Nat.reduceBEq, true_and, and_true, Nat.zero_add, Nat.add_zero, Nat.le_refl, Option.some.injEq, exists_eq_left', true_or, or_true, or_false, false_or, reduceCtorEq, Prod.mk.injEq, Sum.inl.injEq, and_self, false_and, and_false, not_true_eq_false, not_false_eq_true, false_implies, true_implies, sm_r, Int.add_zero, Int.zero_add, wI_wsI, wS_wsI, wR_wsI, wI_wCp, wS_wCp, wR_wCp, Nat.reduceEqDiff, reduceIte, sT_iff, sT_iffC, wIf_ne, ne_eq, Bool.false_or, Bool.true_or, Bool.or_false, Bool.or_true, Bool.or_self, Nat.left_eq_add, Nat.add_eq_left, Nat.add_left_inj, oMax, oMin, oAbs, tb_X7_bestTrack, p_X2_copyFrom, p_X2_setTracks, p_X7_trialDelay, f_X2_copyFrom, f_X2_setTracks, f_X7_trialDelay, p_X7_bestTrack, f_X7_bestTrack, sS_0 hTu, sR_0_3 hTu, sR_0_1 hTu, wS35 hTu, hTu, is35, is2, hTe, sS_0 h1, sR_0_3 h1, sR_0_1 h1, l0, r0, l1, wS35 h1, h1, Nat.reduceAdd, hUe, sS_0 hTo, hok, hXX, hDD, if_pos hi7, if_pos hc2]
                repeat' (first | exact True.intro | with_reducible assumption | with_reducible refine And.intro ?_ ?_ | intro _)
                all_goals first
                  | omega
                  | assumption
                  | rfl
                  | (split <;> omega)
                  | (have k9 := ih (by omega)
                     (repeat' split at k9) <;> first | exact k9 | omega)
                  | (have k9 := ih2 (by omega)
                     (repeat' split at k9) <;> first | exact k9 | omega)
                  | exact he (by omega)
                  | ((with_reducible congr 1) <;> omega)
                  | (rw [if_pos (by omega)] at he; exact he)
                  | exact hD1 (by omega)
                  | exact hD2 (by omega)
                  | grind
                  | skip
              · simp only [if_neg d3] at ih
                refine hZ (fun u => Nat.beq u 21) 14 21 _ _ _ _ _ ?_
                simp only [sm_run, sm_blk, sm_get, sm_ent, sm_ents, sm_wds, sm_wd, sm_nl, sm_pop, sm_back, sm_cases, oK, oLK, oL, oI, oA, oJ, oIs, oAs, oJs, oInc, oAdd, oSub, oMul, oDiv, oRem, oNeg, oAnd, oAndB, oOr, oShl, oI2c, oI2l, oL2i, oLand, oLor, oLshl, oLshr, oLushr, oLcmp, oDup, oDup2, oPop, oGo, oFg, oEq, oNe, oLt, oGe, oGt, oLe, oEq0, oNe0, oLt0, oGe0, oGt0, oLe0, oSw, oGi, oGr, oPi, oPz, oPr, oLen, oIl, oZl, oCl, oRl, oIst, oZst, oCst, oRst, oCopy, oNew, oNa, oNa2, oObj, oCs, oCv, oCi, oIr, oZr, oVr, Nat.beq, List.getElem?_cons_zero, List.getElem?_cons_succ, List.set_cons_zero, List.set_cons_succ, List.length_cons, List.length_nil, List.nil_append, List.cons_append, List.append_nil, List.replicate_succ, List.replicate_zero, Nat.reduceAdd, Nat.reduceSub, Nat.reduceLT, Nat.reduceLeDiff, Nat.reduceBEq, true_and, and_true, Nat.zero_add, Nat.add_zero, Nat.le_refl, Option.some.injEq, exists_eq_left', true_or, or_true, or_false, false_or, reduceCtorEq, Prod.mk.injEq, Sum.inl.injEq, and_self, false_and, and_false, not_true_eq_false, not_false_eq_true, false_implies, true_implies, sm_r, Int.add_zero, Int.zero_add, wI_wsI, wS_wsI, wR_wsI, wI_wCp, wS_wCp, wR_wCp, Nat.reduceEqDiff, reduceIte, sT_iff, sT_iffC, wIf_ne, ne_eq, Bool.false_or, Bool.true_or, Bool.or_false, Bool.or_true, Bool.or_self, Nat.left_eq_add, Nat.add_eq_left, Nat.add_left_inj, oMax, oMin, oAbs, tb_X7_bestTrack, p_X2_copyFrom, p_X2_setTracks, p_X7_trialDelay, f_X2_copyFrom, f_X2_setTracks, f_X7_trialDelay, p_X7_bestTrack, f_X7_bestTrack, sS_0 hTu, sR_0_3 hTu, sR_0_1 hTu, wS35 hTu, hTu, is35, is2, hTe, sS_0 h1, sR_0_3 h1, sR_0_1 h1, l0, r0, l1, wS35 h1, h1, Nat.reduceAdd, hUe, sS_0 hTo, hok, hXX, hDD, if_pos hi7, if_pos hc2]
                repeat' (first | exact True.intro | with_reducible assumption | with_reducible refine And.intro ?_ ?_ | intro _)
                all_goals first
                  | omega
                  | assumption
                  | rfl
                  | (split <;> omega)
                  | (have k9 := ih (by omega)
                     (repeat' split at k9) <;> first | exact k9 | omega)
                  | (have k9 := ih2 (by omega)
                     (repeat' split at k9) <;> first | exact k9 | omega)
                  | exact he (by omega)
                  | ((with_reducible congr 1) <;> omega)
                  | (rw [if_pos (by omega)] at he; exact he)
                  | exact hD1 (by omega)
                  | exact hD2 (by omega)
                  | grind
                  | skip
        · have hc2 : ¬ (1 ≤ wI (cT u) 3 i + 1 ∧ wI (cT u) 3 i + 1 ≤ 4) := by omega
          unfold bT1 at ih
          dsimp only at ih
          rw [if_neg c] at ih
          generalize hTT : cT u = T at *
          refine hZ (fun u => Nat.beq u 21) 14 21 _ _ _ _ _ ?_
          simp only [sm_run, sm_blk, sm_get, sm_ent, sm_ents, sm_wds, sm_wd, sm_nl, sm_pop, sm_back, sm_cases, oK, oLK, oL, oI, oA, oJ, oIs, oAs, oJs, oInc, oAdd, oSub, oMul, oDiv, oRem, oNeg, oAnd, oAndB, oOr, oShl, oI2c, oI2l, oL2i, oLand, oLor, oLshl, oLshr, oLushr, oLcmp, oDup, oDup2, oPop, oGo, oFg, oEq, oNe, oLt, oGe, oGt, oLe, oEq0, oNe0, oLt0, oGe0, oGt0, oLe0, oSw, oGi, oGr, oPi, oPz, oPr, oLen, oIl, oZl, oCl, oRl, oIst, oZst, oCst, oRst, oCopy, oNew, oNa, oNa2, oObj, oCs, oCv, oCi, oIr, oZr, oVr, Nat.beq, List.getElem?_cons_zero, List.getElem?_cons_succ, List.set_cons_zero, List.set_cons_succ, List.length_cons, List.length_nil, List.nil_append, List.cons_append, List.append_nil, List.replicate_succ, List.replicate_zero, Nat.reduceAdd, Nat.reduceSub, Nat.reduceLT, Nat.reduceLeDiff, Nat.reduceBEq, true_and, and_true, Nat.zero_add, Nat.add_zero, Nat.le_refl, Option.some.injEq, exists_eq_left', true_or, or_true, or_false, false_or, reduceCtorEq, Prod.mk.injEq, Sum.inl.injEq, and_self, false_and, and_false, not_true_eq_false, not_false_eq_true, false_implies, true_implies, sm_r, Int.add_zero, Int.zero_add, wI_wsI, wS_wsI, wR_wsI, wI_wCp, wS_wCp, wR_wCp, Nat.reduceEqDiff, reduceIte, sT_iff, sT_iffC, wIf_ne, ne_eq, Bool.false_or, Bool.true_or, Bool.or_false, Bool.or_true, Bool.or_self, Nat.left_eq_add, Nat.add_eq_left, Nat.add_left_inj, oMax, oMin, oAbs, tb_X7_bestTrack, p_X2_copyFrom, p_X2_setTracks, p_X7_trialDelay, f_X2_copyFrom, f_X2_setTracks, f_X7_trialDelay, p_X7_bestTrack, f_X7_bestTrack, sS_0 hTu, sR_0_3 hTu, sR_0_1 hTu, wS35 hTu, hTu, is35, is2, hTe, sS_0 h1, sR_0_3 h1, sR_0_1 h1, l0, r0, l1, wS35 h1, h1, Nat.reduceAdd, if_pos hi7, if_neg hc2]
          repeat' (first | exact True.intro | with_reducible assumption | with_reducible refine And.intro ?_ ?_ | intro _)
          all_goals first
            | omega
            | assumption
            | rfl
            | (split <;> omega)
            | (have k9 := ih (by omega)
               (repeat' split at k9) <;> first | exact k9 | omega)
            | (have k9 := ih2 (by omega)
               (repeat' split at k9) <;> first | exact k9 | omega)
            | exact he (by omega)
            | ((with_reducible congr 1) <;> omega)
            | (rw [if_pos (by omega)] at he; exact he)
            | exact hD1 (by omega)
            | exact hD2 (by omega)
            | grind
            | skip
      )
    have hl : Z 21 [some (.inr (.inl 0)), some (.inl k), some (.inl (-6)), some (.inl (-6)), some (.inl 0), none, none] [] w 0 0 := hl
    clear hF
    rcases hk with rfl | rfl
    · skip
      refine hZ (fun u => Nat.beq u 21) 14 0 _ _ _ _ _ ?_
      simp only [sm_run, sm_blk, sm_get, sm_ent, sm_ents, sm_wds, sm_wd, sm_nl, sm_pop, sm_back, sm_cases, oK, oLK, oL, oI, oA, oJ, oIs, oAs, oJs, oInc, oAdd, oSub, oMul, oDiv, oRem, oNeg, oAnd, oAndB, oOr, oShl, oI2c, oI2l, oL2i, oLand, oLor, oLshl, oLshr, oLushr, oLcmp, oDup, oDup2, oPop, oGo, oFg, oEq, oNe, oLt, oGe, oGt, oLe, oEq0, oNe0, oLt0, oGe0, oGt0, oLe0, oSw, oGi, oGr, oPi, oPz, oPr, oLen, oIl, oZl, oCl, oRl, oIst, oZst, oCst, oRst, oCopy, oNew, oNa, oNa2, oObj, oCs, oCv, oCi, oIr, oZr, oVr, Nat.beq, List.getElem?_cons_zero, List.getElem?_cons_succ, List.set_cons_zero, List.set_cons_succ, List.length_cons, List.length_nil, List.nil_append, List.cons_append, List.append_nil, List.replicate_succ, List.replicate_zero, Nat.reduceAdd, Nat.reduceSub, Nat.reduceLT, Nat.reduceLeDiff, Nat.reduceBEq, true_and, and_true, Nat.zero_add, Nat.add_zero, Nat.le_refl, Option.some.injEq, exists_eq_left', true_or, or_true, or_false, false_or, reduceCtorEq, Prod.mk.injEq, Sum.inl.injEq, and_self, false_and, and_false, not_true_eq_false, not_false_eq_true, false_implies, true_implies, sm_r, Int.add_zero, Int.zero_add, wI_wsI, wS_wsI, wR_wsI, wI_wCp, wS_wCp, wR_wCp, Nat.reduceEqDiff, reduceIte, sT_iff, sT_iffC, wIf_ne, ne_eq, Bool.false_or, Bool.true_or, Bool.or_false, Bool.or_true, Bool.or_self, Nat.left_eq_add, Nat.add_eq_left, Nat.add_left_inj, oMax, oMin, oAbs, tb_X7_bestTrack, p_X2_copyFrom, p_X2_setTracks, p_X7_trialDelay, f_X2_copyFrom, f_X2_setTracks, f_X7_trialDelay, p_X7_bestTrack, f_X7_bestTrack]
      repeat' (first | exact True.intro | with_reducible assumption | with_reducible refine And.intro ?_ ?_ | intro _)
      all_goals first
        | omega
        | assumption
        | rfl
        | (split <;> omega)
        | (have k9 := ih (by omega)
           (repeat' split at k9) <;> first | exact k9 | omega)
        | (have k9 := ih2 (by omega)
           (repeat' split at k9) <;> first | exact k9 | omega)
        | exact he (by omega)
        | ((with_reducible congr 1) <;> omega)
        | (rw [if_pos (by omega)] at he; exact he)
        | exact hD1 (by omega)
        | exact hD2 (by omega)
        | skip
    · skip
      refine hZ (fun u => Nat.beq u 21) 14 0 _ _ _ _ _ ?_
      simp only [sm_run, sm_blk, sm_get, sm_ent, sm_ents, sm_wds, sm_wd, sm_nl, sm_pop, sm_back, sm_cases, oK, oLK, oL, oI, oA, oJ, oIs, oAs, oJs, oInc, oAdd, oSub, oMul, oDiv, oRem, oNeg, oAnd, oAndB, oOr, oShl, oI2c, oI2l, oL2i, oLand, oLor, oLshl, oLshr, oLushr, oLcmp, oDup, oDup2, oPop, oGo, oFg, oEq, oNe, oLt, oGe, oGt, oLe, oEq0, oNe0, oLt0, oGe0, oGt0, oLe0, oSw, oGi, oGr, oPi, oPz, oPr, oLen, oIl, oZl, oCl, oRl, oIst, oZst, oCst, oRst, oCopy, oNew, oNa, oNa2, oObj, oCs, oCv, oCi, oIr, oZr, oVr, Nat.beq, List.getElem?_cons_zero, List.getElem?_cons_succ, List.set_cons_zero, List.set_cons_succ, List.length_cons, List.length_nil, List.nil_append, List.cons_append, List.append_nil, List.replicate_succ, List.replicate_zero, Nat.reduceAdd, Nat.reduceSub, Nat.reduceLT, Nat.reduceLeDiff, Nat.reduceBEq, true_and, and_true, Nat.zero_add, Nat.add_zero, Nat.le_refl, Option.some.injEq, exists_eq_left', true_or, or_true, or_false, false_or, reduceCtorEq, Prod.mk.injEq, Sum.inl.injEq, and_self, false_and, and_false, not_true_eq_false, not_false_eq_true, false_implies, true_implies, sm_r, Int.add_zero, Int.zero_add, wI_wsI, wS_wsI, wR_wsI, wI_wCp, wS_wCp, wR_wCp, Nat.reduceEqDiff, reduceIte, sT_iff, sT_iffC, wIf_ne, ne_eq, Bool.false_or, Bool.true_or, Bool.or_false, Bool.or_true, Bool.or_self, Nat.left_eq_add, Nat.add_eq_left, Nat.add_left_inj, oMax, oMin, oAbs, tb_X7_bestTrack, p_X2_copyFrom, p_X2_setTracks, p_X7_trialDelay, f_X2_copyFrom, f_X2_setTracks, f_X7_trialDelay, p_X7_bestTrack, f_X7_bestTrack]
      repeat' (first | exact True.intro | with_reducible assumption | with_reducible refine And.intro ?_ ?_ | intro _)
      all_goals first
        | omega
        | assumption
        | rfl
        | (split <;> omega)
        | (have k9 := ih (by omega)
           (repeat' split at k9) <;> first | exact k9 | omega)
        | (have k9 := ih2 (by omega)
           (repeat' split at k9) <;> first | exact k9 | omega)
        | exact he (by omega)
        | ((with_reducible congr 1) <;> omega)
        | (rw [if_pos (by omega)] at he; exact he)
        | exact hD1 (by omega)
        | exact hD2 (by omega)
        | skip
  · have k0 : ¬ k = 0 := by omega
    have k1 : ¬ k = 1 := by omega
    refine hZ (fun u => Nat.beq u 21) 14 0 _ _ _ _ _ ?_
    simp only [sm_run, sm_blk, sm_get, sm_ent, sm_ents, sm_wds, sm_wd, sm_nl, sm_pop, sm_back, sm_cases, oK, oLK, oL, oI, oA, oJ, oIs, oAs, oJs, oInc, oAdd, oSub, oMul, oDiv, oRem, oNeg, oAnd, oAndB, oOr, oShl, oI2c, oI2l, oL2i, oLand, oLor, oLshl, oLshr, oLushr, oLcmp, oDup, oDup2, oPop, oGo, oFg, oEq, oNe, oLt, oGe, oGt, oLe, oEq0, oNe0, oLt0, oGe0, oGt0, oLe0, oSw, oGi, oGr, oPi, oPz, oPr, oLen, oIl, oZl, oCl, oRl, oIst, oZst, oCst, oRst, oCopy, oNew, oNa, oNa2, oObj, oCs, oCv, oCi, oIr, oZr, oVr, Nat.beq, List.getElem?_cons_zero, List.getElem?_cons_succ, List.set_cons_zero, List.set_cons_succ, List.length_cons, List.length_nil, List.nil_append, List.cons_append, List.append_nil, List.replicate_succ, List.replicate_zero, Nat.reduceAdd, Nat.reduceSub, Nat.reduceLT, Nat.reduceLeDiff, Nat.reduceBEq, true_and, and_true, Nat.zero_add, Nat.add_zero, Nat.le_refl, Option.some.injEq, exists_eq_left', true_or, or_true, or_false, false_or, reduceCtorEq, Prod.mk.injEq, Sum.inl.injEq, and_self, false_and, and_false, not_true_eq_false, not_false_eq_true, false_implies, true_implies, sm_r, Int.add_zero, Int.zero_add, wI_wsI, wS_wsI, wR_wsI, wI_wCp, wS_wCp, wR_wCp, Nat.reduceEqDiff, reduceIte, sT_iff, sT_iffC, wIf_ne, ne_eq, Bool.false_or, Bool.true_or, Bool.or_false, Bool.or_true, Bool.or_self, Nat.left_eq_add, Nat.add_eq_left, Nat.add_left_inj, oMax, oMin, oAbs, tb_X7_bestTrack, p_X2_copyFrom, p_X2_setTracks, p_X7_trialDelay, f_X2_copyFrom, f_X2_setTracks, f_X7_trialDelay, p_X7_bestTrack, f_X7_bestTrack, if_neg k0, if_neg k1]
    repeat' (first | exact True.intro | with_reducible assumption | with_reducible refine And.intro ?_ ?_ | intro _)
    all_goals first
      | omega
      | assumption
      | rfl
      | (split <;> omega)
      | (have k9 := ih (by omega)
         (repeat' split at k9) <;> first | exact k9 | omega)
      | (have k9 := ih2 (by omega)
         (repeat' split at k9) <;> first | exact k9 | omega)
      | exact he (by omega)
      | ((with_reducible congr 1) <;> omega)
      | (rw [if_pos (by omega)] at he; exact he)
      | exact hD1 (by omega)
      | exact hD2 (by omega)
      | grind
      | skip
theorem met_X7_bestTrack (l : Launch) : sm_Met l yX7_bestTrack cX7_bestTrack 7 (some .int) 7 0 0 p_X7_bestTrack f_X7_bestTrack := sm_met 1 (Or.inr (Or.inl ⟨rfl, rfl⟩)) (by decide +kernel) (sn_X7_bestTrack l) ok_X7_bestTrack
theorem tLp_i {d : Nat} {n : Int} (h5 : n ≤ 5) : ∀ (k : Nat) (w : sm_W) (m : Int), tI w d n → tI (tLp k d n w m) d n
  | 0, w, m, h => h
  | k + 1, w, m, h => by
    rw [tLp_s]
    split
    · exact h
    · exact tLp_i h5 k _ _ (tSt_i h h5).2.2.2
def cBoA (G : sm_W) (k : Int) : Int := if k = 0 then wI G 80 1 else (if wI G 80 1 < 0 then wI G 80 1 else wI G 81 (k - 1))
def p_X7_bestOrder : List sm_V → sm_W → Prop
  | [.inr (.inl o), .inl k], w => o = 0 ∧ cOK w
  | _, _ => False
def f_X7_bestOrder : sm_F
  | [.inr (.inl o), .inl k], w => (some (.inl (if 0 ≤ k ∧ k ≤ wI w 2 7 then (if 5 < wI w 2 7 then -5 else cBoA (tAll 34 (cT w)) k) else -2)), (if 0 ≤ k ∧ k ≤ wI w 2 7 then (if 5 < wI w 2 7 then w else tAll 34 (cT w)) else w))
  | _, w => (none, w)
def tb_X7_bestOrder : List (Nat × List sm_O) := [(0, [oI 1, oLt0 15, oI 1, oA 0, oGr 7 12 1, oGi 2 9 7, oLe 18, oGo 15]),
  (15, [oK (-2), oIr]),
  (18, [oA 0, oGr 7 12 1, oGi 2 9 7, oK 5, oLe 32, oK (-5), oIr]),
  (32, [oA 0, oGr 7 12 3, oA 0, oGr 7 12 1, oCv 2 9 p_X2_copyFrom f_X2_copyFrom 0 0 2, oA 0, oGr 7 12 7, oA 0, oGr 7 12 2, oCv 4 3 p_X4_tryAll f_X4_tryAll 0 0 2, oI 1, oEq0 68, oA 0, oGr 7 12 7, oGi 4 3 1, oGe0 76, oGo 68]),
  (68, [oA 0, oGr 7 12 7, oGi 4 3 1, oIr]),
  (76, [oA 0, oGr 7 12 7, oGr 4 3 0, oI 1, oK 1, oSub, oIl, oIr])]
set_option maxRecDepth 100000 in
theorem sb_X7_bestOrder_0 (l : Launch) : sm_SndB l RX7 "bestOrder" cX7_bestOrder 2 1 7 0 [oI 1, oLt0 15, oI 1, oA 0, oGr 7 12 1, oGi 2 9 7, oLe 18, oGo 15] := sb_cons (sd_iload_n (by decide +kernel : decode cX7_bestOrder 0 = .ok (.iload_n 1, 1)) rfl) (sb_cons (sd_lt0 (by decide +kernel : decode cX7_bestOrder 1 = .ok (.ifCond .lt 14, 3)) (by decide)) (sb_cons (sd_iload_n (by decide +kernel : decode cX7_bestOrder 4 = .ok (.iload_n 1, 1)) rfl) (sb_cons (sd_aload_n (by decide +kernel : decode cX7_bestOrder 5 = .ok (.aload_n 0, 1)) rfl) (sb_cons (sd_getr (k := 1) kl_7 (by decide) rfl wm_146 (by decide +kernel : decode cX7_bestOrder 6 = .ok (.getfield 20, 3))) (sb_cons (sd_geti (k := 7) kl_2 (by decide) rfl wm_61 (by decide +kernel : decode cX7_bestOrder 9 = .ok (.getfield 140, 3))) (sb_cons (sd_le (by decide +kernel : decode cX7_bestOrder 12 = .ok (.if_icmp .le 6, 3)) (by decide)) (sb_cons (sd_fall (x := 0)) sb_nil)))))))
set_option maxRecDepth 100000 in
theorem sb_X7_bestOrder_15 (l : Launch) : sm_SndB l RX7 "bestOrder" cX7_bestOrder 2 1 7 15 [oK (-2), oIr] := sb_cons (sd_bipush (by decide +kernel : decode cX7_bestOrder 15 = .ok (.bipush (-2), 2)) ⟨by decide, by decide⟩ (by decide)) (sb_cons (sd_ireturn (x := 0) rfl (by decide +kernel : decode cX7_bestOrder 17 = .ok (.ireturn, 1))) sb_nil)
set_option maxRecDepth 100000 in
theorem sb_X7_bestOrder_18 (l : Launch) : sm_SndB l RX7 "bestOrder" cX7_bestOrder 2 1 7 18 [oA 0, oGr 7 12 1, oGi 2 9 7, oK 5, oLe 32, oK (-5), oIr] := sb_cons (sd_aload_n (by decide +kernel : decode cX7_bestOrder 18 = .ok (.aload_n 0, 1)) rfl) (sb_cons (sd_getr (k := 1) kl_7 (by decide) rfl wm_146 (by decide +kernel : decode cX7_bestOrder 19 = .ok (.getfield 20, 3))) (sb_cons (sd_geti (k := 7) kl_2 (by decide) rfl wm_61 (by decide +kernel : decode cX7_bestOrder 22 = .ok (.getfield 140, 3))) (sb_cons (sd_iconst (by decide +kernel : decode cX7_bestOrder 25 = .ok (.iconst 5, 1)) ⟨by decide, by decide⟩) (sb_cons (sd_le (by decide +kernel : decode cX7_bestOrder 26 = .ok (.if_icmp .le 6, 3)) (by decide)) (sb_cons (sd_bipush (by decide +kernel : decode cX7_bestOrder 29 = .ok (.bipush (-5), 2)) ⟨by decide, by decide⟩ (by decide)) (sb_cons (sd_ireturn (x := 0) rfl (by decide +kernel : decode cX7_bestOrder 31 = .ok (.ireturn, 1))) sb_nil))))))
set_option maxRecDepth 100000 in
theorem sb_X7_bestOrder_32 (l : Launch) : sm_SndB l RX7 "bestOrder" cX7_bestOrder 2 1 7 32 [oA 0, oGr 7 12 3, oA 0, oGr 7 12 1, oCv 2 9 p_X2_copyFrom f_X2_copyFrom 0 0 2, oA 0, oGr 7 12 7, oA 0, oGr 7 12 2, oCv 4 3 p_X4_tryAll f_X4_tryAll 0 0 2, oI 1, oEq0 68, oA 0, oGr 7 12 7, oGi 4 3 1, oGe0 76, oGo 68] := sb_cons (sd_aload_n (by decide +kernel : decode cX7_bestOrder 32 = .ok (.aload_n 0, 1)) rfl) (sb_cons (sd_getr (k := 3) kl_7 (by decide) rfl wm_148 (by decide +kernel : decode cX7_bestOrder 33 = .ok (.getfield 24, 3))) (sb_cons (sd_aload_n (by decide +kernel : decode cX7_bestOrder 36 = .ok (.aload_n 0, 1)) rfl) (sb_cons (sd_getr (k := 1) kl_7 (by decide) rfl wm_146 (by decide +kernel : decode cX7_bestOrder 37 = .ok (.getfield 20, 3))) (sb_cons (sd_callv (n := 1) (met_X2_copyFrom l) (by decide) (by decide) wm_165 wm_162 wm_3 ⟨by decide +kernel, by decide +kernel, by decide +kernel⟩ kl_2 wm_163 wm_164 (by decide +kernel : decode cX7_bestOrder 40 = .ok (.invokevirtual 76, 3))) (sb_cons (sd_aload_n (by decide +kernel : decode cX7_bestOrder 43 = .ok (.aload_n 0, 1)) rfl) (sb_cons (sd_getr (k := 7) kl_7 (by decide) rfl wm_152 (by decide +kernel : decode cX7_bestOrder 44 = .ok (.getfield 50, 3))) (sb_cons (sd_aload_n (by decide +kernel : decode cX7_bestOrder 47 = .ok (.aload_n 0, 1)) rfl) (sb_cons (sd_getr (k := 2) kl_7 (by decide) rfl wm_147 (by decide +kernel : decode cX7_bestOrder 48 = .ok (.getfield 21, 3))) (sb_cons (sd_callv (n := 1) (met_X4_tryAll l) (by decide) (by decide) wm_539 wm_536 wm_7 ⟨by decide +kernel, by decide +kernel, by decide +kernel⟩ kl_4 wm_537 wm_538 (by decide +kernel : decode cX7_bestOrder 51 = .ok (.invokevirtual 202, 3))) (sb_cons (sd_iload_n (by decide +kernel : decode cX7_bestOrder 54 = .ok (.iload_n 1, 1)) rfl) (sb_cons (sd_eq0 (by decide +kernel : decode cX7_bestOrder 55 = .ok (.ifCond .eq 13, 3)) (by decide)) (sb_cons (sd_aload_n (by decide +kernel : decode cX7_bestOrder 58 = .ok (.aload_n 0, 1)) rfl) (sb_cons (sd_getr (k := 7) kl_7 (by decide) rfl wm_152 (by decide +kernel : decode cX7_bestOrder 59 = .ok (.getfield 50, 3))) (sb_cons (sd_geti (k := 1) kl_4 (by decide) rfl wm_118 (by decide +kernel : decode cX7_bestOrder 62 = .ok (.getfield 205, 3))) (sb_cons (sd_ge0 (by decide +kernel : decode cX7_bestOrder 65 = .ok (.ifCond .ge 11, 3)) (by decide)) (sb_cons (sd_fall (x := 0)) sb_nil))))))))))))))))
set_option maxRecDepth 100000 in
theorem sb_X7_bestOrder_68 (l : Launch) : sm_SndB l RX7 "bestOrder" cX7_bestOrder 2 1 7 68 [oA 0, oGr 7 12 7, oGi 4 3 1, oIr] := sb_cons (sd_aload_n (by decide +kernel : decode cX7_bestOrder 68 = .ok (.aload_n 0, 1)) rfl) (sb_cons (sd_getr (k := 7) kl_7 (by decide) rfl wm_152 (by decide +kernel : decode cX7_bestOrder 69 = .ok (.getfield 50, 3))) (sb_cons (sd_geti (k := 1) kl_4 (by decide) rfl wm_118 (by decide +kernel : decode cX7_bestOrder 72 = .ok (.getfield 205, 3))) (sb_cons (sd_ireturn (x := 0) rfl (by decide +kernel : decode cX7_bestOrder 75 = .ok (.ireturn, 1))) sb_nil)))
set_option maxRecDepth 100000 in
theorem sb_X7_bestOrder_76 (l : Launch) : sm_SndB l RX7 "bestOrder" cX7_bestOrder 2 1 7 76 [oA 0, oGr 7 12 7, oGr 4 3 0, oI 1, oK 1, oSub, oIl, oIr] := sb_cons (sd_aload_n (by decide +kernel : decode cX7_bestOrder 76 = .ok (.aload_n 0, 1)) rfl) (sb_cons (sd_getr (k := 7) kl_7 (by decide) rfl wm_152 (by decide +kernel : decode cX7_bestOrder 77 = .ok (.getfield 50, 3))) (sb_cons (sd_getr (k := 0) kl_4 (by decide) rfl wm_116 (by decide +kernel : decode cX7_bestOrder 80 = .ok (.getfield 208, 3))) (sb_cons (sd_iload_n (by decide +kernel : decode cX7_bestOrder 83 = .ok (.iload_n 1, 1)) rfl) (sb_cons (sd_iconst (by decide +kernel : decode cX7_bestOrder 84 = .ok (.iconst 1, 1)) ⟨by decide, by decide⟩) (sb_cons (sd_isub (by decide +kernel : decode cX7_bestOrder 85 = .ok (.isub, 1))) (sb_cons (sd_iaload (by decide +kernel : decode cX7_bestOrder 86 = .ok (.iaload, 1))) (sb_cons (sd_ireturn (x := 0) rfl (by decide +kernel : decode cX7_bestOrder 87 = .ok (.ireturn, 1))) sb_nil)))))))
theorem sn_X7_bestOrder (l : Launch) : sm_SndT l RX7 "bestOrder" cX7_bestOrder 2 1 7 tb_X7_bestOrder := st_cons (sb_X7_bestOrder_0 l) (st_cons (sb_X7_bestOrder_15 l) (st_cons (sb_X7_bestOrder_18 l) (st_cons (sb_X7_bestOrder_32 l) (st_cons (sb_X7_bestOrder_68 l) (st_cons (sb_X7_bestOrder_76 l) (st_nil))))))
set_option maxRecDepth 100000 in
set_option maxHeartbeats 4000000 in
theorem ok_X7_bestOrder : sm_Ok tb_X7_bestOrder 2 0 0 p_X7_bestOrder f_X7_bestOrder := by
  intro as w hp ha hw
  match as, hp with
  | [.inr (.inl o), .inl k], hp =>
  refine ⟨Nat.le_of_ble_eq_true rfl, fun Z hZ => ?_⟩
  obtain ⟨rfl, hC⟩ := hp
  have hT := hC.1.1
  obtain ⟨h1, h2, h3, h4, h5, h6⟩ := cT_in hC.1
  have hTe : cpL 35 2 w = cT w := rfl
  have hD : dOK (cT w) 34 := ⟨Or.inr rfl, h2⟩
  have hn : wI (cT w) 35 7 = wI w 2 7 := h4 1 (by decide) (by decide)
  by_cases c : 0 ≤ k ∧ k ≤ wI w 2 7
  · by_cases c5 : 5 < wI w 2 7
    · skip
      refine hZ (fun _ => false) 16 0 _ _ _ _ _ ?_
      simp only [sm_run, sm_blk, sm_get, sm_ent, sm_ents, sm_wds, sm_wd, sm_nl, sm_pop, sm_back, sm_cases, oK, oLK, oL, oI, oA, oJ, oIs, oAs, oJs, oInc, oAdd, oSub, oMul, oDiv, oRem, oNeg, oAnd, oAndB, oOr, oShl, oI2c, oI2l, oL2i, oLand, oLor, oLshl, oLshr, oLushr, oLcmp, oDup, oDup2, oPop, oGo, oFg, oEq, oNe, oLt, oGe, oGt, oLe, oEq0, oNe0, oLt0, oGe0, oGt0, oLe0, oSw, oGi, oGr, oPi, oPz, oPr, oLen, oIl, oZl, oCl, oRl, oIst, oZst, oCst, oRst, oCopy, oNew, oNa, oNa2, oObj, oCs, oCv, oCi, oIr, oZr, oVr, Nat.beq, List.getElem?_cons_zero, List.getElem?_cons_succ, List.set_cons_zero, List.set_cons_succ, List.length_cons, List.length_nil, List.nil_append, List.cons_append, List.append_nil, List.replicate_succ, List.replicate_zero, Nat.reduceAdd, Nat.reduceSub, Nat.reduceLT, Nat.reduceLeDiff, Nat.reduceBEq, true_and, and_true, Nat.zero_add, Nat.add_zero, Nat.le_refl, Option.some.injEq, exists_eq_left', true_or, or_true, or_false, false_or, reduceCtorEq, Prod.mk.injEq, Sum.inl.injEq, and_self, false_and, and_false, not_true_eq_false, not_false_eq_true, false_implies, true_implies, sm_r, Int.add_zero, Int.zero_add, wI_wsI, wS_wsI, wR_wsI, wI_wCp, wS_wCp, wR_wCp, Nat.reduceEqDiff, reduceIte, sT_iff, sT_iffC, wIf_ne, ne_eq, Bool.false_or, Bool.true_or, Bool.or_false, Bool.or_true, Bool.or_self, Nat.left_eq_add, Nat.add_eq_left, Nat.add_left_inj, oMax, oMin, oAbs, tb_X7_bestOrder, p_X2_copyFrom, p_X4_tryAll, f_X2_copyFrom, f_X4_tryAll, p_X7_bestOrder, f_X7_bestOrder, sS_0 hT, sR_0_1 hT, wS2 hT, if_pos c, if_pos c5]
      repeat' (first | exact True.intro | with_reducible assumption | with_reducible refine And.intro ?_ ?_ | intro _)
      all_goals first
        | omega
        | assumption
        | rfl
        | (split <;> omega)
        | grind
        | skip
    · have hI0 := tW0_i hD
      have hn34 : wI (cT w) (34 + 1) 7 = wI w 2 7 := hn
      have hG : tI (tAll 34 (cT w)) 34 (wI (cT w) (34 + 1) 7) := tLp_i (by rw [hn34]; omega) 120 _ _ hI0
      have hTG := hG.1.2.1
      clear hG hI0 hn34
      obtain ⟨z, hz⟩ : ∃ z, z = cBoA (tAll 34 (cT w)) k := ⟨_, rfl⟩
      have hze : cBoA (tAll 34 (cT w)) k = z := hz.symm
      unfold cBoA at hz
      generalize hGe : tAll 34 (cT w) = G at *
      generalize hTT : cT w = T at *
      refine hZ (fun _ => false) 16 0 _ _ _ _ _ ?_
      simp only [sm_run, sm_blk, sm_get, sm_ent, sm_ents, sm_wds, sm_wd, sm_nl, sm_pop, sm_back, sm_cases, oK, oLK, oL, oI, oA, oJ, oIs, oAs, oJs, oInc, oAdd, oSub, oMul, oDiv, oRem, oNeg, oAnd, oAndB, oOr, oShl, oI2c, oI2l, oL2i, oLand, oLor, oLshl, oLshr, oLushr, oLcmp, oDup, oDup2, oPop, oGo, oFg, oEq, oNe, oLt, oGe, oGt, oLe, oEq0, oNe0, oLt0, oGe0, oGt0, oLe0, oSw, oGi, oGr, oPi, oPz, oPr, oLen, oIl, oZl, oCl, oRl, oIst, oZst, oCst, oRst, oCopy, oNew, oNa, oNa2, oObj, oCs, oCv, oCi, oIr, oZr, oVr, Nat.beq, List.getElem?_cons_zero, List.getElem?_cons_succ, List.set_cons_zero, List.set_cons_succ, List.length_cons, List.length_nil, List.nil_append, List.cons_append, List.append_nil, List.replicate_succ, List.replicate_zero, Nat.reduceAdd, Nat.reduceSub, Nat.reduceLT, Nat.reduceLeDiff, Nat.reduceBEq, true_and, and_true, Nat.zero_add, Nat.add_zero, Nat.le_refl, Option.some.injEq, exists_eq_left', true_or, or_true, or_false, false_or, reduceCtorEq, Prod.mk.injEq, Sum.inl.injEq, and_self, false_and, and_false, not_true_eq_false, not_false_eq_true, false_implies, true_implies, sm_r, Int.add_zero, Int.zero_add, wI_wsI, wS_wsI, wR_wsI, wI_wCp, wS_wCp, wR_wCp, Nat.reduceEqDiff, reduceIte, sT_iff, sT_iffC, wIf_ne, ne_eq, Bool.false_or, Bool.true_or, Bool.or_false, Bool.or_true, Bool.or_self, Nat.left_eq_add, Nat.add_eq_left, Nat.add_left_inj, oMax, oMin, oAbs, tb_X7_bestOrder, p_X2_copyFrom, p_X4_tryAll, f_X2_copyFrom, f_X4_tryAll, p_X7_bestOrder, f_X7_bestOrder, sS_0 hT, sR_0_1 hT, wS2 hT, sR_0_3 hT, wS35 hT, hT, is35, is2, hTe, sS_0 h1, sR_0_7 h1, sR_0_2 h1, sS_80 h1, hD, Nat.reduceAdd, hn, hGe, hTT, sS_0 hTG, sR_0_7 hTG, sS_80 hTG, sR_80_0 hTG, sS_81 hTG, hze, if_pos c, if_neg c5]
      repeat' (first | exact True.intro | with_reducible assumption | with_reducible refine And.intro ?_ ?_ | intro _)
      all_goals first
        | omega
        | assumption
        | rfl
        | (split <;> omega)
        | grind
        | skip
  · skip
    refine hZ (fun _ => false) 16 0 _ _ _ _ _ ?_
    simp only [sm_run, sm_blk, sm_get, sm_ent, sm_ents, sm_wds, sm_wd, sm_nl, sm_pop, sm_back, sm_cases, oK, oLK, oL, oI, oA, oJ, oIs, oAs, oJs, oInc, oAdd, oSub, oMul, oDiv, oRem, oNeg, oAnd, oAndB, oOr, oShl, oI2c, oI2l, oL2i, oLand, oLor, oLshl, oLshr, oLushr, oLcmp, oDup, oDup2, oPop, oGo, oFg, oEq, oNe, oLt, oGe, oGt, oLe, oEq0, oNe0, oLt0, oGe0, oGt0, oLe0, oSw, oGi, oGr, oPi, oPz, oPr, oLen, oIl, oZl, oCl, oRl, oIst, oZst, oCst, oRst, oCopy, oNew, oNa, oNa2, oObj, oCs, oCv, oCi, oIr, oZr, oVr, Nat.beq, List.getElem?_cons_zero, List.getElem?_cons_succ, List.set_cons_zero, List.set_cons_succ, List.length_cons, List.length_nil, List.nil_append, List.cons_append, List.append_nil, List.replicate_succ, List.replicate_zero, Nat.reduceAdd, Nat.reduceSub, Nat.reduceLT, Nat.reduceLeDiff, Nat.reduceBEq, true_and, and_true, Nat.zero_add, Nat.add_zero, Nat.le_refl, Option.some.injEq, exists_eq_left', true_or, or_true, or_false, false_or, reduceCtorEq, Prod.mk.injEq, Sum.inl.injEq, and_self, false_and, and_false, not_true_eq_false, not_false_eq_true, false_implies, true_implies, sm_r, Int.add_zero, Int.zero_add, wI_wsI, wS_wsI, wR_wsI, wI_wCp, wS_wCp, wR_wCp, Nat.reduceEqDiff, reduceIte, sT_iff, sT_iffC, wIf_ne, ne_eq, Bool.false_or, Bool.true_or, Bool.or_false, Bool.or_true, Bool.or_self, Nat.left_eq_add, Nat.add_eq_left, Nat.add_left_inj, oMax, oMin, oAbs, tb_X7_bestOrder, p_X2_copyFrom, p_X4_tryAll, f_X2_copyFrom, f_X4_tryAll, p_X7_bestOrder, f_X7_bestOrder, sS_0 hT, sR_0_1 hT, wS2 hT, if_neg c]
    repeat' (first | exact True.intro | with_reducible assumption | with_reducible refine And.intro ?_ ?_ | intro _)
    all_goals first
      | omega
      | assumption
      | rfl
      | (split <;> omega)
      | grind
      | skip
theorem met_X7_bestOrder (l : Launch) : sm_Met l yX7_bestOrder cX7_bestOrder 2 (some .int) 7 0 0 p_X7_bestOrder f_X7_bestOrder := sm_met 1 (Or.inr (Or.inl ⟨rfl, rfl⟩)) (by decide +kernel) (sn_X7_bestOrder l) ok_X7_bestOrder
def p_X7_put : List sm_V → sm_W → Prop
  | [.inr (.inl o), .inr (.inr c)], w => o = 0 ∧ sT w ∧ 0 ≤ wI w 83 0 ∧ wI w 83 0 ≤ 80
  | _, _ => False
def f_X7_put : sm_F
  | [.inr (.inl o), .inr (.inr c)], w => (some (.inl (if kC 8 c 0 = 0 then -2 else (if 80 < wI w 83 0 + kC 8 c 0 then -4 else wI w 83 0 + kC 8 c 0))), (if kC 8 c 0 = 0 then w else (if 80 < wI w 83 0 + kC 8 c 0 then w else kApp w c (kC 8 c 0))))
  | _, w => (none, w)
def tb_X7_put : List (Nat × List sm_O) := [(0, [oJ 1, oCs p_X5_charactersIn f_X5_charactersIn 0 0 1, oIs 3, oI 3, oNe0 12, oK (-2), oIr]),
  (12, [oA 0, oGr 7 12 8, oJ 1, oI 3, oCv 5 5 p_X5_append f_X5_append 0 0 3, oIr])]
set_option maxRecDepth 100000 in
theorem sb_X7_put_0 (l : Launch) : sm_SndB l RX7 "put" cX7_put 4 1 1 0 [oJ 1, oCs p_X5_charactersIn f_X5_charactersIn 0 0 1, oIs 3, oI 3, oNe0 12, oK (-2), oIr] := sb_cons (sd_lload_n (by decide +kernel : decode cX7_put 0 = .ok (.lload_n 1, 1)) rfl) (sb_cons (sd_calls (n := 1) (met_X5_charactersIn l) (by decide) (by decide) wm_564 wm_562 wm_8 ⟨by decide +kernel, by decide +kernel, by decide +kernel⟩ wm_563 (by decide +kernel : decode cX7_put 1 = .ok (.invokestatic 211, 3))) (sb_cons (sd_istore_n (by decide +kernel : decode cX7_put 4 = .ok (.istore_n 3, 1)) rfl) (sb_cons (sd_iload_n (by decide +kernel : decode cX7_put 5 = .ok (.iload_n 3, 1)) rfl) (sb_cons (sd_ne0 (by decide +kernel : decode cX7_put 6 = .ok (.ifCond .ne 6, 3)) (by decide)) (sb_cons (sd_bipush (by decide +kernel : decode cX7_put 9 = .ok (.bipush (-2), 2)) ⟨by decide, by decide⟩ (by decide)) (sb_cons (sd_ireturn (x := 0) rfl (by decide +kernel : decode cX7_put 11 = .ok (.ireturn, 1))) sb_nil))))))
set_option maxRecDepth 100000 in
theorem sb_X7_put_12 (l : Launch) : sm_SndB l RX7 "put" cX7_put 4 1 1 12 [oA 0, oGr 7 12 8, oJ 1, oI 3, oCv 5 5 p_X5_append f_X5_append 0 0 3, oIr] := sb_cons (sd_aload_n (by decide +kernel : decode cX7_put 12 = .ok (.aload_n 0, 1)) rfl) (sb_cons (sd_getr (k := 8) kl_7 (by decide) rfl wm_153 (by decide +kernel : decode cX7_put 13 = .ok (.getfield 57, 3))) (sb_cons (sd_lload_n (by decide +kernel : decode cX7_put 16 = .ok (.lload_n 1, 1)) rfl) (sb_cons (sd_iload_n (by decide +kernel : decode cX7_put 17 = .ok (.iload_n 3, 1)) rfl) (sb_cons (sd_callv (n := 2) (met_X5_append l) (by decide) (by decide) wm_575 wm_572 wm_8 ⟨by decide +kernel, by decide +kernel, by decide +kernel⟩ kl_5 wm_573 wm_574 (by decide +kernel : decode cX7_put 18 = .ok (.invokevirtual 215, 3))) (sb_cons (sd_ireturn (x := 0) rfl (by decide +kernel : decode cX7_put 21 = .ok (.ireturn, 1))) sb_nil)))))
theorem sn_X7_put (l : Launch) : sm_SndT l RX7 "put" cX7_put 4 1 1 tb_X7_put := st_cons (sb_X7_put_0 l) (st_cons (sb_X7_put_12 l) (st_nil))
set_option maxRecDepth 100000 in
set_option maxHeartbeats 4000000 in
theorem ok_X7_put : sm_Ok tb_X7_put 4 0 0 p_X7_put f_X7_put := by
  intro as w hp ha hw
  match as, hp with
  | [.inr (.inl o), .inr (.inr c)], hp =>
  refine ⟨Nat.le_of_ble_eq_true rfl, fun Z hZ => ?_⟩
  obtain ⟨rfl, hT, b0, b1⟩ := hp
  have hb := kC_b 8 c 0 (Int.le_refl _)
  generalize hN : kC 8 c 0 = N at *
  refine hZ (fun _ => false) 16 0 _ _ _ _ _ ?_
  simp only [sm_run, sm_blk, sm_get, sm_ent, sm_ents, sm_wds, sm_wd, sm_nl, sm_pop, sm_back, sm_cases, oK, oLK, oL, oI, oA, oJ, oIs, oAs, oJs, oInc, oAdd, oSub, oMul, oDiv, oRem, oNeg, oAnd, oAndB, oOr, oShl, oI2c, oI2l, oL2i, oLand, oLor, oLshl, oLshr, oLushr, oLcmp, oDup, oDup2, oPop, oGo, oFg, oEq, oNe, oLt, oGe, oGt, oLe, oEq0, oNe0, oLt0, oGe0, oGt0, oLe0, oSw, oGi, oGr, oPi, oPz, oPr, oLen, oIl, oZl, oCl, oRl, oIst, oZst, oCst, oRst, oCopy, oNew, oNa, oNa2, oObj, oCs, oCv, oCi, oIr, oZr, oVr, Nat.beq, List.getElem?_cons_zero, List.getElem?_cons_succ, List.set_cons_zero, List.set_cons_succ, List.length_cons, List.length_nil, List.nil_append, List.cons_append, List.append_nil, List.replicate_succ, List.replicate_zero, Nat.reduceAdd, Nat.reduceSub, Nat.reduceLT, Nat.reduceLeDiff, Nat.reduceBEq, true_and, and_true, Nat.zero_add, Nat.add_zero, Nat.le_refl, Option.some.injEq, exists_eq_left', true_or, or_true, or_false, false_or, reduceCtorEq, Prod.mk.injEq, Sum.inl.injEq, and_self, false_and, and_false, not_true_eq_false, not_false_eq_true, false_implies, true_implies, sm_r, Int.add_zero, Int.zero_add, wI_wsI, wS_wsI, wR_wsI, wI_wCp, wS_wCp, wR_wCp, Nat.reduceEqDiff, reduceIte, sT_iff, sT_iffC, wIf_ne, ne_eq, Bool.false_or, Bool.true_or, Bool.or_false, Bool.or_true, Bool.or_self, Nat.left_eq_add, Nat.add_eq_left, Nat.add_left_inj, oMax, oMin, oAbs, tb_X7_put, p_X5_append, p_X5_charactersIn, f_X5_append, f_X5_charactersIn, p_X7_put, f_X7_put, sS_0 hT, sR_0_8 hT, sS_83 hT, hT, hN]
  repeat' (first | exact True.intro | with_reducible assumption | with_reducible refine And.intro ?_ ?_ | intro _)
  all_goals first
    | omega
    | assumption
    | rfl
    | (split <;> omega)
    | grind
    | skip
theorem met_X7_put (l : Launch) : sm_Met l yX7_put cX7_put 4 (some .int) 1 0 0 p_X7_put f_X7_put := sm_met 1 (Or.inr (Or.inl ⟨rfl, rfl⟩)) (by decide +kernel) (sn_X7_put l) ok_X7_put
def p_X7_wipe : List sm_V → sm_W → Prop
  | [.inr (.inl o)], w => o = 0 ∧ sT w
  | _, _ => False
def f_X7_wipe : sm_F
  | [.inr (.inl o)], w => (some (.inl (wI w 83 0)), wsI w 83 0 0)
  | _, w => (none, w)
def tb_X7_wipe : List (Nat × List sm_O) := [(0, [oA 0, oGr 7 12 8, oCv 5 5 p_X5_empty f_X5_empty 0 0 1, oIr])]
set_option maxRecDepth 100000 in
theorem sb_X7_wipe_0 (l : Launch) : sm_SndB l RX7 "wipe" cX7_wipe 1 1 1 0 [oA 0, oGr 7 12 8, oCv 5 5 p_X5_empty f_X5_empty 0 0 1, oIr] := sb_cons (sd_aload_n (by decide +kernel : decode cX7_wipe 0 = .ok (.aload_n 0, 1)) rfl) (sb_cons (sd_getr (k := 8) kl_7 (by decide) rfl wm_153 (by decide +kernel : decode cX7_wipe 1 = .ok (.getfield 57, 3))) (sb_cons (sd_callv (n := 0) (met_X5_empty l) (by decide) (by decide) wm_585 wm_582 wm_8 ⟨by decide +kernel, by decide +kernel, by decide +kernel⟩ kl_5 wm_583 wm_584 (by decide +kernel : decode cX7_wipe 4 = .ok (.invokevirtual 219, 3))) (sb_cons (sd_ireturn (x := 0) rfl (by decide +kernel : decode cX7_wipe 7 = .ok (.ireturn, 1))) sb_nil)))
theorem sn_X7_wipe (l : Launch) : sm_SndT l RX7 "wipe" cX7_wipe 1 1 1 tb_X7_wipe := st_cons (sb_X7_wipe_0 l) (st_nil)
set_option maxRecDepth 100000 in
set_option maxHeartbeats 4000000 in
theorem ok_X7_wipe : sm_Ok tb_X7_wipe 1 0 0 p_X7_wipe f_X7_wipe := by
  intro as w hp ha hw
  match as, hp with
  | [.inr (.inl o)], hp =>
  refine ⟨Nat.le_of_ble_eq_true rfl, fun Z hZ => ?_⟩
  obtain ⟨rfl, hT⟩ := hp
  refine hZ (fun _ => false) 16 0 _ _ _ _ _ ?_
  simp only [sm_run, sm_blk, sm_get, sm_ent, sm_ents, sm_wds, sm_wd, sm_nl, sm_pop, sm_back, sm_cases, oK, oLK, oL, oI, oA, oJ, oIs, oAs, oJs, oInc, oAdd, oSub, oMul, oDiv, oRem, oNeg, oAnd, oAndB, oOr, oShl, oI2c, oI2l, oL2i, oLand, oLor, oLshl, oLshr, oLushr, oLcmp, oDup, oDup2, oPop, oGo, oFg, oEq, oNe, oLt, oGe, oGt, oLe, oEq0, oNe0, oLt0, oGe0, oGt0, oLe0, oSw, oGi, oGr, oPi, oPz, oPr, oLen, oIl, oZl, oCl, oRl, oIst, oZst, oCst, oRst, oCopy, oNew, oNa, oNa2, oObj, oCs, oCv, oCi, oIr, oZr, oVr, Nat.beq, List.getElem?_cons_zero, List.getElem?_cons_succ, List.set_cons_zero, List.set_cons_succ, List.length_cons, List.length_nil, List.nil_append, List.cons_append, List.append_nil, List.replicate_succ, List.replicate_zero, Nat.reduceAdd, Nat.reduceSub, Nat.reduceLT, Nat.reduceLeDiff, Nat.reduceBEq, true_and, and_true, Nat.zero_add, Nat.add_zero, Nat.le_refl, Option.some.injEq, exists_eq_left', true_or, or_true, or_false, false_or, reduceCtorEq, Prod.mk.injEq, Sum.inl.injEq, and_self, false_and, and_false, not_true_eq_false, not_false_eq_true, false_implies, true_implies, sm_r, Int.add_zero, Int.zero_add, wI_wsI, wS_wsI, wR_wsI, wI_wCp, wS_wCp, wR_wCp, Nat.reduceEqDiff, reduceIte, sT_iff, sT_iffC, wIf_ne, ne_eq, Bool.false_or, Bool.true_or, Bool.or_false, Bool.or_true, Bool.or_self, Nat.left_eq_add, Nat.add_eq_left, Nat.add_left_inj, oMax, oMin, oAbs, tb_X7_wipe, p_X5_empty, f_X5_empty, p_X7_wipe, f_X7_wipe, sS_0 hT, sR_0_8 hT, sS_83 hT, hT]
  repeat' (first | exact True.intro | with_reducible assumption | with_reducible refine And.intro ?_ ?_ | intro _)
  all_goals first
    | omega
    | assumption
    | rfl
    | (split <;> omega)
    | skip
theorem met_X7_wipe (l : Launch) : sm_Met l yX7_wipe cX7_wipe 1 (some .int) 1 0 0 p_X7_wipe f_X7_wipe := sm_met 1 (Or.inr (Or.inl ⟨rfl, rfl⟩)) (by decide +kernel) (sn_X7_wipe l) ok_X7_wipe
def p_X7_fault : List sm_V → sm_W → Prop
  | [.inr (.inl o)], w => o = 0 ∧ kOK (kF0 w)
  | _, _ => False
def f_X7_fault : sm_F
  | [.inr (.inl o)], w => (some (.inl (kF 80 (kF0 w)).2), (kF 80 (kF0 w)).1)
  | _, w => (none, w)
def tb_X7_fault : List (Nat × List sm_O) := [(0, [oA 0, oGr 7 12 8, oCv 5 5 p_X5_findFault f_X5_findFault 0 0 1, oIr])]
set_option maxRecDepth 100000 in
theorem sb_X7_fault_0 (l : Launch) : sm_SndB l RX7 "fault" cX7_fault 1 1 6 0 [oA 0, oGr 7 12 8, oCv 5 5 p_X5_findFault f_X5_findFault 0 0 1, oIr] := sb_cons (sd_aload_n (by decide +kernel : decode cX7_fault 0 = .ok (.aload_n 0, 1)) rfl) (sb_cons (sd_getr (k := 8) kl_7 (by decide) rfl wm_153 (by decide +kernel : decode cX7_fault 1 = .ok (.getfield 57, 3))) (sb_cons (sd_callv (n := 0) (met_X5_findFault l) (by decide) (by decide) wm_595 wm_592 wm_8 ⟨by decide +kernel, by decide +kernel, by decide +kernel⟩ kl_5 wm_593 wm_594 (by decide +kernel : decode cX7_fault 4 = .ok (.invokevirtual 222, 3))) (sb_cons (sd_ireturn (x := 0) rfl (by decide +kernel : decode cX7_fault 7 = .ok (.ireturn, 1))) sb_nil)))
theorem sn_X7_fault (l : Launch) : sm_SndT l RX7 "fault" cX7_fault 1 1 6 tb_X7_fault := st_cons (sb_X7_fault_0 l) (st_nil)
set_option maxRecDepth 100000 in
set_option maxHeartbeats 4000000 in
theorem ok_X7_fault : sm_Ok tb_X7_fault 1 0 0 p_X7_fault f_X7_fault := by
  intro as w hp ha hw
  match as, hp with
  | [.inr (.inl o)], hp =>
  refine ⟨Nat.le_of_ble_eq_true rfl, fun Z hZ => ?_⟩
  obtain ⟨rfl, hK⟩ := hp
  have hT : sT w := hK.1
  refine hZ (fun _ => false) 16 0 _ _ _ _ _ ?_
  simp only [sm_run, sm_blk, sm_get, sm_ent, sm_ents, sm_wds, sm_wd, sm_nl, sm_pop, sm_back, sm_cases, oK, oLK, oL, oI, oA, oJ, oIs, oAs, oJs, oInc, oAdd, oSub, oMul, oDiv, oRem, oNeg, oAnd, oAndB, oOr, oShl, oI2c, oI2l, oL2i, oLand, oLor, oLshl, oLshr, oLushr, oLcmp, oDup, oDup2, oPop, oGo, oFg, oEq, oNe, oLt, oGe, oGt, oLe, oEq0, oNe0, oLt0, oGe0, oGt0, oLe0, oSw, oGi, oGr, oPi, oPz, oPr, oLen, oIl, oZl, oCl, oRl, oIst, oZst, oCst, oRst, oCopy, oNew, oNa, oNa2, oObj, oCs, oCv, oCi, oIr, oZr, oVr, Nat.beq, List.getElem?_cons_zero, List.getElem?_cons_succ, List.set_cons_zero, List.set_cons_succ, List.length_cons, List.length_nil, List.nil_append, List.cons_append, List.append_nil, List.replicate_succ, List.replicate_zero, Nat.reduceAdd, Nat.reduceSub, Nat.reduceLT, Nat.reduceLeDiff, Nat.reduceBEq, true_and, and_true, Nat.zero_add, Nat.add_zero, Nat.le_refl, Option.some.injEq, exists_eq_left', true_or, or_true, or_false, false_or, reduceCtorEq, Prod.mk.injEq, Sum.inl.injEq, and_self, false_and, and_false, not_true_eq_false, not_false_eq_true, false_implies, true_implies, sm_r, Int.add_zero, Int.zero_add, wI_wsI, wS_wsI, wR_wsI, wI_wCp, wS_wCp, wR_wCp, Nat.reduceEqDiff, reduceIte, sT_iff, sT_iffC, wIf_ne, ne_eq, Bool.false_or, Bool.true_or, Bool.or_false, Bool.or_true, Bool.or_self, Nat.left_eq_add, Nat.add_eq_left, Nat.add_left_inj, oMax, oMin, oAbs, tb_X7_fault, p_X5_findFault, f_X5_findFault, p_X7_fault, f_X7_fault, sS_0 hT, sR_0_8 hT, sS_83 hT, hT, hK]
  repeat' (first | exact True.intro | with_reducible assumption | with_reducible refine And.intro ?_ ?_ | intro _)
  all_goals first
    | omega
    | assumption
    | rfl
    | (split <;> omega)
    | skip
theorem met_X7_fault (l : Launch) : sm_Met l yX7_fault cX7_fault 1 (some .int) 6 0 0 p_X7_fault f_X7_fault := sm_met 1 (Or.inr (Or.inl ⟨rfl, rfl⟩)) (by decide +kernel) (sn_X7_fault l) ok_X7_fault
theorem kF_in : ∀ (n : Nat) (w : sm_W), kOK w → wI w 83 2 ≤ 80 → sFr sRd w (kF n w).1 ∧ kOK (kF n w).1
  | 0, w, h, _ => ⟨sFr.refl w, h⟩
  | n + 1, w, h, h8 => by
    have h1 := kOrd_in h h8
    have g2 := kG_S (s := 59) (by decide) (kOrd w).1 h1.2.1
    have o2 := (kG_S (s := 59) (by decide)).ok h1.2.1
    have l1 := h1.2.1.2.1
    rw [kF_s]
    split
    · exact ⟨h1.1, h1.2.1⟩
    · split
      · exact ⟨h1.1, h1.2.1⟩
      · split
        · exact ⟨h1.1.trans g2.1, o2⟩
        · have ih := kF_in n _ o2 (by omega)
          exact ⟨h1.1.trans (g2.1.trans ih.1), ih.2⟩
def sOb (a : Nat) (i v : Int) : Prop := sRd a i v ∨ sLn 2 a i v
theorem kOb_all : ∀ (n : Nat) (w : sm_W) (k : Int), kOK w → wI w 83 2 ≤ 80 → lOK w 2 → 0 ≤ k → sFr sOb w (kOb n w k).1 ∧ kOK (kOb n w k).1 ∧ lOK (kOb n w k).1 2 ∧ 0 ≤ (kOb n w k).2
  | 0, w, k, h, _, hL, k0 => ⟨sFr.refl w, h, hL, k0⟩
  | n + 1, w, k, h, h8, hL, k0 => by
    have h1 := kOrd_in h h8
    have f1 := h1.1.mono (T := sOb) (fun a i v hs => Or.inl hs)
    have L1 := sRd_l h1.1 hL
    have b := kOb_in L1
    have f2 := b.1.mono (T := sOb) (fun a i v hs => Or.inr hs)
    have o2 := kOK_ob h1.2.1 L1
    have g3 := kG_S (s := 59) (by decide) _ o2
    have o3 := (kG_S (s := 59) (by decide)).ok o2
    have f3 := g3.1.mono (T := sOb) (fun a i v hs => Or.inl hs)
    have L3 := sRd_l g3.1 b.2.1
    have h83 := o2.2.1
    have e2 : wI (kObW (kOrd w).1 2) 83 2 = wI (kOrd w).1 83 2 := by rw [b.1.outA (sLn_2 rfl (show 10 ≤ 83 by decide))]
    rw [kOb_s]
    split
    · split
      · exact ⟨f1, h1.2.1, L1, k0⟩
      · split
        · exact ⟨f1.trans f2, o2, b.2.1, k0⟩
        · have ih := kOb_all n (kS 59 (kObW (kOrd w).1 2)).1 (k + 1) o3 (by omega) L3 (by omega)
          exact ⟨f1.trans (f2.trans (f3.trans ih.1)), ih.2⟩
    · exact ⟨sFr.refl w, h, hL, k0⟩
def cCo (w : sm_W) : sm_W × Int := kOb 80 (kF0 (cpL 67 2 (kF 80 (kF0 w)).1)) 0
def p_X7_carryOut : List sm_V → sm_W → Prop
  | [.inr (.inl o)], w => o = 0 ∧ cOK w ∧ kOK (kF0 w)
  | _, _ => False
def f_X7_carryOut : sm_F
  | [.inr (.inl o)], w => (some (.inl (if (kF 80 (kF0 w)).2 = -6 then (cCo w).2 else -3)), (if (kF 80 (kF0 w)).2 = -6 then hKp (wsI (cCo w).1 83 0 0) 67 else (kF 80 (kF0 w)).1))
  | _, w => (none, w)
def tb_X7_carryOut : List (Nat × List sm_O) := [(0, [oA 0, oGr 7 12 8, oCv 5 5 p_X5_findFault f_X5_findFault 0 0 1, oK (-6), oEq 15, oK (-3), oIr]),
  (15, [oA 0, oGr 7 12 4, oA 0, oGr 7 12 1, oCv 2 9 p_X2_copyFrom f_X2_copyFrom 0 0 2, oA 0, oGr 7 12 8, oA 0, oGr 7 12 1, oCv 5 5 p_X5_obey f_X5_obey 0 0 2, oIs 1, oA 0, oGr 7 12 8, oCv 5 5 p_X5_empty f_X5_empty 0 0 1, oPop, oA 0, oI 1, oCv 7 12 p_X7_changed f_X7_changed 0 0 2, oIr])]
set_option maxRecDepth 100000 in
theorem sb_X7_carryOut_0 (l : Launch) : sm_SndB l RX7 "carryOut" cX7_carryOut 2 1 6 0 [oA 0, oGr 7 12 8, oCv 5 5 p_X5_findFault f_X5_findFault 0 0 1, oK (-6), oEq 15, oK (-3), oIr] := sb_cons (sd_aload_n (by decide +kernel : decode cX7_carryOut 0 = .ok (.aload_n 0, 1)) rfl) (sb_cons (sd_getr (k := 8) kl_7 (by decide) rfl wm_153 (by decide +kernel : decode cX7_carryOut 1 = .ok (.getfield 57, 3))) (sb_cons (sd_callv (n := 0) (met_X5_findFault l) (by decide) (by decide) wm_595 wm_592 wm_8 ⟨by decide +kernel, by decide +kernel, by decide +kernel⟩ kl_5 wm_593 wm_594 (by decide +kernel : decode cX7_carryOut 4 = .ok (.invokevirtual 222, 3))) (sb_cons (sd_bipush (by decide +kernel : decode cX7_carryOut 7 = .ok (.bipush (-6), 2)) ⟨by decide, by decide⟩ (by decide)) (sb_cons (sd_eq (by decide +kernel : decode cX7_carryOut 9 = .ok (.if_icmp .eq 6, 3)) (by decide)) (sb_cons (sd_bipush (by decide +kernel : decode cX7_carryOut 12 = .ok (.bipush (-3), 2)) ⟨by decide, by decide⟩ (by decide)) (sb_cons (sd_ireturn (x := 0) rfl (by decide +kernel : decode cX7_carryOut 14 = .ok (.ireturn, 1))) sb_nil))))))
set_option maxRecDepth 100000 in
theorem sb_X7_carryOut_15 (l : Launch) : sm_SndB l RX7 "carryOut" cX7_carryOut 2 1 6 15 [oA 0, oGr 7 12 4, oA 0, oGr 7 12 1, oCv 2 9 p_X2_copyFrom f_X2_copyFrom 0 0 2, oA 0, oGr 7 12 8, oA 0, oGr 7 12 1, oCv 5 5 p_X5_obey f_X5_obey 0 0 2, oIs 1, oA 0, oGr 7 12 8, oCv 5 5 p_X5_empty f_X5_empty 0 0 1, oPop, oA 0, oI 1, oCv 7 12 p_X7_changed f_X7_changed 0 0 2, oIr] := sb_cons (sd_aload_n (by decide +kernel : decode cX7_carryOut 15 = .ok (.aload_n 0, 1)) rfl) (sb_cons (sd_getr (k := 4) kl_7 (by decide) rfl wm_149 (by decide +kernel : decode cX7_carryOut 16 = .ok (.getfield 30, 3))) (sb_cons (sd_aload_n (by decide +kernel : decode cX7_carryOut 19 = .ok (.aload_n 0, 1)) rfl) (sb_cons (sd_getr (k := 1) kl_7 (by decide) rfl wm_146 (by decide +kernel : decode cX7_carryOut 20 = .ok (.getfield 20, 3))) (sb_cons (sd_callv (n := 1) (met_X2_copyFrom l) (by decide) (by decide) wm_165 wm_162 wm_3 ⟨by decide +kernel, by decide +kernel, by decide +kernel⟩ kl_2 wm_163 wm_164 (by decide +kernel : decode cX7_carryOut 23 = .ok (.invokevirtual 76, 3))) (sb_cons (sd_aload_n (by decide +kernel : decode cX7_carryOut 26 = .ok (.aload_n 0, 1)) rfl) (sb_cons (sd_getr (k := 8) kl_7 (by decide) rfl wm_153 (by decide +kernel : decode cX7_carryOut 27 = .ok (.getfield 57, 3))) (sb_cons (sd_aload_n (by decide +kernel : decode cX7_carryOut 30 = .ok (.aload_n 0, 1)) rfl) (sb_cons (sd_getr (k := 1) kl_7 (by decide) rfl wm_146 (by decide +kernel : decode cX7_carryOut 31 = .ok (.getfield 20, 3))) (sb_cons (sd_callv (n := 1) (met_X5_obey l) (by decide) (by decide) wm_630 wm_627 wm_8 ⟨by decide +kernel, by decide +kernel, by decide +kernel⟩ kl_5 wm_628 wm_629 (by decide +kernel : decode cX7_carryOut 34 = .ok (.invokevirtual 225, 3))) (sb_cons (sd_istore_n (by decide +kernel : decode cX7_carryOut 37 = .ok (.istore_n 1, 1)) rfl) (sb_cons (sd_aload_n (by decide +kernel : decode cX7_carryOut 38 = .ok (.aload_n 0, 1)) rfl) (sb_cons (sd_getr (k := 8) kl_7 (by decide) rfl wm_153 (by decide +kernel : decode cX7_carryOut 39 = .ok (.getfield 57, 3))) (sb_cons (sd_callv (n := 0) (met_X5_empty l) (by decide) (by decide) wm_585 wm_582 wm_8 ⟨by decide +kernel, by decide +kernel, by decide +kernel⟩ kl_5 wm_583 wm_584 (by decide +kernel : decode cX7_carryOut 42 = .ok (.invokevirtual 219, 3))) (sb_cons (sd_pop (by decide +kernel : decode cX7_carryOut 45 = .ok (.pop, 1))) (sb_cons (sd_aload_n (by decide +kernel : decode cX7_carryOut 46 = .ok (.aload_n 0, 1)) rfl) (sb_cons (sd_iload_n (by decide +kernel : decode cX7_carryOut 47 = .ok (.iload_n 1, 1)) rfl) (sb_cons (sd_callv (n := 1) (met_X7_changed l) (by decide) (by decide) wm_177 wm_175 wm_1 ⟨by decide +kernel, by decide +kernel, by decide +kernel⟩ kl_7 wm_176 wm_1077 (by decide +kernel : decode cX7_carryOut 48 = .ok (.invokevirtual 84, 3))) (sb_cons (sd_ireturn (x := 0) rfl (by decide +kernel : decode cX7_carryOut 51 = .ok (.ireturn, 1))) sb_nil))))))))))))))))))
theorem sn_X7_carryOut (l : Launch) : sm_SndT l RX7 "carryOut" cX7_carryOut 2 1 6 tb_X7_carryOut := st_cons (sb_X7_carryOut_0 l) (st_cons (sb_X7_carryOut_15 l) (st_nil))
set_option maxRecDepth 100000 in
set_option maxHeartbeats 4000000 in
theorem ok_X7_carryOut : sm_Ok tb_X7_carryOut 2 0 0 p_X7_carryOut f_X7_carryOut := by
  intro as w hp ha hw
  match as, hp with
  | [.inr (.inl o)], hp =>
  refine ⟨Nat.le_of_ble_eq_true rfl, fun Z hZ => ?_⟩
  obtain ⟨rfl, hC, hK⟩ := hp
  have hT := hC.1.1
  have hF := kF_in 80 (kF0 w) hK (by show (0 : Int) ≤ 80; decide)
  have f0 : sFr sRd w (kF 80 (kF0 w)).1 := ((sFr.refl w).st (Or.inl ⟨rfl, Or.inl rfl⟩)).trans hF.1
  have L1 := sRd_l f0 hC.1
  have hTF := L1.1
  have f2 := cpL_fr 67 2 (kF 80 (kF0 w)).1
  have L2 := (lOK_o L1 f2 (fun k i v hk hs => by unfold sLn at hs; omega)).1
  have hT2 := L2.1
  have e83 : wI (cpL 67 2 (kF 80 (kF0 w)).1) 83 = wI (kF 80 (kF0 w)).1 83 := f2.outA (fun i v hs => by unfold sLn at hs; omega)
  have e84 : wI (cpL 67 2 (kF 80 (kF0 w)).1) 84 = wI (kF 80 (kF0 w)).1 84 := f2.outA (fun i v hs => by unfold sLn at hs; omega)
  have K2 : kOK (kF0 (cpL 67 2 (kF 80 (kF0 w)).1)) := by
    have k := hF.2
    refine ⟨sT_wsI hT2, ?_, (by show (0 : Int) ≤ 0 ∧ (0 : Int) ≤ 81; decide), fun j => ?_⟩
    · show 0 ≤ wI (wsI _ 83 2 0) 83 0 ∧ wI (wsI _ 83 2 0) 83 0 ≤ 80
      rw [wI_wsI, if_neg (by omega), e83]
      exact k.2.1
    · show 0 ≤ wI (wsI _ 83 2 0) 84 j ∧ wI (wsI _ 83 2 0) 84 j ≤ 255
      rw [wIf_ne (by decide), e84]
      exact k.2.2.2 j
  have L20 : lOK (kF0 (cpL 67 2 (kF 80 (kF0 w)).1)) 2 := sRd_l ((sFr.refl _).st (Or.inl ⟨rfl, Or.inl rfl⟩)) L2
  have hO := kOb_all 80 (kF0 (cpL 67 2 (kF 80 (kF0 w)).1)) 0 K2 (by show (0 : Int) ≤ 80; decide) L20 (Int.le_refl _)
  have hCe : kOb 80 (kF0 (cpL 67 2 (kF 80 (kF0 w)).1)) 0 = cCo w := rfl
  have e86 : wI (cCo w).1 86 = wI w 86 := by
    have h1 : wI (cCo w).1 86 = wI (kF0 (cpL 67 2 (kF 80 (kF0 w)).1)) 86 := hO.1.outA (fun i v hs => by unfold sOb sRd sLn at hs; omega)
    rw [h1]
    show wI (wsI _ 83 2 0) 86 = _
    rw [wIf_ne (by decide), f2.outA (fun i v hs => by unfold sLn at hs; omega), f0.outA (fun i v hs => by unfold sRd at hs; omega)]
  rw [hCe] at hO
  have hTC := hO.2.2.1.1
  have hk := hC.2
  have hC2 := hO.2.2.2
  have hch : cChg (wsI (cCo w).1 83 0 0) (cCo w).2 = hKp (wsI (cCo w).1 83 0 0) 67 := if_neg (by omega)
  clear hO hF f0 f2 e83 e84 L20
  generalize hCC : cCo w = C at *
  generalize hFF : kF 80 (kF0 w) = F at *
  by_cases c : F.2 = -6
  · skip
    refine hZ (fun _ => false) 16 0 _ _ _ _ _ ?_
    simp only [sm_run, sm_blk, sm_get, sm_ent, sm_ents, sm_wds, sm_wd, sm_nl, sm_pop, sm_back, sm_cases, oK, oLK, oL, oI, oA, oJ, oIs, oAs, oJs, oInc, oAdd, oSub, oMul, oDiv, oRem, oNeg, oAnd, oAndB, oOr, oShl, oI2c, oI2l, oL2i, oLand, oLor, oLshl, oLshr, oLushr, oLcmp, oDup, oDup2, oPop, oGo, oFg, oEq, oNe, oLt, oGe, oGt, oLe, oEq0, oNe0, oLt0, oGe0, oGt0, oLe0, oSw, oGi, oGr, oPi, oPz, oPr, oLen, oIl, oZl, oCl, oRl, oIst, oZst, oCst, oRst, oCopy, oNew, oNa, oNa2, oObj, oCs, oCv, oCi, oIr, oZr, oVr, Nat.beq, List.getElem?_cons_zero, List.getElem?_cons_succ, List.set_cons_zero, List.set_cons_succ, List.length_cons, List.length_nil, List.nil_append, List.cons_append, List.append_nil, List.replicate_succ, List.replicate_zero, Nat.reduceAdd, Nat.reduceSub, Nat.reduceLT, Nat.reduceLeDiff, Nat.reduceBEq, true_and, and_true, Nat.zero_add, Nat.add_zero, Nat.le_refl, Option.some.injEq, exists_eq_left', true_or, or_true, or_false, false_or, reduceCtorEq, Prod.mk.injEq, Sum.inl.injEq, and_self, false_and, and_false, not_true_eq_false, not_false_eq_true, false_implies, true_implies, sm_r, Int.add_zero, Int.zero_add, wI_wsI, wS_wsI, wR_wsI, wI_wCp, wS_wCp, wR_wCp, Nat.reduceEqDiff, reduceIte, sT_iff, sT_iffC, wIf_ne, ne_eq, Bool.false_or, Bool.true_or, Bool.or_false, Bool.or_true, Bool.or_self, Nat.left_eq_add, Nat.add_eq_left, Nat.add_left_inj, oMax, oMin, oAbs, tb_X7_carryOut, p_X2_copyFrom, p_X5_empty, p_X5_findFault, p_X5_obey, p_X7_changed, f_X2_copyFrom, f_X5_empty, f_X5_findFault, f_X5_obey, f_X7_changed, p_X7_carryOut, f_X7_carryOut, sS_0 hT, sR_0_8 hT, sS_83 hT, hK, hFF, sS_0 hTF, sR_0_4 hTF, sR_0_1 hTF, sR_0_8 hTF, (lS hTF is67).1, hTF, is67, is2, sS_0 hT2, sR_0_8 hT2, sR_0_1 hT2, sS_83 hT2, K2, L2, hCe, sS_0 hTC, sR_0_8 hTC, sS_83 hTC, hTC, sT_iff, e86, hch, hCC, if_pos c]
    repeat' (first | exact True.intro | with_reducible assumption | with_reducible refine And.intro ?_ ?_ | intro _)
    all_goals first
      | omega
      | assumption
      | rfl
      | (split <;> omega)
      | grind
      | skip
  · skip
    refine hZ (fun _ => false) 16 0 _ _ _ _ _ ?_
    simp only [sm_run, sm_blk, sm_get, sm_ent, sm_ents, sm_wds, sm_wd, sm_nl, sm_pop, sm_back, sm_cases, oK, oLK, oL, oI, oA, oJ, oIs, oAs, oJs, oInc, oAdd, oSub, oMul, oDiv, oRem, oNeg, oAnd, oAndB, oOr, oShl, oI2c, oI2l, oL2i, oLand, oLor, oLshl, oLshr, oLushr, oLcmp, oDup, oDup2, oPop, oGo, oFg, oEq, oNe, oLt, oGe, oGt, oLe, oEq0, oNe0, oLt0, oGe0, oGt0, oLe0, oSw, oGi, oGr, oPi, oPz, oPr, oLen, oIl, oZl, oCl, oRl, oIst, oZst, oCst, oRst, oCopy, oNew, oNa, oNa2, oObj, oCs, oCv, oCi, oIr, oZr, oVr, Nat.beq, List.getElem?_cons_zero, List.getElem?_cons_succ, List.set_cons_zero, List.set_cons_succ, List.length_cons, List.length_nil, List.nil_append, List.cons_append, List.append_nil, List.replicate_succ, List.replicate_zero, Nat.reduceAdd, Nat.reduceSub, Nat.reduceLT, Nat.reduceLeDiff, Nat.reduceBEq, true_and, and_true, Nat.zero_add, Nat.add_zero, Nat.le_refl, Option.some.injEq, exists_eq_left', true_or, or_true, or_false, false_or, reduceCtorEq, Prod.mk.injEq, Sum.inl.injEq, and_self, false_and, and_false, not_true_eq_false, not_false_eq_true, false_implies, true_implies, sm_r, Int.add_zero, Int.zero_add, wI_wsI, wS_wsI, wR_wsI, wI_wCp, wS_wCp, wR_wCp, Nat.reduceEqDiff, reduceIte, sT_iff, sT_iffC, wIf_ne, ne_eq, Bool.false_or, Bool.true_or, Bool.or_false, Bool.or_true, Bool.or_self, Nat.left_eq_add, Nat.add_eq_left, Nat.add_left_inj, oMax, oMin, oAbs, tb_X7_carryOut, p_X2_copyFrom, p_X5_empty, p_X5_findFault, p_X5_obey, p_X7_changed, f_X2_copyFrom, f_X5_empty, f_X5_findFault, f_X5_obey, f_X7_changed, p_X7_carryOut, f_X7_carryOut, sS_0 hT, sR_0_8 hT, sS_83 hT, hK, hFF, sS_0 hTF, sR_0_4 hTF, sR_0_1 hTF, sR_0_8 hTF, (lS hTF is67).1, hTF, is67, is2, sS_0 hT2, sR_0_8 hT2, sR_0_1 hT2, sS_83 hT2, K2, L2, hCe, sS_0 hTC, sR_0_8 hTC, sS_83 hTC, hTC, sT_iff, e86, hch, hCC, if_neg c]
    repeat' (first | exact True.intro | with_reducible assumption | with_reducible refine And.intro ?_ ?_ | intro _)
    all_goals first
      | omega
      | assumption
      | rfl
      | (split <;> omega)
      | grind
      | skip
theorem met_X7_carryOut (l : Launch) : sm_Met l yX7_carryOut cX7_carryOut 2 (some .int) 6 0 0 p_X7_carryOut f_X7_carryOut := sm_met 1 (Or.inr (Or.inl ⟨rfl, rfl⟩)) (by decide +kernel) (sn_X7_carryOut l) ok_X7_carryOut
def p_X7_undo : List sm_V → sm_W → Prop
  | [.inr (.inl o)], w => o = 0 ∧ sT w ∧ 0 ≤ wI w 86 0 ∧ wI w 86 0 ≤ 6
  | _, _ => False
def f_X7_undo : sm_F
  | [.inr (.inl o)], w => (some (.inl (if wI w 86 0 = 0 then -5 else wI w 86 0 - 1)), (if wI w 86 0 = 0 then w else hGv w))
  | _, w => (none, w)
def tb_X7_undo : List (Nat × List sm_O) := [(0, [oA 0, oGr 7 12 9, oGi 1 2 0, oNe0 13, oK (-5), oIr]),
  (13, [oA 0, oGr 7 12 9, oA 0, oGr 7 12 1, oCv 1 2 p_X1_giveBack f_X1_giveBack 0 0 2, oIr])]
set_option maxRecDepth 100000 in
theorem sb_X7_undo_0 (l : Launch) : sm_SndB l RX7 "undo" cX7_undo 1 1 3 0 [oA 0, oGr 7 12 9, oGi 1 2 0, oNe0 13, oK (-5), oIr] := sb_cons (sd_aload_n (by decide +kernel : decode cX7_undo 0 = .ok (.aload_n 0, 1)) rfl) (sb_cons (sd_getr (k := 9) kl_7 (by decide) rfl wm_154 (by decide +kernel : decode cX7_undo 1 = .ok (.getfield 64, 3))) (sb_cons (sd_geti (k := 0) kl_1 (by decide) rfl wm_143 (by decide +kernel : decode cX7_undo 4 = .ok (.getfield 150, 3))) (sb_cons (sd_ne0 (by decide +kernel : decode cX7_undo 7 = .ok (.ifCond .ne 6, 3)) (by decide)) (sb_cons (sd_bipush (by decide +kernel : decode cX7_undo 10 = .ok (.bipush (-5), 2)) ⟨by decide, by decide⟩ (by decide)) (sb_cons (sd_ireturn (x := 0) rfl (by decide +kernel : decode cX7_undo 12 = .ok (.ireturn, 1))) sb_nil)))))
set_option maxRecDepth 100000 in
theorem sb_X7_undo_13 (l : Launch) : sm_SndB l RX7 "undo" cX7_undo 1 1 3 13 [oA 0, oGr 7 12 9, oA 0, oGr 7 12 1, oCv 1 2 p_X1_giveBack f_X1_giveBack 0 0 2, oIr] := sb_cons (sd_aload_n (by decide +kernel : decode cX7_undo 13 = .ok (.aload_n 0, 1)) rfl) (sb_cons (sd_getr (k := 9) kl_7 (by decide) rfl wm_154 (by decide +kernel : decode cX7_undo 14 = .ok (.getfield 64, 3))) (sb_cons (sd_aload_n (by decide +kernel : decode cX7_undo 17 = .ok (.aload_n 0, 1)) rfl) (sb_cons (sd_getr (k := 1) kl_7 (by decide) rfl wm_146 (by decide +kernel : decode cX7_undo 18 = .ok (.getfield 20, 3))) (sb_cons (sd_callv (n := 1) (met_X1_giveBack l) (by decide) (by decide) wm_650 wm_647 wm_9 ⟨by decide +kernel, by decide +kernel, by decide +kernel⟩ kl_1 wm_648 wm_649 (by decide +kernel : decode cX7_undo 21 = .ok (.invokevirtual 229, 3))) (sb_cons (sd_ireturn (x := 0) rfl (by decide +kernel : decode cX7_undo 24 = .ok (.ireturn, 1))) sb_nil)))))
theorem sn_X7_undo (l : Launch) : sm_SndT l RX7 "undo" cX7_undo 1 1 3 tb_X7_undo := st_cons (sb_X7_undo_0 l) (st_cons (sb_X7_undo_13 l) (st_nil))
set_option maxRecDepth 100000 in
set_option maxHeartbeats 4000000 in
theorem ok_X7_undo : sm_Ok tb_X7_undo 1 0 0 p_X7_undo f_X7_undo := by
  intro as w hp ha hw
  match as, hp with
  | [.inr (.inl o)], hp =>
  refine ⟨Nat.le_of_ble_eq_true rfl, fun Z hZ => ?_⟩
  obtain ⟨rfl, hT, k0, k1⟩ := hp
  by_cases c : wI w 86 0 = 0
  · skip
    refine hZ (fun _ => false) 16 0 _ _ _ _ _ ?_
    simp only [sm_run, sm_blk, sm_get, sm_ent, sm_ents, sm_wds, sm_wd, sm_nl, sm_pop, sm_back, sm_cases, oK, oLK, oL, oI, oA, oJ, oIs, oAs, oJs, oInc, oAdd, oSub, oMul, oDiv, oRem, oNeg, oAnd, oAndB, oOr, oShl, oI2c, oI2l, oL2i, oLand, oLor, oLshl, oLshr, oLushr, oLcmp, oDup, oDup2, oPop, oGo, oFg, oEq, oNe, oLt, oGe, oGt, oLe, oEq0, oNe0, oLt0, oGe0, oGt0, oLe0, oSw, oGi, oGr, oPi, oPz, oPr, oLen, oIl, oZl, oCl, oRl, oIst, oZst, oCst, oRst, oCopy, oNew, oNa, oNa2, oObj, oCs, oCv, oCi, oIr, oZr, oVr, Nat.beq, List.getElem?_cons_zero, List.getElem?_cons_succ, List.set_cons_zero, List.set_cons_succ, List.length_cons, List.length_nil, List.nil_append, List.cons_append, List.append_nil, List.replicate_succ, List.replicate_zero, Nat.reduceAdd, Nat.reduceSub, Nat.reduceLT, Nat.reduceLeDiff, Nat.reduceBEq, true_and, and_true, Nat.zero_add, Nat.add_zero, Nat.le_refl, Option.some.injEq, exists_eq_left', true_or, or_true, or_false, false_or, reduceCtorEq, Prod.mk.injEq, Sum.inl.injEq, and_self, false_and, and_false, not_true_eq_false, not_false_eq_true, false_implies, true_implies, sm_r, Int.add_zero, Int.zero_add, wI_wsI, wS_wsI, wR_wsI, wI_wCp, wS_wCp, wR_wCp, Nat.reduceEqDiff, reduceIte, sT_iff, sT_iffC, wIf_ne, ne_eq, Bool.false_or, Bool.true_or, Bool.or_false, Bool.or_true, Bool.or_self, Nat.left_eq_add, Nat.add_eq_left, Nat.add_left_inj, oMax, oMin, oAbs, tb_X7_undo, p_X1_giveBack, f_X1_giveBack, p_X7_undo, f_X7_undo, sS_0 hT, sR_0_9 hT, sR_0_1 hT, sS_86 hT, hT, if_pos c]
    repeat' (first | exact True.intro | with_reducible assumption | with_reducible refine And.intro ?_ ?_ | intro _)
    all_goals first
      | omega
      | assumption
      | rfl
      | (split <;> omega)
      | grind
      | skip
  · skip
    refine hZ (fun _ => false) 16 0 _ _ _ _ _ ?_
    simp only [sm_run, sm_blk, sm_get, sm_ent, sm_ents, sm_wds, sm_wd, sm_nl, sm_pop, sm_back, sm_cases, oK, oLK, oL, oI, oA, oJ, oIs, oAs, oJs, oInc, oAdd, oSub, oMul, oDiv, oRem, oNeg, oAnd, oAndB, oOr, oShl, oI2c, oI2l, oL2i, oLand, oLor, oLshl, oLshr, oLushr, oLcmp, oDup, oDup2, oPop, oGo, oFg, oEq, oNe, oLt, oGe, oGt, oLe, oEq0, oNe0, oLt0, oGe0, oGt0, oLe0, oSw, oGi, oGr, oPi, oPz, oPr, oLen, oIl, oZl, oCl, oRl, oIst, oZst, oCst, oRst, oCopy, oNew, oNa, oNa2, oObj, oCs, oCv, oCi, oIr, oZr, oVr, Nat.beq, List.getElem?_cons_zero, List.getElem?_cons_succ, List.set_cons_zero, List.set_cons_succ, List.length_cons, List.length_nil, List.nil_append, List.cons_append, List.append_nil, List.replicate_succ, List.replicate_zero, Nat.reduceAdd, Nat.reduceSub, Nat.reduceLT, Nat.reduceLeDiff, Nat.reduceBEq, true_and, and_true, Nat.zero_add, Nat.add_zero, Nat.le_refl, Option.some.injEq, exists_eq_left', true_or, or_true, or_false, false_or, reduceCtorEq, Prod.mk.injEq, Sum.inl.injEq, and_self, false_and, and_false, not_true_eq_false, not_false_eq_true, false_implies, true_implies, sm_r, Int.add_zero, Int.zero_add, wI_wsI, wS_wsI, wR_wsI, wI_wCp, wS_wCp, wR_wCp, Nat.reduceEqDiff, reduceIte, sT_iff, sT_iffC, wIf_ne, ne_eq, Bool.false_or, Bool.true_or, Bool.or_false, Bool.or_true, Bool.or_self, Nat.left_eq_add, Nat.add_eq_left, Nat.add_left_inj, oMax, oMin, oAbs, tb_X7_undo, p_X1_giveBack, f_X1_giveBack, p_X7_undo, f_X7_undo, sS_0 hT, sR_0_9 hT, sR_0_1 hT, sS_86 hT, hT, if_neg c]
    repeat' (first | exact True.intro | with_reducible assumption | with_reducible refine And.intro ?_ ?_ | intro _)
    all_goals first
      | omega
      | assumption
      | rfl
      | (split <;> omega)
      | grind
      | skip
theorem met_X7_undo (l : Launch) : sm_Met l yX7_undo cX7_undo 1 (some .int) 3 0 0 p_X7_undo f_X7_undo := sm_met 1 (Or.inr (Or.inl ⟨rfl, rfl⟩)) (by decide +kernel) (sn_X7_undo l) ok_X7_undo
def cSl (s : Int) : Nat := if s = 0 then 138 else 146
theorem cSl_in {w : sm_W} (h : sT w) {s : Int} (s0 : 0 ≤ s) (s1 : s < 2) : wR w 136 s = some (cSl s) ∧ sm_isL (cSl s) ∧ cSl s ≠ 2 ∧ 138 ≤ cSl s ∧ cSl s ≤ 146 := by
  have hs : s = 0 ∨ s = 1 := by omega
  rcases hs with rfl | rfl
  · exact ⟨sR_136_0 h, (by simp [sm_isL, cSl]), (by decide), (by decide), (by decide)⟩
  · exact ⟨sR_136_1 h, (by simp [sm_isL, cSl]), (by decide), (by decide), (by decide)⟩
def cSv (w : sm_W) (s : Int) : sm_W := wsI (cpL (cSl s) 2 w) 137 s 1
def p_X7_save : List sm_V → sm_W → Prop
  | [.inr (.inl o), .inl s], w => o = 0 ∧ sT w
  | _, _ => False
def f_X7_save : sm_F
  | [.inr (.inl o), .inl s], w => (some (.inl (if 0 ≤ s ∧ s < 2 then wI w 2 7 else -2)), (if 0 ≤ s ∧ s < 2 then cSv w s else w))
  | _, w => (none, w)
def tb_X7_save : List (Nat × List sm_O) := [(0, [oI 1, oCs p_X7_isSlot f_X7_isSlot 0 0 1, oNe0 10, oK (-2), oIr]),
  (10, [oA 0, oGr 7 12 10, oI 1, oRl, oA 0, oGr 7 12 1, oCv 2 9 p_X2_copyFrom f_X2_copyFrom 0 0 2, oA 0, oGr 7 12 11, oI 1, oK 1, oZst, oA 0, oGr 7 12 1, oGi 2 9 7, oIr])]
set_option maxRecDepth 100000 in
theorem sb_X7_save_0 (l : Launch) : sm_SndB l RX7 "save" cX7_save 2 1 2 0 [oI 1, oCs p_X7_isSlot f_X7_isSlot 0 0 1, oNe0 10, oK (-2), oIr] := sb_cons (sd_iload_n (by decide +kernel : decode cX7_save 0 = .ok (.iload_n 1, 1)) rfl) (sb_cons (sd_calls (n := 1) (met_X7_isSlot l) (by decide) (by decide) wm_659 wm_657 wm_1 ⟨by decide +kernel, by decide +kernel, by decide +kernel⟩ wm_658 (by decide +kernel : decode cX7_save 1 = .ok (.invokestatic 232, 3))) (sb_cons (sd_ne0 (by decide +kernel : decode cX7_save 4 = .ok (.ifCond .ne 6, 3)) (by decide)) (sb_cons (sd_bipush (by decide +kernel : decode cX7_save 7 = .ok (.bipush (-2), 2)) ⟨by decide, by decide⟩ (by decide)) (sb_cons (sd_ireturn (x := 0) rfl (by decide +kernel : decode cX7_save 9 = .ok (.ireturn, 1))) sb_nil))))
set_option maxRecDepth 100000 in
theorem sb_X7_save_10 (l : Launch) : sm_SndB l RX7 "save" cX7_save 2 1 2 10 [oA 0, oGr 7 12 10, oI 1, oRl, oA 0, oGr 7 12 1, oCv 2 9 p_X2_copyFrom f_X2_copyFrom 0 0 2, oA 0, oGr 7 12 11, oI 1, oK 1, oZst, oA 0, oGr 7 12 1, oGi 2 9 7, oIr] := sb_cons (sd_aload_n (by decide +kernel : decode cX7_save 10 = .ok (.aload_n 0, 1)) rfl) (sb_cons (sd_getr (k := 10) kl_7 (by decide) rfl wm_155 (by decide +kernel : decode cX7_save 11 = .ok (.getfield 68, 3))) (sb_cons (sd_iload_n (by decide +kernel : decode cX7_save 14 = .ok (.iload_n 1, 1)) rfl) (sb_cons (sd_aaload (by decide +kernel : decode cX7_save 15 = .ok (.aaload, 1))) (sb_cons (sd_aload_n (by decide +kernel : decode cX7_save 16 = .ok (.aload_n 0, 1)) rfl) (sb_cons (sd_getr (k := 1) kl_7 (by decide) rfl wm_146 (by decide +kernel : decode cX7_save 17 = .ok (.getfield 20, 3))) (sb_cons (sd_callv (n := 1) (met_X2_copyFrom l) (by decide) (by decide) wm_165 wm_162 wm_3 ⟨by decide +kernel, by decide +kernel, by decide +kernel⟩ kl_2 wm_163 wm_164 (by decide +kernel : decode cX7_save 20 = .ok (.invokevirtual 76, 3))) (sb_cons (sd_aload_n (by decide +kernel : decode cX7_save 23 = .ok (.aload_n 0, 1)) rfl) (sb_cons (sd_getr (k := 11) kl_7 (by decide) rfl wm_156 (by decide +kernel : decode cX7_save 24 = .ok (.getfield 72, 3))) (sb_cons (sd_iload_n (by decide +kernel : decode cX7_save 27 = .ok (.iload_n 1, 1)) rfl) (sb_cons (sd_iconst (by decide +kernel : decode cX7_save 28 = .ok (.iconst 1, 1)) ⟨by decide, by decide⟩) (sb_cons (sd_bastore (by decide +kernel : decode cX7_save 29 = .ok (.bastore, 1))) (sb_cons (sd_aload_n (by decide +kernel : decode cX7_save 30 = .ok (.aload_n 0, 1)) rfl) (sb_cons (sd_getr (k := 1) kl_7 (by decide) rfl wm_146 (by decide +kernel : decode cX7_save 31 = .ok (.getfield 20, 3))) (sb_cons (sd_geti (k := 7) kl_2 (by decide) rfl wm_61 (by decide +kernel : decode cX7_save 34 = .ok (.getfield 140, 3))) (sb_cons (sd_ireturn (x := 0) rfl (by decide +kernel : decode cX7_save 37 = .ok (.ireturn, 1))) sb_nil)))))))))))))))
theorem sn_X7_save (l : Launch) : sm_SndT l RX7 "save" cX7_save 2 1 2 tb_X7_save := st_cons (sb_X7_save_0 l) (st_cons (sb_X7_save_10 l) (st_nil))
set_option maxRecDepth 100000 in
set_option maxHeartbeats 4000000 in
theorem ok_X7_save : sm_Ok tb_X7_save 2 0 0 p_X7_save f_X7_save := by
  intro as w hp ha hw
  match as, hp with
  | [.inr (.inl o), .inl s], hp =>
  refine ⟨Nat.le_of_ble_eq_true rfl, fun Z hZ => ?_⟩
  obtain ⟨rfl, hT⟩ := hp
  by_cases c : 0 ≤ s ∧ s < 2
  · obtain ⟨q1, q2, q3, q4, q5⟩ := cSl_in hT c.1 c.2
    have hf := cpL_fr (cSl s) 2 w
    have hTf := sFr_sT hf hT
    have e2 : wI (cpL (cSl s) 2 w) 2 = wI w 2 := hf.outA (fun i v hs => by unfold sLn at hs; omega)
    have w0 : wS w (cSl s) = (2, 9) := (lS hT q2).1
    have hSe : wsI (cpL (cSl s) 2 w) 137 s 1 = cSv w s := rfl
    have hTS : sT (cSv w s) := sT_wsI hTf
    generalize hSS : cSv w s = S at *
    generalize hLL : cSl s = L at *
    generalize hCC : cpL L 2 w = CC at *
    refine hZ (fun _ => false) 16 0 _ _ _ _ _ ?_
    simp only [sm_run, sm_blk, sm_get, sm_ent, sm_ents, sm_wds, sm_wd, sm_nl, sm_pop, sm_back, sm_cases, oK, oLK, oL, oI, oA, oJ, oIs, oAs, oJs, oInc, oAdd, oSub, oMul, oDiv, oRem, oNeg, oAnd, oAndB, oOr, oShl, oI2c, oI2l, oL2i, oLand, oLor, oLshl, oLshr, oLushr, oLcmp, oDup, oDup2, oPop, oGo, oFg, oEq, oNe, oLt, oGe, oGt, oLe, oEq0, oNe0, oLt0, oGe0, oGt0, oLe0, oSw, oGi, oGr, oPi, oPz, oPr, oLen, oIl, oZl, oCl, oRl, oIst, oZst, oCst, oRst, oCopy, oNew, oNa, oNa2, oObj, oCs, oCv, oCi, oIr, oZr, oVr, Nat.beq, List.getElem?_cons_zero, List.getElem?_cons_succ, List.set_cons_zero, List.set_cons_succ, List.length_cons, List.length_nil, List.nil_append, List.cons_append, List.append_nil, List.replicate_succ, List.replicate_zero, Nat.reduceAdd, Nat.reduceSub, Nat.reduceLT, Nat.reduceLeDiff, Nat.reduceBEq, true_and, and_true, Nat.zero_add, Nat.add_zero, Nat.le_refl, Option.some.injEq, exists_eq_left', true_or, or_true, or_false, false_or, reduceCtorEq, Prod.mk.injEq, Sum.inl.injEq, and_self, false_and, and_false, not_true_eq_false, not_false_eq_true, false_implies, true_implies, sm_r, Int.add_zero, Int.zero_add, wI_wsI, wS_wsI, wR_wsI, wI_wCp, wS_wCp, wR_wCp, Nat.reduceEqDiff, reduceIte, sT_iff, sT_iffC, wIf_ne, ne_eq, Bool.false_or, Bool.true_or, Bool.or_false, Bool.or_true, Bool.or_self, Nat.left_eq_add, Nat.add_eq_left, Nat.add_left_inj, oMax, oMin, oAbs, tb_X7_save, p_X2_copyFrom, p_X7_isSlot, f_X2_copyFrom, f_X7_isSlot, p_X7_save, f_X7_save, sS_0 hT, sR_0_10 hT, sS_136 hT, q1, w0, sR_0_1 hT, wS2 hT, hT, is2, q2, q3, hCC, sS_0 hTf, sR_0_11 hTf, sS_137 hTf, sR_0_1 hTf, wS2 hTf, e2, hSe, hSS, b01, if_pos c]
    repeat' (first | exact True.intro | with_reducible assumption | with_reducible refine And.intro ?_ ?_ | intro _)
    all_goals first
      | omega
      | assumption
      | rfl
      | (split <;> omega)
      | grind
      | skip
  · skip
    refine hZ (fun _ => false) 16 0 _ _ _ _ _ ?_
    simp only [sm_run, sm_blk, sm_get, sm_ent, sm_ents, sm_wds, sm_wd, sm_nl, sm_pop, sm_back, sm_cases, oK, oLK, oL, oI, oA, oJ, oIs, oAs, oJs, oInc, oAdd, oSub, oMul, oDiv, oRem, oNeg, oAnd, oAndB, oOr, oShl, oI2c, oI2l, oL2i, oLand, oLor, oLshl, oLshr, oLushr, oLcmp, oDup, oDup2, oPop, oGo, oFg, oEq, oNe, oLt, oGe, oGt, oLe, oEq0, oNe0, oLt0, oGe0, oGt0, oLe0, oSw, oGi, oGr, oPi, oPz, oPr, oLen, oIl, oZl, oCl, oRl, oIst, oZst, oCst, oRst, oCopy, oNew, oNa, oNa2, oObj, oCs, oCv, oCi, oIr, oZr, oVr, Nat.beq, List.getElem?_cons_zero, List.getElem?_cons_succ, List.set_cons_zero, List.set_cons_succ, List.length_cons, List.length_nil, List.nil_append, List.cons_append, List.append_nil, List.replicate_succ, List.replicate_zero, Nat.reduceAdd, Nat.reduceSub, Nat.reduceLT, Nat.reduceLeDiff, Nat.reduceBEq, true_and, and_true, Nat.zero_add, Nat.add_zero, Nat.le_refl, Option.some.injEq, exists_eq_left', true_or, or_true, or_false, false_or, reduceCtorEq, Prod.mk.injEq, Sum.inl.injEq, and_self, false_and, and_false, not_true_eq_false, not_false_eq_true, false_implies, true_implies, sm_r, Int.add_zero, Int.zero_add, wI_wsI, wS_wsI, wR_wsI, wI_wCp, wS_wCp, wR_wCp, Nat.reduceEqDiff, reduceIte, sT_iff, sT_iffC, wIf_ne, ne_eq, Bool.false_or, Bool.true_or, Bool.or_false, Bool.or_true, Bool.or_self, Nat.left_eq_add, Nat.add_eq_left, Nat.add_left_inj, oMax, oMin, oAbs, tb_X7_save, p_X2_copyFrom, p_X7_isSlot, f_X2_copyFrom, f_X7_isSlot, p_X7_save, f_X7_save, b01, if_neg c]
    repeat' (first | exact True.intro | with_reducible assumption | with_reducible refine And.intro ?_ ?_ | intro _)
    all_goals first
      | omega
      | assumption
      | rfl
      | (split <;> omega)
      | grind
      | skip
theorem met_X7_save (l : Launch) : sm_Met l yX7_save cX7_save 2 (some .int) 2 0 0 p_X7_save f_X7_save := sm_met 1 (Or.inr (Or.inl ⟨rfl, rfl⟩)) (by decide +kernel) (sn_X7_save l) ok_X7_save
def cRs (w : sm_W) (s : Int) : sm_W := cpL 2 (cSl s) (cB w)
def p_X7_restore : List sm_V → sm_W → Prop
  | [.inr (.inl o), .inl s], w => o = 0 ∧ cOK w
  | _, _ => False
def f_X7_restore : sm_F
  | [.inr (.inl o), .inl s], w => (some (.inl (if 0 ≤ s ∧ s < 2 then (if wI w 137 s = 0 then -5 else wI (cRs w s) 2 7) else -2)), (if 0 ≤ s ∧ s < 2 then (if wI w 137 s = 0 then w else cChg (cRs w s) (wI (cRs w s) 2 7)) else w))
  | _, w => (none, w)
def tb_X7_restore : List (Nat × List sm_O) := [(0, [oI 1, oCs p_X7_isSlot f_X7_isSlot 0 0 1, oNe0 10, oK (-2), oIr]),
  (10, [oA 0, oGr 7 12 11, oI 1, oZl, oNe0 22, oK (-5), oIr]),
  (22, [oA 0, oGr 7 12 4, oA 0, oGr 7 12 1, oCv 2 9 p_X2_copyFrom f_X2_copyFrom 0 0 2, oA 0, oGr 7 12 1, oA 0, oGr 7 12 10, oI 1, oRl, oCv 2 9 p_X2_copyFrom f_X2_copyFrom 0 0 2, oA 0, oA 0, oGr 7 12 1, oGi 2 9 7, oCv 7 12 p_X7_changed f_X7_changed 0 0 2, oIr])]
set_option maxRecDepth 100000 in
theorem sb_X7_restore_0 (l : Launch) : sm_SndB l RX7 "restore" cX7_restore 2 1 4 0 [oI 1, oCs p_X7_isSlot f_X7_isSlot 0 0 1, oNe0 10, oK (-2), oIr] := sb_cons (sd_iload_n (by decide +kernel : decode cX7_restore 0 = .ok (.iload_n 1, 1)) rfl) (sb_cons (sd_calls (n := 1) (met_X7_isSlot l) (by decide) (by decide) wm_659 wm_657 wm_1 ⟨by decide +kernel, by decide +kernel, by decide +kernel⟩ wm_658 (by decide +kernel : decode cX7_restore 1 = .ok (.invokestatic 232, 3))) (sb_cons (sd_ne0 (by decide +kernel : decode cX7_restore 4 = .ok (.ifCond .ne 6, 3)) (by decide)) (sb_cons (sd_bipush (by decide +kernel : decode cX7_restore 7 = .ok (.bipush (-2), 2)) ⟨by decide, by decide⟩ (by decide)) (sb_cons (sd_ireturn (x := 0) rfl (by decide +kernel : decode cX7_restore 9 = .ok (.ireturn, 1))) sb_nil))))
set_option maxRecDepth 100000 in
theorem sb_X7_restore_10 (l : Launch) : sm_SndB l RX7 "restore" cX7_restore 2 1 4 10 [oA 0, oGr 7 12 11, oI 1, oZl, oNe0 22, oK (-5), oIr] := sb_cons (sd_aload_n (by decide +kernel : decode cX7_restore 10 = .ok (.aload_n 0, 1)) rfl) (sb_cons (sd_getr (k := 11) kl_7 (by decide) rfl wm_156 (by decide +kernel : decode cX7_restore 11 = .ok (.getfield 72, 3))) (sb_cons (sd_iload_n (by decide +kernel : decode cX7_restore 14 = .ok (.iload_n 1, 1)) rfl) (sb_cons (sd_baload (by decide +kernel : decode cX7_restore 15 = .ok (.baload, 1))) (sb_cons (sd_ne0 (by decide +kernel : decode cX7_restore 16 = .ok (.ifCond .ne 6, 3)) (by decide)) (sb_cons (sd_bipush (by decide +kernel : decode cX7_restore 19 = .ok (.bipush (-5), 2)) ⟨by decide, by decide⟩ (by decide)) (sb_cons (sd_ireturn (x := 0) rfl (by decide +kernel : decode cX7_restore 21 = .ok (.ireturn, 1))) sb_nil))))))
set_option maxRecDepth 100000 in
theorem sb_X7_restore_22 (l : Launch) : sm_SndB l RX7 "restore" cX7_restore 2 1 4 22 [oA 0, oGr 7 12 4, oA 0, oGr 7 12 1, oCv 2 9 p_X2_copyFrom f_X2_copyFrom 0 0 2, oA 0, oGr 7 12 1, oA 0, oGr 7 12 10, oI 1, oRl, oCv 2 9 p_X2_copyFrom f_X2_copyFrom 0 0 2, oA 0, oA 0, oGr 7 12 1, oGi 2 9 7, oCv 7 12 p_X7_changed f_X7_changed 0 0 2, oIr] := sb_cons (sd_aload_n (by decide +kernel : decode cX7_restore 22 = .ok (.aload_n 0, 1)) rfl) (sb_cons (sd_getr (k := 4) kl_7 (by decide) rfl wm_149 (by decide +kernel : decode cX7_restore 23 = .ok (.getfield 30, 3))) (sb_cons (sd_aload_n (by decide +kernel : decode cX7_restore 26 = .ok (.aload_n 0, 1)) rfl) (sb_cons (sd_getr (k := 1) kl_7 (by decide) rfl wm_146 (by decide +kernel : decode cX7_restore 27 = .ok (.getfield 20, 3))) (sb_cons (sd_callv (n := 1) (met_X2_copyFrom l) (by decide) (by decide) wm_165 wm_162 wm_3 ⟨by decide +kernel, by decide +kernel, by decide +kernel⟩ kl_2 wm_163 wm_164 (by decide +kernel : decode cX7_restore 30 = .ok (.invokevirtual 76, 3))) (sb_cons (sd_aload_n (by decide +kernel : decode cX7_restore 33 = .ok (.aload_n 0, 1)) rfl) (sb_cons (sd_getr (k := 1) kl_7 (by decide) rfl wm_146 (by decide +kernel : decode cX7_restore 34 = .ok (.getfield 20, 3))) (sb_cons (sd_aload_n (by decide +kernel : decode cX7_restore 37 = .ok (.aload_n 0, 1)) rfl) (sb_cons (sd_getr (k := 10) kl_7 (by decide) rfl wm_155 (by decide +kernel : decode cX7_restore 38 = .ok (.getfield 68, 3))) (sb_cons (sd_iload_n (by decide +kernel : decode cX7_restore 41 = .ok (.iload_n 1, 1)) rfl) (sb_cons (sd_aaload (by decide +kernel : decode cX7_restore 42 = .ok (.aaload, 1))) (sb_cons (sd_callv (n := 1) (met_X2_copyFrom l) (by decide) (by decide) wm_165 wm_162 wm_3 ⟨by decide +kernel, by decide +kernel, by decide +kernel⟩ kl_2 wm_163 wm_164 (by decide +kernel : decode cX7_restore 43 = .ok (.invokevirtual 76, 3))) (sb_cons (sd_aload_n (by decide +kernel : decode cX7_restore 46 = .ok (.aload_n 0, 1)) rfl) (sb_cons (sd_aload_n (by decide +kernel : decode cX7_restore 47 = .ok (.aload_n 0, 1)) rfl) (sb_cons (sd_getr (k := 1) kl_7 (by decide) rfl wm_146 (by decide +kernel : decode cX7_restore 48 = .ok (.getfield 20, 3))) (sb_cons (sd_geti (k := 7) kl_2 (by decide) rfl wm_61 (by decide +kernel : decode cX7_restore 51 = .ok (.getfield 140, 3))) (sb_cons (sd_callv (n := 1) (met_X7_changed l) (by decide) (by decide) wm_177 wm_175 wm_1 ⟨by decide +kernel, by decide +kernel, by decide +kernel⟩ kl_7 wm_176 wm_1077 (by decide +kernel : decode cX7_restore 54 = .ok (.invokevirtual 84, 3))) (sb_cons (sd_ireturn (x := 0) rfl (by decide +kernel : decode cX7_restore 57 = .ok (.ireturn, 1))) sb_nil)))))))))))))))))
theorem sn_X7_restore (l : Launch) : sm_SndT l RX7 "restore" cX7_restore 2 1 4 tb_X7_restore := st_cons (sb_X7_restore_0 l) (st_cons (sb_X7_restore_10 l) (st_cons (sb_X7_restore_22 l) (st_nil)))
set_option maxRecDepth 100000 in
set_option maxHeartbeats 4000000 in
theorem ok_X7_restore : sm_Ok tb_X7_restore 2 0 0 p_X7_restore f_X7_restore := by
  intro as w hp ha hw
  match as, hp with
  | [.inr (.inl o), .inl s], hp =>
  refine ⟨Nat.le_of_ble_eq_true rfl, fun Z hZ => ?_⟩
  obtain ⟨rfl, hC⟩ := hp
  have hT := hC.1.1
  have hk := hC.2
  by_cases c : 0 ≤ s ∧ s < 2
  · by_cases c2 : wI w 137 s = 0
    · skip
      refine hZ (fun _ => false) 16 0 _ _ _ _ _ ?_
      simp only [sm_run, sm_blk, sm_get, sm_ent, sm_ents, sm_wds, sm_wd, sm_nl, sm_pop, sm_back, sm_cases, oK, oLK, oL, oI, oA, oJ, oIs, oAs, oJs, oInc, oAdd, oSub, oMul, oDiv, oRem, oNeg, oAnd, oAndB, oOr, oShl, oI2c, oI2l, oL2i, oLand, oLor, oLshl, oLshr, oLushr, oLcmp, oDup, oDup2, oPop, oGo, oFg, oEq, oNe, oLt, oGe, oGt, oLe, oEq0, oNe0, oLt0, oGe0, oGt0, oLe0, oSw, oGi, oGr, oPi, oPz, oPr, oLen, oIl, oZl, oCl, oRl, oIst, oZst, oCst, oRst, oCopy, oNew, oNa, oNa2, oObj, oCs, oCv, oCi, oIr, oZr, oVr, Nat.beq, List.getElem?_cons_zero, List.getElem?_cons_succ, List.set_cons_zero, List.set_cons_succ, List.length_cons, List.length_nil, List.nil_append, List.cons_append, List.append_nil, List.replicate_succ, List.replicate_zero, Nat.reduceAdd, Nat.reduceSub, Nat.reduceLT, Nat.reduceLeDiff, Nat.reduceBEq, true_and, and_true, Nat.zero_add, Nat.add_zero, Nat.le_refl, Option.some.injEq, exists_eq_left', true_or, or_true, or_false, false_or, reduceCtorEq, Prod.mk.injEq, Sum.inl.injEq, and_self, false_and, and_false, not_true_eq_false, not_false_eq_true, false_implies, true_implies, sm_r, Int.add_zero, Int.zero_add, wI_wsI, wS_wsI, wR_wsI, wI_wCp, wS_wCp, wR_wCp, Nat.reduceEqDiff, reduceIte, sT_iff, sT_iffC, wIf_ne, ne_eq, Bool.false_or, Bool.true_or, Bool.or_false, Bool.or_true, Bool.or_self, Nat.left_eq_add, Nat.add_eq_left, Nat.add_left_inj, oMax, oMin, oAbs, tb_X7_restore, p_X2_copyFrom, p_X7_changed, p_X7_isSlot, f_X2_copyFrom, f_X7_changed, f_X7_isSlot, p_X7_restore, f_X7_restore, sS_0 hT, sR_0_11 hT, sS_137 hT, b01, if_pos c, if_pos c2]
      repeat' (first | exact True.intro | with_reducible assumption | with_reducible refine And.intro ?_ ?_ | intro _)
      all_goals first
        | omega
        | assumption
        | rfl
        | (split <;> omega)
        | grind
        | skip
    · obtain ⟨b1, b2, b3, b4, b5, b6⟩ := cB_in hC
      obtain ⟨q1, q2, q3, q4, q5⟩ := cSl_in b1 c.1 c.2
      have hf := cpL_fr 2 (cSl s) (cB w)
      have hTf := sFr_sT hf b1
      have e86 : wI (cpL 2 (cSl s) (cB w)) 86 = wI w 86 := by rw [hi86 hf (by decide), b3]
      have w0 : wS (cB w) (cSl s) = (2, 9) := (lS b1 q2).1
      have hBe : cpL 67 2 w = cB w := rfl
      have hRe : cpL 2 (cSl s) (cB w) = cRs w s := rfl
      have hne : ¬ 2 = cSl s := fun e => q3 e.symm
      generalize hRR : cRs w s = RR at *
      generalize hBB : cB w = B at *
      generalize hLL : cSl s = L at *
      rw [hRe] at hTf e86
      refine hZ (fun _ => false) 16 0 _ _ _ _ _ ?_
      simp only [sm_run, sm_blk, sm_get, sm_ent, sm_ents, sm_wds, sm_wd, sm_nl, sm_pop, sm_back, sm_cases, oK, oLK, oL, oI, oA, oJ, oIs, oAs, oJs, oInc, oAdd, oSub, oMul, oDiv, oRem, oNeg, oAnd, oAndB, oOr, oShl, oI2c, oI2l, oL2i, oLand, oLor, oLshl, oLshr, oLushr, oLcmp, oDup, oDup2, oPop, oGo, oFg, oEq, oNe, oLt, oGe, oGt, oLe, oEq0, oNe0, oLt0, oGe0, oGt0, oLe0, oSw, oGi, oGr, oPi, oPz, oPr, oLen, oIl, oZl, oCl, oRl, oIst, oZst, oCst, oRst, oCopy, oNew, oNa, oNa2, oObj, oCs, oCv, oCi, oIr, oZr, oVr, Nat.beq, List.getElem?_cons_zero, List.getElem?_cons_succ, List.set_cons_zero, List.set_cons_succ, List.length_cons, List.length_nil, List.nil_append, List.cons_append, List.append_nil, List.replicate_succ, List.replicate_zero, Nat.reduceAdd, Nat.reduceSub, Nat.reduceLT, Nat.reduceLeDiff, Nat.reduceBEq, true_and, and_true, Nat.zero_add, Nat.add_zero, Nat.le_refl, Option.some.injEq, exists_eq_left', true_or, or_true, or_false, false_or, reduceCtorEq, Prod.mk.injEq, Sum.inl.injEq, and_self, false_and, and_false, not_true_eq_false, not_false_eq_true, false_implies, true_implies, sm_r, Int.add_zero, Int.zero_add, wI_wsI, wS_wsI, wR_wsI, wI_wCp, wS_wCp, wR_wCp, Nat.reduceEqDiff, reduceIte, sT_iff, sT_iffC, wIf_ne, ne_eq, Bool.false_or, Bool.true_or, Bool.or_false, Bool.or_true, Bool.or_self, Nat.left_eq_add, Nat.add_eq_left, Nat.add_left_inj, oMax, oMin, oAbs, tb_X7_restore, p_X2_copyFrom, p_X7_changed, p_X7_isSlot, f_X2_copyFrom, f_X7_changed, f_X7_isSlot, p_X7_restore, f_X7_restore, sS_0 hT, sR_0_11 hT, sS_137 hT, sR_0_4 hT, (lS hT is67).1, sR_0_1 hT, hT, is67, is2, hBe, sS_0 b1, sR_0_1 b1, wS2 b1, sR_0_10 b1, sS_136 b1, q1, b1, q2, hne, hRe, sS_0 hTf, sR_0_1 hTf, wS2 hTf, hTf, e86, hRR, b01, if_pos c, if_neg c2]
      repeat' (first | exact True.intro | with_reducible assumption | with_reducible refine And.intro ?_ ?_ | intro _)
      all_goals first
        | omega
        | assumption
        | rfl
        | (split <;> omega)
        | grind
        | skip
  · skip
    refine hZ (fun _ => false) 16 0 _ _ _ _ _ ?_
    simp only [sm_run, sm_blk, sm_get, sm_ent, sm_ents, sm_wds, sm_wd, sm_nl, sm_pop, sm_back, sm_cases, oK, oLK, oL, oI, oA, oJ, oIs, oAs, oJs, oInc, oAdd, oSub, oMul, oDiv, oRem, oNeg, oAnd, oAndB, oOr, oShl, oI2c, oI2l, oL2i, oLand, oLor, oLshl, oLshr, oLushr, oLcmp, oDup, oDup2, oPop, oGo, oFg, oEq, oNe, oLt, oGe, oGt, oLe, oEq0, oNe0, oLt0, oGe0, oGt0, oLe0, oSw, oGi, oGr, oPi, oPz, oPr, oLen, oIl, oZl, oCl, oRl, oIst, oZst, oCst, oRst, oCopy, oNew, oNa, oNa2, oObj, oCs, oCv, oCi, oIr, oZr, oVr, Nat.beq, List.getElem?_cons_zero, List.getElem?_cons_succ, List.set_cons_zero, List.set_cons_succ, List.length_cons, List.length_nil, List.nil_append, List.cons_append, List.append_nil, List.replicate_succ, List.replicate_zero, Nat.reduceAdd, Nat.reduceSub, Nat.reduceLT, Nat.reduceLeDiff, Nat.reduceBEq, true_and, and_true, Nat.zero_add, Nat.add_zero, Nat.le_refl, Option.some.injEq, exists_eq_left', true_or, or_true, or_false, false_or, reduceCtorEq, Prod.mk.injEq, Sum.inl.injEq, and_self, false_and, and_false, not_true_eq_false, not_false_eq_true, false_implies, true_implies, sm_r, Int.add_zero, Int.zero_add, wI_wsI, wS_wsI, wR_wsI, wI_wCp, wS_wCp, wR_wCp, Nat.reduceEqDiff, reduceIte, sT_iff, sT_iffC, wIf_ne, ne_eq, Bool.false_or, Bool.true_or, Bool.or_false, Bool.or_true, Bool.or_self, Nat.left_eq_add, Nat.add_eq_left, Nat.add_left_inj, oMax, oMin, oAbs, tb_X7_restore, p_X2_copyFrom, p_X7_changed, p_X7_isSlot, f_X2_copyFrom, f_X7_changed, f_X7_isSlot, p_X7_restore, f_X7_restore, b01, if_neg c]
    repeat' (first | exact True.intro | with_reducible assumption | with_reducible refine And.intro ?_ ?_ | intro _)
    all_goals first
      | omega
      | assumption
      | rfl
      | (split <;> omega)
      | grind
      | skip

theorem met_X7_restore (l : Launch) : sm_Met l yX7_restore cX7_restore 2 (some .int) 4 0 0 p_X7_restore f_X7_restore := sm_met 1 (Or.inr (Or.inl ⟨rfl, rfl⟩)) (by decide +kernel) (sn_X7_restore l) ok_X7_restore