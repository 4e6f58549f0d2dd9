/-! THE CLASS: history, changes -/
def hK0 (w : sm_W) : sm_W := if wI w 86 0 = 6 then hDr w else w
def hKp (w : sm_W) (b : Nat) : sm_W := wsI (cpL (hLn (hK0 w) (wI (hK0 w) 86 0)) b (hK0 w)) 86 0 (wI (hK0 w) 86 0 + 1)
theorem hDr_in {w : sm_W} (h : sT w) : sT (hDr w) ∧ (∀ a, a ≠ 86 → wI (hDr w) a = wI w a) ∧ wI (hDr w) 86 0 = wI w 86 0 - 1 ∧ (∀ j, 0 ≤ j → j < 5 → hLn (hDr w) j = hLn w (j + 1)) ∧ hLn (hDr w) 5 = hLn w 0 ∧ (∀ a, wS (hDr w) a = wS w a) := by
  obtain ⟨a1, a2, a3, a4, a5, a6⟩ := hDrL h 5 (by decide) (by decide)
  have q0 := hLn_in h (i := 0) (by decide) (by decide)
  unfold hDr
  generalize itI hD1 w 5 = u at *
  refine ⟨sT_wsI (sT_wsR a1 q0.2), fun a ha => by rw [wIf_ne ha]; exact a4 a, by rw [wI_wsI, if_pos ⟨rfl, rfl⟩], fun j j0 j1 => ?_, ?_, a3⟩
  · show (wR (wsR u 87 5 (hLn w 0)) 87 j).getD 88 = _
    rw [wR_wsR, if_neg (by omega)]
    have := a5 j j0 (by omega)
    rw [if_pos (by omega)] at this
    exact this
  · show (wR (wsR u 87 5 (hLn w 0)) 87 5).getD 88 = _
    rw [wR_wsR, if_pos ⟨rfl, rfl⟩]
    rfl
theorem hK0_in {w : sm_W} (h : sT w) (k : 0 ≤ wI w 86 0 ∧ wI w 86 0 ≤ 6) : sT (hK0 w) ∧ (∀ a, a ≠ 86 → wI (hK0 w) a = wI w a) ∧ (0 ≤ wI (hK0 w) 86 0 ∧ wI (hK0 w) 86 0 ≤ 5) := by
  unfold hK0
  split
  · have := hDr_in h
    exact ⟨this.1, this.2.1, by omega⟩
  · exact ⟨h, fun _ _ => rfl, by omega⟩
def p_X1_keep : List sm_V → sm_W → Prop
  | [.inr (.inl o), .inr (.inl b)], w => o = 86 ∧ b = 67 ∧ sT w ∧ 0 ≤ wI w 86 0 ∧ wI w 86 0 ≤ 6
  | _, _ => False
def f_X1_keep : sm_F
  | [.inr (.inl o), .inr (.inl b)], w => (none, hKp w b)
  | _, w => (none, w)
def tb_X1_keep : List (Nat × List sm_O) := [(0, [oA 0, oGi 1 2 0, oK 6, oNe 13, oA 0, oCv 1 2 p_X1_dropOldest f_X1_dropOldest 0 0 1, oGo 13]),
  (13, [oA 0, oGr 1 2 1, oA 0, oGi 1 2 0, oRl, oA 1, oCv 2 9 p_X2_copyFrom f_X2_copyFrom 0 0 2, oA 0, oDup, oGi 1 2 0, oK 1, oAdd, oPi 1 2 0, oVr])]
set_option maxRecDepth 100000 in
theorem sb_X1_keep_0 (l : Launch) : sm_SndB l RX1 "keep" cX1_keep 2 0 2 0 [oA 0, oGi 1 2 0, oK 6, oNe 13, oA 0, oCv 1 2 p_X1_dropOldest f_X1_dropOldest 0 0 1, oGo 13] := sb_cons (sd_aload_n (by decide +kernel : decode cX1_keep 0 = .ok (.aload_n 0, 1)) rfl) (sb_cons (sd_geti (k := 0) kl_1 (by decide) rfl wm_142 (by decide +kernel : decode cX1_keep 1 = .ok (.getfield 18, 3))) (sb_cons (sd_bipush (by decide +kernel : decode cX1_keep 4 = .ok (.bipush 6, 2)) ⟨by decide, by decide⟩ (by decide)) (sb_cons (sd_ne (by decide +kernel : decode cX1_keep 6 = .ok (.if_icmp .ne 7, 3)) (by decide)) (sb_cons (sd_aload_n (by decide +kernel : decode cX1_keep 9 = .ok (.aload_n 0, 1)) rfl) (sb_cons (sd_callv (n := 0) (met_X1_dropOldest l) (by decide) (by decide) wm_186 wm_184 wm_9 ⟨by decide +kernel, by decide +kernel, by decide +kernel⟩ kl_1 wm_185 wm_1078 (by decide +kernel : decode cX1_keep 10 = .ok (.invokevirtual 22, 3))) (sb_cons (sd_fall (x := 0)) sb_nil))))))
set_option maxRecDepth 100000 in
theorem sb_X1_keep_13 (l : Launch) : sm_SndB l RX1 "keep" cX1_keep 2 0 2 13 [oA 0, oGr 1 2 1, oA 0, oGi 1 2 0, oRl, oA 1, oCv 2 9 p_X2_copyFrom f_X2_copyFrom 0 0 2, oA 0, oDup, oGi 1 2 0, oK 1, oAdd, oPi 1 2 0, oVr] := sb_cons (sd_aload_n (by decide +kernel : decode cX1_keep 13 = .ok (.aload_n 0, 1)) rfl) (sb_cons (sd_getr (k := 1) kl_1 (by decide) rfl wm_144 (by decide +kernel : decode cX1_keep 14 = .ok (.getfield 11, 3))) (sb_cons (sd_aload_n (by decide +kernel : decode cX1_keep 17 = .ok (.aload_n 0, 1)) rfl) (sb_cons (sd_geti (k := 0) kl_1 (by decide) rfl wm_142 (by decide +kernel : decode cX1_keep 18 = .ok (.getfield 18, 3))) (sb_cons (sd_aaload (by decide +kernel : decode cX1_keep 21 = .ok (.aaload, 1))) (sb_cons (sd_aload_n (by decide +kernel : decode cX1_keep 22 = .ok (.aload_n 1, 1)) rfl) (sb_cons (sd_callv (n := 1) (met_X2_copyFrom l) (by decide) (by decide) wm_165 wm_188 wm_3 ⟨by decide +kernel, by decide +kernel, by decide +kernel⟩ kl_2 wm_163 wm_164 (by decide +kernel : decode cX1_keep 23 = .ok (.invokevirtual 25, 3))) (sb_cons (sd_aload_n (by decide +kernel : decode cX1_keep 26 = .ok (.aload_n 0, 1)) rfl) (sb_cons (sd_dup (by decide +kernel : decode cX1_keep 27 = .ok (.dup, 1))) (sb_cons (sd_geti (k := 0) kl_1 (by decide) rfl wm_142 (by decide +kernel : decode cX1_keep 28 = .ok (.getfield 18, 3))) (sb_cons (sd_iconst (by decide +kernel : decode cX1_keep 31 = .ok (.iconst 1, 1)) ⟨by decide, by decide⟩) (sb_cons (sd_iadd (by decide +kernel : decode cX1_keep 32 = .ok (.iadd, 1))) (sb_cons (sd_puti (k := 0) kl_1 (by decide) rfl (Or.inl rfl) wm_142 (by decide +kernel : decode cX1_keep 33 = .ok (.putfield 18, 3))) (sb_cons (sd_return (x := 0) rfl (by decide +kernel : decode cX1_keep 36 = .ok (.return_, 1))) sb_nil)))))))))))))
theorem sn_X1_keep (l : Launch) : sm_SndT l RX1 "keep" cX1_keep 2 0 2 tb_X1_keep := st_cons (sb_X1_keep_0 l) (st_cons (sb_X1_keep_13 l) (st_nil))
set_option maxRecDepth 100000 in
set_option maxHeartbeats 4000000 in
theorem ok_X1_keep : sm_Ok tb_X1_keep 2 0 0 p_X1_keep f_X1_keep := by
  intro as w hp ha hw
  match as, hp with
  | [.inr (.inl o), .inr (.inl b)], hp =>
  refine ⟨Nat.le_of_ble_eq_true rfl, fun Z hZ => ?_⟩
  obtain ⟨rfl, rfl, hT, k0, k1⟩ := hp
  obtain ⟨a1, a2, a3⟩ := hK0_in hT ⟨k0, k1⟩
  have hE : wsI (cpL (hLn (hK0 w) (wI (hK0 w) 86 0)) 67 (hK0 w)) 86 0 (wI (hK0 w) 86 0 + 1) = hKp w 67 := rfl
  generalize hEe : hKp w 67 = E at *
  have h13 : Z 13 [some (.inr (.inl 86)), some (.inr (.inl 67))] [] (hK0 w) 0 0 := by
    clear hT k0 k1
    generalize hK0 w = u at *
    have q := hLn_in a1 a3.1 (show wI u 86 0 < 6 by omega)
    have q2 := hL_isL q.2
    have q1 := q.1
    have w0 : wS u (hLn u (wI u 86 0)) = (2, 9) := (lS a1 q2.1).1
    have hfr := cpL_fr (hLn u (wI u 86 0)) 67 u
    have e86 : wI (cpL (hLn u (wI u 86 0)) 67 u) 86 = wI u 86 := hfr.outA (fun i v hs => by unfold sLn at hs; omega)
    have hTc := sFr_sT hfr a1
    have hil := q2.1
    have hi67 : sm_isL 67 := by simp [sm_isL]
    have hn67 := q2.2.2.1
    generalize hLe : hLn u (wI u 86 0) = L at *
    refine hZ (fun u => Nat.beq u 13) 14 13 _ _ _ _ _ ?_
    simp only [sm_run, sm_blk, sm_get, sm_ent, sm_ents, sm_wds, sm_wd, sm_nl, sm_pop, sm_back, sm_cases, oK, oLK, oL, oI, oA, oJ, oIs, oAs, oJs, oInc, oAdd, oSub, oMul, oDiv, oRem, oNeg, oAnd, oAndB, oOr, oShl, oI2c, oI2l, oL2i, oLand, oLor, oLshl, oLshr, oLushr, oLcmp, oDup, oDup2, oPop, oGo, oFg, oEq, oNe, oLt, oGe, oGt, oLe, oEq0, oNe0, oLt0, oGe0, oGt0, oLe0, oSw, oGi, oGr, oPi, oPz, oPr, oLen, oIl, oZl, oCl, oRl, oIst, oZst, oCst, oRst, oCopy, oNew, oNa, oNa2, oObj, oCs, oCv, oCi, oIr, oZr, oVr, Nat.beq, List.getElem?_cons_zero, List.getElem?_cons_succ, List.set_cons_zero, List.set_cons_succ, List.length_cons, List.length_nil, List.nil_append, List.cons_append, List.append_nil, List.replicate_succ, List.replicate_zero, Nat.reduceAdd, Nat.reduceSub, Nat.reduceLT, Nat.reduceLeDiff, Nat.reduceBEq, true_and, and_true, Nat.zero_add, Nat.add_zero, Nat.le_refl, Option.some.injEq, exists_eq_left', true_or, or_true, or_false, false_or, reduceCtorEq, Prod.mk.injEq, Sum.inl.injEq, and_self, false_and, and_false, not_true_eq_false, not_false_eq_true, false_implies, true_implies, sm_r, Int.add_zero, Int.zero_add, wI_wsI, wS_wsI, wR_wsI, wI_wCp, wS_wCp, wR_wCp, Nat.reduceEqDiff, reduceIte, sT_iff, sT_iffC, wIf_ne, ne_eq, Bool.false_or, Bool.true_or, Bool.or_false, Bool.or_true, Bool.or_self, Nat.left_eq_add, Nat.add_eq_left, Nat.add_left_inj, oMax, oMin, oAbs, tb_X1_keep, p_X1_dropOldest, p_X2_copyFrom, f_X1_dropOldest, f_X2_copyFrom, p_X1_keep, f_X1_keep, sS_86 a1, sR_86_1 a1, sS_87 a1, q1, w0, a1, hil, hi67, sS_86 hTc, e86, hEe]
    repeat' (first | exact True.intro | with_reducible assumption | with_reducible refine And.intro ?_ ?_ | intro _)
    all_goals first
      | omega
      | assumption
      | rfl
      | (split <;> omega)
      | (have k9 := ih (by omega)
         (repeat' split at k9) <;> first | exact k9 | omega)
      | (have k9 := ih2 (by omega)
         (repeat' split at k9) <;> first | exact k9 | omega)
      | exact he (by omega)
      | ((with_reducible congr 1) <;> omega)
      | (rw [if_pos (by omega)] at he; exact he)
      | exact hD1 (by omega)
      | exact hD2 (by omega)
      | grind
      | skip
  clear hE
  by_cases c : wI w 86 0 = 6
  · have e0 : hK0 w = hDr w := if_pos c
    rw [e0] at h13
    refine hZ (fun u => Nat.beq u 13) 14 0 _ _ _ _ _ ?_
    simp only [sm_run, sm_blk, sm_get, sm_ent, sm_ents, sm_wds, sm_wd, sm_nl, sm_pop, sm_back, sm_cases, oK, oLK, oL, oI, oA, oJ, oIs, oAs, oJs, oInc, oAdd, oSub, oMul, oDiv, oRem, oNeg, oAnd, oAndB, oOr, oShl, oI2c, oI2l, oL2i, oLand, oLor, oLshl, oLshr, oLushr, oLcmp, oDup, oDup2, oPop, oGo, oFg, oEq, oNe, oLt, oGe, oGt, oLe, oEq0, oNe0, oLt0, oGe0, oGt0, oLe0, oSw, oGi, oGr, oPi, oPz, oPr, oLen, oIl, oZl, oCl, oRl, oIst, oZst, oCst, oRst, oCopy, oNew, oNa, oNa2, oObj, oCs, oCv, oCi, oIr, oZr, oVr, Nat.beq, List.getElem?_cons_zero, List.getElem?_cons_succ, List.set_cons_zero, List.set_cons_succ, List.length_cons, List.length_nil, List.nil_append, List.cons_append, List.append_nil, List.replicate_succ, List.replicate_zero, Nat.reduceAdd, Nat.reduceSub, Nat.reduceLT, Nat.reduceLeDiff, Nat.reduceBEq, true_and, and_true, Nat.zero_add, Nat.add_zero, Nat.le_refl, Option.some.injEq, exists_eq_left', true_or, or_true, or_false, false_or, reduceCtorEq, Prod.mk.injEq, Sum.inl.injEq, and_self, false_and, and_false, not_true_eq_false, not_false_eq_true, false_implies, true_implies, sm_r, Int.add_zero, Int.zero_add, wI_wsI, wS_wsI, wR_wsI, wI_wCp, wS_wCp, wR_wCp, Nat.reduceEqDiff, reduceIte, sT_iff, sT_iffC, wIf_ne, ne_eq, Bool.false_or, Bool.true_or, Bool.or_false, Bool.or_true, Bool.or_self, Nat.left_eq_add, Nat.add_eq_left, Nat.add_left_inj, oMax, oMin, oAbs, tb_X1_keep, p_X1_dropOldest, p_X2_copyFrom, f_X1_dropOldest, f_X2_copyFrom, p_X1_keep, f_X1_keep, sS_86 hT, hT, c]
    repeat' (first | exact True.intro | with_reducible assumption | with_reducible refine And.intro ?_ ?_ | intro _)
    all_goals first
      | omega
      | assumption
      | rfl
      | (split <;> omega)
      | (have k9 := ih (by omega)
         (repeat' split at k9) <;> first | exact k9 | omega)
      | (have k9 := ih2 (by omega)
         (repeat' split at k9) <;> first | exact k9 | omega)
      | exact he (by omega)
      | ((with_reducible congr 1) <;> omega)
      | (rw [if_pos (by omega)] at he; exact he)
      | exact hD1 (by omega)
      | exact hD2 (by omega)
      | grind
      | skip
  · have e0 : hK0 w = w := if_neg c
    rw [e0] at h13
    refine hZ (fun u => Nat.beq u 13) 14 0 _ _ _ _ _ ?_
    simp only [sm_run, sm_blk, sm_get, sm_ent, sm_ents, sm_wds, sm_wd, sm_nl, sm_pop, sm_back, sm_cases, oK, oLK, oL, oI, oA, oJ, oIs, oAs, oJs, oInc, oAdd, oSub, oMul, oDiv, oRem, oNeg, oAnd, oAndB, oOr, oShl, oI2c, oI2l, oL2i, oLand, oLor, oLshl, oLshr, oLushr, oLcmp, oDup, oDup2, oPop, oGo, oFg, oEq, oNe, oLt, oGe, oGt, oLe, oEq0, oNe0, oLt0, oGe0, oGt0, oLe0, oSw, oGi, oGr, oPi, oPz, oPr, oLen, oIl, oZl, oCl, oRl, oIst, oZst, oCst, oRst, oCopy, oNew, oNa, oNa2, oObj, oCs, oCv, oCi, oIr, oZr, oVr, Nat.beq, List.getElem?_cons_zero, List.getElem?_cons_succ, List.set_cons_zero, List.set_cons_succ, List.length_cons, List.length_nil, List.nil_append, List.cons_append, List.append_nil, List.replicate_succ, List.replicate_zero, Nat.reduceAdd, Nat.reduceSub, Nat.reduceLT, Nat.reduceLeDiff, Nat.reduceBEq, true_and, and_true, Nat.zero_add, Nat.add_zero, Nat.le_refl, Option.some.injEq, exists_eq_left', true_or, or_true, or_false, false_or, reduceCtorEq, Prod.mk.injEq, Sum.inl.injEq, and_self, false_and, and_false, not_true_eq_false, not_false_eq_true, false_implies, true_implies, sm_r, Int.add_zero, Int.zero_add, wI_wsI, wS_wsI, wR_wsI, wI_wCp, wS_wCp, wR_wCp, Nat.reduceEqDiff, reduceIte, sT_iff, sT_iffC, wIf_ne, ne_eq, Bool.false_or, Bool.true_or, Bool.or_false, Bool.or_true, Bool.or_self, Nat.left_eq_add, Nat.add_eq_left, Nat.add_left_inj, oMax, oMin, oAbs, tb_X1_keep, p_X1_dropOldest, p_X2_copyFrom, f_X1_dropOldest, f_X2_copyFrom, p_X1_keep, f_X1_keep, sS_86 hT, hT]
    repeat' (first | exact True.intro | with_reducible assumption | with_reducible refine And.intro ?_ ?_ | intro _)
    all_goals first
      | omega
      | assumption
      | rfl
      | (split <;> omega)
      | (have k9 := ih (by omega)
         (repeat' split at k9) <;> first | exact k9 | omega)
      | (have k9 := ih2 (by omega)
         (repeat' split at k9) <;> first | exact k9 | omega)
      | exact he (by omega)
      | ((with_reducible congr 1) <;> omega)
      | (rw [if_pos (by omega)] at he; exact he)
      | exact hD1 (by omega)
      | exact hD2 (by omega)
      | grind
      | skip
theorem met_X1_keep (l : Launch) : sm_Met l yX1_keep cX1_keep 2 none 2 0 0 p_X1_keep f_X1_keep := sm_met 0 (Or.inl ⟨rfl, rfl⟩) (by decide +kernel) (sn_X1_keep l) ok_X1_keep
def hGv (w : sm_W) : sm_W := cpL 2 (hLn w (wI w 86 0 - 1)) (wsI w 86 0 (wI w 86 0 - 1))
def p_X1_giveBack : List sm_V → sm_W → Prop
  | [.inr (.inl o), .inr (.inl a)], w => o = 86 ∧ a = 2 ∧ sT w ∧ 1 ≤ wI w 86 0 ∧ wI w 86 0 ≤ 6
  | _, _ => False
def f_X1_giveBack : sm_F
  | [.inr (.inl o), .inr (.inl a)], w => (some (.inl (wI w 86 0 - 1)), hGv w)
  | _, w => (none, w)
def tb_X1_giveBack : List (Nat × List sm_O) := [(0, [oA 0, oDup, oGi 1 2 0, oK 1, oSub, oPi 1 2 0, oA 1, oA 0, oGr 1 2 1, oA 0, oGi 1 2 0, oRl, oCv 2 9 p_X2_copyFrom f_X2_copyFrom 0 0 2, oA 0, oGi 1 2 0, oIr])]
set_option maxRecDepth 100000 in
theorem sb_X1_giveBack_0 (l : Launch) : sm_SndB l RX1 "giveBack" cX1_giveBack 2 1 2 0 [oA 0, oDup, oGi 1 2 0, oK 1, oSub, oPi 1 2 0, oA 1, oA 0, oGr 1 2 1, oA 0, oGi 1 2 0, oRl, oCv 2 9 p_X2_copyFrom f_X2_copyFrom 0 0 2, oA 0, oGi 1 2 0, oIr] := sb_cons (sd_aload_n (by decide +kernel : decode cX1_giveBack 0 = .ok (.aload_n 0, 1)) rfl) (sb_cons (sd_dup (by decide +kernel : decode cX1_giveBack 1 = .ok (.dup, 1))) (sb_cons (sd_geti (k := 0) kl_1 (by decide) rfl wm_142 (by decide +kernel : decode cX1_giveBack 2 = .ok (.getfield 18, 3))) (sb_cons (sd_iconst (by decide +kernel : decode cX1_giveBack 5 = .ok (.iconst 1, 1)) ⟨by decide, by decide⟩) (sb_cons (sd_isub (by decide +kernel : decode cX1_giveBack 6 = .ok (.isub, 1))) (sb_cons (sd_puti (k := 0) kl_1 (by decide) rfl (Or.inl rfl) wm_142 (by decide +kernel : decode cX1_giveBack 7 = .ok (.putfield 18, 3))) (sb_cons (sd_aload_n (by decide +kernel : decode cX1_giveBack 10 = .ok (.aload_n 1, 1)) rfl) (sb_cons (sd_aload_n (by decide +kernel : decode cX1_giveBack 11 = .ok (.aload_n 0, 1)) rfl) (sb_cons (sd_getr (k := 1) kl_1 (by decide) rfl wm_144 (by decide +kernel : decode cX1_giveBack 12 = .ok (.getfield 11, 3))) (sb_cons (sd_aload_n (by decide +kernel : decode cX1_giveBack 15 = .ok (.aload_n 0, 1)) rfl) (sb_cons (sd_geti (k := 0) kl_1 (by decide) rfl wm_142 (by decide +kernel : decode cX1_giveBack 16 = .ok (.getfield 18, 3))) (sb_cons (sd_aaload (by decide +kernel : decode cX1_giveBack 19 = .ok (.aaload, 1))) (sb_cons (sd_callv (n := 1) (met_X2_copyFrom l) (by decide) (by decide) wm_165 wm_188 wm_3 ⟨by decide +kernel, by decide +kernel, by decide +kernel⟩ kl_2 wm_163 wm_164 (by decide +kernel : decode cX1_giveBack 20 = .ok (.invokevirtual 25, 3))) (sb_cons (sd_aload_n (by decide +kernel : decode cX1_giveBack 23 = .ok (.aload_n 0, 1)) rfl) (sb_cons (sd_geti (k := 0) kl_1 (by decide) rfl wm_142 (by decide +kernel : decode cX1_giveBack 24 = .ok (.getfield 18, 3))) (sb_cons (sd_ireturn (x := 0) rfl (by decide +kernel : decode cX1_giveBack 27 = .ok (.ireturn, 1))) sb_nil)))))))))))))))
theorem sn_X1_giveBack (l : Launch) : sm_SndT l RX1 "giveBack" cX1_giveBack 2 1 2 tb_X1_giveBack := st_cons (sb_X1_giveBack_0 l) (st_nil)
set_option maxRecDepth 100000 in
set_option maxHeartbeats 4000000 in
theorem ok_X1_giveBack : sm_Ok tb_X1_giveBack 2 0 0 p_X1_giveBack f_X1_giveBack := by
  intro as w hp ha hw
  match as, hp with
  | [.inr (.inl o), .inr (.inl a)], hp =>
  refine ⟨Nat.le_of_ble_eq_true rfl, fun Z hZ => ?_⟩
  obtain ⟨rfl, rfl, hT, k0, k1⟩ := hp
  have q := hLn_in hT (i := wI w 86 0 - 1) (by omega) (by omega)
  have q2 := hL_isL q.2
  have q1 := q.1
  have hT1 : sT (wsI w 86 0 (wI w 86 0 - 1)) := sT_wsI hT
  have hE : cpL 2 (hLn w (wI w 86 0 - 1)) (wsI w 86 0 (wI w 86 0 - 1)) = hGv w := rfl
  have hfr := cpL_fr 2 (hLn w (wI w 86 0 - 1)) (wsI w 86 0 (wI w 86 0 - 1))
  have e86 : wI (cpL 2 (hLn w (wI w 86 0 - 1)) (wsI w 86 0 (wI w 86 0 - 1))) 86 0 = wI w 86 0 - 1 := by
    rw [hfr.outA (fun i v hs => by unfold sLn at hs; omega), wI_wsI, if_pos ⟨rfl, rfl⟩]
  have hTc := sFr_sT hfr hT1
  rw [hE] at e86 hTc
  have w0 : wS w (hLn w (wI w 86 0 - 1)) = (2, 9) := (lS hT q2.1).1
  have w2 : wS w 2 = (2, 9) := (lS hT (show sm_isL 2 by simp [sm_isL])).1
  have hi2 : sm_isL 2 := by simp [sm_isL]
  have hil := q2.1
  have hn2 : 2 ≠ hLn w (wI w 86 0 - 1) := fun e => q2.2.1 e.symm
  generalize hEe : hGv w = E at *
  generalize hLe : hLn w (wI w 86 0 - 1) = L at *
  refine hZ (fun _ => false) 16 0 _ _ _ _ _ ?_
  simp only [sm_run, sm_blk, sm_get, sm_ent, sm_ents, sm_wds, sm_wd, sm_nl, sm_pop, sm_back, sm_cases, oK, oLK, oL, oI, oA, oJ, oIs, oAs, oJs, oInc, oAdd, oSub, oMul, oDiv, oRem, oNeg, oAnd, oAndB, oOr, oShl, oI2c, oI2l, oL2i, oLand, oLor, oLshl, oLshr, oLushr, oLcmp, oDup, oDup2, oPop, oGo, oFg, oEq, oNe, oLt, oGe, oGt, oLe, oEq0, oNe0, oLt0, oGe0, oGt0, oLe0, oSw, oGi, oGr, oPi, oPz, oPr, oLen, oIl, oZl, oCl, oRl, oIst, oZst, oCst, oRst, oCopy, oNew, oNa, oNa2, oObj, oCs, oCv, oCi, oIr, oZr, oVr, Nat.beq, List.getElem?_cons_zero, List.getElem?_cons_succ, List.set_cons_zero, List.set_cons_succ, List.length_cons, List.length_nil, List.nil_append, List.cons_append, List.append_nil, List.replicate_succ, List.replicate_zero, Nat.reduceAdd, Nat.reduceSub, Nat.reduceLT, Nat.reduceLeDiff, Nat.reduceBEq, true_and, and_true, Nat.zero_add, Nat.add_zero, Nat.le_refl, Option.some.injEq, exists_eq_left', true_or, or_true, or_false, false_or, reduceCtorEq, Prod.mk.injEq, Sum.inl.injEq, and_self, false_and, and_false, not_true_eq_false, not_false_eq_true, false_implies, true_implies, sm_r, Int.add_zero, Int.zero_add, wI_wsI, wS_wsI, wR_wsI, wI_wCp, wS_wCp, wR_wCp, Nat.reduceEqDiff, reduceIte, sT_iff, sT_iffC, wIf_ne, ne_eq, Bool.false_or, Bool.true_or, Bool.or_false, Bool.or_true, Bool.or_self, Nat.left_eq_add, Nat.add_eq_left, Nat.add_left_inj, oMax, oMin, oAbs, tb_X1_giveBack, p_X2_copyFrom, f_X2_copyFrom, p_X1_giveBack, f_X1_giveBack, sS_86 hT, sR_86_1 hT, sS_87 hT, q1, w0, w2, hT, sT_iff, hil, hi2, sS_86 hTc, e86, hE]
  repeat' (first | exact True.intro | with_reducible assumption | with_reducible refine And.intro ?_ ?_ | intro _)
  all_goals first
    | omega
    | assumption
    | rfl
    | (split <;> omega)
    | grind
    | skip
theorem met_X1_giveBack (l : Launch) : sm_Met l yX1_giveBack cX1_giveBack 2 (some .int) 2 0 0 p_X1_giveBack f_X1_giveBack := sm_met 1 (Or.inr (Or.inl ⟨rfl, rfl⟩)) (by decide +kernel) (sn_X1_giveBack l) ok_X1_giveBack
theorem is2 : sm_isL 2 := by simp [sm_isL]
theorem is35 : sm_isL 35 := by simp [sm_isL]
theorem is67 : sm_isL 67 := by simp [sm_isL]
theorem hi86 {w u : sm_W} {a : Nat} (hf : sFr (sLn a) w u) (ha : a + 7 < 86) : wI u 86 = wI w 86 := hf.outA (fun i v hs => by unfold sLn at hs; omega)
/-- the object itself, and its history in order -/
def cOK (w : sm_W) : Prop := lOK w 2 ∧ (0 ≤ wI w 86 0 ∧ wI w 86 0 ≤ 6)
def cChg (w : sm_W) (r : Int) : sm_W := if r < 0 then w else hKp w 67
def p_X7_changed : List sm_V → sm_W → Prop
  | [.inr (.inl o), .inl r], w => o = 0 ∧ sT w ∧ 0 ≤ wI w 86 0 ∧ wI w 86 0 ≤ 6
  | _, _ => False
def f_X7_changed : sm_F
  | [.inr (.inl o), .inl r], w => (some (.inl r), cChg w r)
  | _, w => (none, w)
def tb_X7_changed : List (Nat × List sm_O) := [(0, [oI 1, oLt0 15, oA 0, oGr 7 12 9, oA 0, oGr 7 12 4, oCv 1 2 p_X1_keep f_X1_keep 0 0 2, oGo 15]),
  (15, [oI 1, oIr])]
set_option maxRecDepth 100000 in
theorem sb_X7_changed_0 (l : Launch) : sm_SndB l RX7 "changed" cX7_changed 2 1 3 0 [oI 1, oLt0 15, oA 0, oGr 7 12 9, oA 0, oGr 7 12 4, oCv 1 2 p_X1_keep f_X1_keep 0 0 2, oGo 15] := sb_cons (sd_iload_n (by decide +kernel : decode cX7_changed 0 = .ok (.iload_n 1, 1)) rfl) (sb_cons (sd_lt0 (by decide +kernel : decode cX7_changed 1 = .ok (.ifCond .lt 14, 3)) (by decide)) (sb_cons (sd_aload_n (by decide +kernel : decode cX7_changed 4 = .ok (.aload_n 0, 1)) rfl) (sb_cons (sd_getr (k := 9) kl_7 (by decide) rfl wm_154 (by decide +kernel : decode cX7_changed 5 = .ok (.getfield 64, 3))) (sb_cons (sd_aload_n (by decide +kernel : decode cX7_changed 8 = .ok (.aload_n 0, 1)) rfl) (sb_cons (sd_getr (k := 4) kl_7 (by decide) rfl wm_149 (by decide +kernel : decode cX7_changed 9 = .ok (.getfield 30, 3))) (sb_cons (sd_callv (n := 1) (met_X1_keep l) (by decide) (by decide) wm_182 wm_179 wm_9 ⟨by decide +kernel, by decide +kernel, by decide +kernel⟩ kl_1 wm_180 wm_181 (by decide +kernel : decode cX7_changed 12 = .ok (.invokevirtual 107, 3))) (sb_cons (sd_fall (x := 0)) sb_nil)))))))
set_option maxRecDepth 100000 in
theorem sb_X7_changed_15 (l : Launch) : sm_SndB l RX7 "changed" cX7_changed 2 1 3 15 [oI 1, oIr] := sb_cons (sd_iload_n (by decide +kernel : decode cX7_changed 15 = .ok (.iload_n 1, 1)) rfl) (sb_cons (sd_ireturn (x := 0) rfl (by decide +kernel : decode cX7_changed 16 = .ok (.ireturn, 1))) sb_nil)
theorem sn_X7_changed (l : Launch) : sm_SndT l RX7 "changed" cX7_changed 2 1 3 tb_X7_changed := st_cons (sb_X7_changed_0 l) (st_cons (sb_X7_changed_15 l) (st_nil))
set_option maxRecDepth 100000 in
set_option maxHeartbeats 4000000 in
theorem ok_X7_changed : sm_Ok tb_X7_changed 2 0 0 p_X7_changed f_X7_changed := by
  intro as w hp ha hw
  match as, hp with
  | [.inr (.inl o), .inl r], hp =>
  refine ⟨Nat.le_of_ble_eq_true rfl, fun Z hZ => ?_⟩
  obtain ⟨rfl, hT, k0, k1⟩ := hp
  by_cases c : r < 0
  · skip
    refine hZ (fun _ => false) 16 0 _ _ _ _ _ ?_
    simp only [sm_run, sm_blk, sm_get, sm_ent, sm_ents, sm_wds, sm_wd, sm_nl, sm_pop, sm_back, sm_cases, oK, oLK, oL, oI, oA, oJ, oIs, oAs, oJs, oInc, oAdd, oSub, oMul, oDiv, oRem, oNeg, oAnd, oAndB, oOr, oShl, oI2c, oI2l, oL2i, oLand, oLor, oLshl, oLshr, oLushr, oLcmp, oDup, oDup2, oPop, oGo, oFg, oEq, oNe, oLt, oGe, oGt, oLe, oEq0, oNe0, oLt0, oGe0, oGt0, oLe0, oSw, oGi, oGr, oPi, oPz, oPr, oLen, oIl, oZl, oCl, oRl, oIst, oZst, oCst, oRst, oCopy, oNew, oNa, oNa2, oObj, oCs, oCv, oCi, oIr, oZr, oVr, Nat.beq, List.getElem?_cons_zero, List.getElem?_cons_succ, List.set_cons_zero, List.set_cons_succ, List.length_cons, List.length_nil, List.nil_append, List.cons_append, List.append_nil, List.replicate_succ, List.replicate_zero, Nat.reduceAdd, Nat.reduceSub, Nat.reduceLT, Nat.reduceLeDiff, Nat.reduceBEq, true_and, and_true, Nat.zero_add, Nat.add_zero, Nat.le_refl, Option.some.injEq, exists_eq_left', true_or, or_true, or_false, false_or, reduceCtorEq, Prod.mk.injEq, Sum.inl.injEq, and_self, false_and, and_false, not_true_eq_false, not_false_eq_true, false_implies, true_implies, sm_r, Int.add_zero, Int.zero_add, wI_wsI, wS_wsI, wR_wsI, wI_wCp, wS_wCp, wR_wCp, Nat.reduceEqDiff, reduceIte, sT_iff, sT_iffC, wIf_ne, ne_eq, Bool.false_or, Bool.true_or, Bool.or_false, Bool.or_true, Bool.or_self, Nat.left_eq_add, Nat.add_eq_left, Nat.add_left_inj, oMax, oMin, oAbs, tb_X7_changed, p_X1_keep, f_X1_keep, p_X7_changed, f_X7_changed, sS_0 hT, cChg, if_pos c]
    repeat' (first | exact True.intro | with_reducible assumption | with_reducible refine And.intro ?_ ?_ | intro _)
    all_goals first
      | omega
      | assumption
      | rfl
      | (split <;> omega)
      | grind
      | skip
  · skip
    refine hZ (fun _ => false) 16 0 _ _ _ _ _ ?_
    simp only [sm_run, sm_blk, sm_get, sm_ent, sm_ents, sm_wds, sm_wd, sm_nl, sm_pop, sm_back, sm_cases, oK, oLK, oL, oI, oA, oJ, oIs, oAs, oJs, oInc, oAdd, oSub, oMul, oDiv, oRem, oNeg, oAnd, oAndB, oOr, oShl, oI2c, oI2l, oL2i, oLand, oLor, oLshl, oLshr, oLushr, oLcmp, oDup, oDup2, oPop, oGo, oFg, oEq, oNe, oLt, oGe, oGt, oLe, oEq0, oNe0, oLt0, oGe0, oGt0, oLe0, oSw, oGi, oGr, oPi, oPz, oPr, oLen, oIl, oZl, oCl, oRl, oIst, oZst, oCst, oRst, oCopy, oNew, oNa, oNa2, oObj, oCs, oCv, oCi, oIr, oZr, oVr, Nat.beq, List.getElem?_cons_zero, List.getElem?_cons_succ, List.set_cons_zero, List.set_cons_succ, List.length_cons, List.length_nil, List.nil_append, List.cons_append, List.append_nil, List.replicate_succ, List.replicate_zero, Nat.reduceAdd, Nat.reduceSub, Nat.reduceLT, Nat.reduceLeDiff, Nat.reduceBEq, true_and, and_true, Nat.zero_add, Nat.add_zero, Nat.le_refl, Option.some.injEq, exists_eq_left', true_or, or_true, or_false, false_or, reduceCtorEq, Prod.mk.injEq, Sum.inl.injEq, and_self, false_and, and_false, not_true_eq_false, not_false_eq_true, false_implies, true_implies, sm_r, Int.add_zero, Int.zero_add, wI_wsI, wS_wsI, wR_wsI, wI_wCp, wS_wCp, wR_wCp, Nat.reduceEqDiff, reduceIte, sT_iff, sT_iffC, wIf_ne, ne_eq, Bool.false_or, Bool.true_or, Bool.or_false, Bool.or_true, Bool.or_self, Nat.left_eq_add, Nat.add_eq_left, Nat.add_left_inj, oMax, oMin, oAbs, tb_X7_changed, p_X1_keep, f_X1_keep, p_X7_changed, f_X7_changed, sS_0 hT, sR_0_9 hT, sR_0_4 hT, sS_86 hT, hT, cChg, if_neg c]
    repeat' (first | exact True.intro | with_reducible assumption | with_reducible refine And.intro ?_ ?_ | intro _)
    all_goals first
      | omega
      | assumption
      | rfl
      | (split <;> omega)
      | grind
      | skip
theorem met_X7_changed (l : Launch) : sm_Met l yX7_changed cX7_changed 2 (some .int) 3 0 0 p_X7_changed f_X7_changed := sm_met 1 (Or.inr (Or.inl ⟨rfl, rfl⟩)) (by decide +kernel) (sn_X7_changed l) ok_X7_changed
def cB (w : sm_W) : sm_W := cpL 67 2 w
theorem cB_in {w : sm_W} (h : cOK w) : sT (cB w) ∧ lOK (cB w) 2 ∧ wI (cB w) 86 = wI w 86 ∧ vL (cB w) 2 = vL w 2 ∧ (∀ a, (a < 67 ∨ 74 < a) → wI (cB w) a = wI w a) ∧ eq57 (vL (cB w) 67) (vL w 2) := by
  have hf := cpL_fr 67 2 w
  have o : ∀ a, (a < 67 ∨ 74 < a) → wI (cB w) a = wI w a := fun a ha => hf.outA (fun i v hs => by unfold sLn at hs; omega)
  have e : vL (cB w) 2 = vL w 2 := vL_cong (fun k hk => o _ (by omega))
  exact ⟨sFr_sT hf h.1.1, ⟨sFr_sT hf h.1.1, is2, by rw [e]; exact h.1.2.2⟩, o 86 (by decide), e, o, vL_cp (by omega)⟩
def p_X7_first : List sm_V → sm_W → Prop
  | [.inr (.inl o), .inl v], w => o = 0 ∧ cOK w
  | _, _ => False
def f_X7_first : sm_F
  | [.inr (.inl o), .inl v], w => (some (.inl (if 0 ≤ v ∧ v ≤ 2 then wI w 2 8 else -2)), (if 0 ≤ v ∧ v ≤ 2 then hKp (wsI (cB w) 2 8 v) 67 else cB w))
  | _, w => (none, w)
def tb_X7_first : List (Nat × List sm_O) := [(0, [oA 0, oGr 7 12 4, oA 0, oGr 7 12 1, oCv 2 9 p_X2_copyFrom f_X2_copyFrom 0 0 2, oA 0, oA 0, oGr 7 12 1, oI 1, oCv 2 9 p_X2_setFirst f_X2_setFirst 0 0 2, oCv 7 12 p_X7_changed f_X7_changed 0 0 2, oIr])]
set_option maxRecDepth 100000 in
theorem sb_X7_first_0 (l : Launch) : sm_SndB l RX7 "first" cX7_first 2 1 4 0 [oA 0, oGr 7 12 4, oA 0, oGr 7 12 1, oCv 2 9 p_X2_copyFrom f_X2_copyFrom 0 0 2, oA 0, oA 0, oGr 7 12 1, oI 1, oCv 2 9 p_X2_setFirst f_X2_setFirst 0 0 2, oCv 7 12 p_X7_changed f_X7_changed 0 0 2, oIr] := sb_cons (sd_aload_n (by decide +kernel : decode cX7_first 0 = .ok (.aload_n 0, 1)) rfl) (sb_cons (sd_getr (k := 4) kl_7 (by decide) rfl wm_149 (by decide +kernel : decode cX7_first 1 = .ok (.getfield 30, 3))) (sb_cons (sd_aload_n (by decide +kernel : decode cX7_first 4 = .ok (.aload_n 0, 1)) rfl) (sb_cons (sd_getr (k := 1) kl_7 (by decide) rfl wm_146 (by decide +kernel : decode cX7_first 5 = .ok (.getfield 20, 3))) (sb_cons (sd_callv (n := 1) (met_X2_copyFrom l) (by decide) (by decide) wm_165 wm_162 wm_3 ⟨by decide +kernel, by decide +kernel, by decide +kernel⟩ kl_2 wm_163 wm_164 (by decide +kernel : decode cX7_first 8 = .ok (.invokevirtual 76, 3))) (sb_cons (sd_aload_n (by decide +kernel : decode cX7_first 11 = .ok (.aload_n 0, 1)) rfl) (sb_cons (sd_aload_n (by decide +kernel : decode cX7_first 12 = .ok (.aload_n 0, 1)) rfl) (sb_cons (sd_getr (k := 1) kl_7 (by decide) rfl wm_146 (by decide +kernel : decode cX7_first 13 = .ok (.getfield 20, 3))) (sb_cons (sd_iload_n (by decide +kernel : decode cX7_first 16 = .ok (.iload_n 1, 1)) rfl) (sb_cons (sd_callv (n := 1) (met_X2_setFirst l) (by decide) (by decide) wm_173 wm_170 wm_3 ⟨by decide +kernel, by decide +kernel, by decide +kernel⟩ kl_2 wm_171 wm_172 (by decide +kernel : decode cX7_first 17 = .ok (.invokevirtual 80, 3))) (sb_cons (sd_callv (n := 1) (met_X7_changed l) (by decide) (by decide) wm_177 wm_175 wm_1 ⟨by decide +kernel, by decide +kernel, by decide +kernel⟩ kl_7 wm_176 wm_1077 (by decide +kernel : decode cX7_first 20 = .ok (.invokevirtual 84, 3))) (sb_cons (sd_ireturn (x := 0) rfl (by decide +kernel : decode cX7_first 23 = .ok (.ireturn, 1))) sb_nil)))))))))))
theorem sn_X7_first (l : Launch) : sm_SndT l RX7 "first" cX7_first 2 1 4 tb_X7_first := st_cons (sb_X7_first_0 l) (st_nil)
set_option maxRecDepth 100000 in
set_option maxHeartbeats 4000000 in
theorem ok_X7_first : sm_Ok tb_X7_first 2 0 0 p_X7_first f_X7_first := by
  intro as w hp ha hw
  match as, hp with
  | [.inr (.inl o), .inl v], hp =>
  refine ⟨Nat.le_of_ble_eq_true rfl, fun Z hZ => ?_⟩
  obtain ⟨rfl, hC⟩ := hp
  have hT := hC.1.1
  obtain ⟨b1, b2, b3, b4, b5, b6⟩ := cB_in hC
  have hk := hC.2
  have e2 : wI (cB w) 2 = wI w 2 := b5 2 (by decide)
  have hfi := lOK_f hC.1
  have hB : cpL 67 2 w = cB w := rfl
  generalize hBe : cB w = B at *
  by_cases c : 0 ≤ v ∧ v ≤ 2
  · have e86 : wI (wsI B 2 8 v) 86 = wI w 86 := by rw [wIf_ne (by decide), b3]
    have hch : cChg (wsI B 2 8 v) (wI w 2 8) = hKp (wsI B 2 8 v) 67 := if_neg (by omega)
    refine hZ (fun _ => false) 16 0 _ _ _ _ _ ?_
    simp only [sm_run, sm_blk, sm_get, sm_ent, sm_ents, sm_wds, sm_wd, sm_nl, sm_pop, sm_back, sm_cases, oK, oLK, oL, oI, oA, oJ, oIs, oAs, oJs, oInc, oAdd, oSub, oMul, oDiv, oRem, oNeg, oAnd, oAndB, oOr, oShl, oI2c, oI2l, oL2i, oLand, oLor, oLshl, oLshr, oLushr, oLcmp, oDup, oDup2, oPop, oGo, oFg, oEq, oNe, oLt, oGe, oGt, oLe, oEq0, oNe0, oLt0, oGe0, oGt0, oLe0, oSw, oGi, oGr, oPi, oPz, oPr, oLen, oIl, oZl, oCl, oRl, oIst, oZst, oCst, oRst, oCopy, oNew, oNa, oNa2, oObj, oCs, oCv, oCi, oIr, oZr, oVr, Nat.beq, List.getElem?_cons_zero, List.getElem?_cons_succ, List.set_cons_zero, List.set_cons_succ, List.length_cons, List.length_nil, List.nil_append, List.cons_append, List.append_nil, List.replicate_succ, List.replicate_zero, Nat.reduceAdd, Nat.reduceSub, Nat.reduceLT, Nat.reduceLeDiff, Nat.reduceBEq, true_and, and_true, Nat.zero_add, Nat.add_zero, Nat.le_refl, Option.some.injEq, exists_eq_left', true_or, or_true, or_false, false_or, reduceCtorEq, Prod.mk.injEq, Sum.inl.injEq, and_self, false_and, and_false, not_true_eq_false, not_false_eq_true, false_implies, true_implies, sm_r, Int.add_zero, Int.zero_add, wI_wsI, wS_wsI, wR_wsI, wI_wCp, wS_wCp, wR_wCp, Nat.reduceEqDiff, reduceIte, sT_iff, sT_iffC, wIf_ne, ne_eq, Bool.false_or, Bool.true_or, Bool.or_false, Bool.or_true, Bool.or_self, Nat.left_eq_add, Nat.add_eq_left, Nat.add_left_inj, oMax, oMin, oAbs, tb_X7_first, p_X2_copyFrom, p_X2_setFirst, p_X7_changed, f_X2_copyFrom, f_X2_setFirst, f_X7_changed, p_X7_first, f_X7_first, sS_0 hT, sR_0_4 hT, sR_0_1 hT, (lS hT is67).1, (lS hT is2).1, hT, is2, is67, hB, sS_0 b1, sR_0_1 b1, (lS b1 is2).1, b1, e2, e86, b3, hch, sT_iff, if_pos c]
    repeat' (first | exact True.intro | with_reducible assumption | with_reducible refine And.intro ?_ ?_ | intro _)
    all_goals first
      | omega
      | assumption
      | rfl
      | (split <;> omega)
      | grind
      | skip
  · have hch : cChg B (-2) = B := if_pos (by decide)
    refine hZ (fun _ => false) 16 0 _ _ _ _ _ ?_
    simp only [sm_run, sm_blk, sm_get, sm_ent, sm_ents, sm_wds, sm_wd, sm_nl, sm_pop, sm_back, sm_cases, oK, oLK, oL, oI, oA, oJ, oIs, oAs, oJs, oInc, oAdd, oSub, oMul, oDiv, oRem, oNeg, oAnd, oAndB, oOr, oShl, oI2c, oI2l, oL2i, oLand, oLor, oLshl, oLshr, oLushr, oLcmp, oDup, oDup2, oPop, oGo, oFg, oEq, oNe, oLt, oGe, oGt, oLe, oEq0, oNe0, oLt0, oGe0, oGt0, oLe0, oSw, oGi, oGr, oPi, oPz, oPr, oLen, oIl, oZl, oCl, oRl, oIst, oZst, oCst, oRst, oCopy, oNew, oNa, oNa2, oObj, oCs, oCv, oCi, oIr, oZr, oVr, Nat.beq, List.getElem?_cons_zero, List.getElem?_cons_succ, List.set_cons_zero, List.set_cons_succ, List.length_cons, List.length_nil, List.nil_append, List.cons_append, List.append_nil, List.replicate_succ, List.replicate_zero, Nat.reduceAdd, Nat.reduceSub, Nat.reduceLT, Nat.reduceLeDiff, Nat.reduceBEq, true_and, and_true, Nat.zero_add, Nat.add_zero, Nat.le_refl, Option.some.injEq, exists_eq_left', true_or, or_true, or_false, false_or, reduceCtorEq, Prod.mk.injEq, Sum.inl.injEq, and_self, false_and, and_false, not_true_eq_false, not_false_eq_true, false_implies, true_implies, sm_r, Int.add_zero, Int.zero_add, wI_wsI, wS_wsI, wR_wsI, wI_wCp, wS_wCp, wR_wCp, Nat.reduceEqDiff, reduceIte, sT_iff, sT_iffC, wIf_ne, ne_eq, Bool.false_or, Bool.true_or, Bool.or_false, Bool.or_true, Bool.or_self, Nat.left_eq_add, Nat.add_eq_left, Nat.add_left_inj, oMax, oMin, oAbs, tb_X7_first, p_X2_copyFrom, p_X2_setFirst, p_X7_changed, f_X2_copyFrom, f_X2_setFirst, f_X7_changed, p_X7_first, f_X7_first, sS_0 hT, sR_0_4 hT, sR_0_1 hT, (lS hT is67).1, (lS hT is2).1, hT, is2, is67, hB, sS_0 b1, sR_0_1 b1, (lS b1 is2).1, b1, e2, b3, hch, sT_iff, if_neg c]
    repeat' (first | exact True.intro | with_reducible assumption | with_reducible refine And.intro ?_ ?_ | intro _)
    all_goals first
      | omega
      | assumption
      | rfl
      | (split <;> omega)
      | grind
      | skip
theorem met_X7_first (l : Launch) : sm_Met l yX7_first cX7_first 2 (some .int) 4 0 0 p_X7_first f_X7_first := sm_met 1 (Or.inr (Or.inl ⟨rfl, rfl⟩)) (by decide +kernel) (sn_X7_first l) ok_X7_first
def p_X7_tracks : List sm_V → sm_W → Prop
  | [.inr (.inl o), .inl s, .inl v], w => o = 0 ∧ cOK w
  | _, _ => False
def f_X7_tracks : sm_F
  | [.inr (.inl o), .inl s, .inl v], w => (some (.inl (if 0 ≤ s ∧ s ≤ 7 then (if 1 ≤ v ∧ v ≤ 4 then wI w 3 s else -2) else -1)), (if 0 ≤ s ∧ s ≤ 7 then (if 1 ≤ v ∧ v ≤ 4 then hKp (wsI (cB w) 3 s v) 67 else cB w) else cB w))
  | _, w => (none, w)
def tb_X7_tracks : List (Nat × List sm_O) := [(0, [oA 0, oGr 7 12 4, oA 0, oGr 7 12 1, oCv 2 9 p_X2_copyFrom f_X2_copyFrom 0 0 2, oA 0, oA 0, oGr 7 12 1, oI 1, oI 2, oCv 2 9 p_X2_setTracks f_X2_setTracks 0 0 3, oCv 7 12 p_X7_changed f_X7_changed 0 0 2, oIr])]
set_option maxRecDepth 100000 in
theorem sb_X7_tracks_0 (l : Launch) : sm_SndB l RX7 "tracks" cX7_tracks 3 1 4 0 [oA 0, oGr 7 12 4, oA 0, oGr 7 12 1, oCv 2 9 p_X2_copyFrom f_X2_copyFrom 0 0 2, oA 0, oA 0, oGr 7 12 1, oI 1, oI 2, oCv 2 9 p_X2_setTracks f_X2_setTracks 0 0 3, oCv 7 12 p_X7_changed f_X7_changed 0 0 2, oIr] := sb_cons (sd_aload_n (by decide +kernel : decode cX7_tracks 0 = .ok (.aload_n 0, 1)) rfl) (sb_cons (sd_getr (k := 4) kl_7 (by decide) rfl wm_149 (by decide +kernel : decode cX7_tracks 1 = .ok (.getfield 30, 3))) (sb_cons (sd_aload_n (by decide +kernel : decode cX7_tracks 4 = .ok (.aload_n 0, 1)) rfl) (sb_cons (sd_getr (k := 1) kl_7 (by decide) rfl wm_146 (by decide +kernel : decode cX7_tracks 5 = .ok (.getfield 20, 3))) (sb_cons (sd_callv (n := 1) (met_X2_copyFrom l) (by decide) (by decide) wm_165 wm_162 wm_3 ⟨by decide +kernel, by decide +kernel, by decide +kernel⟩ kl_2 wm_163 wm_164 (by decide +kernel : decode cX7_tracks 8 = .ok (.invokevirtual 76, 3))) (sb_cons (sd_aload_n (by decide +kernel : decode cX7_tracks 11 = .ok (.aload_n 0, 1)) rfl) (sb_cons (sd_aload_n (by decide +kernel : decode cX7_tracks 12 = .ok (.aload_n 0, 1)) rfl) (sb_cons (sd_getr (k := 1) kl_7 (by decide) rfl wm_146 (by decide +kernel : decode cX7_tracks 13 = .ok (.getfield 20, 3))) (sb_cons (sd_iload_n (by decide +kernel : decode cX7_tracks 16 = .ok (.iload_n 1, 1)) rfl) (sb_cons (sd_iload_n (by decide +kernel : decode cX7_tracks 17 = .ok (.iload_n 2, 1)) rfl) (sb_cons (sd_callv (n := 2) (met_X2_setTracks l) (by decide) (by decide) wm_197 wm_194 wm_3 ⟨by decide +kernel, by decide +kernel, by decide +kernel⟩ kl_2 wm_195 wm_196 (by decide +kernel : decode cX7_tracks 18 = .ok (.invokevirtual 87, 3))) (sb_cons (sd_callv (n := 1) (met_X7_changed l) (by decide) (by decide) wm_177 wm_175 wm_1 ⟨by decide +kernel, by decide +kernel, by decide +kernel⟩ kl_7 wm_176 wm_1077 (by decide +kernel : decode cX7_tracks 21 = .ok (.invokevirtual 84, 3))) (sb_cons (sd_ireturn (x := 0) rfl (by decide +kernel : decode cX7_tracks 24 = .ok (.ireturn, 1))) sb_nil))))))))))))
theorem sn_X7_tracks (l : Launch) : sm_SndT l RX7 "tracks" cX7_tracks 3 1 4 tb_X7_tracks := st_cons (sb_X7_tracks_0 l) (st_nil)
set_option maxRecDepth 100000 in
set_option maxHeartbeats 4000000 in
theorem ok_X7_tracks : sm_Ok tb_X7_tracks 3 0 0 p_X7_tracks f_X7_tracks := by
  intro as w hp ha hw
  match as, hp with
  | [.inr (.inl o), .inl s, .inl v], hp =>
  refine ⟨Nat.le_of_ble_eq_true rfl, fun Z hZ => ?_⟩
  obtain ⟨rfl, hC⟩ := hp
  have hT := hC.1.1
  obtain ⟨b1, b2, b3, b4, b5, b6⟩ := cB_in hC
  have hk := hC.2
  have e3 : wI (cB w) 3 = wI w 3 := b5 3 (by decide)
  have hB : cpL 67 2 w = cB w := rfl
  have htr := fun h0 h1 => lOK_t hC.1 (k := s) h0 h1
  generalize hBe : cB w = B at *
  by_cases c : 0 ≤ s ∧ s ≤ 7
  · by_cases c2 : 1 ≤ v ∧ v ≤ 4
    · have htr : 1 ≤ wI w 3 s ∧ wI w 3 s ≤ 4 := htr c.1 (by omega)
      have e86 : wI (wsI B 3 s v) 86 = wI w 86 := by rw [wIf_ne (by decide), b3]
      have hch : cChg (wsI B 3 s v) (wI w 3 s) = hKp (wsI B 3 s v) 67 := if_neg (by omega)
      refine hZ (fun _ => false) 16 0 _ _ _ _ _ ?_
      simp only [sm_run, sm_blk, sm_get, sm_ent, sm_ents, sm_wds, sm_wd, sm_nl, sm_pop, sm_back, sm_cases, oK, oLK, oL, oI, oA, oJ, oIs, oAs, oJs, oInc, oAdd, oSub, oMul, oDiv, oRem, oNeg, oAnd, oAndB, oOr, oShl, oI2c, oI2l, oL2i, oLand, oLor, oLshl, oLshr, oLushr, oLcmp, oDup, oDup2, oPop, oGo, oFg, oEq, oNe, oLt, oGe, oGt, oLe, oEq0, oNe0, oLt0, oGe0, oGt0, oLe0, oSw, oGi, oGr, oPi, oPz, oPr, oLen, oIl, oZl, oCl, oRl, oIst, oZst, oCst, oRst, oCopy, oNew, oNa, oNa2, oObj, oCs, oCv, oCi, oIr, oZr, oVr, Nat.beq, List.getElem?_cons_zero, List.getElem?_cons_succ, List.set_cons_zero, List.set_cons_succ, List.length_cons, List.length_nil, List.nil_append, List.cons_append, List.append_nil, List.replicate_succ, List.replicate_zero, Nat.reduceAdd, Nat.reduceSub, Nat.reduceLT, Nat.reduceLeDiff, Nat.reduceBEq, true_and, and_true, Nat.zero_add, Nat.add_zero, Nat.le_refl, Option.some.injEq, exists_eq_left', true_or, or_true, or_false, false_or, reduceCtorEq, Prod.mk.injEq, Sum.inl.injEq, and_self, false_and, and_false, not_true_eq_false, not_false_eq_true, false_implies, true_implies, sm_r, Int.add_zero, Int.zero_add, wI_wsI, wS_wsI, wR_wsI, wI_wCp, wS_wCp, wR_wCp, Nat.reduceEqDiff, reduceIte, sT_iff, sT_iffC, wIf_ne, ne_eq, Bool.false_or, Bool.true_or, Bool.or_false, Bool.or_true, Bool.or_self, Nat.left_eq_add, Nat.add_eq_left, Nat.add_left_inj, oMax, oMin, oAbs, tb_X7_tracks, p_X2_copyFrom, p_X2_setTracks, p_X7_changed, f_X2_copyFrom, f_X2_setTracks, f_X7_changed, p_X7_tracks, f_X7_tracks, sS_0 hT, sR_0_4 hT, sR_0_1 hT, (lS hT is67).1, (lS hT is2).1, hT, is2, is67, hB, sS_0 b1, sR_0_1 b1, (lS b1 is2).1, b1, e3, e86, b3, hch, sT_iff, if_pos c, if_pos c2]
      repeat' (first | exact True.intro | with_reducible assumption | with_reducible refine And.intro ?_ ?_ | intro _)
      all_goals first
        | omega
        | assumption
        | rfl
        | (split <;> omega)
        | grind
        | skip
    · have hch : cChg B (-2) = B := if_pos (by decide)
      refine hZ (fun _ => false) 16 0 _ _ _ _ _ ?_
      simp only [sm_run, sm_blk, sm_get, sm_ent, sm_ents, sm_wds, sm_wd, sm_nl, sm_pop, sm_back, sm_cases, oK, oLK, oL, oI, oA, oJ, oIs, oAs, oJs, oInc, oAdd, oSub, oMul, oDiv, oRem, oNeg, oAnd, oAndB, oOr, oShl, oI2c, oI2l, oL2i, oLand, oLor, oLshl, oLshr, oLushr, oLcmp, oDup, oDup2, oPop, oGo, oFg, oEq, oNe, oLt, oGe, oGt, oLe, oEq0, oNe0, oLt0, oGe0, oGt0, oLe0, oSw, oGi, oGr, oPi, oPz, oPr, oLen, oIl, oZl, oCl, oRl, oIst, oZst, oCst, oRst, oCopy, oNew, oNa, oNa2, oObj, oCs, oCv, oCi, oIr, oZr, oVr, Nat.beq, List.getElem?_cons_zero, List.getElem?_cons_succ, List.set_cons_zero, List.set_cons_succ, List.length_cons, List.length_nil, List.nil_append, List.cons_append, List.append_nil, List.replicate_succ, List.replicate_zero, Nat.reduceAdd, Nat.reduceSub, Nat.reduceLT, Nat.reduceLeDiff, Nat.reduceBEq, true_and, and_true, Nat.zero_add, Nat.add_zero, Nat.le_refl, Option.some.injEq, exists_eq_left', true_or, or_true, or_false, false_or, reduceCtorEq, Prod.mk.injEq, Sum.inl.injEq, and_self, false_and, and_false, not_true_eq_false, not_false_eq_true, false_implies, true_implies, sm_r, Int.add_zero, Int.zero_add, wI_wsI, wS_wsI, wR_wsI, wI_wCp, wS_wCp, wR_wCp, Nat.reduceEqDiff, reduceIte, sT_iff, sT_iffC, wIf_ne, ne_eq, Bool.false_or, Bool.true_or, Bool.or_false, Bool.or_true, Bool.or_self, Nat.left_eq_add, Nat.add_eq_left, Nat.add_left_inj, oMax, oMin, oAbs, tb_X7_tracks, p_X2_copyFrom, p_X2_setTracks, p_X7_changed, f_X2_copyFrom, f_X2_setTracks, f_X7_changed, p_X7_tracks, f_X7_tracks, sS_0 hT, sR_0_4 hT, sR_0_1 hT, (lS hT is67).1, (lS hT is2).1, hT, is2, is67, hB, sS_0 b1, sR_0_1 b1, (lS b1 is2).1, b1, b3, hch, if_pos c, if_neg c2]
      repeat' (first | exact True.intro | with_reducible assumption | with_reducible refine And.intro ?_ ?_ | intro _)
      all_goals first
        | omega
        | assumption
        | rfl
        | (split <;> omega)
        | grind
        | skip
  · have hch : cChg B (-1) = B := if_pos (by decide)
    refine hZ (fun _ => false) 16 0 _ _ _ _ _ ?_
    simp only [sm_run, sm_blk, sm_get, sm_ent, sm_ents, sm_wds, sm_wd, sm_nl, sm_pop, sm_back, sm_cases, oK, oLK, oL, oI, oA, oJ, oIs, oAs, oJs, oInc, oAdd, oSub, oMul, oDiv, oRem, oNeg, oAnd, oAndB, oOr, oShl, oI2c, oI2l, oL2i, oLand, oLor, oLshl, oLshr, oLushr, oLcmp, oDup, oDup2, oPop, oGo, oFg, oEq, oNe, oLt, oGe, oGt, oLe, oEq0, oNe0, oLt0, oGe0, oGt0, oLe0, oSw, oGi, oGr, oPi, oPz, oPr, oLen, oIl, oZl, oCl, oRl, oIst, oZst, oCst, oRst, oCopy, oNew, oNa, oNa2, oObj, oCs, oCv, oCi, oIr, oZr, oVr, Nat.beq, List.getElem?_cons_zero, List.getElem?_cons_succ, List.set_cons_zero, List.set_cons_succ, List.length_cons, List.length_nil, List.nil_append, List.cons_append, List.append_nil, List.replicate_succ, List.replicate_zero, Nat.reduceAdd, Nat.reduceSub, Nat.reduceLT, Nat.reduceLeDiff, Nat.reduceBEq, true_and, and_true, Nat.zero_add, Nat.add_zero, Nat.le_refl, Option.some.injEq, exists_eq_left', true_or, or_true, or_false, false_or, reduceCtorEq, Prod.mk.injEq, Sum.inl.injEq, and_self, false_and, and_false, not_true_eq_false, not_false_eq_true, false_implies, true_implies, sm_r, Int.add_zero, Int.zero_add, wI_wsI, wS_wsI, wR_wsI, wI_wCp, wS_wCp, wR_wCp, Nat.reduceEqDiff, reduceIte, sT_iff, sT_iffC, wIf_ne, ne_eq, Bool.false_or, Bool.true_or, Bool.or_false, Bool.or_true, Bool.or_self, Nat.left_eq_add, Nat.add_eq_left, Nat.add_left_inj, oMax, oMin, oAbs, tb_X7_tracks, p_X2_copyFrom, p_X2_setTracks, p_X7_changed, f_X2_copyFrom, f_X2_setTracks, f_X7_changed, p_X7_tracks, f_X7_tracks, sS_0 hT, sR_0_4 hT, sR_0_1 hT, (lS hT is67).1, (lS hT is2).1, hT, is2, is67, hB, sS_0 b1, sR_0_1 b1, (lS b1 is2).1, b1, b3, hch, if_neg c]
    repeat' (first | exact True.intro | with_reducible assumption | with_reducible refine And.intro ?_ ?_ | intro _)
    all_goals first
      | omega
      | assumption
      | rfl
      | (split <;> omega)
      | grind
      | skip
theorem met_X7_tracks (l : Launch) : sm_Met l yX7_tracks cX7_tracks 3 (some .int) 4 0 0 p_X7_tracks f_X7_tracks := sm_met 1 (Or.inr (Or.inl ⟨rfl, rfl⟩)) (by decide +kernel) (sn_X7_tracks l) ok_X7_tracks
def p_X7_running : List sm_V → sm_W → Prop
  | [.inr (.inl o), .inl s, .inl v], w => o = 0 ∧ cOK w
  | _, _ => False
def f_X7_running : sm_F
  | [.inr (.inl o), .inl s, .inl v], w => (some (.inl (if 0 ≤ s ∧ s ≤ 6 then (if 1 ≤ v ∧ v ≤ 30 then wI w 4 s else -2) else -1)), (if 0 ≤ s ∧ s ≤ 6 then (if 1 ≤ v ∧ v ≤ 30 then hKp (wsI (cB w) 4 s v) 67 else cB w) else cB w))
  | _, w => (none, w)
def tb_X7_running : List (Nat × List sm_O) := [(0, [oA 0, oGr 7 12 4, oA 0, oGr 7 12 1, oCv 2 9 p_X2_copyFrom f_X2_copyFrom 0 0 2, oA 0, oA 0, oGr 7 12 1, oI 1, oI 2, oCv 2 9 p_X2_setRunning f_X2_setRunning 0 0 3, oCv 7 12 p_X7_changed f_X7_changed 0 0 2, oIr])]
set_option maxRecDepth 100000 in
theorem sb_X7_running_0 (l : Launch) : sm_SndB l RX7 "running" cX7_running 3 1 4 0 [oA 0, oGr 7 12 4, oA 0, oGr 7 12 1, oCv 2 9 p_X2_copyFrom f_X2_copyFrom 0 0 2, oA 0, oA 0, oGr 7 12 1, oI 1, oI 2, oCv 2 9 p_X2_setRunning f_X2_setRunning 0 0 3, oCv 7 12 p_X7_changed f_X7_changed 0 0 2, oIr] := sb_cons (sd_aload_n (by decide +kernel : decode cX7_running 0 = .ok (.aload_n 0, 1)) rfl) (sb_cons (sd_getr (k := 4) kl_7 (by decide) rfl wm_149 (by decide +kernel : decode cX7_running 1 = .ok (.getfield 30, 3))) (sb_cons (sd_aload_n (by decide +kernel : decode cX7_running 4 = .ok (.aload_n 0, 1)) rfl) (sb_cons (sd_getr (k := 1) kl_7 (by decide) rfl wm_146 (by decide +kernel : decode cX7_running 5 = .ok (.getfield 20, 3))) (sb_cons (sd_callv (n := 1) (met_X2_copyFrom l) (by decide) (by decide) wm_165 wm_162 wm_3 ⟨by decide +kernel, by decide +kernel, by decide +kernel⟩ kl_2 wm_163 wm_164 (by decide +kernel : decode cX7_running 8 = .ok (.invokevirtual 76, 3))) (sb_cons (sd_aload_n (by decide +kernel : decode cX7_running 11 = .ok (.aload_n 0, 1)) rfl) (sb_cons (sd_aload_n (by decide +kernel : decode cX7_running 12 = .ok (.aload_n 0, 1)) rfl) (sb_cons (sd_getr (k := 1) kl_7 (by decide) rfl wm_146 (by decide +kernel : decode cX7_running 13 = .ok (.getfield 20, 3))) (sb_cons (sd_iload_n (by decide +kernel : decode cX7_running 16 = .ok (.iload_n 1, 1)) rfl) (sb_cons (sd_iload_n (by decide +kernel : decode cX7_running 17 = .ok (.iload_n 2, 1)) rfl) (sb_cons (sd_callv (n := 2) (met_X2_setRunning l) (by decide) (by decide) wm_210 wm_207 wm_3 ⟨by decide +kernel, by decide +kernel, by decide +kernel⟩ kl_2 wm_208 wm_209 (by decide +kernel : decode cX7_running 18 = .ok (.invokevirtual 91, 3))) (sb_cons (sd_callv (n := 1) (met_X7_changed l) (by decide) (by decide) wm_177 wm_175 wm_1 ⟨by decide +kernel, by decide +kernel, by decide +kernel⟩ kl_7 wm_176 wm_1077 (by decide +kernel : decode cX7_running 21 = .ok (.invokevirtual 84, 3))) (sb_cons (sd_ireturn (x := 0) rfl (by decide +kernel : decode cX7_running 24 = .ok (.ireturn, 1))) sb_nil))))))))))))
theorem sn_X7_running (l : Launch) : sm_SndT l RX7 "running" cX7_running 3 1 4 tb_X7_running := st_cons (sb_X7_running_0 l) (st_nil)
set_option maxRecDepth 100000 in
set_option maxHeartbeats 4000000 in
theorem ok_X7_running : sm_Ok tb_X7_running 3 0 0 p_X7_running f_X7_running := by
  intro as w hp ha hw
  match as, hp with
  | [.inr (.inl o), .inl s, .inl v], hp =>
  refine ⟨Nat.le_of_ble_eq_true rfl, fun Z hZ => ?_⟩
  obtain ⟨rfl, hC⟩ := hp
  have hT := hC.1.1
  obtain ⟨b1, b2, b3, b4, b5, b6⟩ := cB_in hC
  have hk := hC.2
  have e3 : wI (cB w) 4 = wI w 4 := b5 4 (by decide)
  have hB : cpL 67 2 w = cB w := rfl
  have htr := fun h0 h1 => lOK_r hC.1 (k := s) h0 h1
  generalize hBe : cB w = B at *
  by_cases c : 0 ≤ s ∧ s ≤ 6
  · by_cases c2 : 1 ≤ v ∧ v ≤ 30
    · have htr : 1 ≤ wI w 4 s ∧ wI w 4 s ≤ 30 := htr c.1 (by omega)
      have e86 : wI (wsI B 4 s v) 86 = wI w 86 := by rw [wIf_ne (by decide), b3]
      have hch : cChg (wsI B 4 s v) (wI w 4 s) = hKp (wsI B 4 s v) 67 := if_neg (by omega)
      refine hZ (fun _ => false) 16 0 _ _ _ _ _ ?_
      simp only [sm_run, sm_blk, sm_get, sm_ent, sm_ents, sm_wds, sm_wd, sm_nl, sm_pop, sm_back, sm_cases, oK, oLK, oL, oI, oA, oJ, oIs, oAs, oJs, oInc, oAdd, oSub, oMul, oDiv, oRem, oNeg, oAnd, oAndB, oOr, oShl, oI2c, oI2l, oL2i, oLand, oLor, oLshl, oLshr, oLushr, oLcmp, oDup, oDup2, oPop, oGo, oFg, oEq, oNe, oLt, oGe, oGt, oLe, oEq0, oNe0, oLt0, oGe0, oGt0, oLe0, oSw, oGi, oGr, oPi, oPz, oPr, oLen, oIl, oZl, oCl, oRl, oIst, oZst, oCst, oRst, oCopy, oNew, oNa, oNa2, oObj, oCs, oCv, oCi, oIr, oZr, oVr, Nat.beq, List.getElem?_cons_zero, List.getElem?_cons_succ, List.set_cons_zero, List.set_cons_succ, List.length_cons, List.length_nil, List.nil_append, List.cons_append, List.append_nil, List.replicate_succ, List.replicate_zero, Nat.reduceAdd, Nat.reduceSub, Nat.reduceLT, Nat.reduceLeDiff, Nat.reduceBEq, true_and, and_true, Nat.zero_add, Nat.add_zero, Nat.le_refl, Option.some.injEq, exists_eq_left', true_or, or_true, or_false, false_or, reduceCtorEq, Prod.mk.injEq, Sum.inl.injEq, and_self, false_and, and_false, not_true_eq_false, not_false_eq_true, false_implies, true_implies, sm_r, Int.add_zero, Int.zero_add, wI_wsI, wS_wsI, wR_wsI, wI_wCp, wS_wCp, wR_wCp, Nat.reduceEqDiff, reduceIte, sT_iff, sT_iffC, wIf_ne, ne_eq, Bool.false_or, Bool.true_or, Bool.or_false, Bool.or_true, Bool.or_self, Nat.left_eq_add, Nat.add_eq_left, Nat.add_left_inj, oMax, oMin, oAbs, tb_X7_running, p_X2_copyFrom, p_X2_setRunning, p_X7_changed, f_X2_copyFrom, f_X2_setRunning, f_X7_changed, p_X7_running, f_X7_running, sS_0 hT, sR_0_4 hT, sR_0_1 hT, (lS hT is67).1, (lS hT is2).1, hT, is2, is67, hB, sS_0 b1, sR_0_1 b1, (lS b1 is2).1, b1, e3, e86, b3, hch, sT_iff, if_pos c, if_pos c2]
      repeat' (first | exact True.intro | with_reducible assumption | with_reducible refine And.intro ?_ ?_ | intro _)
      all_goals first
        | omega
        | assumption
        | rfl
        | (split <;> omega)
        | grind
        | skip
    · have hch : cChg B (-2) = B := if_pos (by decide)
      refine hZ (fun _ => false) 16 0 _ _ _ _ _ ?_
      simp only [sm_run, sm_blk, sm_get, sm_ent, sm_ents, sm_wds, sm_wd, sm_nl, sm_pop, sm_back, sm_cases, oK, oLK, oL, oI, oA, oJ, oIs, oAs, oJs, oInc, oAdd, oSub, oMul, oDiv, oRem, oNeg, oAnd, oAndB, oOr, oShl, oI2c, oI2l, oL2i, oLand, oLor, oLshl, oLshr, oLushr, oLcmp, oDup, oDup2, oPop, oGo, oFg, oEq, oNe, oLt, oGe, oGt, oLe, oEq0, oNe0, oLt0, oGe0, oGt0, oLe0, oSw, oGi, oGr, oPi, oPz, oPr, oLen, oIl, oZl, oCl, oRl, oIst, oZst, oCst, oRst, oCopy, oNew, oNa, oNa2, oObj, oCs, oCv, oCi, oIr, oZr, oVr, Nat.beq, List.getElem?_cons_zero, List.getElem?_cons_succ, List.set_cons_zero, List.set_cons_succ, List.length_cons, List.length_nil, List.nil_append, List.cons_append, List.append_nil, List.replicate_succ, List.replicate_zero, Nat.reduceAdd, Nat.reduceSub, Nat.reduceLT, Nat.reduceLeDiff, Nat.reduceBEq, true_and, and_true, Nat.zero_add, Nat.add_zero, Nat.le_refl, Option.some.injEq, exists_eq_left', true_or, or_true, or_false, false_or, reduceCtorEq, Prod.mk.injEq, Sum.inl.injEq, and_self, false_and, and_false, not_true_eq_false, not_false_eq_true, false_implies, true_implies, sm_r, Int.add_zero, Int.zero_add, wI_wsI, wS_wsI, wR_wsI, wI_wCp, wS_wCp, wR_wCp, Nat.reduceEqDiff, reduceIte, sT_iff, sT_iffC, wIf_ne, ne_eq, Bool.false_or, Bool.true_or, Bool.or_false, Bool.or_true, Bool.or_self, Nat.left_eq_add, Nat.add_eq_left, Nat.add_left_inj, oMax, oMin, oAbs, tb_X7_running, p_X2_copyFrom, p_X2_setRunning, p_X7_changed, f_X2_copyFrom, f_X2_setRunning, f_X7_changed, p_X7_running, f_X7_running, sS_0 hT, sR_0_4 hT, sR_0_1 hT, (lS hT is67).1, (lS hT is2).1, hT, is2, is67, hB, sS_0 b1, sR_0_1 b1, (lS b1 is2).1, b1, b3, hch, if_pos c, if_neg c2]
      repeat' (first | exact True.intro | with_reducible assumption | with_reducible refine And.intro ?_ ?_ | intro _)
      all_goals first
        | omega
        | assumption
        | rfl
        | (split <;> omega)
        | grind
        | skip
  · have hch : cChg B (-1) = B := if_pos (by decide)
    refine hZ (fun _ => false) 16 0 _ _ _ _ _ ?_
    simp only [sm_run, sm_blk, sm_get, sm_ent, sm_ents, sm_wds, sm_wd, sm_nl, sm_pop, sm_back, sm_cases, oK, oLK, oL, oI, oA, oJ, oIs, oAs, oJs, oInc, oAdd, oSub, oMul, oDiv, oRem, oNeg, oAnd, oAndB, oOr, oShl, oI2c, oI2l, oL2i, oLand, oLor, oLshl, oLshr, oLushr, oLcmp, oDup, oDup2, oPop, oGo, oFg, oEq, oNe, oLt, oGe, oGt, oLe, oEq0, oNe0, oLt0, oGe0, oGt0, oLe0, oSw, oGi, oGr, oPi, oPz, oPr, oLen, oIl, oZl, oCl, oRl, oIst, oZst, oCst, oRst, oCopy, oNew, oNa, oNa2, oObj, oCs, oCv, oCi, oIr, oZr, oVr, Nat.beq, List.getElem?_cons_zero, List.getElem?_cons_succ, List.set_cons_zero, List.set_cons_succ, List.length_cons, List.length_nil, List.nil_append, List.cons_append, List.append_nil, List.replicate_succ, List.replicate_zero, Nat.reduceAdd, Nat.reduceSub, Nat.reduceLT, Nat.reduceLeDiff, Nat.reduceBEq, true_and, and_true, Nat.zero_add, Nat.add_zero, Nat.le_refl, Option.some.injEq, exists_eq_left', true_or, or_true, or_false, false_or, reduceCtorEq, Prod.mk.injEq, Sum.inl.injEq, and_self, false_and, and_false, not_true_eq_false, not_false_eq_true, false_implies, true_implies, sm_r, Int.add_zero, Int.zero_add, wI_wsI, wS_wsI, wR_wsI, wI_wCp, wS_wCp, wR_wCp, Nat.reduceEqDiff, reduceIte, sT_iff, sT_iffC, wIf_ne, ne_eq, Bool.false_or, Bool.true_or, Bool.or_false, Bool.or_true, Bool.or_self, Nat.left_eq_add, Nat.add_eq_left, Nat.add_left_inj, oMax, oMin, oAbs, tb_X7_running, p_X2_copyFrom, p_X2_setRunning, p_X7_changed, f_X2_copyFrom, f_X2_setRunning, f_X7_changed, p_X7_running, f_X7_running, sS_0 hT, sR_0_4 hT, sR_0_1 hT, (lS hT is67).1, (lS hT is2).1, hT, is2, is67, hB, sS_0 b1, sR_0_1 b1, (lS b1 is2).1, b1, b3, hch, if_neg c]
    repeat' (first | exact True.intro | with_reducible assumption | with_reducible refine And.intro ?_ ?_ | intro _)
    all_goals first
      | omega
      | assumption
      | rfl
      | (split <;> omega)
      | grind
      | skip
theorem met_X7_running (l : Launch) : sm_Met l yX7_running cX7_running 3 (some .int) 4 0 0 p_X7_running f_X7_running := sm_met 1 (Or.inr (Or.inl ⟨rfl, rfl⟩)) (by decide +kernel) (sn_X7_running l) ok_X7_running
def cAd (w : sm_W) (p q c d e : Int) : Int := if mShOk p q c d e < 0 then mShOk p q c d e else (if wI w 2 7 = 8 then -4 else wI w 2 7)
def p_X7_shuttle : List sm_V → sm_W → Prop
  | [.inr (.inl o), .inl p, .inl q, .inl c, .inl d, .inl e], w => o = 0 ∧ cOK w
  | _, _ => False
def f_X7_shuttle : sm_F
  | [.inr (.inl o), .inl p, .inl q, .inl c, .inl d, .inl e], w => (some (.inl (cAd w p q c d e)), (if cAd w p q c d e < 0 then cB w else hKp (lNewSh 2 (cB w) p q c d e) 67))
  | _, w => (none, w)
def tb_X7_shuttle : List (Nat × List sm_O) := [(0, [oA 0, oGr 7 12 4, oA 0, oGr 7 12 1, oCv 2 9 p_X2_copyFrom f_X2_copyFrom 0 0 2, oA 0, oA 0, oGr 7 12 1, oI 1, oI 2, oI 3, oI 4, oI 5, oCv 2 9 p_X2_addShuttle f_X2_addShuttle 0 0 6, oCv 7 12 p_X7_changed f_X7_changed 0 0 2, oIr])]
set_option maxRecDepth 100000 in
theorem sb_X7_shuttle_0 (l : Launch) : sm_SndB l RX7 "shuttle" cX7_shuttle 6 1 4 0 [oA 0, oGr 7 12 4, oA 0, oGr 7 12 1, oCv 2 9 p_X2_copyFrom f_X2_copyFrom 0 0 2, oA 0, oA 0, oGr 7 12 1, oI 1, oI 2, oI 3, oI 4, oI 5, oCv 2 9 p_X2_addShuttle f_X2_addShuttle 0 0 6, oCv 7 12 p_X7_changed f_X7_changed 0 0 2, oIr] := sb_cons (sd_aload_n (by decide +kernel : decode cX7_shuttle 0 = .ok (.aload_n 0, 1)) rfl) (sb_cons (sd_getr (k := 4) kl_7 (by decide) rfl wm_149 (by decide +kernel : decode cX7_shuttle 1 = .ok (.getfield 30, 3))) (sb_cons (sd_aload_n (by decide +kernel : decode cX7_shuttle 4 = .ok (.aload_n 0, 1)) rfl) (sb_cons (sd_getr (k := 1) kl_7 (by decide) rfl wm_146 (by decide +kernel : decode cX7_shuttle 5 = .ok (.getfield 20, 3))) (sb_cons (sd_callv (n := 1) (met_X2_copyFrom l) (by decide) (by decide) wm_165 wm_162 wm_3 ⟨by decide +kernel, by decide +kernel, by decide +kernel⟩ kl_2 wm_163 wm_164 (by decide +kernel : decode cX7_shuttle 8 = .ok (.invokevirtual 76, 3))) (sb_cons (sd_aload_n (by decide +kernel : decode cX7_shuttle 11 = .ok (.aload_n 0, 1)) rfl) (sb_cons (sd_aload_n (by decide +kernel : decode cX7_shuttle 12 = .ok (.aload_n 0, 1)) rfl) (sb_cons (sd_getr (k := 1) kl_7 (by decide) rfl wm_146 (by decide +kernel : decode cX7_shuttle 13 = .ok (.getfield 20, 3))) (sb_cons (sd_iload_n (by decide +kernel : decode cX7_shuttle 16 = .ok (.iload_n 1, 1)) rfl) (sb_cons (sd_iload_n (by decide +kernel : decode cX7_shuttle 17 = .ok (.iload_n 2, 1)) rfl) (sb_cons (sd_iload_n (by decide +kernel : decode cX7_shuttle 18 = .ok (.iload_n 3, 1)) rfl) (sb_cons (sd_iload (by decide +kernel : decode cX7_shuttle 19 = .ok (.iload 4, 2))) (sb_cons (sd_iload (by decide +kernel : decode cX7_shuttle 21 = .ok (.iload 5, 2))) (sb_cons (sd_callv (n := 5) (met_X2_addShuttle l) (by decide) (by decide) wm_223 wm_220 wm_3 ⟨by decide +kernel, by decide +kernel, by decide +kernel⟩ kl_2 wm_221 wm_222 (by decide +kernel : decode cX7_shuttle 23 = .ok (.invokevirtual 94, 3))) (sb_cons (sd_callv (n := 1) (met_X7_changed l) (by decide) (by decide) wm_177 wm_175 wm_1 ⟨by decide +kernel, by decide +kernel, by decide +kernel⟩ kl_7 wm_176 wm_1077 (by decide +kernel : decode cX7_shuttle 26 = .ok (.invokevirtual 84, 3))) (sb_cons (sd_ireturn (x := 0) rfl (by decide +kernel : decode cX7_shuttle 29 = .ok (.ireturn, 1))) sb_nil)))))))))))))))
theorem sn_X7_shuttle (l : Launch) : sm_SndT l RX7 "shuttle" cX7_shuttle 6 1 4 tb_X7_shuttle := st_cons (sb_X7_shuttle_0 l) (st_nil)
set_option maxRecDepth 100000 in
set_option maxHeartbeats 4000000 in
theorem ok_X7_shuttle : sm_Ok tb_X7_shuttle 6 0 0 p_X7_shuttle f_X7_shuttle := by
  intro as w hp ha hw
  match as, hp with
  | [.inr (.inl o), .inl p, .inl q, .inl c, .inl d, .inl e], hp =>
  refine ⟨Nat.le_of_ble_eq_true rfl, fun Z hZ => ?_⟩
  obtain ⟨rfl, hC⟩ := hp
  have hT := hC.1.1
  obtain ⟨b1, b2, b3, b4, b5, b6⟩ := cB_in hC
  have hk := hC.2
  have hn := lOK_n hC.1
  have e2 : wI (cB w) 2 = wI w 2 := b5 2 (by decide)
  have hB : cpL 67 2 w = cB w := rfl
  have hA : cAd w p q c d e = if mShOk p q c d e < 0 then mShOk p q c d e else (if wI w 2 7 = 8 then -4 else wI w 2 7) := rfl
  have hA1 : (if mShOk p q c d e < 0 then mShOk p q c d e else (if wI w 2 7 = 8 then -4 else wI w 2 7)) = cAd w p q c d e := rfl
  generalize hBe : cB w = B at *
  generalize hAe : cAd w p q c d e = A at *
  by_cases c0 : A < 0
  · have hW : (if mShOk p q c d e < 0 then B else (if wI w 2 7 = 8 then B else lNewSh 2 B p q c d e)) = B := by
      split
      · rfl
      · next h => rw [if_neg h] at hA; split at hA <;> first | (rw [if_pos (by assumption)]) | (exfalso; omega)
    have hch : cChg B A = B := if_pos c0
    refine hZ (fun _ => false) 16 0 _ _ _ _ _ ?_
    simp only [sm_run, sm_blk, sm_get, sm_ent, sm_ents, sm_wds, sm_wd, sm_nl, sm_pop, sm_back, sm_cases, oK, oLK, oL, oI, oA, oJ, oIs, oAs, oJs, oInc, oAdd, oSub, oMul, oDiv, oRem, oNeg, oAnd, oAndB, oOr, oShl, oI2c, oI2l, oL2i, oLand, oLor, oLshl, oLshr, oLushr, oLcmp, oDup, oDup2, oPop, oGo, oFg, oEq, oNe, oLt, oGe, oGt, oLe, oEq0, oNe0, oLt0, oGe0, oGt0, oLe0, oSw, oGi, oGr, oPi, oPz, oPr, oLen, oIl, oZl, oCl, oRl, oIst, oZst, oCst, oRst, oCopy, oNew, oNa, oNa2, oObj, oCs, oCv, oCi, oIr, oZr, oVr, Nat.beq, List.getElem?_cons_zero, List.getElem?_cons_succ, List.set_cons_zero, List.set_cons_succ, List.length_cons, List.length_nil, List.nil_append, List.cons_append, List.append_nil, List.replicate_succ, List.replicate_zero, Nat.reduceAdd, Nat.reduceSub, Nat.reduceLT, Nat.reduceLeDiff, Nat.reduceBEq, true_and, and_true, Nat.zero_add, Nat.add_zero, Nat.le_refl, Option.some.injEq, exists_eq_left', true_or, or_true, or_false, false_or, reduceCtorEq, Prod.mk.injEq, Sum.inl.injEq, and_self, false_and, and_false, not_true_eq_false, not_false_eq_true, false_implies, true_implies, sm_r, Int.add_zero, Int.zero_add, wI_wsI, wS_wsI, wR_wsI, wI_wCp, wS_wCp, wR_wCp, Nat.reduceEqDiff, reduceIte, sT_iff, sT_iffC, wIf_ne, ne_eq, Bool.false_or, Bool.true_or, Bool.or_false, Bool.or_true, Bool.or_self, Nat.left_eq_add, Nat.add_eq_left, Nat.add_left_inj, oMax, oMin, oAbs, tb_X7_shuttle, p_X2_addShuttle, p_X2_copyFrom, p_X7_changed, f_X2_addShuttle, f_X2_copyFrom, f_X7_changed, p_X7_shuttle, f_X7_shuttle, sS_0 hT, sR_0_4 hT, sR_0_1 hT, (lS hT is67).1, (lS hT is2).1, hT, is2, is67, hB, sS_0 b1, sR_0_1 b1, (lS b1 is2).1, b1, b2, b3, e2, hA1, hW, hch, hAe, hBe, if_pos c0]
    repeat' (first | exact True.intro | with_reducible assumption | with_reducible refine And.intro ?_ ?_ | intro _)
    all_goals first
      | omega
      | assumption
      | rfl
      | (split <;> omega)
      | grind
      | skip
  · have hW : (if mShOk p q c d e < 0 then B else (if wI w 2 7 = 8 then B else lNewSh 2 B p q c d e)) = lNewSh 2 B p q c d e := by
      by_cases h : mShOk p q c d e < 0
      · rw [if_pos h] at hA; exfalso; omega
      · rw [if_neg h] at hA ⊢
        by_cases h8 : wI w 2 7 = 8
        · rw [if_pos h8] at hA; exfalso; omega
        · rw [if_neg h8]
    have hfr := lNewSh_fr 2 B p q c d e
    have hTn := sFr_sT hfr b1
    have e86 : wI (lNewSh 2 B p q c d e) 86 = wI w 86 := by rw [hi86 hfr (by decide), b3]
    have hch : cChg (lNewSh 2 B p q c d e) A = hKp (lNewSh 2 B p q c d e) 67 := if_neg c0
    refine hZ (fun _ => false) 16 0 _ _ _ _ _ ?_
    simp only [sm_run, sm_blk, sm_get, sm_ent, sm_ents, sm_wds, sm_wd, sm_nl, sm_pop, sm_back, sm_cases, oK, oLK, oL, oI, oA, oJ, oIs, oAs, oJs, oInc, oAdd, oSub, oMul, oDiv, oRem, oNeg, oAnd, oAndB, oOr, oShl, oI2c, oI2l, oL2i, oLand, oLor, oLshl, oLshr, oLushr, oLcmp, oDup, oDup2, oPop, oGo, oFg, oEq, oNe, oLt, oGe, oGt, oLe, oEq0, oNe0, oLt0, oGe0, oGt0, oLe0, oSw, oGi, oGr, oPi, oPz, oPr, oLen, oIl, oZl, oCl, oRl, oIst, oZst, oCst, oRst, oCopy, oNew, oNa, oNa2, oObj, oCs, oCv, oCi, oIr, oZr, oVr, Nat.beq, List.getElem?_cons_zero, List.getElem?_cons_succ, List.set_cons_zero, List.set_cons_succ, List.length_cons, List.length_nil, List.nil_append, List.cons_append, List.append_nil, List.replicate_succ, List.replicate_zero, Nat.reduceAdd, Nat.reduceSub, Nat.reduceLT, Nat.reduceLeDiff, Nat.reduceBEq, true_and, and_true, Nat.zero_add, Nat.add_zero, Nat.le_refl, Option.some.injEq, exists_eq_left', true_or, or_true, or_false, false_or, reduceCtorEq, Prod.mk.injEq, Sum.inl.injEq, and_self, false_and, and_false, not_true_eq_false, not_false_eq_true, false_implies, true_implies, sm_r, Int.add_zero, Int.zero_add, wI_wsI, wS_wsI, wR_wsI, wI_wCp, wS_wCp, wR_wCp, Nat.reduceEqDiff, reduceIte, sT_iff, sT_iffC, wIf_ne, ne_eq, Bool.false_or, Bool.true_or, Bool.or_false, Bool.or_true, Bool.or_self, Nat.left_eq_add, Nat.add_eq_left, Nat.add_left_inj, oMax, oMin, oAbs, tb_X7_shuttle, p_X2_addShuttle, p_X2_copyFrom, p_X7_changed, f_X2_addShuttle, f_X2_copyFrom, f_X7_changed, p_X7_shuttle, f_X7_shuttle, sS_0 hT, sR_0_4 hT, sR_0_1 hT, (lS hT is67).1, (lS hT is2).1, hT, is2, is67, hB, sS_0 b1, sR_0_1 b1, (lS b1 is2).1, b1, b2, b3, e2, hA1, hW, hch, hAe, hBe, hTn, e86, sS_0 hTn, if_neg c0]
    repeat' (first | exact True.intro | with_reducible assumption | with_reducible refine And.intro ?_ ?_ | intro _)
    all_goals first
      | omega
      | assumption
      | rfl
      | (split <;> omega)
      | grind
      | skip
theorem met_X7_shuttle (l : Launch) : sm_Met l yX7_shuttle cX7_shuttle 6 (some .int) 4 0 0 p_X7_shuttle f_X7_shuttle := sm_met 1 (Or.inr (Or.inl ⟨rfl, rfl⟩)) (by decide +kernel) (sn_X7_shuttle l) ok_X7_shuttle
def cLt (w : sm_W) (x v : Int) : Int := if lLateE w 2 x v < 0 then lLateE w 2 x v else wI w 7 x + v
def p_X7_late : List sm_V → sm_W → Prop
  | [.inr (.inl o), .inl x, .inl v], w => o = 0 ∧ cOK w
  | _, _ => False
def f_X7_late : sm_F
  | [.inr (.inl o), .inl x, .inl v], w => (some (.inl (cLt w x v)), (if cLt w x v < 0 then cB w else hKp (wsI (cB w) 7 x (wI w 7 x + v)) 67))
  | _, w => (none, w)
def tb_X7_late : List (Nat × List sm_O) := [(0, [oA 0, oGr 7 12 4, oA 0, oGr 7 12 1, oCv 2 9 p_X2_copyFrom f_X2_copyFrom 0 0 2, oA 0, oA 0, oGr 7 12 1, oI 1, oI 2, oCv 2 9 p_X2_startLater f_X2_startLater 0 0 3, oCv 7 12 p_X7_changed f_X7_changed 0 0 2, oIr])]
set_option maxRecDepth 100000 in
theorem sb_X7_late_0 (l : Launch) : sm_SndB l RX7 "late" cX7_late 3 1 4 0 [oA 0, oGr 7 12 4, oA 0, oGr 7 12 1, oCv 2 9 p_X2_copyFrom f_X2_copyFrom 0 0 2, oA 0, oA 0, oGr 7 12 1, oI 1, oI 2, oCv 2 9 p_X2_startLater f_X2_startLater 0 0 3, oCv 7 12 p_X7_changed f_X7_changed 0 0 2, oIr] := sb_cons (sd_aload_n (by decide +kernel : decode cX7_late 0 = .ok (.aload_n 0, 1)) rfl) (sb_cons (sd_getr (k := 4) kl_7 (by decide) rfl wm_149 (by decide +kernel : decode cX7_late 1 = .ok (.getfield 30, 3))) (sb_cons (sd_aload_n (by decide +kernel : decode cX7_late 4 = .ok (.aload_n 0, 1)) rfl) (sb_cons (sd_getr (k := 1) kl_7 (by decide) rfl wm_146 (by decide +kernel : decode cX7_late 5 = .ok (.getfield 20, 3))) (sb_cons (sd_callv (n := 1) (met_X2_copyFrom l) (by decide) (by decide) wm_165 wm_162 wm_3 ⟨by decide +kernel, by decide +kernel, by decide +kernel⟩ kl_2 wm_163 wm_164 (by decide +kernel : decode cX7_late 8 = .ok (.invokevirtual 76, 3))) (sb_cons (sd_aload_n (by decide +kernel : decode cX7_late 11 = .ok (.aload_n 0, 1)) rfl) (sb_cons (sd_aload_n (by decide +kernel : decode cX7_late 12 = .ok (.aload_n 0, 1)) rfl) (sb_cons (sd_getr (k := 1) kl_7 (by decide) rfl wm_146 (by decide +kernel : decode cX7_late 13 = .ok (.getfield 20, 3))) (sb_cons (sd_iload_n (by decide +kernel : decode cX7_late 16 = .ok (.iload_n 1, 1)) rfl) (sb_cons (sd_iload_n (by decide +kernel : decode cX7_late 17 = .ok (.iload_n 2, 1)) rfl) (sb_cons (sd_callv (n := 2) (met_X2_startLater l) (by decide) (by decide) wm_233 wm_230 wm_3 ⟨by decide +kernel, by decide +kernel, by decide +kernel⟩ kl_2 wm_231 wm_232 (by decide +kernel : decode cX7_late 18 = .ok (.invokevirtual 98, 3))) (sb_cons (sd_callv (n := 1) (met_X7_changed l) (by decide) (by decide) wm_177 wm_175 wm_1 ⟨by decide +kernel, by decide +kernel, by decide +kernel⟩ kl_7 wm_176 wm_1077 (by decide +kernel : decode cX7_late 21 = .ok (.invokevirtual 84, 3))) (sb_cons (sd_ireturn (x := 0) rfl (by decide +kernel : decode cX7_late 24 = .ok (.ireturn, 1))) sb_nil))))))))))))
theorem sn_X7_late (l : Launch) : sm_SndT l RX7 "late" cX7_late 3 1 4 tb_X7_late := st_cons (sb_X7_late_0 l) (st_nil)
set_option maxRecDepth 100000 in
set_option maxHeartbeats 4000000 in
theorem ok_X7_late : sm_Ok tb_X7_late 3 0 0 p_X7_late f_X7_late := by
  intro as w hp ha hw
  match as, hp with
  | [.inr (.inl o), .inl x, .inl v], hp =>
  refine ⟨Nat.le_of_ble_eq_true rfl, fun Z hZ => ?_⟩
  obtain ⟨rfl, hC⟩ := hp
  have hT := hC.1.1
  obtain ⟨b1, b2, b3, b4, b5, b6⟩ := cB_in hC
  have hk := hC.2
  have e2 : wI (cB w) 2 = wI w 2 := b5 2 (by decide)
  have e7 : wI (cB w) 7 = wI w 7 := b5 7 (by decide)
  have eL : lLateE (cB w) 2 x v = lLateE w 2 x v := by unfold lLateE; rw [e2, b5 (2 + 5) (by decide)]
  have hB : cpL 67 2 w = cB w := rfl
  have hA : cLt w x v = if lLateE w 2 x v < 0 then lLateE w 2 x v else wI w 7 x + v := rfl
  have hA1 : (if lLateE w 2 x v < 0 then lLateE w 2 x v else wI w 7 x + v) = cLt w x v := rfl
  generalize hBe : cB w = B at *
  generalize hAe : cLt w x v = A at *
  by_cases c0 : lLateE w 2 x v < 0
  · rw [if_pos c0] at hA
    have c0' : A < 0 := by omega
    have hch : cChg B A = B := if_pos c0'
    refine hZ (fun _ => false) 16 0 _ _ _ _ _ ?_
    simp only [sm_run, sm_blk, sm_get, sm_ent, sm_ents, sm_wds, sm_wd, sm_nl, sm_pop, sm_back, sm_cases, oK, oLK, oL, oI, oA, oJ, oIs, oAs, oJs, oInc, oAdd, oSub, oMul, oDiv, oRem, oNeg, oAnd, oAndB, oOr, oShl, oI2c, oI2l, oL2i, oLand, oLor, oLshl, oLshr, oLushr, oLcmp, oDup, oDup2, oPop, oGo, oFg, oEq, oNe, oLt, oGe, oGt, oLe, oEq0, oNe0, oLt0, oGe0, oGt0, oLe0, oSw, oGi, oGr, oPi, oPz, oPr, oLen, oIl, oZl, oCl, oRl, oIst, oZst, oCst, oRst, oCopy, oNew, oNa, oNa2, oObj, oCs, oCv, oCi, oIr, oZr, oVr, Nat.beq, List.getElem?_cons_zero, List.getElem?_cons_succ, List.set_cons_zero, List.set_cons_succ, List.length_cons, List.length_nil, List.nil_append, List.cons_append, List.append_nil, List.replicate_succ, List.replicate_zero, Nat.reduceAdd, Nat.reduceSub, Nat.reduceLT, Nat.reduceLeDiff, Nat.reduceBEq, true_and, and_true, Nat.zero_add, Nat.add_zero, Nat.le_refl, Option.some.injEq, exists_eq_left', true_or, or_true, or_false, false_or, reduceCtorEq, Prod.mk.injEq, Sum.inl.injEq, and_self, false_and, and_false, not_true_eq_false, not_false_eq_true, false_implies, true_implies, sm_r, Int.add_zero, Int.zero_add, wI_wsI, wS_wsI, wR_wsI, wI_wCp, wS_wCp, wR_wCp, Nat.reduceEqDiff, reduceIte, sT_iff, sT_iffC, wIf_ne, ne_eq, Bool.false_or, Bool.true_or, Bool.or_false, Bool.or_true, Bool.or_self, Nat.left_eq_add, Nat.add_eq_left, Nat.add_left_inj, oMax, oMin, oAbs, tb_X7_late, p_X2_copyFrom, p_X2_startLater, p_X7_changed, f_X2_copyFrom, f_X2_startLater, f_X7_changed, p_X7_late, f_X7_late, sS_0 hT, sR_0_4 hT, sR_0_1 hT, (lS hT is67).1, (lS hT is2).1, hT, is2, is67, hB, sS_0 b1, sR_0_1 b1, (lS b1 is2).1, b1, b2, b3, eL, e7, ← hA, hch, hAe, hBe, if_pos c0']
    repeat' (first | exact True.intro | with_reducible assumption | with_reducible refine And.intro ?_ ?_ | intro _)
    all_goals first
      | omega
      | assumption
      | rfl
      | (split <;> omega)
      | grind
      | skip
  · rw [if_neg c0] at hA
    have hq := lLateE_0 c0
    have hs := lOK_s hC.1 hq.1 hq.2.1
    have hs5 : 0 ≤ wI w 7 x ∧ wI w 7 x ≤ 300 := hs.2.2.2.1
    have c0' : ¬ A < 0 := by omega
    have e86 : wI (wsI B 7 x (wI w 7 x + v)) 86 = wI w 86 := by rw [wIf_ne (by decide), b3]
    have hch : cChg (wsI B 7 x (wI w 7 x + v)) (wI w 7 x + v) = hKp (wsI B 7 x (wI w 7 x + v)) 67 := if_neg (by omega)
    refine hZ (fun _ => false) 16 0 _ _ _ _ _ ?_
    simp only [sm_run, sm_blk, sm_get, sm_ent, sm_ents, sm_wds, sm_wd, sm_nl, sm_pop, sm_back, sm_cases, oK, oLK, oL, oI, oA, oJ, oIs, oAs, oJs, oInc, oAdd, oSub, oMul, oDiv, oRem, oNeg, oAnd, oAndB, oOr, oShl, oI2c, oI2l, oL2i, oLand, oLor, oLshl, oLshr, oLushr, oLcmp, oDup, oDup2, oPop, oGo, oFg, oEq, oNe, oLt, oGe, oGt, oLe, oEq0, oNe0, oLt0, oGe0, oGt0, oLe0, oSw, oGi, oGr, oPi, oPz, oPr, oLen, oIl, oZl, oCl, oRl, oIst, oZst, oCst, oRst, oCopy, oNew, oNa, oNa2, oObj, oCs, oCv, oCi, oIr, oZr, oVr, Nat.beq, List.getElem?_cons_zero, List.getElem?_cons_succ, List.set_cons_zero, List.set_cons_succ, List.length_cons, List.length_nil, List.nil_append, List.cons_append, List.append_nil, List.replicate_succ, List.replicate_zero, Nat.reduceAdd, Nat.reduceSub, Nat.reduceLT, Nat.reduceLeDiff, Nat.reduceBEq, true_and, and_true, Nat.zero_add, Nat.add_zero, Nat.le_refl, Option.some.injEq, exists_eq_left', true_or, or_true, or_false, false_or, reduceCtorEq, Prod.mk.injEq, Sum.inl.injEq, and_self, false_and, and_false, not_true_eq_false, not_false_eq_true, false_implies, true_implies, sm_r, Int.add_zero, Int.zero_add, wI_wsI, wS_wsI, wR_wsI, wI_wCp, wS_wCp, wR_wCp, Nat.reduceEqDiff, reduceIte, sT_iff, sT_iffC, wIf_ne, ne_eq, Bool.false_or, Bool.true_or, Bool.or_false, Bool.or_true, Bool.or_self, Nat.left_eq_add, Nat.add_eq_left, Nat.add_left_inj, oMax, oMin, oAbs, tb_X7_late, p_X2_copyFrom, p_X2_startLater, p_X7_changed, f_X2_copyFrom, f_X2_startLater, f_X7_changed, p_X7_late, f_X7_late, sS_0 hT, sR_0_4 hT, sR_0_1 hT, (lS hT is67).1, (lS hT is2).1, hT, is2, is67, hB, sS_0 b1, sR_0_1 b1, (lS b1 is2).1, b1, b2, b3, eL, e7, hch, hAe, hBe, e86, sT_iff, if_neg c0, if_neg c0', Nat.reduceAdd]
    repeat' (first | exact True.intro | with_reducible assumption | with_reducible refine And.intro ?_ ?_ | intro _)
    all_goals first
      | omega
      | assumption
      | rfl
      | (split <;> omega)
      | grind
      | skip
theorem met_X7_late (l : Launch) : sm_Met l yX7_late cX7_late 3 (some .int) 4 0 0 p_X7_late f_X7_late := sm_met 1 (Or.inr (Or.inl ⟨rfl, rfl⟩)) (by decide +kernel) (sn_X7_late l) ok_X7_late
def p_X7_prefer : List sm_V → sm_W → Prop
  | [.inr (.inl o), .inl x, .inl v], w => o = 0 ∧ cOK w
  | _, _ => False
def f_X7_prefer : sm_F
  | [.inr (.inl o), .inl x, .inl v], w => (some (.inl (if 0 ≤ x ∧ x < wI w 2 7 then (if 0 ≤ v ∧ v ≤ 9 then wI w 9 x else -2) else -1)), (if 0 ≤ x ∧ x < wI w 2 7 then (if 0 ≤ v ∧ v ≤ 9 then hKp (wsI (cB w) 9 x v) 67 else cB w) else cB w))
  | _, w => (none, w)
def tb_X7_prefer : List (Nat × List sm_O) := [(0, [oA 0, oGr 7 12 4, oA 0, oGr 7 12 1, oCv 2 9 p_X2_copyFrom f_X2_copyFrom 0 0 2, oA 0, oA 0, oGr 7 12 1, oI 1, oI 2, oCv 2 9 p_X2_setPriority f_X2_setPriority 0 0 3, oCv 7 12 p_X7_changed f_X7_changed 0 0 2, oIr])]
set_option maxRecDepth 100000 in
theorem sb_X7_prefer_0 (l : Launch) : sm_SndB l RX7 "prefer" cX7_prefer 3 1 4 0 [oA 0, oGr 7 12 4, oA 0, oGr 7 12 1, oCv 2 9 p_X2_copyFrom f_X2_copyFrom 0 0 2, oA 0, oA 0, oGr 7 12 1, oI 1, oI 2, oCv 2 9 p_X2_setPriority f_X2_setPriority 0 0 3, oCv 7 12 p_X7_changed f_X7_changed 0 0 2, oIr] := sb_cons (sd_aload_n (by decide +kernel : decode cX7_prefer 0 = .ok (.aload_n 0, 1)) rfl) (sb_cons (sd_getr (k := 4) kl_7 (by decide) rfl wm_149 (by decide +kernel : decode cX7_prefer 1 = .ok (.getfield 30, 3))) (sb_cons (sd_aload_n (by decide +kernel : decode cX7_prefer 4 = .ok (.aload_n 0, 1)) rfl) (sb_cons (sd_getr (k := 1) kl_7 (by decide) rfl wm_146 (by decide +kernel : decode cX7_prefer 5 = .ok (.getfield 20, 3))) (sb_cons (sd_callv (n := 1) (met_X2_copyFrom l) (by decide) (by decide) wm_165 wm_162 wm_3 ⟨by decide +kernel, by decide +kernel, by decide +kernel⟩ kl_2 wm_163 wm_164 (by decide +kernel : decode cX7_prefer 8 = .ok (.invokevirtual 76, 3))) (sb_cons (sd_aload_n (by decide +kernel : decode cX7_prefer 11 = .ok (.aload_n 0, 1)) rfl) (sb_cons (sd_aload_n (by decide +kernel : decode cX7_prefer 12 = .ok (.aload_n 0, 1)) rfl) (sb_cons (sd_getr (k := 1) kl_7 (by decide) rfl wm_146 (by decide +kernel : decode cX7_prefer 13 = .ok (.getfield 20, 3))) (sb_cons (sd_iload_n (by decide +kernel : decode cX7_prefer 16 = .ok (.iload_n 1, 1)) rfl) (sb_cons (sd_iload_n (by decide +kernel : decode cX7_prefer 17 = .ok (.iload_n 2, 1)) rfl) (sb_cons (sd_callv (n := 2) (met_X2_setPriority l) (by decide) (by decide) wm_248 wm_245 wm_3 ⟨by decide +kernel, by decide +kernel, by decide +kernel⟩ kl_2 wm_246 wm_247 (by decide +kernel : decode cX7_prefer 18 = .ok (.invokevirtual 101, 3))) (sb_cons (sd_callv (n := 1) (met_X7_changed l) (by decide) (by decide) wm_177 wm_175 wm_1 ⟨by decide +kernel, by decide +kernel, by decide +kernel⟩ kl_7 wm_176 wm_1077 (by decide +kernel : decode cX7_prefer 21 = .ok (.invokevirtual 84, 3))) (sb_cons (sd_ireturn (x := 0) rfl (by decide +kernel : decode cX7_prefer 24 = .ok (.ireturn, 1))) sb_nil))))))))))))
theorem sn_X7_prefer (l : Launch) : sm_SndT l RX7 "prefer" cX7_prefer 3 1 4 tb_X7_prefer := st_cons (sb_X7_prefer_0 l) (st_nil)
set_option maxRecDepth 100000 in
set_option maxHeartbeats 4000000 in
theorem ok_X7_prefer : sm_Ok tb_X7_prefer 3 0 0 p_X7_prefer f_X7_prefer := by
  intro as w hp ha hw
  match as, hp with
  | [.inr (.inl o), .inl x, .inl v], hp =>
  refine ⟨Nat.le_of_ble_eq_true rfl, fun Z hZ => ?_⟩
  obtain ⟨rfl, hC⟩ := hp
  have hT := hC.1.1
  obtain ⟨b1, b2, b3, b4, b5, b6⟩ := cB_in hC
  have hk := hC.2
  have e2 : wI (cB w) 2 = wI w 2 := b5 2 (by decide)
  have e3 : wI (cB w) 9 = wI w 9 := b5 9 (by decide)
  have hB : cpL 67 2 w = cB w := rfl
  have htr := fun h0 h1 => lOK_s hC.1 (s := x) h0 h1
  generalize hBe : cB w = B at *
  by_cases c : 0 ≤ x ∧ x < wI w 2 7
  · by_cases c2 : 0 ≤ v ∧ v ≤ 9
    · have htr : 0 ≤ wI w 9 x ∧ wI w 9 x ≤ 9 := (htr c.1 c.2).2.2.2.2.2
      have e86 : wI (wsI B 9 x v) 86 = wI w 86 := by rw [wIf_ne (by decide), b3]
      have hch : cChg (wsI B 9 x v) (wI w 9 x) = hKp (wsI B 9 x v) 67 := if_neg (by omega)
      refine hZ (fun _ => false) 16 0 _ _ _ _ _ ?_
      simp only [sm_run, sm_blk, sm_get, sm_ent, sm_ents, sm_wds, sm_wd, sm_nl, sm_pop, sm_back, sm_cases, oK, oLK, oL, oI, oA, oJ, oIs, oAs, oJs, oInc, oAdd, oSub, oMul, oDiv, oRem, oNeg, oAnd, oAndB, oOr, oShl, oI2c, oI2l, oL2i, oLand, oLor, oLshl, oLshr, oLushr, oLcmp, oDup, oDup2, oPop, oGo, oFg, oEq, oNe, oLt, oGe, oGt, oLe, oEq0, oNe0, oLt0, oGe0, oGt0, oLe0, oSw, oGi, oGr, oPi, oPz, oPr, oLen, oIl, oZl, oCl, oRl, oIst, oZst, oCst, oRst, oCopy, oNew, oNa, oNa2, oObj, oCs, oCv, oCi, oIr, oZr, oVr, Nat.beq, List.getElem?_cons_zero, List.getElem?_cons_succ, List.set_cons_zero, List.set_cons_succ, List.length_cons, List.length_nil, List.nil_append, List.cons_append, List.append_nil, List.replicate_succ, List.replicate_zero, Nat.reduceAdd, Nat.reduceSub, Nat.reduceLT, Nat.reduceLeDiff, Nat.reduceBEq, true_and, and_true, Nat.zero_add, Nat.add_zero, Nat.le_refl, Option.some.injEq, exists_eq_left', true_or, or_true, or_false, false_or, reduceCtorEq, Prod.mk.injEq, Sum.inl.injEq, and_self, false_and, and_false, not_true_eq_false, not_false_eq_true, false_implies, true_implies, sm_r, Int.add_zero, Int.zero_add, wI_wsI, wS_wsI, wR_wsI, wI_wCp, wS_wCp, wR_wCp, Nat.reduceEqDiff, reduceIte, sT_iff, sT_iffC, wIf_ne, ne_eq, Bool.false_or, Bool.true_or, Bool.or_false, Bool.or_true, Bool.or_self, Nat.left_eq_add, Nat.add_eq_left, Nat.add_left_inj, oMax, oMin, oAbs, tb_X7_prefer, p_X2_copyFrom, p_X2_setPriority, p_X7_changed, f_X2_copyFrom, f_X2_setPriority, f_X7_changed, p_X7_prefer, f_X7_prefer, sS_0 hT, sR_0_4 hT, sR_0_1 hT, (lS hT is67).1, (lS hT is2).1, hT, is2, is67, hB, sS_0 b1, sR_0_1 b1, (lS b1 is2).1, b1, b2, e2, e3, e86, b3, hch, sT_iff, if_pos c, if_pos c2]
      repeat' (first | exact True.intro | with_reducible assumption | with_reducible refine And.intro ?_ ?_ | intro _)
      all_goals first
        | omega
        | assumption
        | rfl
        | (split <;> omega)
        | grind
        | skip
    · have hch : cChg B (-2) = B := if_pos (by decide)
      refine hZ (fun _ => false) 16 0 _ _ _ _ _ ?_
      simp only [sm_run, sm_blk, sm_get, sm_ent, sm_ents, sm_wds, sm_wd, sm_nl, sm_pop, sm_back, sm_cases, oK, oLK, oL, oI, oA, oJ, oIs, oAs, oJs, oInc, oAdd, oSub, oMul, oDiv, oRem, oNeg, oAnd, oAndB, oOr, oShl, oI2c, oI2l, oL2i, oLand, oLor, oLshl, oLshr, oLushr, oLcmp, oDup, oDup2, oPop, oGo, oFg, oEq, oNe, oLt, oGe, oGt, oLe, oEq0, oNe0, oLt0, oGe0, oGt0, oLe0, oSw, oGi, oGr, oPi, oPz, oPr, oLen, oIl, oZl, oCl, oRl, oIst, oZst, oCst, oRst, oCopy, oNew, oNa, oNa2, oObj, oCs, oCv, oCi, oIr, oZr, oVr, Nat.beq, List.getElem?_cons_zero, List.getElem?_cons_succ, List.set_cons_zero, List.set_cons_succ, List.length_cons, List.length_nil, List.nil_append, List.cons_append, List.append_nil, List.replicate_succ, List.replicate_zero, Nat.reduceAdd, Nat.reduceSub, Nat.reduceLT, Nat.reduceLeDiff, Nat.reduceBEq, true_and, and_true, Nat.zero_add, Nat.add_zero, Nat.le_refl, Option.some.injEq, exists_eq_left', true_or, or_true, or_false, false_or, reduceCtorEq, Prod.mk.injEq, Sum.inl.injEq, and_self, false_and, and_false, not_true_eq_false, not_false_eq_true, false_implies, true_implies, sm_r, Int.add_zero, Int.zero_add, wI_wsI, wS_wsI, wR_wsI, wI_wCp, wS_wCp, wR_wCp, Nat.reduceEqDiff, reduceIte, sT_iff, sT_iffC, wIf_ne, ne_eq, Bool.false_or, Bool.true_or, Bool.or_false, Bool.or_true, Bool.or_self, Nat.left_eq_add, Nat.add_eq_left, Nat.add_left_inj, oMax, oMin, oAbs, tb_X7_prefer, p_X2_copyFrom, p_X2_setPriority, p_X7_changed, f_X2_copyFrom, f_X2_setPriority, f_X7_changed, p_X7_prefer, f_X7_prefer, sS_0 hT, sR_0_4 hT, sR_0_1 hT, (lS hT is67).1, (lS hT is2).1, hT, is2, is67, hB, sS_0 b1, sR_0_1 b1, (lS b1 is2).1, b1, b2, e2, b3, hch, if_pos c, if_neg c2]
      repeat' (first | exact True.intro | with_reducible assumption | with_reducible refine And.intro ?_ ?_ | intro _)
      all_goals first
        | omega
        | assumption
        | rfl
        | (split <;> omega)
        | grind
        | skip
  · have hch : cChg B (-1) = B := if_pos (by decide)
    refine hZ (fun _ => false) 16 0 _ _ _ _ _ ?_
    simp only [sm_run, sm_blk, sm_get, sm_ent, sm_ents, sm_wds, sm_wd, sm_nl, sm_pop, sm_back, sm_cases, oK, oLK, oL, oI, oA, oJ, oIs, oAs, oJs, oInc, oAdd, oSub, oMul, oDiv, oRem, oNeg, oAnd, oAndB, oOr, oShl, oI2c, oI2l, oL2i, oLand, oLor, oLshl, oLshr, oLushr, oLcmp, oDup, oDup2, oPop, oGo, oFg, oEq, oNe, oLt, oGe, oGt, oLe, oEq0, oNe0, oLt0, oGe0, oGt0, oLe0, oSw, oGi, oGr, oPi, oPz, oPr, oLen, oIl, oZl, oCl, oRl, oIst, oZst, oCst, oRst, oCopy, oNew, oNa, oNa2, oObj, oCs, oCv, oCi, oIr, oZr, oVr, Nat.beq, List.getElem?_cons_zero, List.getElem?_cons_succ, List.set_cons_zero, List.set_cons_succ, List.length_cons, List.length_nil, List.nil_append, List.cons_append, List.append_nil, List.replicate_succ, List.replicate_zero, Nat.reduceAdd, Nat.reduceSub, Nat.reduceLT, Nat.reduceLeDiff, Nat.reduceBEq, true_and, and_true, Nat.zero_add, Nat.add_zero, Nat.le_refl, Option.some.injEq, exists_eq_left', true_or, or_true, or_false, false_or, reduceCtorEq, Prod.mk.injEq, Sum.inl.injEq, and_self, false_and, and_false, not_true_eq_false, not_false_eq_true, false_implies, true_implies, sm_r, Int.add_zero, Int.zero_add, wI_wsI, wS_wsI, wR_wsI, wI_wCp, wS_wCp, wR_wCp, Nat.reduceEqDiff, reduceIte, sT_iff, sT_iffC, wIf_ne, ne_eq, Bool.false_or, Bool.true_or, Bool.or_false, Bool.or_true, Bool.or_self, Nat.left_eq_add, Nat.add_eq_left, Nat.add_left_inj, oMax, oMin, oAbs, tb_X7_prefer, p_X2_copyFrom, p_X2_setPriority, p_X7_changed, f_X2_copyFrom, f_X2_setPriority, f_X7_changed, p_X7_prefer, f_X7_prefer, sS_0 hT, sR_0_4 hT, sR_0_1 hT, (lS hT is67).1, (lS hT is2).1, hT, is2, is67, hB, sS_0 b1, sR_0_1 b1, (lS b1 is2).1, b1, b2, e2, b3, hch, if_neg c]
    repeat' (first | exact True.intro | with_reducible assumption | with_reducible refine And.intro ?_ ?_ | intro _)
    all_goals first
      | omega
      | assumption
      | rfl
      | (split <;> omega)
      | grind
      | skip
theorem met_X7_prefer (l : Launch) : sm_Met l yX7_prefer cX7_prefer 3 (some .int) 4 0 0 p_X7_prefer f_X7_prefer := sm_met 1 (Or.inr (Or.inl ⟨rfl, rfl⟩)) (by decide +kernel) (sn_X7_prefer l) ok_X7_prefer
def p_X7_remove : List sm_V → sm_W → Prop
  | [.inr (.inl o), .inl x], w => o = 0 ∧ cOK w
  | _, _ => False
def f_X7_remove : sm_F
  | [.inr (.inl o), .inl x], w => (some (.inl (if 0 ≤ x ∧ x < wI w 2 7 then wI w 2 7 - 1 else -1)), (if 0 ≤ x ∧ x < wI w 2 7 then hKp (lRm 2 (cB w) x) 67 else cB w))
  | _, w => (none, w)
def tb_X7_remove : List (Nat × List sm_O) := [(0, [oA 0, oGr 7 12 4, oA 0, oGr 7 12 1, oCv 2 9 p_X2_copyFrom f_X2_copyFrom 0 0 2, oA 0, oA 0, oGr 7 12 1, oI 1, oCv 2 9 p_X2_takeAway f_X2_takeAway 0 0 2, oCv 7 12 p_X7_changed f_X7_changed 0 0 2, oIr])]
set_option maxRecDepth 100000 in
theorem sb_X7_remove_0 (l : Launch) : sm_SndB l RX7 "remove" cX7_remove 2 1 4 0 [oA 0, oGr 7 12 4, oA 0, oGr 7 12 1, oCv 2 9 p_X2_copyFrom f_X2_copyFrom 0 0 2, oA 0, oA 0, oGr 7 12 1, oI 1, oCv 2 9 p_X2_takeAway f_X2_takeAway 0 0 2, oCv 7 12 p_X7_changed f_X7_changed 0 0 2, oIr] := sb_cons (sd_aload_n (by decide +kernel : decode cX7_remove 0 = .ok (.aload_n 0, 1)) rfl) (sb_cons (sd_getr (k := 4) kl_7 (by decide) rfl wm_149 (by decide +kernel : decode cX7_remove 1 = .ok (.getfield 30, 3))) (sb_cons (sd_aload_n (by decide +kernel : decode cX7_remove 4 = .ok (.aload_n 0, 1)) rfl) (sb_cons (sd_getr (k := 1) kl_7 (by decide) rfl wm_146 (by decide +kernel : decode cX7_remove 5 = .ok (.getfield 20, 3))) (sb_cons (sd_callv (n := 1) (met_X2_copyFrom l) (by decide) (by decide) wm_165 wm_162 wm_3 ⟨by decide +kernel, by decide +kernel, by decide +kernel⟩ kl_2 wm_163 wm_164 (by decide +kernel : decode cX7_remove 8 = .ok (.invokevirtual 76, 3))) (sb_cons (sd_aload_n (by decide +kernel : decode cX7_remove 11 = .ok (.aload_n 0, 1)) rfl) (sb_cons (sd_aload_n (by decide +kernel : decode cX7_remove 12 = .ok (.aload_n 0, 1)) rfl) (sb_cons (sd_getr (k := 1) kl_7 (by decide) rfl wm_146 (by decide +kernel : decode cX7_remove 13 = .ok (.getfield 20, 3))) (sb_cons (sd_iload_n (by decide +kernel : decode cX7_remove 16 = .ok (.iload_n 1, 1)) rfl) (sb_cons (sd_callv (n := 1) (met_X2_takeAway l) (by decide) (by decide) wm_258 wm_255 wm_3 ⟨by decide +kernel, by decide +kernel, by decide +kernel⟩ kl_2 wm_256 wm_257 (by decide +kernel : decode cX7_remove 17 = .ok (.invokevirtual 104, 3))) (sb_cons (sd_callv (n := 1) (met_X7_changed l) (by decide) (by decide) wm_177 wm_175 wm_1 ⟨by decide +kernel, by decide +kernel, by decide +kernel⟩ kl_7 wm_176 wm_1077 (by decide +kernel : decode cX7_remove 20 = .ok (.invokevirtual 84, 3))) (sb_cons (sd_ireturn (x := 0) rfl (by decide +kernel : decode cX7_remove 23 = .ok (.ireturn, 1))) sb_nil)))))))))))
theorem sn_X7_remove (l : Launch) : sm_SndT l RX7 "remove" cX7_remove 2 1 4 tb_X7_remove := st_cons (sb_X7_remove_0 l) (st_nil)
set_option maxRecDepth 100000 in
set_option maxHeartbeats 4000000 in
theorem ok_X7_remove : sm_Ok tb_X7_remove 2 0 0 p_X7_remove f_X7_remove := by
  intro as w hp ha hw
  match as, hp with
  | [.inr (.inl o), .inl x], hp =>
  refine ⟨Nat.le_of_ble_eq_true rfl, fun Z hZ => ?_⟩
  obtain ⟨rfl, hC⟩ := hp
  have hT := hC.1.1
  obtain ⟨b1, b2, b3, b4, b5, b6⟩ := cB_in hC
  have hk := hC.2
  have hn := lOK_n hC.1
  have e2 : wI (cB w) 2 = wI w 2 := b5 2 (by decide)
  have hB : cpL 67 2 w = cB w := rfl
  generalize hBe : cB w = B at *
  by_cases c : 0 ≤ x ∧ x < wI w 2 7
  · have hfr := lRm_fr 2 B (x := x) (by rw [e2]; omega)
    have hTn := sFr_sT hfr b1
    have e86 : wI (lRm 2 B x) 86 = wI w 86 := by rw [hi86 hfr (by decide), b3]
    have hch : cChg (lRm 2 B x) (wI w 2 7 - 1) = hKp (lRm 2 B x) 67 := if_neg (by omega)
    refine hZ (fun _ => false) 16 0 _ _ _ _ _ ?_
    simp only [sm_run, sm_blk, sm_get, sm_ent, sm_ents, sm_wds, sm_wd, sm_nl, sm_pop, sm_back, sm_cases, oK, oLK, oL, oI, oA, oJ, oIs, oAs, oJs, oInc, oAdd, oSub, oMul, oDiv, oRem, oNeg, oAnd, oAndB, oOr, oShl, oI2c, oI2l, oL2i, oLand, oLor, oLshl, oLshr, oLushr, oLcmp, oDup, oDup2, oPop, oGo, oFg, oEq, oNe, oLt, oGe, oGt, oLe, oEq0, oNe0, oLt0, oGe0, oGt0, oLe0, oSw, oGi, oGr, oPi, oPz, oPr, oLen, oIl, oZl, oCl, oRl, oIst, oZst, oCst, oRst, oCopy, oNew, oNa, oNa2, oObj, oCs, oCv, oCi, oIr, oZr, oVr, Nat.beq, List.getElem?_cons_zero, List.getElem?_cons_succ, List.set_cons_zero, List.set_cons_succ, List.length_cons, List.length_nil, List.nil_append, List.cons_append, List.append_nil, List.replicate_succ, List.replicate_zero, Nat.reduceAdd, Nat.reduceSub, Nat.reduceLT, Nat.reduceLeDiff, Nat.reduceBEq, true_and, and_true, Nat.zero_add, Nat.add_zero, Nat.le_refl, Option.some.injEq, exists_eq_left', true_or, or_true, or_false, false_or, reduceCtorEq, Prod.mk.injEq, Sum.inl.injEq, and_self, false_and, and_false, not_true_eq_false, not_false_eq_true, false_implies, true_implies, sm_r, Int.add_zero, Int.zero_add, wI_wsI, wS_wsI, wR_wsI, wI_wCp, wS_wCp, wR_wCp, Nat.reduceEqDiff, reduceIte, sT_iff, sT_iffC, wIf_ne, ne_eq, Bool.false_or, Bool.true_or, Bool.or_false, Bool.or_true, Bool.or_self, Nat.left_eq_add, Nat.add_eq_left, Nat.add_left_inj, oMax, oMin, oAbs, tb_X7_remove, p_X2_copyFrom, p_X2_takeAway, p_X7_changed, f_X2_copyFrom, f_X2_takeAway, f_X7_changed, p_X7_remove, f_X7_remove, sS_0 hT, sR_0_4 hT, sR_0_1 hT, (lS hT is67).1, (lS hT is2).1, hT, is2, is67, hB, sS_0 b1, sR_0_1 b1, (lS b1 is2).1, b1, b2, e2, e86, hch, hTn, sS_0 hTn, if_pos c]
    repeat' (first | exact True.intro | with_reducible assumption | with_reducible refine And.intro ?_ ?_ | intro _)
    all_goals first
      | omega
      | assumption
      | rfl
      | (split <;> omega)
      | grind
      | skip
  · have hch : cChg B (-1) = B := if_pos (by decide)
    refine hZ (fun _ => false) 16 0 _ _ _ _ _ ?_
    simp only [sm_run, sm_blk, sm_get, sm_ent, sm_ents, sm_wds, sm_wd, sm_nl, sm_pop, sm_back, sm_cases, oK, oLK, oL, oI, oA, oJ, oIs, oAs, oJs, oInc, oAdd, oSub, oMul, oDiv, oRem, oNeg, oAnd, oAndB, oOr, oShl, oI2c, oI2l, oL2i, oLand, oLor, oLshl, oLshr, oLushr, oLcmp, oDup, oDup2, oPop, oGo, oFg, oEq, oNe, oLt, oGe, oGt, oLe, oEq0, oNe0, oLt0, oGe0, oGt0, oLe0, oSw, oGi, oGr, oPi, oPz, oPr, oLen, oIl, oZl, oCl, oRl, oIst, oZst, oCst, oRst, oCopy, oNew, oNa, oNa2, oObj, oCs, oCv, oCi, oIr, oZr, oVr, Nat.beq, List.getElem?_cons_zero, List.getElem?_cons_succ, List.set_cons_zero, List.set_cons_succ, List.length_cons, List.length_nil, List.nil_append, List.cons_append, List.append_nil, List.replicate_succ, List.replicate_zero, Nat.reduceAdd, Nat.reduceSub, Nat.reduceLT, Nat.reduceLeDiff, Nat.reduceBEq, true_and, and_true, Nat.zero_add, Nat.add_zero, Nat.le_refl, Option.some.injEq, exists_eq_left', true_or, or_true, or_false, false_or, reduceCtorEq, Prod.mk.injEq, Sum.inl.injEq, and_self, false_and, and_false, not_true_eq_false, not_false_eq_true, false_implies, true_implies, sm_r, Int.add_zero, Int.zero_add, wI_wsI, wS_wsI, wR_wsI, wI_wCp, wS_wCp, wR_wCp, Nat.reduceEqDiff, reduceIte, sT_iff, sT_iffC, wIf_ne, ne_eq, Bool.false_or, Bool.true_or, Bool.or_false, Bool.or_true, Bool.or_self, Nat.left_eq_add, Nat.add_eq_left, Nat.add_left_inj, oMax, oMin, oAbs, tb_X7_remove, p_X2_copyFrom, p_X2_takeAway, p_X7_changed, f_X2_copyFrom, f_X2_takeAway, f_X7_changed, p_X7_remove, f_X7_remove, sS_0 hT, sR_0_4 hT, sR_0_1 hT, (lS hT is67).1, (lS hT is2).1, hT, is2, is67, hB, sS_0 b1, sR_0_1 b1, (lS b1 is2).1, b1, b2, e2, b3, hch, if_neg c]
    repeat' (first | exact True.intro | with_reducible assumption | with_reducible refine And.intro ?_ ?_ | intro _)
    all_goals first
      | omega
      | assumption
      | rfl
      | (split <;> omega)
      | grind
      | skip

theorem met_X7_remove (l : Launch) : sm_Met l yX7_remove cX7_remove 2 (some .int) 4 0 0 p_X7_remove f_X7_remove := sm_met 1 (Or.inr (Or.inl ⟨rfl, rfl⟩)) (by decide +kernel) (sn_X7_remove l) ok_X7_remove