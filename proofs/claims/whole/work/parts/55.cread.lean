/-! THE CLASS: an order is read -/
def kA (f g : kR) : kR := fun w => if (f w).2 = 0 then ((f w).1, 0) else g (f w).1
def kO (f g : kR) : kR := fun w => if (f w).2 = 0 then ((f w).1, 1) else g (f w).1
theorem kG_A {f g : kR} (hf : kG f) (hg : kG g) : kG (kA f g) := fun w h => by
  have h1 := hf w h
  have ho := hf.ok h
  have hl := hf.l0 h
  have h2 := hg (f w).1 ho
  unfold kA
  split
  · exact ⟨h1.1, Or.inl rfl, h1.2.2.1, h1.2.2.2⟩
  · exact ⟨h1.1.trans h2.1, h2.2.1, by omega, by omega⟩
theorem kG_O {f g : kR} (hf : kG f) (hg : kG g) : kG (kO f g) := fun w h => by
  have h1 := hf w h
  have ho := hf.ok h
  have hl := hf.l0 h
  have h2 := hg (f w).1 ho
  unfold kO
  split
  · exact ⟨h1.1, Or.inr rfl, h1.2.2.1, h1.2.2.2⟩
  · exact ⟨h1.1.trans h2.1, h2.2.1, by omega, by omega⟩
theorem kA_0 {f g : kR} {w u : sm_W} (h : f w = (u, 0)) : kA f g w = (u, 0) := by
  unfold kA
  rw [h, if_pos rfl]
theorem kA_1 {f g : kR} {w u : sm_W} (h : f w = (u, 1)) : kA f g w = g u := by
  unfold kA
  rw [h, if_neg (show ¬ (1 : Int) = 0 by decide)]
theorem kO_0 {f g : kR} {w u : sm_W} (h : f w = (u, 0)) : kO f g w = (u, 1) := by
  unfold kO
  rw [h, if_pos rfl]
theorem kO_1 {f g : kR} {w u : sm_W} (h : f w = (u, 1)) : kO f g w = g u := by
  unfold kO
  rw [h, if_neg (show ¬ (1 : Int) = 0 by decide)]
def kT6 : kR := kO (kS 94) (kD 4 10)
def kT5 : kR := kA (kO (kS 43) (kN 3)) kT6
def kT3 : kR := kA (kS 64) (kA (kN 2) kT5)
def kSh : kR := kA (kD 0 8) (kA (kS 62) (kA (kD 1 8) kT3))
theorem kG_6 : kG kT6 := kG_O (kG_S (by decide)) (kG_D 4 10)
theorem kG_5 : kG kT5 := kG_A (kG_O (kG_S (by decide)) (kG_N 3)) kG_6
theorem kG_3 : kG kT3 := kG_A (kG_S (by decide)) (kG_A (kG_N 2) kG_5)
theorem kG_Sh : kG kSh := kG_A (kG_D 0 8) (kG_A (kG_S (by decide)) (kG_A (kG_D 1 8) kG_3))
def p_X5_readShuttle : List sm_V → sm_W → Prop
  | [.inr (.inl o)], w => o = 83 ∧ kOK w
  | _, _ => False
def f_X5_readShuttle : sm_F
  | [.inr (.inl o)], w => (some (.inl (kSh w).2), (kSh w).1)
  | _, w => (none, w)
def tb_X5_readShuttle : List (Nat × List sm_O) := [(0, [oA 0, oK 0, oK 8, oCv 5 5 p_X5_readDigit f_X5_readDigit 0 0 3, oEq0 29, oA 0, oK 62, oCv 5 5 p_X5_readSign f_X5_readSign 0 0 2, oEq0 29, oA 0, oK 1, oK 8, oCv 5 5 p_X5_readDigit f_X5_readDigit 0 0 3, oNe0 31, oGo 29]),
  (29, [oK 0, oZr]),
  (31, [oA 0, oK 64, oCv 5 5 p_X5_readSign f_X5_readSign 0 0 2, oEq0 48, oA 0, oK 2, oCv 5 5 p_X5_readNumber f_X5_readNumber 0 0 2, oNe0 50, oGo 48]),
  (48, [oK 0, oZr]),
  (50, [oA 0, oK 43, oCv 5 5 p_X5_readSign f_X5_readSign 0 0 2, oEq0 69, oA 0, oK 3, oCv 5 5 p_X5_readNumber f_X5_readNumber 0 0 2, oNe0 69, oK 0, oZr]),
  (69, [oA 0, oK 94, oCv 5 5 p_X5_readSign f_X5_readSign 0 0 2, oEq0 88, oA 0, oK 4, oK 10, oCv 5 5 p_X5_readDigit f_X5_readDigit 0 0 3, oEq0 92, oGo 88]),
  (88, [oK 1, oGo 93]),
  (92, [oK 0, oGo 93]),
  (93, [oZr])]
set_option maxRecDepth 100000 in
theorem sb_X5_readShuttle_0 (l : Launch) : sm_SndB l RX5 "readShuttle" cX5_readShuttle 1 2 3 0 [oA 0, oK 0, oK 8, oCv 5 5 p_X5_readDigit f_X5_readDigit 0 0 3, oEq0 29, oA 0, oK 62, oCv 5 5 p_X5_readSign f_X5_readSign 0 0 2, oEq0 29, oA 0, oK 1, oK 8, oCv 5 5 p_X5_readDigit f_X5_readDigit 0 0 3, oNe0 31, oGo 29] := sb_cons (sd_aload_n (by decide +kernel : decode cX5_readShuttle 0 = .ok (.aload_n 0, 1)) rfl) (sb_cons (sd_iconst (by decide +kernel : decode cX5_readShuttle 1 = .ok (.iconst 0, 1)) ⟨by decide, by decide⟩) (sb_cons (sd_bipush (by decide +kernel : decode cX5_readShuttle 2 = .ok (.bipush 8, 2)) ⟨by decide, by decide⟩ (by decide)) (sb_cons (sd_callv (n := 2) (met_X5_readDigit l) (by decide) (by decide) wm_612 wm_610 wm_8 ⟨by decide +kernel, by decide +kernel, by decide +kernel⟩ kl_5 wm_611 wm_1100 (by decide +kernel : decode cX5_readShuttle 4 = .ok (.invokevirtual 83, 3))) (sb_cons (sd_eq0 (by decide +kernel : decode cX5_readShuttle 7 = .ok (.ifCond .eq 22, 3)) (by decide)) (sb_cons (sd_aload_n (by decide +kernel : decode cX5_readShuttle 10 = .ok (.aload_n 0, 1)) rfl) (sb_cons (sd_bipush (by decide +kernel : decode cX5_readShuttle 11 = .ok (.bipush 62, 2)) ⟨by decide, by decide⟩ (by decide)) (sb_cons (sd_callv (n := 1) (met_X5_readSign l) (by decide) (by decide) wm_616 wm_614 wm_8 ⟨by decide +kernel, by decide +kernel, by decide +kernel⟩ kl_5 wm_615 wm_1101 (by decide +kernel : decode cX5_readShuttle 13 = .ok (.invokevirtual 36, 3))) (sb_cons (sd_eq0 (by decide +kernel : decode cX5_readShuttle 16 = .ok (.ifCond .eq 13, 3)) (by decide)) (sb_cons (sd_aload_n (by decide +kernel : decode cX5_readShuttle 19 = .ok (.aload_n 0, 1)) rfl) (sb_cons (sd_iconst (by decide +kernel : decode cX5_readShuttle 20 = .ok (.iconst 1, 1)) ⟨by decide, by decide⟩) (sb_cons (sd_bipush (by decide +kernel : decode cX5_readShuttle 21 = .ok (.bipush 8, 2)) ⟨by decide, by decide⟩ (by decide)) (sb_cons (sd_callv (n := 2) (met_X5_readDigit l) (by decide) (by decide) wm_612 wm_610 wm_8 ⟨by decide +kernel, by decide +kernel, by decide +kernel⟩ kl_5 wm_611 wm_1100 (by decide +kernel : decode cX5_readShuttle 23 = .ok (.invokevirtual 83, 3))) (sb_cons (sd_ne0 (by decide +kernel : decode cX5_readShuttle 26 = .ok (.ifCond .ne 5, 3)) (by decide)) (sb_cons (sd_fall (x := 0)) sb_nil))))))))))))))
set_option maxRecDepth 100000 in
theorem sb_X5_readShuttle_29 (l : Launch) : sm_SndB l RX5 "readShuttle" cX5_readShuttle 1 2 3 29 [oK 0, oZr] := sb_cons (sd_iconst (by decide +kernel : decode cX5_readShuttle 29 = .ok (.iconst 0, 1)) ⟨by decide, by decide⟩) (sb_cons (sd_zreturn (x := 0) rfl (by decide +kernel : decode cX5_readShuttle 30 = .ok (.ireturn, 1))) sb_nil)
set_option maxRecDepth 100000 in
theorem sb_X5_readShuttle_31 (l : Launch) : sm_SndB l RX5 "readShuttle" cX5_readShuttle 1 2 3 31 [oA 0, oK 64, oCv 5 5 p_X5_readSign f_X5_readSign 0 0 2, oEq0 48, oA 0, oK 2, oCv 5 5 p_X5_readNumber f_X5_readNumber 0 0 2, oNe0 50, oGo 48] := sb_cons (sd_aload_n (by decide +kernel : decode cX5_readShuttle 31 = .ok (.aload_n 0, 1)) rfl) (sb_cons (sd_bipush (by decide +kernel : decode cX5_readShuttle 32 = .ok (.bipush 64, 2)) ⟨by decide, by decide⟩ (by decide)) (sb_cons (sd_callv (n := 1) (met_X5_readSign l) (by decide) (by decide) wm_616 wm_614 wm_8 ⟨by decide +kernel, by decide +kernel, by decide +kernel⟩ kl_5 wm_615 wm_1101 (by decide +kernel : decode cX5_readShuttle 34 = .ok (.invokevirtual 36, 3))) (sb_cons (sd_eq0 (by decide +kernel : decode cX5_readShuttle 37 = .ok (.ifCond .eq 11, 3)) (by decide)) (sb_cons (sd_aload_n (by decide +kernel : decode cX5_readShuttle 40 = .ok (.aload_n 0, 1)) rfl) (sb_cons (sd_iconst (by decide +kernel : decode cX5_readShuttle 41 = .ok (.iconst 2, 1)) ⟨by decide, by decide⟩) (sb_cons (sd_callv (n := 1) (met_X5_readNumber l) (by decide) (by decide) wm_620 wm_618 wm_8 ⟨by decide +kernel, by decide +kernel, by decide +kernel⟩ kl_5 wm_619 wm_1102 (by decide +kernel : decode cX5_readShuttle 42 = .ok (.invokevirtual 87, 3))) (sb_cons (sd_ne0 (by decide +kernel : decode cX5_readShuttle 45 = .ok (.ifCond .ne 5, 3)) (by decide)) (sb_cons (sd_fall (x := 0)) sb_nil))))))))
set_option maxRecDepth 100000 in
theorem sb_X5_readShuttle_48 (l : Launch) : sm_SndB l RX5 "readShuttle" cX5_readShuttle 1 2 3 48 [oK 0, oZr] := sb_cons (sd_iconst (by decide +kernel : decode cX5_readShuttle 48 = .ok (.iconst 0, 1)) ⟨by decide, by decide⟩) (sb_cons (sd_zreturn (x := 0) rfl (by decide +kernel : decode cX5_readShuttle 49 = .ok (.ireturn, 1))) sb_nil)
set_option maxRecDepth 100000 in
theorem sb_X5_readShuttle_50 (l : Launch) : sm_SndB l RX5 "readShuttle" cX5_readShuttle 1 2 3 50 [oA 0, oK 43, oCv 5 5 p_X5_readSign f_X5_readSign 0 0 2, oEq0 69, oA 0, oK 3, oCv 5 5 p_X5_readNumber f_X5_readNumber 0 0 2, oNe0 69, oK 0, oZr] := sb_cons (sd_aload_n (by decide +kernel : decode cX5_readShuttle 50 = .ok (.aload_n 0, 1)) rfl) (sb_cons (sd_bipush (by decide +kernel : decode cX5_readShuttle 51 = .ok (.bipush 43, 2)) ⟨by decide, by decide⟩ (by decide)) (sb_cons (sd_callv (n := 1) (met_X5_readSign l) (by decide) (by decide) wm_616 wm_614 wm_8 ⟨by decide +kernel, by decide +kernel, by decide +kernel⟩ kl_5 wm_615 wm_1101 (by decide +kernel : decode cX5_readShuttle 53 = .ok (.invokevirtual 36, 3))) (sb_cons (sd_eq0 (by decide +kernel : decode cX5_readShuttle 56 = .ok (.ifCond .eq 13, 3)) (by decide)) (sb_cons (sd_aload_n (by decide +kernel : decode cX5_readShuttle 59 = .ok (.aload_n 0, 1)) rfl) (sb_cons (sd_iconst (by decide +kernel : decode cX5_readShuttle 60 = .ok (.iconst 3, 1)) ⟨by decide, by decide⟩) (sb_cons (sd_callv (n := 1) (met_X5_readNumber l) (by decide) (by decide) wm_620 wm_618 wm_8 ⟨by decide +kernel, by decide +kernel, by decide +kernel⟩ kl_5 wm_619 wm_1102 (by decide +kernel : decode cX5_readShuttle 61 = .ok (.invokevirtual 87, 3))) (sb_cons (sd_ne0 (by decide +kernel : decode cX5_readShuttle 64 = .ok (.ifCond .ne 5, 3)) (by decide)) (sb_cons (sd_iconst (by decide +kernel : decode cX5_readShuttle 67 = .ok (.iconst 0, 1)) ⟨by decide, by decide⟩) (sb_cons (sd_zreturn (x := 0) rfl (by decide +kernel : decode cX5_readShuttle 68 = .ok (.ireturn, 1))) sb_nil)))))))))
set_option maxRecDepth 100000 in
theorem sb_X5_readShuttle_69 (l : Launch) : sm_SndB l RX5 "readShuttle" cX5_readShuttle 1 2 3 69 [oA 0, oK 94, oCv 5 5 p_X5_readSign f_X5_readSign 0 0 2, oEq0 88, oA 0, oK 4, oK 10, oCv 5 5 p_X5_readDigit f_X5_readDigit 0 0 3, oEq0 92, oGo 88] := sb_cons (sd_aload_n (by decide +kernel : decode cX5_readShuttle 69 = .ok (.aload_n 0, 1)) rfl) (sb_cons (sd_bipush (by decide +kernel : decode cX5_readShuttle 70 = .ok (.bipush 94, 2)) ⟨by decide, by decide⟩ (by decide)) (sb_cons (sd_callv (n := 1) (met_X5_readSign l) (by decide) (by decide) wm_616 wm_614 wm_8 ⟨by decide +kernel, by decide +kernel, by decide +kernel⟩ kl_5 wm_615 wm_1101 (by decide +kernel : decode cX5_readShuttle 72 = .ok (.invokevirtual 36, 3))) (sb_cons (sd_eq0 (by decide +kernel : decode cX5_readShuttle 75 = .ok (.ifCond .eq 13, 3)) (by decide)) (sb_cons (sd_aload_n (by decide +kernel : decode cX5_readShuttle 78 = .ok (.aload_n 0, 1)) rfl) (sb_cons (sd_iconst (by decide +kernel : decode cX5_readShuttle 79 = .ok (.iconst 4, 1)) ⟨by decide, by decide⟩) (sb_cons (sd_bipush (by decide +kernel : decode cX5_readShuttle 80 = .ok (.bipush 10, 2)) ⟨by decide, by decide⟩ (by decide)) (sb_cons (sd_callv (n := 2) (met_X5_readDigit l) (by decide) (by decide) wm_612 wm_610 wm_8 ⟨by decide +kernel, by decide +kernel, by decide +kernel⟩ kl_5 wm_611 wm_1100 (by decide +kernel : decode cX5_readShuttle 82 = .ok (.invokevirtual 83, 3))) (sb_cons (sd_eq0 (by decide +kernel : decode cX5_readShuttle 85 = .ok (.ifCond .eq 7, 3)) (by decide)) (sb_cons (sd_fall (x := 0)) sb_nil)))))))))
set_option maxRecDepth 100000 in
theorem sb_X5_readShuttle_88 (l : Launch) : sm_SndB l RX5 "readShuttle" cX5_readShuttle 1 2 3 88 [oK 1, oGo 93] := sb_cons (sd_iconst (by decide +kernel : decode cX5_readShuttle 88 = .ok (.iconst 1, 1)) ⟨by decide, by decide⟩) (sb_cons (sd_goto (x := 0) (by decide +kernel : decode cX5_readShuttle 89 = .ok (.goto 4, 3)) (by decide)) sb_nil)
set_option maxRecDepth 100000 in
theorem sb_X5_readShuttle_92 (l : Launch) : sm_SndB l RX5 "readShuttle" cX5_readShuttle 1 2 3 92 [oK 0, oGo 93] := sb_cons (sd_iconst (by decide +kernel : decode cX5_readShuttle 92 = .ok (.iconst 0, 1)) ⟨by decide, by decide⟩) (sb_cons (sd_fall (x := 0)) sb_nil)
set_option maxRecDepth 100000 in
theorem sb_X5_readShuttle_93 (l : Launch) : sm_SndB l RX5 "readShuttle" cX5_readShuttle 1 2 3 93 [oZr] := sb_cons (sd_zreturn (x := 0) rfl (by decide +kernel : decode cX5_readShuttle 93 = .ok (.ireturn, 1))) sb_nil
theorem sn_X5_readShuttle (l : Launch) : sm_SndT l RX5 "readShuttle" cX5_readShuttle 1 2 3 tb_X5_readShuttle := st_cons (sb_X5_readShuttle_0 l) (st_cons (sb_X5_readShuttle_29 l) (st_cons (sb_X5_readShuttle_31 l) (st_cons (sb_X5_readShuttle_48 l) (st_cons (sb_X5_readShuttle_50 l) (st_cons (sb_X5_readShuttle_69 l) (st_cons (sb_X5_readShuttle_88 l) (st_cons (sb_X5_readShuttle_92 l) (st_cons (sb_X5_readShuttle_93 l) (st_nil)))))))))
set_option maxRecDepth 100000 in
set_option maxHeartbeats 4000000 in
theorem ok_X5_readShuttle : sm_Ok tb_X5_readShuttle 1 0 0 p_X5_readShuttle f_X5_readShuttle := by
  intro as w hp ha hw
  match as, hp with
  | [.inr (.inl o)], hp =>
  refine ⟨Nat.le_of_ble_eq_true rfl, fun Z hZ => ?_⟩
  obtain ⟨rfl, hO⟩ := hp
  generalize hE : kSh w = E at *
  have h69 : ∀ u, kOK u → kT6 u = E → Z 69 [some (.inr (.inl 83))] [] u 0 0 := fun u hU he => by
    have hT := hU.1
    have a1 := (kG_S (s := 94) (by decide) u hU).2.1
    have o1 := (kG_S (s := 94) (by decide)).ok hU
    unfold kT6 at he
    generalize hr1 : kS 94 u = r1 at *
    obtain ⟨u1, b1⟩ := r1
    have y1 := sS_83 o1.1
    dsimp only at a1 o1 y1
    rcases a1 with rfl | rfl
    · rw [kO_0 hr1] at he
      subst he
      refine hZ (fun u => Nat.beq u 69) 14 69 _ _ _ _ _ ?_
      simp only [sm_run, sm_blk, sm_get, sm_ent, sm_ents, sm_wds, sm_wd, sm_nl, sm_pop, sm_back, sm_cases, oK, oLK, oL, oI, oA, oJ, oIs, oAs, oJs, oInc, oAdd, oSub, oMul, oDiv, oRem, oNeg, oAnd, oAndB, oOr, oShl, oI2c, oI2l, oL2i, oLand, oLor, oLshl, oLshr, oLushr, oLcmp, oDup, oDup2, oPop, oGo, oFg, oEq, oNe, oLt, oGe, oGt, oLe, oEq0, oNe0, oLt0, oGe0, oGt0, oLe0, oSw, oGi, oGr, oPi, oPz, oPr, oLen, oIl, oZl, oCl, oRl, oIst, oZst, oCst, oRst, oCopy, oNew, oNa, oNa2, oObj, oCs, oCv, oCi, oIr, oZr, oVr, Nat.beq, List.getElem?_cons_zero, List.getElem?_cons_succ, List.set_cons_zero, List.set_cons_succ, List.length_cons, List.length_nil, List.nil_append, List.cons_append, List.append_nil, List.replicate_succ, List.replicate_zero, Nat.reduceAdd, Nat.reduceSub, Nat.reduceLT, Nat.reduceLeDiff, Nat.reduceBEq, true_and, and_true, Nat.zero_add, Nat.add_zero, Nat.le_refl, Option.some.injEq, exists_eq_left', true_or, or_true, or_false, false_or, reduceCtorEq, Prod.mk.injEq, Sum.inl.injEq, and_self, false_and, and_false, not_true_eq_false, not_false_eq_true, false_implies, true_implies, sm_r, Int.add_zero, Int.zero_add, wI_wsI, wS_wsI, wR_wsI, wI_wCp, wS_wCp, wR_wCp, Nat.reduceEqDiff, reduceIte, sT_iff, sT_iffC, wIf_ne, ne_eq, Bool.false_or, Bool.true_or, Bool.or_false, Bool.or_true, Bool.or_self, Nat.left_eq_add, Nat.add_eq_left, Nat.add_left_inj, oMax, oMin, oAbs, tb_X5_readShuttle, p_X5_readDigit, p_X5_readNumber, p_X5_readSign, f_X5_readDigit, f_X5_readNumber, f_X5_readSign, p_X5_readShuttle, f_X5_readShuttle, sS_83 hT, hU, hr1, hE]
      repeat' (first | exact True.intro | with_reducible assumption | with_reducible refine And.intro ?_ ?_ | intro _)
      all_goals first
        | omega
        | assumption
        | rfl
        | (split <;> omega)
        | (have k9 := ih (by omega)
           (repeat' split at k9) <;> first | exact k9 | omega)
        | (have k9 := ih2 (by omega)
           (repeat' split at k9) <;> first | exact k9 | omega)
        | exact he (by omega)
        | ((with_reducible congr 1) <;> omega)
        | (rw [if_pos (by omega)] at he; exact he)
        | exact hD1 (by omega)
        | exact hD2 (by omega)
        | grind
        | skip
    · rw [kO_1 hr1] at he
      have a2 := (kG_D 4 10 u1 o1).2.1
      generalize hr2 : kD 4 10 u1 = r2 at *
      obtain ⟨u2, b2⟩ := r2
      dsimp only at a2
      subst he
      rcases a2 with rfl | rfl
      · skip
        refine hZ (fun u => Nat.beq u 69) 14 69 _ _ _ _ _ ?_
        simp only [sm_run, sm_blk, sm_get, sm_ent, sm_ents, sm_wds, sm_wd, sm_nl, sm_pop, sm_back, sm_cases, oK, oLK, oL, oI, oA, oJ, oIs, oAs, oJs, oInc, oAdd, oSub, oMul, oDiv, oRem, oNeg, oAnd, oAndB, oOr, oShl, oI2c, oI2l, oL2i, oLand, oLor, oLshl, oLshr, oLushr, oLcmp, oDup, oDup2, oPop, oGo, oFg, oEq, oNe, oLt, oGe, oGt, oLe, oEq0, oNe0, oLt0, oGe0, oGt0, oLe0, oSw, oGi, oGr, oPi, oPz, oPr, oLen, oIl, oZl, oCl, oRl, oIst, oZst, oCst, oRst, oCopy, oNew, oNa, oNa2, oObj, oCs, oCv, oCi, oIr, oZr, oVr, Nat.beq, List.getElem?_cons_zero, List.getElem?_cons_succ, List.set_cons_zero, List.set_cons_succ, List.length_cons, List.length_nil, List.nil_append, List.cons_append, List.append_nil, List.replicate_succ, List.replicate_zero, Nat.reduceAdd, Nat.reduceSub, Nat.reduceLT, Nat.reduceLeDiff, Nat.reduceBEq, true_and, and_true, Nat.zero_add, Nat.add_zero, Nat.le_refl, Option.some.injEq, exists_eq_left', true_or, or_true, or_false, false_or, reduceCtorEq, Prod.mk.injEq, Sum.inl.injEq, and_self, false_and, and_false, not_true_eq_false, not_false_eq_true, false_implies, true_implies, sm_r, Int.add_zero, Int.zero_add, wI_wsI, wS_wsI, wR_wsI, wI_wCp, wS_wCp, wR_wCp, Nat.reduceEqDiff, reduceIte, sT_iff, sT_iffC, wIf_ne, ne_eq, Bool.false_or, Bool.true_or, Bool.or_false, Bool.or_true, Bool.or_self, Nat.left_eq_add, Nat.add_eq_left, Nat.add_left_inj, oMax, oMin, oAbs, tb_X5_readShuttle, p_X5_readDigit, p_X5_readNumber, p_X5_readSign, f_X5_readDigit, f_X5_readNumber, f_X5_readSign, p_X5_readShuttle, f_X5_readShuttle, sS_83 hT, hU, hr1, o1, y1, hr2, hE]
        repeat' (first | exact True.intro | with_reducible assumption | with_reducible refine And.intro ?_ ?_ | intro _)
        all_goals first
          | omega
          | assumption
          | rfl
          | (split <;> omega)
          | (have k9 := ih (by omega)
             (repeat' split at k9) <;> first | exact k9 | omega)
          | (have k9 := ih2 (by omega)
             (repeat' split at k9) <;> first | exact k9 | omega)
          | exact he (by omega)
          | ((with_reducible congr 1) <;> omega)
          | (rw [if_pos (by omega)] at he; exact he)
          | exact hD1 (by omega)
          | exact hD2 (by omega)
          | grind
          | skip
      · skip
        refine hZ (fun u => Nat.beq u 69) 14 69 _ _ _ _ _ ?_
        simp only [sm_run, sm_blk, sm_get, sm_ent, sm_ents, sm_wds, sm_wd, sm_nl, sm_pop, sm_back, sm_cases, oK, oLK, oL, oI, oA, oJ, oIs, oAs, oJs, oInc, oAdd, oSub, oMul, oDiv, oRem, oNeg, oAnd, oAndB, oOr, oShl, oI2c, oI2l, oL2i, oLand, oLor, oLshl, oLshr, oLushr, oLcmp, oDup, oDup2, oPop, oGo, oFg, oEq, oNe, oLt, oGe, oGt, oLe, oEq0, oNe0, oLt0, oGe0, oGt0, oLe0, oSw, oGi, oGr, oPi, oPz, oPr, oLen, oIl, oZl, oCl, oRl, oIst, oZst, oCst, oRst, oCopy, oNew, oNa, oNa2, oObj, oCs, oCv, oCi, oIr, oZr, oVr, Nat.beq, List.getElem?_cons_zero, List.getElem?_cons_succ, List.set_cons_zero, List.set_cons_succ, List.length_cons, List.length_nil, List.nil_append, List.cons_append, List.append_nil, List.replicate_succ, List.replicate_zero, Nat.reduceAdd, Nat.reduceSub, Nat.reduceLT, Nat.reduceLeDiff, Nat.reduceBEq, true_and, and_true, Nat.zero_add, Nat.add_zero, Nat.le_refl, Option.some.injEq, exists_eq_left', true_or, or_true, or_false, false_or, reduceCtorEq, Prod.mk.injEq, Sum.inl.injEq, and_self, false_and, and_false, not_true_eq_false, not_false_eq_true, false_implies, true_implies, sm_r, Int.add_zero, Int.zero_add, wI_wsI, wS_wsI, wR_wsI, wI_wCp, wS_wCp, wR_wCp, Nat.reduceEqDiff, reduceIte, sT_iff, sT_iffC, wIf_ne, ne_eq, Bool.false_or, Bool.true_or, Bool.or_false, Bool.or_true, Bool.or_self, Nat.left_eq_add, Nat.add_eq_left, Nat.add_left_inj, oMax, oMin, oAbs, tb_X5_readShuttle, p_X5_readDigit, p_X5_readNumber, p_X5_readSign, f_X5_readDigit, f_X5_readNumber, f_X5_readSign, p_X5_readShuttle, f_X5_readShuttle, sS_83 hT, hU, hr1, o1, y1, hr2, hE]
        repeat' (first | exact True.intro | with_reducible assumption | with_reducible refine And.intro ?_ ?_ | intro _)
        all_goals first
          | omega
          | assumption
          | rfl
          | (split <;> omega)
          | (have k9 := ih (by omega)
             (repeat' split at k9) <;> first | exact k9 | omega)
          | (have k9 := ih2 (by omega)
             (repeat' split at k9) <;> first | exact k9 | omega)
          | exact he (by omega)
          | ((with_reducible congr 1) <;> omega)
          | (rw [if_pos (by omega)] at he; exact he)
          | exact hD1 (by omega)
          | exact hD2 (by omega)
          | grind
          | skip
  have h50 : ∀ u, kOK u → kT5 u = E → Z 50 [some (.inr (.inl 83))] [] u 0 0 := fun u hU he => by
    have hT := hU.1
    have a1 := (kG_S (s := 43) (by decide) u hU).2.1
    have o1 := (kG_S (s := 43) (by decide)).ok hU
    unfold kT5 at he
    generalize hr1 : kS 43 u = r1 at *
    obtain ⟨u1, b1⟩ := r1
    have y1 := sS_83 o1.1
    dsimp only at a1 o1 y1
    rcases a1 with rfl | rfl
    · rw [kA_1 (kO_0 hr1)] at he
      have h69 := h69 u1 o1 he
      refine hZ (fun u => Nat.beq u 69) 14 50 _ _ _ _ _ ?_
      simp only [sm_run, sm_blk, sm_get, sm_ent, sm_ents, sm_wds, sm_wd, sm_nl, sm_pop, sm_back, sm_cases, oK, oLK, oL, oI, oA, oJ, oIs, oAs, oJs, oInc, oAdd, oSub, oMul, oDiv, oRem, oNeg, oAnd, oAndB, oOr, oShl, oI2c, oI2l, oL2i, oLand, oLor, oLshl, oLshr, oLushr, oLcmp, oDup, oDup2, oPop, oGo, oFg, oEq, oNe, oLt, oGe, oGt, oLe, oEq0, oNe0, oLt0, oGe0, oGt0, oLe0, oSw, oGi, oGr, oPi, oPz, oPr, oLen, oIl, oZl, oCl, oRl, oIst, oZst, oCst, oRst, oCopy, oNew, oNa, oNa2, oObj, oCs, oCv, oCi, oIr, oZr, oVr, Nat.beq, List.getElem?_cons_zero, List.getElem?_cons_succ, List.set_cons_zero, List.set_cons_succ, List.length_cons, List.length_nil, List.nil_append, List.cons_append, List.append_nil, List.replicate_succ, List.replicate_zero, Nat.reduceAdd, Nat.reduceSub, Nat.reduceLT, Nat.reduceLeDiff, Nat.reduceBEq, true_and, and_true, Nat.zero_add, Nat.add_zero, Nat.le_refl, Option.some.injEq, exists_eq_left', true_or, or_true, or_false, false_or, reduceCtorEq, Prod.mk.injEq, Sum.inl.injEq, and_self, false_and, and_false, not_true_eq_false, not_false_eq_true, false_implies, true_implies, sm_r, Int.add_zero, Int.zero_add, wI_wsI, wS_wsI, wR_wsI, wI_wCp, wS_wCp, wR_wCp, Nat.reduceEqDiff, reduceIte, sT_iff, sT_iffC, wIf_ne, ne_eq, Bool.false_or, Bool.true_or, Bool.or_false, Bool.or_true, Bool.or_self, Nat.left_eq_add, Nat.add_eq_left, Nat.add_left_inj, oMax, oMin, oAbs, tb_X5_readShuttle, p_X5_readDigit, p_X5_readNumber, p_X5_readSign, f_X5_readDigit, f_X5_readNumber, f_X5_readSign, p_X5_readShuttle, f_X5_readShuttle, sS_83 hT, hU, hr1]
      repeat' (first | exact True.intro | with_reducible assumption | with_reducible refine And.intro ?_ ?_ | intro _)
      all_goals first
        | omega
        | assumption
        | rfl
        | (split <;> omega)
        | (have k9 := ih (by omega)
           (repeat' split at k9) <;> first | exact k9 | omega)
        | (have k9 := ih2 (by omega)
           (repeat' split at k9) <;> first | exact k9 | omega)
        | exact he (by omega)
        | ((with_reducible congr 1) <;> omega)
        | (rw [if_pos (by omega)] at he; exact he)
        | exact hD1 (by omega)
        | exact hD2 (by omega)
        | grind
        | skip
    · have a2 := (kG_N 3 u1 o1).2.1
      have o2 := (kG_N 3).ok o1
      generalize hr2 : kN 3 u1 = r2 at *
      obtain ⟨u2, b2⟩ := r2
      dsimp only at a2 o2
      have k2 := kO_1 (g := kN 3) hr1
      rw [hr2] at k2
      rcases a2 with rfl | rfl
      · rw [kA_0 k2] at he
        subst he
        clear h69
        refine hZ (fun u => Nat.beq u 69) 14 50 _ _ _ _ _ ?_
        simp only [sm_run, sm_blk, sm_get, sm_ent, sm_ents, sm_wds, sm_wd, sm_nl, sm_pop, sm_back, sm_cases, oK, oLK, oL, oI, oA, oJ, oIs, oAs, oJs, oInc, oAdd, oSub, oMul, oDiv, oRem, oNeg, oAnd, oAndB, oOr, oShl, oI2c, oI2l, oL2i, oLand, oLor, oLshl, oLshr, oLushr, oLcmp, oDup, oDup2, oPop, oGo, oFg, oEq, oNe, oLt, oGe, oGt, oLe, oEq0, oNe0, oLt0, oGe0, oGt0, oLe0, oSw, oGi, oGr, oPi, oPz, oPr, oLen, oIl, oZl, oCl, oRl, oIst, oZst, oCst, oRst, oCopy, oNew, oNa, oNa2, oObj, oCs, oCv, oCi, oIr, oZr, oVr, Nat.beq, List.getElem?_cons_zero, List.getElem?_cons_succ, List.set_cons_zero, List.set_cons_succ, List.length_cons, List.length_nil, List.nil_append, List.cons_append, List.append_nil, List.replicate_succ, List.replicate_zero, Nat.reduceAdd, Nat.reduceSub, Nat.reduceLT, Nat.reduceLeDiff, Nat.reduceBEq, true_and, and_true, Nat.zero_add, Nat.add_zero, Nat.le_refl, Option.some.injEq, exists_eq_left', true_or, or_true, or_false, false_or, reduceCtorEq, Prod.mk.injEq, Sum.inl.injEq, and_self, false_and, and_false, not_true_eq_false, not_false_eq_true, false_implies, true_implies, sm_r, Int.add_zero, Int.zero_add, wI_wsI, wS_wsI, wR_wsI, wI_wCp, wS_wCp, wR_wCp, Nat.reduceEqDiff, reduceIte, sT_iff, sT_iffC, wIf_ne, ne_eq, Bool.false_or, Bool.true_or, Bool.or_false, Bool.or_true, Bool.or_self, Nat.left_eq_add, Nat.add_eq_left, Nat.add_left_inj, oMax, oMin, oAbs, tb_X5_readShuttle, p_X5_readDigit, p_X5_readNumber, p_X5_readSign, f_X5_readDigit, f_X5_readNumber, f_X5_readSign, p_X5_readShuttle, f_X5_readShuttle, sS_83 hT, hU, hr1, o1, y1, hr2, hE]
        repeat' (first | exact True.intro | with_reducible assumption | with_reducible refine And.intro ?_ ?_ | intro _)
        all_goals first
          | omega
          | assumption
          | rfl
          | (split <;> omega)
          | (have k9 := ih (by omega)
             (repeat' split at k9) <;> first | exact k9 | omega)
          | (have k9 := ih2 (by omega)
             (repeat' split at k9) <;> first | exact k9 | omega)
          | exact he (by omega)
          | ((with_reducible congr 1) <;> omega)
          | (rw [if_pos (by omega)] at he; exact he)
          | exact hD1 (by omega)
          | exact hD2 (by omega)
          | grind
          | skip
      · rw [kA_1 k2] at he
        have h69 := h69 u2 o2 he
        refine hZ (fun u => Nat.beq u 69) 14 50 _ _ _ _ _ ?_
        simp only [sm_run, sm_blk, sm_get, sm_ent, sm_ents, sm_wds, sm_wd, sm_nl, sm_pop, sm_back, sm_cases, oK, oLK, oL, oI, oA, oJ, oIs, oAs, oJs, oInc, oAdd, oSub, oMul, oDiv, oRem, oNeg, oAnd, oAndB, oOr, oShl, oI2c, oI2l, oL2i, oLand, oLor, oLshl, oLshr, oLushr, oLcmp, oDup, oDup2, oPop, oGo, oFg, oEq, oNe, oLt, oGe, oGt, oLe, oEq0, oNe0, oLt0, oGe0, oGt0, oLe0, oSw, oGi, oGr, oPi, oPz, oPr, oLen, oIl, oZl, oCl, oRl, oIst, oZst, oCst, oRst, oCopy, oNew, oNa, oNa2, oObj, oCs, oCv, oCi, oIr, oZr, oVr, Nat.beq, List.getElem?_cons_zero, List.getElem?_cons_succ, List.set_cons_zero, List.set_cons_succ, List.length_cons, List.length_nil, List.nil_append, List.cons_append, List.append_nil, List.replicate_succ, List.replicate_zero, Nat.reduceAdd, Nat.reduceSub, Nat.reduceLT, Nat.reduceLeDiff, Nat.reduceBEq, true_and, and_true, Nat.zero_add, Nat.add_zero, Nat.le_refl, Option.some.injEq, exists_eq_left', true_or, or_true, or_false, false_or, reduceCtorEq, Prod.mk.injEq, Sum.inl.injEq, and_self, false_and, and_false, not_true_eq_false, not_false_eq_true, false_implies, true_implies, sm_r, Int.add_zero, Int.zero_add, wI_wsI, wS_wsI, wR_wsI, wI_wCp, wS_wCp, wR_wCp, Nat.reduceEqDiff, reduceIte, sT_iff, sT_iffC, wIf_ne, ne_eq, Bool.false_or, Bool.true_or, Bool.or_false, Bool.or_true, Bool.or_self, Nat.left_eq_add, Nat.add_eq_left, Nat.add_left_inj, oMax, oMin, oAbs, tb_X5_readShuttle, p_X5_readDigit, p_X5_readNumber, p_X5_readSign, f_X5_readDigit, f_X5_readNumber, f_X5_readSign, p_X5_readShuttle, f_X5_readShuttle, sS_83 hT, hU, hr1, o1, y1, hr2]
        repeat' (first | exact True.intro | with_reducible assumption | with_reducible refine And.intro ?_ ?_ | intro _)
        all_goals first
          | omega
          | assumption
          | rfl
          | (split <;> omega)
          | (have k9 := ih (by omega)
             (repeat' split at k9) <;> first | exact k9 | omega)
          | (have k9 := ih2 (by omega)
             (repeat' split at k9) <;> first | exact k9 | omega)
          | exact he (by omega)
          | ((with_reducible congr 1) <;> omega)
          | (rw [if_pos (by omega)] at he; exact he)
          | exact hD1 (by omega)
          | exact hD2 (by omega)
          | grind
          | skip
  clear h69
  have h31 : ∀ u, kOK u → kT3 u = E → Z 31 [some (.inr (.inl 83))] [] u 0 0 := fun u hU he => by
    have hT := hU.1
    have a1 := (kG_S (s := 64) (by decide) u hU).2.1
    have o1 := (kG_S (s := 64) (by decide)).ok hU
    unfold kT3 at he
    generalize hr1 : kS 64 u = r1 at *
    obtain ⟨u1, b1⟩ := r1
    have y1 := sS_83 o1.1
    dsimp only at a1 o1 y1
    rcases a1 with rfl | rfl
    · rw [kA_0 hr1] at he
      subst he
      clear h50
      refine hZ (fun u => Nat.beq u 50) 14 31 _ _ _ _ _ ?_
      simp only [sm_run, sm_blk, sm_get, sm_ent, sm_ents, sm_wds, sm_wd, sm_nl, sm_pop, sm_back, sm_cases, oK, oLK, oL, oI, oA, oJ, oIs, oAs, oJs, oInc, oAdd, oSub, oMul, oDiv, oRem, oNeg, oAnd, oAndB, oOr, oShl, oI2c, oI2l, oL2i, oLand, oLor, oLshl, oLshr, oLushr, oLcmp, oDup, oDup2, oPop, oGo, oFg, oEq, oNe, oLt, oGe, oGt, oLe, oEq0, oNe0, oLt0, oGe0, oGt0, oLe0, oSw, oGi, oGr, oPi, oPz, oPr, oLen, oIl, oZl, oCl, oRl, oIst, oZst, oCst, oRst, oCopy, oNew, oNa, oNa2, oObj, oCs, oCv, oCi, oIr, oZr, oVr, Nat.beq, List.getElem?_cons_zero, List.getElem?_cons_succ, List.set_cons_zero, List.set_cons_succ, List.length_cons, List.length_nil, List.nil_append, List.cons_append, List.append_nil, List.replicate_succ, List.replicate_zero, Nat.reduceAdd, Nat.reduceSub, Nat.reduceLT, Nat.reduceLeDiff, Nat.reduceBEq, true_and, and_true, Nat.zero_add, Nat.add_zero, Nat.le_refl, Option.some.injEq, exists_eq_left', true_or, or_true, or_false, false_or, reduceCtorEq, Prod.mk.injEq, Sum.inl.injEq, and_self, false_and, and_false, not_true_eq_false, not_false_eq_true, false_implies, true_implies, sm_r, Int.add_zero, Int.zero_add, wI_wsI, wS_wsI, wR_wsI, wI_wCp, wS_wCp, wR_wCp, Nat.reduceEqDiff, reduceIte, sT_iff, sT_iffC, wIf_ne, ne_eq, Bool.false_or, Bool.true_or, Bool.or_false, Bool.or_true, Bool.or_self, Nat.left_eq_add, Nat.add_eq_left, Nat.add_left_inj, oMax, oMin, oAbs, tb_X5_readShuttle, p_X5_readDigit, p_X5_readNumber, p_X5_readSign, f_X5_readDigit, f_X5_readNumber, f_X5_readSign, p_X5_readShuttle, f_X5_readShuttle, sS_83 hT, hU, hr1, hE]
      repeat' (first | exact True.intro | with_reducible assumption | with_reducible refine And.intro ?_ ?_ | intro _)
      all_goals first
        | omega
        | assumption
        | rfl
        | (split <;> omega)
        | (have k9 := ih (by omega)
           (repeat' split at k9) <;> first | exact k9 | omega)
        | (have k9 := ih2 (by omega)
           (repeat' split at k9) <;> first | exact k9 | omega)
        | exact he (by omega)
        | ((with_reducible congr 1) <;> omega)
        | (rw [if_pos (by omega)] at he; exact he)
        | exact hD1 (by omega)
        | exact hD2 (by omega)
        | grind
        | skip
    · rw [kA_1 hr1] at he
      have a2 := (kG_N 2 u1 o1).2.1
      have o2 := (kG_N 2).ok o1
      generalize hr2 : kN 2 u1 = r2 at *
      obtain ⟨u2, b2⟩ := r2
      dsimp only at a2 o2
      rcases a2 with rfl | rfl
      · rw [kA_0 hr2] at he
        subst he
        clear h50
        refine hZ (fun u => Nat.beq u 50) 14 31 _ _ _ _ _ ?_
        simp only [sm_run, sm_blk, sm_get, sm_ent, sm_ents, sm_wds, sm_wd, sm_nl, sm_pop, sm_back, sm_cases, oK, oLK, oL, oI, oA, oJ, oIs, oAs, oJs, oInc, oAdd, oSub, oMul, oDiv, oRem, oNeg, oAnd, oAndB, oOr, oShl, oI2c, oI2l, oL2i, oLand, oLor, oLshl, oLshr, oLushr, oLcmp, oDup, oDup2, oPop, oGo, oFg, oEq, oNe, oLt, oGe, oGt, oLe, oEq0, oNe0, oLt0, oGe0, oGt0, oLe0, oSw, oGi, oGr, oPi, oPz, oPr, oLen, oIl, oZl, oCl, oRl, oIst, oZst, oCst, oRst, oCopy, oNew, oNa, oNa2, oObj, oCs, oCv, oCi, oIr, oZr, oVr, Nat.beq, List.getElem?_cons_zero, List.getElem?_cons_succ, List.set_cons_zero, List.set_cons_succ, List.length_cons, List.length_nil, List.nil_append, List.cons_append, List.append_nil, List.replicate_succ, List.replicate_zero, Nat.reduceAdd, Nat.reduceSub, Nat.reduceLT, Nat.reduceLeDiff, Nat.reduceBEq, true_and, and_true, Nat.zero_add, Nat.add_zero, Nat.le_refl, Option.some.injEq, exists_eq_left', true_or, or_true, or_false, false_or, reduceCtorEq, Prod.mk.injEq, Sum.inl.injEq, and_self, false_and, and_false, not_true_eq_false, not_false_eq_true, false_implies, true_implies, sm_r, Int.add_zero, Int.zero_add, wI_wsI, wS_wsI, wR_wsI, wI_wCp, wS_wCp, wR_wCp, Nat.reduceEqDiff, reduceIte, sT_iff, sT_iffC, wIf_ne, ne_eq, Bool.false_or, Bool.true_or, Bool.or_false, Bool.or_true, Bool.or_self, Nat.left_eq_add, Nat.add_eq_left, Nat.add_left_inj, oMax, oMin, oAbs, tb_X5_readShuttle, p_X5_readDigit, p_X5_readNumber, p_X5_readSign, f_X5_readDigit, f_X5_readNumber, f_X5_readSign, p_X5_readShuttle, f_X5_readShuttle, sS_83 hT, hU, hr1, o1, y1, hr2, hE]
        repeat' (first | exact True.intro | with_reducible assumption | with_reducible refine And.intro ?_ ?_ | intro _)
        all_goals first
          | omega
          | assumption
          | rfl
          | (split <;> omega)
          | (have k9 := ih (by omega)
             (repeat' split at k9) <;> first | exact k9 | omega)
          | (have k9 := ih2 (by omega)
             (repeat' split at k9) <;> first | exact k9 | omega)
          | exact he (by omega)
          | ((with_reducible congr 1) <;> omega)
          | (rw [if_pos (by omega)] at he; exact he)
          | exact hD1 (by omega)
          | exact hD2 (by omega)
          | grind
          | skip
      · rw [kA_1 hr2] at he
        have h50 := h50 u2 o2 he
        refine hZ (fun u => Nat.beq u 50) 14 31 _ _ _ _ _ ?_
        simp only [sm_run, sm_blk, sm_get, sm_ent, sm_ents, sm_wds, sm_wd, sm_nl, sm_pop, sm_back, sm_cases, oK, oLK, oL, oI, oA, oJ, oIs, oAs, oJs, oInc, oAdd, oSub, oMul, oDiv, oRem, oNeg, oAnd, oAndB, oOr, oShl, oI2c, oI2l, oL2i, oLand, oLor, oLshl, oLshr, oLushr, oLcmp, oDup, oDup2, oPop, oGo, oFg, oEq, oNe, oLt, oGe, oGt, oLe, oEq0, oNe0, oLt0, oGe0, oGt0, oLe0, oSw, oGi, oGr, oPi, oPz, oPr, oLen, oIl, oZl, oCl, oRl, oIst, oZst, oCst, oRst, oCopy, oNew, oNa, oNa2, oObj, oCs, oCv, oCi, oIr, oZr, oVr, Nat.beq, List.getElem?_cons_zero, List.getElem?_cons_succ, List.set_cons_zero, List.set_cons_succ, List.length_cons, List.length_nil, List.nil_append, List.cons_append, List.append_nil, List.replicate_succ, List.replicate_zero, Nat.reduceAdd, Nat.reduceSub, Nat.reduceLT, Nat.reduceLeDiff, Nat.reduceBEq, true_and, and_true, Nat.zero_add, Nat.add_zero, Nat.le_refl, Option.some.injEq, exists_eq_left', true_or, or_true, or_false, false_or, reduceCtorEq, Prod.mk.injEq, Sum.inl.injEq, and_self, false_and, and_false, not_true_eq_false, not_false_eq_true, false_implies, true_implies, sm_r, Int.add_zero, Int.zero_add, wI_wsI, wS_wsI, wR_wsI, wI_wCp, wS_wCp, wR_wCp, Nat.reduceEqDiff, reduceIte, sT_iff, sT_iffC, wIf_ne, ne_eq, Bool.false_or, Bool.true_or, Bool.or_false, Bool.or_true, Bool.or_self, Nat.left_eq_add, Nat.add_eq_left, Nat.add_left_inj, oMax, oMin, oAbs, tb_X5_readShuttle, p_X5_readDigit, p_X5_readNumber, p_X5_readSign, f_X5_readDigit, f_X5_readNumber, f_X5_readSign, p_X5_readShuttle, f_X5_readShuttle, sS_83 hT, hU, hr1, o1, y1, hr2]
        repeat' (first | exact True.intro | with_reducible assumption | with_reducible refine And.intro ?_ ?_ | intro _)
        all_goals first
          | omega
          | assumption
          | rfl
          | (split <;> omega)
          | (have k9 := ih (by omega)
             (repeat' split at k9) <;> first | exact k9 | omega)
          | (have k9 := ih2 (by omega)
             (repeat' split at k9) <;> first | exact k9 | omega)
          | exact he (by omega)
          | ((with_reducible congr 1) <;> omega)
          | (rw [if_pos (by omega)] at he; exact he)
          | exact hD1 (by omega)
          | exact hD2 (by omega)
          | grind
          | skip
  clear h50
  have hT := hO.1
  have a1 := (kG_D 0 8 w hO).2.1
  have o1 := (kG_D 0 8).ok hO
  unfold kSh at hE
  have hE9 : kSh w = E := hE
  generalize hr1 : kD 0 8 w = r1 at *
  obtain ⟨u1, b1⟩ := r1
  have y1 := sS_83 o1.1
  dsimp only at a1 o1 y1
  rcases a1 with rfl | rfl
  · rw [kA_0 hr1] at hE
    subst hE
    clear h31
    refine hZ (fun u => Nat.beq u 31) 14 0 _ _ _ _ _ ?_
    simp only [sm_run, sm_blk, sm_get, sm_ent, sm_ents, sm_wds, sm_wd, sm_nl, sm_pop, sm_back, sm_cases, oK, oLK, oL, oI, oA, oJ, oIs, oAs, oJs, oInc, oAdd, oSub, oMul, oDiv, oRem, oNeg, oAnd, oAndB, oOr, oShl, oI2c, oI2l, oL2i, oLand, oLor, oLshl, oLshr, oLushr, oLcmp, oDup, oDup2, oPop, oGo, oFg, oEq, oNe, oLt, oGe, oGt, oLe, oEq0, oNe0, oLt0, oGe0, oGt0, oLe0, oSw, oGi, oGr, oPi, oPz, oPr, oLen, oIl, oZl, oCl, oRl, oIst, oZst, oCst, oRst, oCopy, oNew, oNa, oNa2, oObj, oCs, oCv, oCi, oIr, oZr, oVr, Nat.beq, List.getElem?_cons_zero, List.getElem?_cons_succ, List.set_cons_zero, List.set_cons_succ, List.length_cons, List.length_nil, List.nil_append, List.cons_append, List.append_nil, List.replicate_succ, List.replicate_zero, Nat.reduceAdd, Nat.reduceSub, Nat.reduceLT, Nat.reduceLeDiff, Nat.reduceBEq, true_and, and_true, Nat.zero_add, Nat.add_zero, Nat.le_refl, Option.some.injEq, exists_eq_left', true_or, or_true, or_false, false_or, reduceCtorEq, Prod.mk.injEq, Sum.inl.injEq, and_self, false_and, and_false, not_true_eq_false, not_false_eq_true, false_implies, true_implies, sm_r, Int.add_zero, Int.zero_add, wI_wsI, wS_wsI, wR_wsI, wI_wCp, wS_wCp, wR_wCp, Nat.reduceEqDiff, reduceIte, sT_iff, sT_iffC, wIf_ne, ne_eq, Bool.false_or, Bool.true_or, Bool.or_false, Bool.or_true, Bool.or_self, Nat.left_eq_add, Nat.add_eq_left, Nat.add_left_inj, oMax, oMin, oAbs, tb_X5_readShuttle, p_X5_readDigit, p_X5_readNumber, p_X5_readSign, f_X5_readDigit, f_X5_readNumber, f_X5_readSign, p_X5_readShuttle, f_X5_readShuttle, sS_83 hT, hO, hr1, hE9]
    repeat' (first | exact True.intro | with_reducible assumption | with_reducible refine And.intro ?_ ?_ | intro _)
    all_goals first
      | omega
      | assumption
      | rfl
      | (split <;> omega)
      | (have k9 := ih (by omega)
         (repeat' split at k9) <;> first | exact k9 | omega)
      | (have k9 := ih2 (by omega)
         (repeat' split at k9) <;> first | exact k9 | omega)
      | exact he (by omega)
      | ((with_reducible congr 1) <;> omega)
      | (rw [if_pos (by omega)] at he; exact he)
      | exact hD1 (by omega)
      | exact hD2 (by omega)
      | grind
      | skip
  · rw [kA_1 hr1] at hE
    have a2 := (kG_S (s := 62) (by decide) u1 o1).2.1
    have o2 := (kG_S (s := 62) (by decide)).ok o1
    generalize hr2 : kS 62 u1 = r2 at *
    obtain ⟨u2, b2⟩ := r2
    have y2 := sS_83 o2.1
    dsimp only at a2 o2 y2
    rcases a2 with rfl | rfl
    · rw [kA_0 hr2] at hE
      subst hE
      clear h31
      refine hZ (fun u => Nat.beq u 31) 14 0 _ _ _ _ _ ?_
      simp only [sm_run, sm_blk, sm_get, sm_ent, sm_ents, sm_wds, sm_wd, sm_nl, sm_pop, sm_back, sm_cases, oK, oLK, oL, oI, oA, oJ, oIs, oAs, oJs, oInc, oAdd, oSub, oMul, oDiv, oRem, oNeg, oAnd, oAndB, oOr, oShl, oI2c, oI2l, oL2i, oLand, oLor, oLshl, oLshr, oLushr, oLcmp, oDup, oDup2, oPop, oGo, oFg, oEq, oNe, oLt, oGe, oGt, oLe, oEq0, oNe0, oLt0, oGe0, oGt0, oLe0, oSw, oGi, oGr, oPi, oPz, oPr, oLen, oIl, oZl, oCl, oRl, oIst, oZst, oCst, oRst, oCopy, oNew, oNa, oNa2, oObj, oCs, oCv, oCi, oIr, oZr, oVr, Nat.beq, List.getElem?_cons_zero, List.getElem?_cons_succ, List.set_cons_zero, List.set_cons_succ, List.length_cons, List.length_nil, List.nil_append, List.cons_append, List.append_nil, List.replicate_succ, List.replicate_zero, Nat.reduceAdd, Nat.reduceSub, Nat.reduceLT, Nat.reduceLeDiff, Nat.reduceBEq, true_and, and_true, Nat.zero_add, Nat.add_zero, Nat.le_refl, Option.some.injEq, exists_eq_left', true_or, or_true, or_false, false_or, reduceCtorEq, Prod.mk.injEq, Sum.inl.injEq, and_self, false_and, and_false, not_true_eq_false, not_false_eq_true, false_implies, true_implies, sm_r, Int.add_zero, Int.zero_add, wI_wsI, wS_wsI, wR_wsI, wI_wCp, wS_wCp, wR_wCp, Nat.reduceEqDiff, reduceIte, sT_iff, sT_iffC, wIf_ne, ne_eq, Bool.false_or, Bool.true_or, Bool.or_false, Bool.or_true, Bool.or_self, Nat.left_eq_add, Nat.add_eq_left, Nat.add_left_inj, oMax, oMin, oAbs, tb_X5_readShuttle, p_X5_readDigit, p_X5_readNumber, p_X5_readSign, f_X5_readDigit, f_X5_readNumber, f_X5_readSign, p_X5_readShuttle, f_X5_readShuttle, sS_83 hT, hO, hr1, o1, y1, hr2, hE9]
      repeat' (first | exact True.intro | with_reducible assumption | with_reducible refine And.intro ?_ ?_ | intro _)
      all_goals first
        | omega
        | assumption
        | rfl
        | (split <;> omega)
        | (have k9 := ih (by omega)
           (repeat' split at k9) <;> first | exact k9 | omega)
        | (have k9 := ih2 (by omega)
           (repeat' split at k9) <;> first | exact k9 | omega)
        | exact he (by omega)
        | ((with_reducible congr 1) <;> omega)
        | (rw [if_pos (by omega)] at he; exact he)
        | exact hD1 (by omega)
        | exact hD2 (by omega)
        | grind
        | skip
    · rw [kA_1 hr2] at hE
      have a3 := (kG_D 1 8 u2 o2).2.1
      have o3 := (kG_D 1 8).ok o2
      generalize hr3 : kD 1 8 u2 = r3 at *
      obtain ⟨u3, b3⟩ := r3
      dsimp only at a3 o3
      rcases a3 with rfl | rfl
      · rw [kA_0 hr3] at hE
        subst hE
        clear h31
        refine hZ (fun u => Nat.beq u 31) 14 0 _ _ _ _ _ ?_
        simp only [sm_run, sm_blk, sm_get, sm_ent, sm_ents, sm_wds, sm_wd, sm_nl, sm_pop, sm_back, sm_cases, oK, oLK, oL, oI, oA, oJ, oIs, oAs, oJs, oInc, oAdd, oSub, oMul, oDiv, oRem, oNeg, oAnd, oAndB, oOr, oShl, oI2c, oI2l, oL2i, oLand, oLor, oLshl, oLshr, oLushr, oLcmp, oDup, oDup2, oPop, oGo, oFg, oEq, oNe, oLt, oGe, oGt, oLe, oEq0, oNe0, oLt0, oGe0, oGt0, oLe0, oSw, oGi, oGr, oPi, oPz, oPr, oLen, oIl, oZl, oCl, oRl, oIst, oZst, oCst, oRst, oCopy, oNew, oNa, oNa2, oObj, oCs, oCv, oCi, oIr, oZr, oVr, Nat.beq, List.getElem?_cons_zero, List.getElem?_cons_succ, List.set_cons_zero, List.set_cons_succ, List.length_cons, List.length_nil, List.nil_append, List.cons_append, List.append_nil, List.replicate_succ, List.replicate_zero, Nat.reduceAdd, Nat.reduceSub, Nat.reduceLT, Nat.reduceLeDiff, Nat.reduceBEq, true_and, and_true, Nat.zero_add, Nat.add_zero, Nat.le_refl, Option.some.injEq, exists_eq_left', true_or, or_true, or_false, false_or, reduceCtorEq, Prod.mk.injEq, Sum.inl.injEq, and_self, false_and, and_false, not_true_eq_false, not_false_eq_true, false_implies, true_implies, sm_r, Int.add_zero, Int.zero_add, wI_wsI, wS_wsI, wR_wsI, wI_wCp, wS_wCp, wR_wCp, Nat.reduceEqDiff, reduceIte, sT_iff, sT_iffC, wIf_ne, ne_eq, Bool.false_or, Bool.true_or, Bool.or_false, Bool.or_true, Bool.or_self, Nat.left_eq_add, Nat.add_eq_left, Nat.add_left_inj, oMax, oMin, oAbs, tb_X5_readShuttle, p_X5_readDigit, p_X5_readNumber, p_X5_readSign, f_X5_readDigit, f_X5_readNumber, f_X5_readSign, p_X5_readShuttle, f_X5_readShuttle, sS_83 hT, hO, hr1, o1, y1, hr2, o2, y2, hr3, hE9]
        repeat' (first | exact True.intro | with_reducible assumption | with_reducible refine And.intro ?_ ?_ | intro _)
        all_goals first
          | omega
          | assumption
          | rfl
          | (split <;> omega)
          | (have k9 := ih (by omega)
             (repeat' split at k9) <;> first | exact k9 | omega)
          | (have k9 := ih2 (by omega)
             (repeat' split at k9) <;> first | exact k9 | omega)
          | exact he (by omega)
          | ((with_reducible congr 1) <;> omega)
          | (rw [if_pos (by omega)] at he; exact he)
          | exact hD1 (by omega)
          | exact hD2 (by omega)
          | grind
          | skip
      · rw [kA_1 hr3] at hE
        have h31 := h31 u3 o3 hE
        refine hZ (fun u => Nat.beq u 31) 14 0 _ _ _ _ _ ?_
        simp only [sm_run, sm_blk, sm_get, sm_ent, sm_ents, sm_wds, sm_wd, sm_nl, sm_pop, sm_back, sm_cases, oK, oLK, oL, oI, oA, oJ, oIs, oAs, oJs, oInc, oAdd, oSub, oMul, oDiv, oRem, oNeg, oAnd, oAndB, oOr, oShl, oI2c, oI2l, oL2i, oLand, oLor, oLshl, oLshr, oLushr, oLcmp, oDup, oDup2, oPop, oGo, oFg, oEq, oNe, oLt, oGe, oGt, oLe, oEq0, oNe0, oLt0, oGe0, oGt0, oLe0, oSw, oGi, oGr, oPi, oPz, oPr, oLen, oIl, oZl, oCl, oRl, oIst, oZst, oCst, oRst, oCopy, oNew, oNa, oNa2, oObj, oCs, oCv, oCi, oIr, oZr, oVr, Nat.beq, List.getElem?_cons_zero, List.getElem?_cons_succ, List.set_cons_zero, List.set_cons_succ, List.length_cons, List.length_nil, List.nil_append, List.cons_append, List.append_nil, List.replicate_succ, List.replicate_zero, Nat.reduceAdd, Nat.reduceSub, Nat.reduceLT, Nat.reduceLeDiff, Nat.reduceBEq, true_and, and_true, Nat.zero_add, Nat.add_zero, Nat.le_refl, Option.some.injEq, exists_eq_left', true_or, or_true, or_false, false_or, reduceCtorEq, Prod.mk.injEq, Sum.inl.injEq, and_self, false_and, and_false, not_true_eq_false, not_false_eq_true, false_implies, true_implies, sm_r, Int.add_zero, Int.zero_add, wI_wsI, wS_wsI, wR_wsI, wI_wCp, wS_wCp, wR_wCp, Nat.reduceEqDiff, reduceIte, sT_iff, sT_iffC, wIf_ne, ne_eq, Bool.false_or, Bool.true_or, Bool.or_false, Bool.or_true, Bool.or_self, Nat.left_eq_add, Nat.add_eq_left, Nat.add_left_inj, oMax, oMin, oAbs, tb_X5_readShuttle, p_X5_readDigit, p_X5_readNumber, p_X5_readSign, f_X5_readDigit, f_X5_readNumber, f_X5_readSign, p_X5_readShuttle, f_X5_readShuttle, sS_83 hT, hO, hr1, o1, y1, hr2, o2, y2, hr3]
        repeat' (first | exact True.intro | with_reducible assumption | with_reducible refine And.intro ?_ ?_ | intro _)
        all_goals first
          | omega
          | assumption
          | rfl
          | (split <;> omega)
          | (have k9 := ih (by omega)
             (repeat' split at k9) <;> first | exact k9 | omega)
          | (have k9 := ih2 (by omega)
             (repeat' split at k9) <;> first | exact k9 | omega)
          | exact he (by omega)
          | ((with_reducible congr 1) <;> omega)
          | (rw [if_pos (by omega)] at he; exact he)
          | exact hD1 (by omega)
          | exact hD2 (by omega)
          | grind
          | skip
theorem met_X5_readShuttle (l : Launch) : sm_Met l yX5_readShuttle cX5_readShuttle 1 (some .boolean) 3 0 0 p_X5_readShuttle f_X5_readShuttle := sm_met 2 (Or.inr (Or.inr ⟨rfl, rfl⟩)) (by decide +kernel) (sn_X5_readShuttle l) ok_X5_readShuttle
def kBody (c : Int) : kR := if c = 115 then kSh else (if c = 108 then kA (kD 0 8) (kA (kS 43) (kN 1)) else (if c = 116 then kA (kD 0 8) (kA (kS 61) (kN 1)) else (if c = 114 then kA (kD 0 7) (kA (kS 61) (kN 1)) else (if c = 112 then kA (kD 0 8) (kA (kS 61) (kD 1 10)) else (if c = 120 then kD 0 8 else fun w => (wsI w 83 2 (wI w 83 2 - 1), 0))))))
def kO0 (w : sm_W) : sm_W := wsI (wsI (fiW 85 0 ((5 : Nat) : Int) w) 83 3 (kNx w)) 83 2 (wI w 83 2 + 1)
def kOrd (w : sm_W) : sm_W × Int := kBody (kNx w) (kO0 w)
theorem kO0_in {w : sm_W} (h : kOK w) (h8 : wI w 83 2 ≤ 80) : sFr sRd w (kO0 w) ∧ kOK (kO0 w) ∧ wI (kO0 w) 83 2 = wI w 83 2 + 1 ∧ wI (kO0 w) 83 3 = kNx w ∧ kNx (fiW 85 0 ((5 : Nat) : Int) w) = kNx w ∧ wI (fiW 85 0 ((5 : Nat) : Int) w) 83 = wI w 83 ∧ kOK (fiW 85 0 ((5 : Nat) : Int) w) := by
  have f1 : sFr sRd w (fiW 85 0 ((5 : Nat) : Int) w) := sFr.it (f := fiA 85 0) _ (by omega) (fun i r _ _ _ => (sFr.refl r).st (Or.inr rfl))
  have hI : ∀ a, a ≠ 85 → wI (fiW 85 0 ((5 : Nat) : Int) w) a = wI w a := fun a ha => funext fun j => by rw [(fiW_in 85 0 w _ (by omega)).2.1, if_neg (fun h => ha h.1)]
  have f2 : sFr sRd w (kO0 w) := (f1.st (Or.inl ⟨rfl, Or.inr rfl⟩)).st (Or.inl ⟨rfl, Or.inl rfl⟩)
  have e2 : wI (kO0 w) 83 2 = wI w 83 2 + 1 := by
    unfold kO0
    rw [wI_wsI, if_pos ⟨rfl, rfl⟩]
  have h2 := h.2.2.1
  have e83 := hI 83 (by decide)
  refine ⟨f2, kOK_fr h f2 (by omega), e2, ?_, ?_, e83, kOK_fr h f1 (by rw [e83]; omega)⟩
  · unfold kO0
    rw [wI_wsI, if_neg (by omega), wI_wsI, if_pos ⟨rfl, rfl⟩]
  · unfold kNx
    rw [e83, hI 84 (by decide)]
theorem kBody_g {c : Int} (hc : c = 115 ∨ c = 108 ∨ c = 116 ∨ c = 114 ∨ c = 112 ∨ c = 120) : kG (kBody c) := by
  unfold kBody
  rcases hc with rfl | rfl | rfl | rfl | rfl | rfl
  · exact kG_Sh
  · exact kG_A (kG_D 0 8) (kG_A (kG_S (by decide)) (kG_N 1))
  · exact kG_A (kG_D 0 8) (kG_A (kG_S (by decide)) (kG_N 1))
  · exact kG_A (kG_D 0 7) (kG_A (kG_S (by decide)) (kG_N 1))
  · exact kG_A (kG_D 0 8) (kG_A (kG_S (by decide)) (kG_D 1 10))
  · exact kG_D 0 8
theorem kOrd_in {w : sm_W} (h : kOK w) (h8 : wI w 83 2 ≤ 80) : sFr sRd w (kOrd w).1 ∧ kOK (kOrd w).1 ∧ ((kOrd w).2 = 0 ∨ (kOrd w).2 = 1) ∧ wI (kOrd w).1 83 2 ≤ 80 ∧ ((kOrd w).2 = 1 → wI w 83 2 + 1 ≤ wI (kOrd w).1 83 2) := by
  obtain ⟨f2, k2, e2, e3, -⟩ := kO0_in h h8
  have hn := kNx_b h
  have h1 := h.2.1
  have h2 := h.2.2.1
  have l0 : wI (kO0 w) 83 0 = wI w 83 0 := f2.out (fun v hs => by unfold sRd at hs; omega)
  unfold kOrd
  by_cases hc : kNx w = 115 ∨ kNx w = 108 ∨ kNx w = 116 ∨ kNx w = 114 ∨ kNx w = 112 ∨ kNx w = 120
  · have hg := kBody_g hc
    have hb := hg (kO0 w) k2
    have hk := hg.ok k2
    exact ⟨f2.trans hb.1, hk, hb.2.1, by omega, fun _ => by omega⟩
  · have e : kBody (kNx w) (kO0 w) = (wsI (kO0 w) 83 2 (wI (kO0 w) 83 2 - 1), 0) := by
      unfold kBody
      rw [if_neg (by omega), if_neg (by omega), if_neg (by omega), if_neg (by omega), if_neg (by omega), if_neg (by omega)]
    rw [e]
    have f3 : sFr sRd w (wsI (kO0 w) 83 2 (wI (kO0 w) 83 2 - 1)) := f2.st (Or.inl ⟨rfl, Or.inl rfl⟩)
    have e4 : wI (wsI (kO0 w) 83 2 (wI (kO0 w) 83 2 - 1)) 83 2 = wI w 83 2 := by rw [wI_wsI, if_pos ⟨rfl, rfl⟩, e2]; omega
    exact ⟨f3, kOK_fr h f3 (by dsimp only; omega), Or.inl rfl, by dsimp only; omega, fun h => absurd (show (0 : Int) = 1 from h) (by decide)⟩
def p_X5_readOrder : List sm_V → sm_W → Prop
  | [.inr (.inl o)], w => o = 83 ∧ kOK w ∧ wI w 83 2 ≤ 80
  | _, _ => False
def f_X5_readOrder : sm_F
  | [.inr (.inl o)], w => (some (.inl (kOrd w).2), (kOrd w).1)
  | _, w => (none, w)
def tb_X5_readOrder : List (Nat × List sm_O) := [(0, [oA 0, oGr 5 5 4, oK 0, oCs p_J7_fill_53178 f_J7_fill_53178 0 0 2, oA 0, oA 0, oCv 5 5 p_X5_peek f_X5_peek 0 0 1, oPi 5 5 3, oA 0, oDup, oGi 5 5 2, oK 1, oAdd, oPi 5 5 2, oA 0, oGi 5 5 3, oSw 108 [101, 243, 243, 243, 200, 243, 167, 96, 134, 243, 243, 243, 235] 243]),
  (96, [oA 0, oCv 5 5 p_X5_readShuttle f_X5_readShuttle 0 0 1, oZr]),
  (101, [oA 0, oK 0, oK 8, oCv 5 5 p_X5_readDigit f_X5_readDigit 0 0 3, oEq0 132, oA 0, oK 43, oCv 5 5 p_X5_readSign f_X5_readSign 0 0 2, oEq0 132, oA 0, oK 1, oCv 5 5 p_X5_readNumber f_X5_readNumber 0 0 2, oEq0 132, oK 1, oGo 133]),
  (132, [oK 0, oGo 133]),
  (133, [oZr]),
  (134, [oA 0, oK 0, oK 8, oCv 5 5 p_X5_readDigit f_X5_readDigit 0 0 3, oEq0 165, oA 0, oK 61, oCv 5 5 p_X5_readSign f_X5_readSign 0 0 2, oEq0 165, oA 0, oK 1, oCv 5 5 p_X5_readNumber f_X5_readNumber 0 0 2, oEq0 165, oK 1, oGo 166]),
  (165, [oK 0, oGo 166]),
  (166, [oZr]),
  (167, [oA 0, oK 0, oK 7, oCv 5 5 p_X5_readDigit f_X5_readDigit 0 0 3, oEq0 198, oA 0, oK 61, oCv 5 5 p_X5_readSign f_X5_readSign 0 0 2, oEq0 198, oA 0, oK 1, oCv 5 5 p_X5_readNumber f_X5_readNumber 0 0 2, oEq0 198, oK 1, oGo 199]),
  (198, [oK 0, oGo 199]),
  (199, [oZr]),
  (200, [oA 0, oK 0, oK 8, oCv 5 5 p_X5_readDigit f_X5_readDigit 0 0 3, oEq0 233, oA 0, oK 61, oCv 5 5 p_X5_readSign f_X5_readSign 0 0 2, oEq0 233, oA 0, oK 1, oK 10, oCv 5 5 p_X5_readDigit f_X5_readDigit 0 0 3, oEq0 233, oK 1, oGo 234]),
  (233, [oK 0, oGo 234]),
  (234, [oZr]),
  (235, [oA 0, oK 0, oK 8, oCv 5 5 p_X5_readDigit f_X5_readDigit 0 0 3, oZr]),
  (243, [oA 0, oDup, oGi 5 5 2, oK 1, oSub, oPi 5 5 2, oK 0, oZr])]
set_option maxRecDepth 100000 in
theorem sb_X5_readOrder_0 (l : Launch) : sm_SndB l RX5 "readOrder" cX5_readOrder 1 2 4 0 [oA 0, oGr 5 5 4, oK 0, oCs p_J7_fill_53178 f_J7_fill_53178 0 0 2, oA 0, oA 0, oCv 5 5 p_X5_peek f_X5_peek 0 0 1, oPi 5 5 3, oA 0, oDup, oGi 5 5 2, oK 1, oAdd, oPi 5 5 2, oA 0, oGi 5 5 3, oSw 108 [101, 243, 243, 243, 200, 243, 167, 96, 134, 243, 243, 243, 235] 243] := sb_cons (sd_aload_n (by decide +kernel : decode cX5_readOrder 0 = .ok (.aload_n 0, 1)) rfl) (sb_cons (sd_getr (k := 4) kl_5 (by decide) rfl wm_131 (by decide +kernel : decode cX5_readOrder 1 = .ok (.getfield 15, 3))) (sb_cons (sd_iconst (by decide +kernel : decode cX5_readOrder 4 = .ok (.iconst 0, 1)) ⟨by decide, by decide⟩) (sb_cons (sd_calls (n := 2) (met_J7_fill_53178 l) (by decide) (by decide) wm_37 wm_601 wm_4 ⟨by decide +kernel, by decide +kernel, by decide +kernel⟩ wm_36 (by decide +kernel : decode cX5_readOrder 5 = .ok (.invokestatic 70, 3))) (sb_cons (sd_aload_n (by decide +kernel : decode cX5_readOrder 8 = .ok (.aload_n 0, 1)) rfl) (sb_cons (sd_aload_n (by decide +kernel : decode cX5_readOrder 9 = .ok (.aload_n 0, 1)) rfl) (sb_cons (sd_callv (n := 0) (met_X5_peek l) (by decide) (by decide) wm_604 wm_602 wm_8 ⟨by decide +kernel, by decide +kernel, by decide +kernel⟩ kl_5 wm_603 wm_1098 (by decide +kernel : decode cX5_readOrder 10 = .ok (.invokevirtual 76, 3))) (sb_cons (sd_puti (k := 3) kl_5 (by decide) rfl (Or.inl rfl) wm_130 (by decide +kernel : decode cX5_readOrder 13 = .ok (.putfield 44, 3))) (sb_cons (sd_aload_n (by decide +kernel : decode cX5_readOrder 16 = .ok (.aload_n 0, 1)) rfl) (sb_cons (sd_dup (by decide +kernel : decode cX5_readOrder 17 = .ok (.dup, 1))) (sb_cons (sd_geti (k := 2) kl_5 (by decide) rfl wm_129 (by decide +kernel : decode cX5_readOrder 18 = .ok (.getfield 29, 3))) (sb_cons (sd_iconst (by decide +kernel : decode cX5_readOrder 21 = .ok (.iconst 1, 1)) ⟨by decide, by decide⟩) (sb_cons (sd_iadd (by decide +kernel : decode cX5_readOrder 22 = .ok (.iadd, 1))) (sb_cons (sd_puti (k := 2) kl_5 (by decide) rfl (Or.inl rfl) wm_129 (by decide +kernel : decode cX5_readOrder 23 = .ok (.putfield 29, 3))) (sb_cons (sd_aload_n (by decide +kernel : decode cX5_readOrder 26 = .ok (.aload_n 0, 1)) rfl) (sb_cons (sd_geti (k := 3) kl_5 (by decide) rfl wm_130 (by decide +kernel : decode cX5_readOrder 27 = .ok (.getfield 44, 3))) (sb_cons (sd_sw (x := 0) (by decide +kernel : decode cX5_readOrder 30 = .ok (.tableswitch 213 108 120 #[71, 213, 213, 213, 170, 213, 137, 66, 104, 213, 213, 213, 205], 66)) (by decide) (by decide) (by decide)) sb_nil))))))))))))))))
set_option maxRecDepth 100000 in
theorem sb_X5_readOrder_96 (l : Launch) : sm_SndB l RX5 "readOrder" cX5_readOrder 1 2 4 96 [oA 0, oCv 5 5 p_X5_readShuttle f_X5_readShuttle 0 0 1, oZr] := sb_cons (sd_aload_n (by decide +kernel : decode cX5_readOrder 96 = .ok (.aload_n 0, 1)) rfl) (sb_cons (sd_callv (n := 0) (met_X5_readShuttle l) (by decide) (by decide) wm_608 wm_606 wm_8 ⟨by decide +kernel, by decide +kernel, by decide +kernel⟩ kl_5 wm_607 wm_1099 (by decide +kernel : decode cX5_readOrder 97 = .ok (.invokevirtual 80, 3))) (sb_cons (sd_zreturn (x := 0) rfl (by decide +kernel : decode cX5_readOrder 100 = .ok (.ireturn, 1))) sb_nil))
set_option maxRecDepth 100000 in
theorem sb_X5_readOrder_101 (l : Launch) : sm_SndB l RX5 "readOrder" cX5_readOrder 1 2 4 101 [oA 0, oK 0, oK 8, oCv 5 5 p_X5_readDigit f_X5_readDigit 0 0 3, oEq0 132, oA 0, oK 43, oCv 5 5 p_X5_readSign f_X5_readSign 0 0 2, oEq0 132, oA 0, oK 1, oCv 5 5 p_X5_readNumber f_X5_readNumber 0 0 2, oEq0 132, oK 1, oGo 133] := sb_cons (sd_aload_n (by decide +kernel : decode cX5_readOrder 101 = .ok (.aload_n 0, 1)) rfl) (sb_cons (sd_iconst (by decide +kernel : decode cX5_readOrder 102 = .ok (.iconst 0, 1)) ⟨by decide, by decide⟩) (sb_cons (sd_bipush (by decide +kernel : decode cX5_readOrder 103 = .ok (.bipush 8, 2)) ⟨by decide, by decide⟩ (by decide)) (sb_cons (sd_callv (n := 2) (met_X5_readDigit l) (by decide) (by decide) wm_612 wm_610 wm_8 ⟨by decide +kernel, by decide +kernel, by decide +kernel⟩ kl_5 wm_611 wm_1100 (by decide +kernel : decode cX5_readOrder 105 = .ok (.invokevirtual 83, 3))) (sb_cons (sd_eq0 (by decide +kernel : decode cX5_readOrder 108 = .ok (.ifCond .eq 24, 3)) (by decide)) (sb_cons (sd_aload_n (by decide +kernel : decode cX5_readOrder 111 = .ok (.aload_n 0, 1)) rfl) (sb_cons (sd_bipush (by decide +kernel : decode cX5_readOrder 112 = .ok (.bipush 43, 2)) ⟨by decide, by decide⟩ (by decide)) (sb_cons (sd_callv (n := 1) (met_X5_readSign l) (by decide) (by decide) wm_616 wm_614 wm_8 ⟨by decide +kernel, by decide +kernel, by decide +kernel⟩ kl_5 wm_615 wm_1101 (by decide +kernel : decode cX5_readOrder 114 = .ok (.invokevirtual 36, 3))) (sb_cons (sd_eq0 (by decide +kernel : decode cX5_readOrder 117 = .ok (.ifCond .eq 15, 3)) (by decide)) (sb_cons (sd_aload_n (by decide +kernel : decode cX5_readOrder 120 = .ok (.aload_n 0, 1)) rfl) (sb_cons (sd_iconst (by decide +kernel : decode cX5_readOrder 121 = .ok (.iconst 1, 1)) ⟨by decide, by decide⟩) (sb_cons (sd_callv (n := 1) (met_X5_readNumber l) (by decide) (by decide) wm_620 wm_618 wm_8 ⟨by decide +kernel, by decide +kernel, by decide +kernel⟩ kl_5 wm_619 wm_1102 (by decide +kernel : decode cX5_readOrder 122 = .ok (.invokevirtual 87, 3))) (sb_cons (sd_eq0 (by decide +kernel : decode cX5_readOrder 125 = .ok (.ifCond .eq 7, 3)) (by decide)) (sb_cons (sd_iconst (by decide +kernel : decode cX5_readOrder 128 = .ok (.iconst 1, 1)) ⟨by decide, by decide⟩) (sb_cons (sd_goto (x := 0) (by decide +kernel : decode cX5_readOrder 129 = .ok (.goto 4, 3)) (by decide)) sb_nil))))))))))))))
set_option maxRecDepth 100000 in
theorem sb_X5_readOrder_132 (l : Launch) : sm_SndB l RX5 "readOrder" cX5_readOrder 1 2 4 132 [oK 0, oGo 133] := sb_cons (sd_iconst (by decide +kernel : decode cX5_readOrder 132 = .ok (.iconst 0, 1)) ⟨by decide, by decide⟩) (sb_cons (sd_fall (x := 0)) sb_nil)
set_option maxRecDepth 100000 in
theorem sb_X5_readOrder_133 (l : Launch) : sm_SndB l RX5 "readOrder" cX5_readOrder 1 2 4 133 [oZr] := sb_cons (sd_zreturn (x := 0) rfl (by decide +kernel : decode cX5_readOrder 133 = .ok (.ireturn, 1))) sb_nil
set_option maxRecDepth 100000 in
theorem sb_X5_readOrder_134 (l : Launch) : sm_SndB l RX5 "readOrder" cX5_readOrder 1 2 4 134 [oA 0, oK 0, oK 8, oCv 5 5 p_X5_readDigit f_X5_readDigit 0 0 3, oEq0 165, oA 0, oK 61, oCv 5 5 p_X5_readSign f_X5_readSign 0 0 2, oEq0 165, oA 0, oK 1, oCv 5 5 p_X5_readNumber f_X5_readNumber 0 0 2, oEq0 165, oK 1, oGo 166] := sb_cons (sd_aload_n (by decide +kernel : decode cX5_readOrder 134 = .ok (.aload_n 0, 1)) rfl) (sb_cons (sd_iconst (by decide +kernel : decode cX5_readOrder 135 = .ok (.iconst 0, 1)) ⟨by decide, by decide⟩) (sb_cons (sd_bipush (by decide +kernel : decode cX5_readOrder 136 = .ok (.bipush 8, 2)) ⟨by decide, by decide⟩ (by decide)) (sb_cons (sd_callv (n := 2) (met_X5_readDigit l) (by decide) (by decide) wm_612 wm_610 wm_8 ⟨by decide +kernel, by decide +kernel, by decide +kernel⟩ kl_5 wm_611 wm_1100 (by decide +kernel : decode cX5_readOrder 138 = .ok (.invokevirtual 83, 3))) (sb_cons (sd_eq0 (by decide +kernel : decode cX5_readOrder 141 = .ok (.ifCond .eq 24, 3)) (by decide)) (sb_cons (sd_aload_n (by decide +kernel : decode cX5_readOrder 144 = .ok (.aload_n 0, 1)) rfl) (sb_cons (sd_bipush (by decide +kernel : decode cX5_readOrder 145 = .ok (.bipush 61, 2)) ⟨by decide, by decide⟩ (by decide)) (sb_cons (sd_callv (n := 1) (met_X5_readSign l) (by decide) (by decide) wm_616 wm_614 wm_8 ⟨by decide +kernel, by decide +kernel, by decide +kernel⟩ kl_5 wm_615 wm_1101 (by decide +kernel : decode cX5_readOrder 147 = .ok (.invokevirtual 36, 3))) (sb_cons (sd_eq0 (by decide +kernel : decode cX5_readOrder 150 = .ok (.ifCond .eq 15, 3)) (by decide)) (sb_cons (sd_aload_n (by decide +kernel : decode cX5_readOrder 153 = .ok (.aload_n 0, 1)) rfl) (sb_cons (sd_iconst (by decide +kernel : decode cX5_readOrder 154 = .ok (.iconst 1, 1)) ⟨by decide, by decide⟩) (sb_cons (sd_callv (n := 1) (met_X5_readNumber l) (by decide) (by decide) wm_620 wm_618 wm_8 ⟨by decide +kernel, by decide +kernel, by decide +kernel⟩ kl_5 wm_619 wm_1102 (by decide +kernel : decode cX5_readOrder 155 = .ok (.invokevirtual 87, 3))) (sb_cons (sd_eq0 (by decide +kernel : decode cX5_readOrder 158 = .ok (.ifCond .eq 7, 3)) (by decide)) (sb_cons (sd_iconst (by decide +kernel : decode cX5_readOrder 161 = .ok (.iconst 1, 1)) ⟨by decide, by decide⟩) (sb_cons (sd_goto (x := 0) (by decide +kernel : decode cX5_readOrder 162 = .ok (.goto 4, 3)) (by decide)) sb_nil))))))))))))))
set_option maxRecDepth 100000 in
theorem sb_X5_readOrder_165 (l : Launch) : sm_SndB l RX5 "readOrder" cX5_readOrder 1 2 4 165 [oK 0, oGo 166] := sb_cons (sd_iconst (by decide +kernel : decode cX5_readOrder 165 = .ok (.iconst 0, 1)) ⟨by decide, by decide⟩) (sb_cons (sd_fall (x := 0)) sb_nil)
set_option maxRecDepth 100000 in
theorem sb_X5_readOrder_166 (l : Launch) : sm_SndB l RX5 "readOrder" cX5_readOrder 1 2 4 166 [oZr] := sb_cons (sd_zreturn (x := 0) rfl (by decide +kernel : decode cX5_readOrder 166 = .ok (.ireturn, 1))) sb_nil
set_option maxRecDepth 100000 in
theorem sb_X5_readOrder_167 (l : Launch) : sm_SndB l RX5 "readOrder" cX5_readOrder 1 2 4 167 [oA 0, oK 0, oK 7, oCv 5 5 p_X5_readDigit f_X5_readDigit 0 0 3, oEq0 198, oA 0, oK 61, oCv 5 5 p_X5_readSign f_X5_readSign 0 0 2, oEq0 198, oA 0, oK 1, oCv 5 5 p_X5_readNumber f_X5_readNumber 0 0 2, oEq0 198, oK 1, oGo 199] := sb_cons (sd_aload_n (by decide +kernel : decode cX5_readOrder 167 = .ok (.aload_n 0, 1)) rfl) (sb_cons (sd_iconst (by decide +kernel : decode cX5_readOrder 168 = .ok (.iconst 0, 1)) ⟨by decide, by decide⟩) (sb_cons (sd_bipush (by decide +kernel : decode cX5_readOrder 169 = .ok (.bipush 7, 2)) ⟨by decide, by decide⟩ (by decide)) (sb_cons (sd_callv (n := 2) (met_X5_readDigit l) (by decide) (by decide) wm_612 wm_610 wm_8 ⟨by decide +kernel, by decide +kernel, by decide +kernel⟩ kl_5 wm_611 wm_1100 (by decide +kernel : decode cX5_readOrder 171 = .ok (.invokevirtual 83, 3))) (sb_cons (sd_eq0 (by decide +kernel : decode cX5_readOrder 174 = .ok (.ifCond .eq 24, 3)) (by decide)) (sb_cons (sd_aload_n (by decide +kernel : decode cX5_readOrder 177 = .ok (.aload_n 0, 1)) rfl) (sb_cons (sd_bipush (by decide +kernel : decode cX5_readOrder 178 = .ok (.bipush 61, 2)) ⟨by decide, by decide⟩ (by decide)) (sb_cons (sd_callv (n := 1) (met_X5_readSign l) (by decide) (by decide) wm_616 wm_614 wm_8 ⟨by decide +kernel, by decide +kernel, by decide +kernel⟩ kl_5 wm_615 wm_1101 (by decide +kernel : decode cX5_readOrder 180 = .ok (.invokevirtual 36, 3))) (sb_cons (sd_eq0 (by decide +kernel : decode cX5_readOrder 183 = .ok (.ifCond .eq 15, 3)) (by decide)) (sb_cons (sd_aload_n (by decide +kernel : decode cX5_readOrder 186 = .ok (.aload_n 0, 1)) rfl) (sb_cons (sd_iconst (by decide +kernel : decode cX5_readOrder 187 = .ok (.iconst 1, 1)) ⟨by decide, by decide⟩) (sb_cons (sd_callv (n := 1) (met_X5_readNumber l) (by decide) (by decide) wm_620 wm_618 wm_8 ⟨by decide +kernel, by decide +kernel, by decide +kernel⟩ kl_5 wm_619 wm_1102 (by decide +kernel : decode cX5_readOrder 188 = .ok (.invokevirtual 87, 3))) (sb_cons (sd_eq0 (by decide +kernel : decode cX5_readOrder 191 = .ok (.ifCond .eq 7, 3)) (by decide)) (sb_cons (sd_iconst (by decide +kernel : decode cX5_readOrder 194 = .ok (.iconst 1, 1)) ⟨by decide, by decide⟩) (sb_cons (sd_goto (x := 0) (by decide +kernel : decode cX5_readOrder 195 = .ok (.goto 4, 3)) (by decide)) sb_nil))))))))))))))
set_option maxRecDepth 100000 in
theorem sb_X5_readOrder_198 (l : Launch) : sm_SndB l RX5 "readOrder" cX5_readOrder 1 2 4 198 [oK 0, oGo 199] := sb_cons (sd_iconst (by decide +kernel : decode cX5_readOrder 198 = .ok (.iconst 0, 1)) ⟨by decide, by decide⟩) (sb_cons (sd_fall (x := 0)) sb_nil)
set_option maxRecDepth 100000 in
theorem sb_X5_readOrder_199 (l : Launch) : sm_SndB l RX5 "readOrder" cX5_readOrder 1 2 4 199 [oZr] := sb_cons (sd_zreturn (x := 0) rfl (by decide +kernel : decode cX5_readOrder 199 = .ok (.ireturn, 1))) sb_nil
set_option maxRecDepth 100000 in
theorem sb_X5_readOrder_200 (l : Launch) : sm_SndB l RX5 "readOrder" cX5_readOrder 1 2 4 200 [oA 0, oK 0, oK 8, oCv 5 5 p_X5_readDigit f_X5_readDigit 0 0 3, oEq0 233, oA 0, oK 61, oCv 5 5 p_X5_readSign f_X5_readSign 0 0 2, oEq0 233, oA 0, oK 1, oK 10, oCv 5 5 p_X5_readDigit f_X5_readDigit 0 0 3, oEq0 233, oK 1, oGo 234] := sb_cons (sd_aload_n (by decide +kernel : decode cX5_readOrder 200 = .ok (.aload_n 0, 1)) rfl) (sb_cons (sd_iconst (by decide +kernel : decode cX5_readOrder 201 = .ok (.iconst 0, 1)) ⟨by decide, by decide⟩) (sb_cons (sd_bipush (by decide +kernel : decode cX5_readOrder 202 = .ok (.bipush 8, 2)) ⟨by decide, by decide⟩ (by decide)) (sb_cons (sd_callv (n := 2) (met_X5_readDigit l) (by decide) (by decide) wm_612 wm_610 wm_8 ⟨by decide +kernel, by decide +kernel, by decide +kernel⟩ kl_5 wm_611 wm_1100 (by decide +kernel : decode cX5_readOrder 204 = .ok (.invokevirtual 83, 3))) (sb_cons (sd_eq0 (by decide +kernel : decode cX5_readOrder 207 = .ok (.ifCond .eq 26, 3)) (by decide)) (sb_cons (sd_aload_n (by decide +kernel : decode cX5_readOrder 210 = .ok (.aload_n 0, 1)) rfl) (sb_cons (sd_bipush (by decide +kernel : decode cX5_readOrder 211 = .ok (.bipush 61, 2)) ⟨by decide, by decide⟩ (by decide)) (sb_cons (sd_callv (n := 1) (met_X5_readSign l) (by decide) (by decide) wm_616 wm_614 wm_8 ⟨by decide +kernel, by decide +kernel, by decide +kernel⟩ kl_5 wm_615 wm_1101 (by decide +kernel : decode cX5_readOrder 213 = .ok (.invokevirtual 36, 3))) (sb_cons (sd_eq0 (by decide +kernel : decode cX5_readOrder 216 = .ok (.ifCond .eq 17, 3)) (by decide)) (sb_cons (sd_aload_n (by decide +kernel : decode cX5_readOrder 219 = .ok (.aload_n 0, 1)) rfl) (sb_cons (sd_iconst (by decide +kernel : decode cX5_readOrder 220 = .ok (.iconst 1, 1)) ⟨by decide, by decide⟩) (sb_cons (sd_bipush (by decide +kernel : decode cX5_readOrder 221 = .ok (.bipush 10, 2)) ⟨by decide, by decide⟩ (by decide)) (sb_cons (sd_callv (n := 2) (met_X5_readDigit l) (by decide) (by decide) wm_612 wm_610 wm_8 ⟨by decide +kernel, by decide +kernel, by decide +kernel⟩ kl_5 wm_611 wm_1100 (by decide +kernel : decode cX5_readOrder 223 = .ok (.invokevirtual 83, 3))) (sb_cons (sd_eq0 (by decide +kernel : decode cX5_readOrder 226 = .ok (.ifCond .eq 7, 3)) (by decide)) (sb_cons (sd_iconst (by decide +kernel : decode cX5_readOrder 229 = .ok (.iconst 1, 1)) ⟨by decide, by decide⟩) (sb_cons (sd_goto (x := 0) (by decide +kernel : decode cX5_readOrder 230 = .ok (.goto 4, 3)) (by decide)) sb_nil)))))))))))))))
set_option maxRecDepth 100000 in
theorem sb_X5_readOrder_233 (l : Launch) : sm_SndB l RX5 "readOrder" cX5_readOrder 1 2 4 233 [oK 0, oGo 234] := sb_cons (sd_iconst (by decide +kernel : decode cX5_readOrder 233 = .ok (.iconst 0, 1)) ⟨by decide, by decide⟩) (sb_cons (sd_fall (x := 0)) sb_nil)
set_option maxRecDepth 100000 in
theorem sb_X5_readOrder_234 (l : Launch) : sm_SndB l RX5 "readOrder" cX5_readOrder 1 2 4 234 [oZr] := sb_cons (sd_zreturn (x := 0) rfl (by decide +kernel : decode cX5_readOrder 234 = .ok (.ireturn, 1))) sb_nil
set_option maxRecDepth 100000 in
theorem sb_X5_readOrder_235 (l : Launch) : sm_SndB l RX5 "readOrder" cX5_readOrder 1 2 4 235 [oA 0, oK 0, oK 8, oCv 5 5 p_X5_readDigit f_X5_readDigit 0 0 3, oZr] := sb_cons (sd_aload_n (by decide +kernel : decode cX5_readOrder 235 = .ok (.aload_n 0, 1)) rfl) (sb_cons (sd_iconst (by decide +kernel : decode cX5_readOrder 236 = .ok (.iconst 0, 1)) ⟨by decide, by decide⟩) (sb_cons (sd_bipush (by decide +kernel : decode cX5_readOrder 237 = .ok (.bipush 8, 2)) ⟨by decide, by decide⟩ (by decide)) (sb_cons (sd_callv (n := 2) (met_X5_readDigit l) (by decide) (by decide) wm_612 wm_610 wm_8 ⟨by decide +kernel, by decide +kernel, by decide +kernel⟩ kl_5 wm_611 wm_1100 (by decide +kernel : decode cX5_readOrder 239 = .ok (.invokevirtual 83, 3))) (sb_cons (sd_zreturn (x := 0) rfl (by decide +kernel : decode cX5_readOrder 242 = .ok (.ireturn, 1))) sb_nil))))
set_option maxRecDepth 100000 in
theorem sb_X5_readOrder_243 (l : Launch) : sm_SndB l RX5 "readOrder" cX5_readOrder 1 2 4 243 [oA 0, oDup, oGi 5 5 2, oK 1, oSub, oPi 5 5 2, oK 0, oZr] := sb_cons (sd_aload_n (by decide +kernel : decode cX5_readOrder 243 = .ok (.aload_n 0, 1)) rfl) (sb_cons (sd_dup (by decide +kernel : decode cX5_readOrder 244 = .ok (.dup, 1))) (sb_cons (sd_geti (k := 2) kl_5 (by decide) rfl wm_129 (by decide +kernel : decode cX5_readOrder 245 = .ok (.getfield 29, 3))) (sb_cons (sd_iconst (by decide +kernel : decode cX5_readOrder 248 = .ok (.iconst 1, 1)) ⟨by decide, by decide⟩) (sb_cons (sd_isub (by decide +kernel : decode cX5_readOrder 249 = .ok (.isub, 1))) (sb_cons (sd_puti (k := 2) kl_5 (by decide) rfl (Or.inl rfl) wm_129 (by decide +kernel : decode cX5_readOrder 250 = .ok (.putfield 29, 3))) (sb_cons (sd_iconst (by decide +kernel : decode cX5_readOrder 253 = .ok (.iconst 0, 1)) ⟨by decide, by decide⟩) (sb_cons (sd_zreturn (x := 0) rfl (by decide +kernel : decode cX5_readOrder 254 = .ok (.ireturn, 1))) sb_nil)))))))
theorem sn_X5_readOrder (l : Launch) : sm_SndT l RX5 "readOrder" cX5_readOrder 1 2 4 tb_X5_readOrder := st_cons (sb_X5_readOrder_0 l) (st_cons (sb_X5_readOrder_96 l) (st_cons (sb_X5_readOrder_101 l) (st_cons (sb_X5_readOrder_132 l) (st_cons (sb_X5_readOrder_133 l) (st_cons (sb_X5_readOrder_134 l) (st_cons (sb_X5_readOrder_165 l) (st_cons (sb_X5_readOrder_166 l) (st_cons (sb_X5_readOrder_167 l) (st_cons (sb_X5_readOrder_198 l) (st_cons (sb_X5_readOrder_199 l) (st_cons (sb_X5_readOrder_200 l) (st_cons (sb_X5_readOrder_233 l) (st_cons (sb_X5_readOrder_234 l) (st_cons (sb_X5_readOrder_235 l) (st_cons (sb_X5_readOrder_243 l) (st_nil))))))))))))))))
set_option maxRecDepth 100000 in
set_option maxHeartbeats 4000000 in
theorem ok_X5_readOrder : sm_Ok tb_X5_readOrder 1 0 0 p_X5_readOrder f_X5_readOrder := by
  intro as w hp ha hw
  match as, hp with
  | [.inr (.inl o)], hp =>
  refine ⟨Nat.le_of_ble_eq_true rfl, fun Z hZ => ?_⟩
  obtain ⟨rfl, hO, h8⟩ := hp
  have hT := hO.1
  have h2 := hO.2.2.1
  have hn := kNx_b hO
  obtain ⟨f2, k2, e2, e3, en, e83, kf⟩ := kO0_in hO h8
  have h5S : ∀ b, wS (fiW 85 0 ((5 : Nat) : Int) w) b = wS w b := (fiW_in 85 0 w _ (by omega)).1
  have h5R : ∀ b j, wR (fiW 85 0 ((5 : Nat) : Int) w) b j = wR w b j := (fiW_in 85 0 w _ (by omega)).2.2.2.2
  have eO : wsI (wsI (fiW 85 0 ((5 : Nat) : Int) w) 83 3 (kNx w)) 83 2 (wI w 83 2 + 1) = kO0 w := rfl
  have hTO := k2.1
  have yO := sS_83 hTO
  have hK : kBody (kNx w) (kO0 w) = kOrd w := rfl
  generalize hE : kOrd w = E at *
  unfold kBody at hK
  generalize kO0 w = u at *
  generalize hc : kNx w = c at *
  by_cases c115 : c = 115
  · rw [if_pos c115] at hK
    subst c115
    have hs01 := (kG_Sh u k2).2.1
    subst hK
    refine hZ (fun u => Nat.beq u 9999) 14 0 _ _ _ _ _ ?_
    simp only [sm_run, sm_blk, sm_get, sm_ent, sm_ents, sm_wds, sm_wd, sm_nl, sm_pop, sm_back, sm_cases, oK, oLK, oL, oI, oA, oJ, oIs, oAs, oJs, oInc, oAdd, oSub, oMul, oDiv, oRem, oNeg, oAnd, oAndB, oOr, oShl, oI2c, oI2l, oL2i, oLand, oLor, oLshl, oLshr, oLushr, oLcmp, oDup, oDup2, oPop, oGo, oFg, oEq, oNe, oLt, oGe, oGt, oLe, oEq0, oNe0, oLt0, oGe0, oGt0, oLe0, oSw, oGi, oGr, oPi, oPz, oPr, oLen, oIl, oZl, oCl, oRl, oIst, oZst, oCst, oRst, oCopy, oNew, oNa, oNa2, oObj, oCs, oCv, oCi, oIr, oZr, oVr, Nat.beq, List.getElem?_cons_zero, List.getElem?_cons_succ, List.set_cons_zero, List.set_cons_succ, List.length_cons, List.length_nil, List.nil_append, List.cons_append, List.append_nil, List.replicate_succ, List.replicate_zero, Nat.reduceAdd, Nat.reduceSub, Nat.reduceLT, Nat.reduceLeDiff, Nat.reduceBEq, true_and, and_true, Nat.zero_add, Nat.add_zero, Nat.le_refl, Option.some.injEq, exists_eq_left', true_or, or_true, or_false, false_or, reduceCtorEq, Prod.mk.injEq, Sum.inl.injEq, and_self, false_and, and_false, not_true_eq_false, not_false_eq_true, false_implies, true_implies, sm_r, Int.add_zero, Int.zero_add, wI_wsI, wS_wsI, wR_wsI, wI_wCp, wS_wCp, wR_wCp, Nat.reduceEqDiff, reduceIte, sT_iff, sT_iffC, wIf_ne, ne_eq, Bool.false_or, Bool.true_or, Bool.or_false, Bool.or_true, Bool.or_self, Nat.left_eq_add, Nat.add_eq_left, Nat.add_left_inj, oMax, oMin, oAbs, tb_X5_readOrder, p_J7_fill_53178, p_X5_peek, p_X5_readDigit, p_X5_readNumber, p_X5_readShuttle, p_X5_readSign, f_J7_fill_53178, f_X5_peek, f_X5_readDigit, f_X5_readNumber, f_X5_readShuttle, f_X5_readSign, p_X5_readOrder, f_X5_readOrder, sS_83 hT, sR_83_4 hT, sS_85 hT, h5S, h5R, kf, en, e83, eO, yO, e2, e3, k2, hc, hE, Int.reduceEq, Int.reduceAdd, Int.reduceLT, Int.reduceLE]
    repeat' (first | exact True.intro | with_reducible assumption | with_reducible refine And.intro ?_ ?_ | intro _)
    all_goals first
      | omega
      | assumption
      | rfl
      | (split <;> omega)
      | (have k9 := ih (by omega)
         (repeat' split at k9) <;> first | exact k9 | omega)
      | (have k9 := ih2 (by omega)
         (repeat' split at k9) <;> first | exact k9 | omega)
      | exact he (by omega)
      | ((with_reducible congr 1) <;> omega)
      | (rw [if_pos (by omega)] at he; exact he)
      | exact hD1 (by omega)
      | exact hD2 (by omega)
      | grind
      | skip
  · rw [if_neg c115] at hK
    by_cases c108 : c = 108
    · rw [if_pos c108] at hK
      subst c108
      have a1 := (kG_D 0 8 u k2).2.1
      have o1 := (kG_D 0 8).ok k2
      generalize hr1 : kD 0 8 u = r1 at *
      obtain ⟨v1, b1⟩ := r1
      have y1 := sS_83 o1.1
      dsimp only at a1 o1 y1
      rcases a1 with rfl | rfl
      · rw [kA_0 hr1] at hK
        subst hK
        refine hZ (fun u => Nat.beq u 9999) 14 0 _ _ _ _ _ ?_
        simp only [sm_run, sm_blk, sm_get, sm_ent, sm_ents, sm_wds, sm_wd, sm_nl, sm_pop, sm_back, sm_cases, oK, oLK, oL, oI, oA, oJ, oIs, oAs, oJs, oInc, oAdd, oSub, oMul, oDiv, oRem, oNeg, oAnd, oAndB, oOr, oShl, oI2c, oI2l, oL2i, oLand, oLor, oLshl, oLshr, oLushr, oLcmp, oDup, oDup2, oPop, oGo, oFg, oEq, oNe, oLt, oGe, oGt, oLe, oEq0, oNe0, oLt0, oGe0, oGt0, oLe0, oSw, oGi, oGr, oPi, oPz, oPr, oLen, oIl, oZl, oCl, oRl, oIst, oZst, oCst, oRst, oCopy, oNew, oNa, oNa2, oObj, oCs, oCv, oCi, oIr, oZr, oVr, Nat.beq, List.getElem?_cons_zero, List.getElem?_cons_succ, List.set_cons_zero, List.set_cons_succ, List.length_cons, List.length_nil, List.nil_append, List.cons_append, List.append_nil, List.replicate_succ, List.replicate_zero, Nat.reduceAdd, Nat.reduceSub, Nat.reduceLT, Nat.reduceLeDiff, Nat.reduceBEq, true_and, and_true, Nat.zero_add, Nat.add_zero, Nat.le_refl, Option.some.injEq, exists_eq_left', true_or, or_true, or_false, false_or, reduceCtorEq, Prod.mk.injEq, Sum.inl.injEq, and_self, false_and, and_false, not_true_eq_false, not_false_eq_true, false_implies, true_implies, sm_r, Int.add_zero, Int.zero_add, wI_wsI, wS_wsI, wR_wsI, wI_wCp, wS_wCp, wR_wCp, Nat.reduceEqDiff, reduceIte, sT_iff, sT_iffC, wIf_ne, ne_eq, Bool.false_or, Bool.true_or, Bool.or_false, Bool.or_true, Bool.or_self, Nat.left_eq_add, Nat.add_eq_left, Nat.add_left_inj, oMax, oMin, oAbs, tb_X5_readOrder, p_J7_fill_53178, p_X5_peek, p_X5_readDigit, p_X5_readNumber, p_X5_readShuttle, p_X5_readSign, f_J7_fill_53178, f_X5_peek, f_X5_readDigit, f_X5_readNumber, f_X5_readShuttle, f_X5_readSign, p_X5_readOrder, f_X5_readOrder, sS_83 hT, sR_83_4 hT, sS_85 hT, h5S, h5R, kf, en, e83, eO, yO, e2, e3, k2, hc, hE, Int.reduceEq, Int.reduceAdd, Int.reduceLT, Int.reduceLE, hr1]
        repeat' (first | exact True.intro | with_reducible assumption | with_reducible refine And.intro ?_ ?_ | intro _)
        all_goals first
          | omega
          | assumption
          | rfl
          | (split <;> omega)
          | (have k9 := ih (by omega)
             (repeat' split at k9) <;> first | exact k9 | omega)
          | (have k9 := ih2 (by omega)
             (repeat' split at k9) <;> first | exact k9 | omega)
          | exact he (by omega)
          | ((with_reducible congr 1) <;> omega)
          | (rw [if_pos (by omega)] at he; exact he)
          | exact hD1 (by omega)
          | exact hD2 (by omega)
          | grind
          | skip
      · rw [kA_1 hr1] at hK
        have a2 := (kG_S (s := 43) (by decide) v1 o1).2.1
        have o2 := (kG_S (s := 43) (by decide)).ok o1
        generalize hr2 : kS 43 v1 = r2 at *
        obtain ⟨v2, b2⟩ := r2
        have y2 := sS_83 o2.1
        dsimp only at a2 o2 y2
        rcases a2 with rfl | rfl
        · rw [kA_0 hr2] at hK
          subst hK
          refine hZ (fun u => Nat.beq u 9999) 14 0 _ _ _ _ _ ?_
          simp only [sm_run, sm_blk, sm_get, sm_ent, sm_ents, sm_wds, sm_wd, sm_nl, sm_pop, sm_back, sm_cases, oK, oLK, oL, oI, oA, oJ, oIs, oAs, oJs, oInc, oAdd, oSub, oMul, oDiv, oRem, oNeg, oAnd, oAndB, oOr, oShl, oI2c, oI2l, oL2i, oLand, oLor, oLshl, oLshr, oLushr, oLcmp, oDup, oDup2, oPop, oGo, oFg, oEq, oNe, oLt, oGe, oGt, oLe, oEq0, oNe0, oLt0, oGe0, oGt0, oLe0, oSw, oGi, oGr, oPi, oPz, oPr, oLen, oIl, oZl, oCl, oRl, oIst, oZst, oCst, oRst, oCopy, oNew, oNa, oNa2, oObj, oCs, oCv, oCi, oIr, oZr, oVr, Nat.beq, List.getElem?_cons_zero, List.getElem?_cons_succ, List.set_cons_zero, List.set_cons_succ, List.length_cons, List.length_nil, List.nil_append, List.cons_append, List.append_nil, List.replicate_succ, List.replicate_zero, Nat.reduceAdd, Nat.reduceSub, Nat.reduceLT, Nat.reduceLeDiff, Nat.reduceBEq, true_and, and_true, Nat.zero_add, Nat.add_zero, Nat.le_refl, Option.some.injEq, exists_eq_left', true_or, or_true, or_false, false_or, reduceCtorEq, Prod.mk.injEq, Sum.inl.injEq, and_self, false_and, and_false, not_true_eq_false, not_false_eq_true, false_implies, true_implies, sm_r, Int.add_zero, Int.zero_add, wI_wsI, wS_wsI, wR_wsI, wI_wCp, wS_wCp, wR_wCp, Nat.reduceEqDiff, reduceIte, sT_iff, sT_iffC, wIf_ne, ne_eq, Bool.false_or, Bool.true_or, Bool.or_false, Bool.or_true, Bool.or_self, Nat.left_eq_add, Nat.add_eq_left, Nat.add_left_inj, oMax, oMin, oAbs, tb_X5_readOrder, p_J7_fill_53178, p_X5_peek, p_X5_readDigit, p_X5_readNumber, p_X5_readShuttle, p_X5_readSign, f_J7_fill_53178, f_X5_peek, f_X5_readDigit, f_X5_readNumber, f_X5_readShuttle, f_X5_readSign, p_X5_readOrder, f_X5_readOrder, sS_83 hT, sR_83_4 hT, sS_85 hT, h5S, h5R, kf, en, e83, eO, yO, e2, e3, k2, hc, hE, Int.reduceEq, Int.reduceAdd, Int.reduceLT, Int.reduceLE, hr1, o1, y1, hr2]
          repeat' (first | exact True.intro | with_reducible assumption | with_reducible refine And.intro ?_ ?_ | intro _)
          all_goals first
            | omega
            | assumption
            | rfl
            | (split <;> omega)
            | (have k9 := ih (by omega)
               (repeat' split at k9) <;> first | exact k9 | omega)
            | (have k9 := ih2 (by omega)
               (repeat' split at k9) <;> first | exact k9 | omega)
            | exact he (by omega)
            | ((with_reducible congr 1) <;> omega)
            | (rw [if_pos (by omega)] at he; exact he)
            | exact hD1 (by omega)
            | exact hD2 (by omega)
            | grind
            | skip
        · rw [kA_1 hr2] at hK
          have a3 := (kG_N 1 v2 o2).2.1
          have o3 := (kG_N 1).ok o2
          generalize hr3 : kN 1 v2 = r3 at *
          obtain ⟨v3, b3⟩ := r3
          have y3 := sS_83 o3.1
          dsimp only at a3 o3 y3
          rcases a3 with rfl | rfl
          · subst hK
            refine hZ (fun u => Nat.beq u 9999) 14 0 _ _ _ _ _ ?_
            simp only [sm_run, sm_blk, sm_get, sm_ent, sm_ents, sm_wds, sm_wd, sm_nl, sm_pop, sm_back, sm_cases, oK, oLK, oL, oI, oA, oJ, oIs, oAs, oJs, oInc, oAdd, oSub, oMul, oDiv, oRem, oNeg, oAnd, oAndB, oOr, oShl, oI2c, oI2l, oL2i, oLand, oLor, oLshl, oLshr, oLushr, oLcmp, oDup, oDup2, oPop, oGo, oFg, oEq, oNe, oLt, oGe, oGt, oLe, oEq0, oNe0, oLt0, oGe0, oGt0, oLe0, oSw, oGi, oGr, oPi, oPz, oPr, oLen, oIl, oZl, oCl, oRl, oIst, oZst, oCst, oRst, oCopy, oNew, oNa, oNa2, oObj, oCs, oCv, oCi, oIr, oZr, oVr, Nat.beq, List.getElem?_cons_zero, List.getElem?_cons_succ, List.set_cons_zero, List.set_cons_succ, List.length_cons, List.length_nil, List.nil_append, List.cons_append, List.append_nil, List.replicate_succ, List.replicate_zero, Nat.reduceAdd, Nat.reduceSub, Nat.reduceLT, Nat.reduceLeDiff, Nat.reduceBEq, true_and, and_true, Nat.zero_add, Nat.add_zero, Nat.le_refl, Option.some.injEq, exists_eq_left', true_or, or_true, or_false, false_or, reduceCtorEq, Prod.mk.injEq, Sum.inl.injEq, and_self, false_and, and_false, not_true_eq_false, not_false_eq_true, false_implies, true_implies, sm_r, Int.add_zero, Int.zero_add, wI_wsI, wS_wsI, wR_wsI, wI_wCp, wS_wCp, wR_wCp, Nat.reduceEqDiff, reduceIte, sT_iff, sT_iffC, wIf_ne, ne_eq, Bool.false_or, Bool.true_or, Bool.or_false, Bool.or_true, Bool.or_self, Nat.left_eq_add, Nat.add_eq_left, Nat.add_left_inj, oMax, oMin, oAbs, tb_X5_readOrder, p_J7_fill_53178, p_X5_peek, p_X5_readDigit, p_X5_readNumber, p_X5_readShuttle, p_X5_readSign, f_J7_fill_53178, f_X5_peek, f_X5_readDigit, f_X5_readNumber, f_X5_readShuttle, f_X5_readSign, p_X5_readOrder, f_X5_readOrder, sS_83 hT, sR_83_4 hT, sS_85 hT, h5S, h5R, kf, en, e83, eO, yO, e2, e3, k2, hc, hE, Int.reduceEq, Int.reduceAdd, Int.reduceLT, Int.reduceLE, hr1, o1, y1, hr2, o2, y2, hr3]
            repeat' (first | exact True.intro | with_reducible assumption | with_reducible refine And.intro ?_ ?_ | intro _)
            all_goals first
              | omega
              | assumption
              | rfl
              | (split <;> omega)
              | (have k9 := ih (by omega)
                 (repeat' split at k9) <;> first | exact k9 | omega)
              | (have k9 := ih2 (by omega)
                 (repeat' split at k9) <;> first | exact k9 | omega)
              | exact he (by omega)
              | ((with_reducible congr 1) <;> omega)
              | (rw [if_pos (by omega)] at he; exact he)
              | exact hD1 (by omega)
              | exact hD2 (by omega)
              | grind
              | skip
          · subst hK
            refine hZ (fun u => Nat.beq u 9999) 14 0 _ _ _ _ _ ?_
            simp only [sm_run, sm_blk, sm_get, sm_ent, sm_ents, sm_wds, sm_wd, sm_nl, sm_pop, sm_back, sm_cases, oK, oLK, oL, oI, oA, oJ, oIs, oAs, oJs, oInc, oAdd, oSub, oMul, oDiv, oRem, oNeg, oAnd, oAndB, oOr, oShl, oI2c, oI2l, oL2i, oLand, oLor, oLshl, oLshr, oLushr, oLcmp, oDup, oDup2, oPop, oGo, oFg, oEq, oNe, oLt, oGe, oGt, oLe, oEq0, oNe0, oLt0, oGe0, oGt0, oLe0, oSw, oGi, oGr, oPi, oPz, oPr, oLen, oIl, oZl, oCl, oRl, oIst, oZst, oCst, oRst, oCopy, oNew, oNa, oNa2, oObj, oCs, oCv, oCi, oIr, oZr, oVr, Nat.beq, List.getElem?_cons_zero, List.getElem?_cons_succ, List.set_cons_zero, List.set_cons_succ, List.length_cons, List.length_nil, List.nil_append, List.cons_append, List.append_nil, List.replicate_succ, List.replicate_zero, Nat.reduceAdd, Nat.reduceSub, Nat.reduceLT, Nat.reduceLeDiff, Nat.reduceBEq, true_and, and_true, Nat.zero_add, Nat.add_zero, Nat.le_refl, Option.some.injEq, exists_eq_left', true_or, or_true, or_false, false_or, reduceCtorEq, Prod.mk.injEq, Sum.inl.injEq, and_self, false_and, and_false, not_true_eq_false, not_false_eq_true, false_implies, true_implies, sm_r, Int.add_zero, Int.zero_add, wI_wsI, wS_wsI, wR_wsI, wI_wCp, wS_wCp, wR_wCp, Nat.reduceEqDiff, reduceIte, sT_iff, sT_iffC, wIf_ne, ne_eq, Bool.false_or, Bool.true_or, Bool.or_false, Bool.or_true, Bool.or_self, Nat.left_eq_add, Nat.add_eq_left, Nat.add_left_inj, oMax, oMin, oAbs, tb_X5_readOrder, p_J7_fill_53178, p_X5_peek, p_X5_readDigit, p_X5_readNumber, p_X5_readShuttle, p_X5_readSign, f_J7_fill_53178, f_X5_peek, f_X5_readDigit, f_X5_readNumber, f_X5_readShuttle, f_X5_readSign, p_X5_readOrder, f_X5_readOrder, sS_83 hT, sR_83_4 hT, sS_85 hT, h5S, h5R, kf, en, e83, eO, yO, e2, e3, k2, hc, hE, Int.reduceEq, Int.reduceAdd, Int.reduceLT, Int.reduceLE, hr1, o1, y1, hr2, o2, y2, hr3]
            repeat' (first | exact True.intro | with_reducible assumption | with_reducible refine And.intro ?_ ?_ | intro _)
            all_goals first
              | omega
              | assumption
              | rfl
              | (split <;> omega)
              | (have k9 := ih (by omega)
                 (repeat' split at k9) <;> first | exact k9 | omega)
              | (have k9 := ih2 (by omega)
                 (repeat' split at k9) <;> first | exact k9 | omega)
              | exact he (by omega)
              | ((with_reducible congr 1) <;> omega)
              | (rw [if_pos (by omega)] at he; exact he)
              | exact hD1 (by omega)
              | exact hD2 (by omega)
              | grind
              | skip
    · rw [if_neg c108] at hK
      by_cases c116 : c = 116
      · rw [if_pos c116] at hK
        subst c116
        have a1 := (kG_D 0 8 u k2).2.1
        have o1 := (kG_D 0 8).ok k2
        generalize hr1 : kD 0 8 u = r1 at *
        obtain ⟨v1, b1⟩ := r1
        have y1 := sS_83 o1.1
        dsimp only at a1 o1 y1
        rcases a1 with rfl | rfl
        · rw [kA_0 hr1] at hK
          subst hK
          refine hZ (fun u => Nat.beq u 9999) 14 0 _ _ _ _ _ ?_
          simp only [sm_run, sm_blk, sm_get, sm_ent, sm_ents, sm_wds, sm_wd, sm_nl, sm_pop, sm_back, sm_cases, oK, oLK, oL, oI, oA, oJ, oIs, oAs, oJs, oInc, oAdd, oSub, oMul, oDiv, oRem, oNeg, oAnd, oAndB, oOr, oShl, oI2c, oI2l, oL2i, oLand, oLor, oLshl, oLshr, oLushr, oLcmp, oDup, oDup2, oPop, oGo, oFg, oEq, oNe, oLt, oGe, oGt, oLe, oEq0, oNe0, oLt0, oGe0, oGt0, oLe0, oSw, oGi, oGr, oPi, oPz, oPr, oLen, oIl, oZl, oCl, oRl, oIst, oZst, oCst, oRst, oCopy, oNew, oNa, oNa2, oObj, oCs, oCv, oCi, oIr, oZr, oVr, Nat.beq, List.getElem?_cons_zero, List.getElem?_cons_succ, List.set_cons_zero, List.set_cons_succ, List.length_cons, List.length_nil, List.nil_append, List.cons_append, List.append_nil, List.replicate_succ, List.replicate_zero, Nat.reduceAdd, Nat.reduceSub, Nat.reduceLT, Nat.reduceLeDiff, Nat.reduceBEq, true_and, and_true, Nat.zero_add, Nat.add_zero, Nat.le_refl, Option.some.injEq, exists_eq_left', true_or, or_true, or_false, false_or, reduceCtorEq, Prod.mk.injEq, Sum.inl.injEq, and_self, false_and, and_false, not_true_eq_false, not_false_eq_true, false_implies, true_implies, sm_r, Int.add_zero, Int.zero_add, wI_wsI, wS_wsI, wR_wsI, wI_wCp, wS_wCp, wR_wCp, Nat.reduceEqDiff, reduceIte, sT_iff, sT_iffC, wIf_ne, ne_eq, Bool.false_or, Bool.true_or, Bool.or_false, Bool.or_true, Bool.or_self, Nat.left_eq_add, Nat.add_eq_left, Nat.add_left_inj, oMax, oMin, oAbs, tb_X5_readOrder, p_J7_fill_53178, p_X5_peek, p_X5_readDigit, p_X5_readNumber, p_X5_readShuttle, p_X5_readSign, f_J7_fill_53178, f_X5_peek, f_X5_readDigit, f_X5_readNumber, f_X5_readShuttle, f_X5_readSign, p_X5_readOrder, f_X5_readOrder, sS_83 hT, sR_83_4 hT, sS_85 hT, h5S, h5R, kf, en, e83, eO, yO, e2, e3, k2, hc, hE, Int.reduceEq, Int.reduceAdd, Int.reduceLT, Int.reduceLE, hr1]
          repeat' (first | exact True.intro | with_reducible assumption | with_reducible refine And.intro ?_ ?_ | intro _)
          all_goals first
            | omega
            | assumption
            | rfl
            | (split <;> omega)
            | (have k9 := ih (by omega)
               (repeat' split at k9) <;> first | exact k9 | omega)
            | (have k9 := ih2 (by omega)
               (repeat' split at k9) <;> first | exact k9 | omega)
            | exact he (by omega)
            | ((with_reducible congr 1) <;> omega)
            | (rw [if_pos (by omega)] at he; exact he)
            | exact hD1 (by omega)
            | exact hD2 (by omega)
            | grind
            | skip
        · rw [kA_1 hr1] at hK
          have a2 := (kG_S (s := 61) (by decide) v1 o1).2.1
          have o2 := (kG_S (s := 61) (by decide)).ok o1
          generalize hr2 : kS 61 v1 = r2 at *
          obtain ⟨v2, b2⟩ := r2
          have y2 := sS_83 o2.1
          dsimp only at a2 o2 y2
          rcases a2 with rfl | rfl
          · rw [kA_0 hr2] at hK
            subst hK
            refine hZ (fun u => Nat.beq u 9999) 14 0 _ _ _ _ _ ?_
            simp only [sm_run, sm_blk, sm_get, sm_ent, sm_ents, sm_wds, sm_wd, sm_nl, sm_pop, sm_back, sm_cases, oK, oLK, oL, oI, oA, oJ, oIs, oAs, oJs, oInc, oAdd, oSub, oMul, oDiv, oRem, oNeg, oAnd, oAndB, oOr, oShl, oI2c, oI2l, oL2i, oLand, oLor, oLshl, oLshr, oLushr, oLcmp, oDup, oDup2, oPop, oGo, oFg, oEq, oNe, oLt, oGe, oGt, oLe, oEq0, oNe0, oLt0, oGe0, oGt0, oLe0, oSw, oGi, oGr, oPi, oPz, oPr, oLen, oIl, oZl, oCl, oRl, oIst, oZst, oCst, oRst, oCopy, oNew, oNa, oNa2, oObj, oCs, oCv, oCi, oIr, oZr, oVr, Nat.beq, List.getElem?_cons_zero, List.getElem?_cons_succ, List.set_cons_zero, List.set_cons_succ, List.length_cons, List.length_nil, List.nil_append, List.cons_append, List.append_nil, List.replicate_succ, List.replicate_zero, Nat.reduceAdd, Nat.reduceSub, Nat.reduceLT, Nat.reduceLeDiff, Nat.reduceBEq, true_and, and_true, Nat.zero_add, Nat.add_zero, Nat.le_refl, Option.some.injEq, exists_eq_left', true_or, or_true, or_false, false_or, reduceCtorEq, Prod.mk.injEq, Sum.inl.injEq, and_self, false_and, and_false, not_true_eq_false, not_false_eq_true, false_implies, true_implies, sm_r, Int.add_zero, Int.zero_add, wI_wsI, wS_wsI, wR_wsI, wI_wCp, wS_wCp, wR_wCp, Nat.reduceEqDiff, reduceIte, sT_iff, sT_iffC, wIf_ne, ne_eq, Bool.false_or, Bool.true_or, Bool.or_false, Bool.or_true, Bool.or_self, Nat.left_eq_add, Nat.add_eq_left, Nat.add_left_inj, oMax, oMin, oAbs, tb_X5_readOrder, p_J7_fill_53178, p_X5_peek, p_X5_readDigit, p_X5_readNumber, p_X5_readShuttle, p_X5_readSign, f_J7_fill_53178, f_X5_peek, f_X5_readDigit, f_X5_readNumber, f_X5_readShuttle, f_X5_readSign, p_X5_readOrder, f_X5_readOrder, sS_83 hT, sR_83_4 hT, sS_85 hT, h5S, h5R, kf, en, e83, eO, yO, e2, e3, k2, hc, hE, Int.reduceEq, Int.reduceAdd, Int.reduceLT, Int.reduceLE, hr1, o1, y1, hr2]
            repeat' (first | exact True.intro | with_reducible assumption | with_reducible refine And.intro ?_ ?_ | intro _)
            all_goals first
              | omega
              | assumption
              | rfl
              | (split <;> omega)
              | (have k9 := ih (by omega)
                 (repeat' split at k9) <;> first | exact k9 | omega)
              | (have k9 := ih2 (by omega)
                 (repeat' split at k9) <;> first | exact k9 | omega)
              | exact he (by omega)
              | ((with_reducible congr 1) <;> omega)
              | (rw [if_pos (by omega)] at he; exact he)
              | exact hD1 (by omega)
              | exact hD2 (by omega)
              | grind
              | skip
          · rw [kA_1 hr2] at hK
            have a3 := (kG_N 1 v2 o2).2.1
            have o3 := (kG_N 1).ok o2
            generalize hr3 : kN 1 v2 = r3 at *
            obtain ⟨v3, b3⟩ := r3
            have y3 := sS_83 o3.1
            dsimp only at a3 o3 y3
            rcases a3 with rfl | rfl
            · subst hK
              refine hZ (fun u => Nat.beq u 9999) 14 0 _ _ _ _ _ ?_
              simp only [sm_run, sm_blk, sm_get, sm_ent, sm_ents, sm_wds, sm_wd, sm_nl, sm_pop, sm_back, sm_cases, oK, oLK, oL, oI, oA, oJ, oIs, oAs, oJs, oInc, oAdd, oSub, oMul, oDiv, oRem, oNeg, oAnd, oAndB, oOr, oShl, oI2c, oI2l, oL2i, oLand, oLor, oLshl, oLshr, oLushr, oLcmp, oDup, oDup2, oPop, oGo, oFg, oEq, oNe, oLt, oGe, oGt, oLe, oEq0, oNe0, oLt0, oGe0, oGt0, oLe0, oSw, oGi, oGr, oPi, oPz, oPr, oLen, oIl, oZl, oCl, oRl, oIst, oZst, oCst, oRst, oCopy, oNew, oNa, oNa2, oObj, oCs, oCv, oCi, oIr, oZr, oVr, Nat.beq, List.getElem?_cons_zero, List.getElem?_cons_succ, List.set_cons_zero, List.set_cons_succ, List.length_cons, List.length_nil, List.nil_append, List.cons_append, List.append_nil, List.replicate_succ, List.replicate_zero, Nat.reduceAdd, Nat.reduceSub, Nat.reduceLT, Nat.reduceLeDiff, Nat.reduceBEq, true_and, and_true, Nat.zero_add, Nat.add_zero, Nat.le_refl, Option.some.injEq, exists_eq_left', true_or, or_true, or_false, false_or, reduceCtorEq, Prod.mk.injEq, Sum.inl.injEq, and_self, false_and, and_false, not_true_eq_false, not_false_eq_true, false_implies, true_implies, sm_r, Int.add_zero, Int.zero_add, wI_wsI, wS_wsI, wR_wsI, wI_wCp, wS_wCp, wR_wCp, Nat.reduceEqDiff, reduceIte, sT_iff, sT_iffC, wIf_ne, ne_eq, Bool.false_or, Bool.true_or, Bool.or_false, Bool.or_true, Bool.or_self, Nat.left_eq_add, Nat.add_eq_left, Nat.add_left_inj, oMax, oMin, oAbs, tb_X5_readOrder, p_J7_fill_53178, p_X5_peek, p_X5_readDigit, p_X5_readNumber, p_X5_readShuttle, p_X5_readSign, f_J7_fill_53178, f_X5_peek, f_X5_readDigit, f_X5_readNumber, f_X5_readShuttle, f_X5_readSign, p_X5_readOrder, f_X5_readOrder, sS_83 hT, sR_83_4 hT, sS_85 hT, h5S, h5R, kf, en, e83, eO, yO, e2, e3, k2, hc, hE, Int.reduceEq, Int.reduceAdd, Int.reduceLT, Int.reduceLE, hr1, o1, y1, hr2, o2, y2, hr3]
              repeat' (first | exact True.intro | with_reducible assumption | with_reducible refine And.intro ?_ ?_ | intro _)
              all_goals first
                | omega
                | assumption
                | rfl
                | (split <;> omega)
                | (have k9 := ih (by omega)
                   (repeat' split at k9) <;> first | exact k9 | omega)
                | (have k9 := ih2 (by omega)
                   (repeat' split at k9) <;> first | exact k9 | omega)
                | exact he (by omega)
                | ((with_reducible congr 1) <;> omega)
                | (rw [if_pos (by omega)] at he; exact he)
                | exact hD1 (by omega)
                | exact hD2 (by omega)
                | grind
                | skip
            · subst hK
              refine hZ (fun u => Nat.beq u 9999) 14 0 _ _ _ _ _ ?_
              simp only [sm_run, sm_blk, sm_get, sm_ent, sm_ents, sm_wds, sm_wd, sm_nl, sm_pop, sm_back, sm_cases, oK, oLK, oL, oI, oA, oJ, oIs, oAs, oJs, oInc, oAdd, oSub, oMul, oDiv, oRem, oNeg, oAnd, oAndB, oOr, oShl, oI2c, oI2l, oL2i, oLand, oLor, oLshl, oLshr, oLushr, oLcmp, oDup, oDup2, oPop, oGo, oFg, oEq, oNe, oLt, oGe, oGt, oLe, oEq0, oNe0, oLt0, oGe0, oGt0, oLe0, oSw, oGi, oGr, oPi, oPz, oPr, oLen, oIl, oZl, oCl, oRl, oIst, oZst, oCst, oRst, oCopy, oNew, oNa, oNa2, oObj, oCs, oCv, oCi, oIr, oZr, oVr, Nat.beq, List.getElem?_cons_zero, List.getElem?_cons_succ, List.set_cons_zero, List.set_cons_succ, List.length_cons, List.length_nil, List.nil_append, List.cons_append, List.append_nil, List.replicate_succ, List.replicate_zero, Nat.reduceAdd, Nat.reduceSub, Nat.reduceLT, Nat.reduceLeDiff, Nat.reduceBEq, true_and, and_true, Nat.zero_add, Nat.add_zero, Nat.le_refl, Option.some.injEq, exists_eq_left', true_or, or_true, or_false, false_or, reduceCtorEq, Prod.mk.injEq, Sum.inl.injEq, and_self, false_and, and_false, not_true_eq_false, not_false_eq_true, false_implies, true_implies, sm_r, Int.add_zero, Int.zero_add, wI_wsI, wS_wsI, wR_wsI, wI_wCp, wS_wCp, wR_wCp, Nat.reduceEqDiff, reduceIte, sT_iff, sT_iffC, wIf_ne, ne_eq, Bool.false_or, Bool.true_or, Bool.or_false, Bool.or_true, Bool.or_self, Nat.left_eq_add, Nat.add_eq_left, Nat.add_left_inj, oMax, oMin, oAbs, tb_X5_readOrder, p_J7_fill_53178, p_X5_peek, p_X5_readDigit, p_X5_readNumber, p_X5_readShuttle, p_X5_readSign, f_J7_fill_53178, f_X5_peek, f_X5_readDigit, f_X5_readNumber, f_X5_readShuttle, f_X5_readSign, p_X5_readOrder, f_X5_readOrder, sS_83 hT, sR_83_4 hT, sS_85 hT, h5S, h5R, kf, en, e83, eO, yO, e2, e3, k2, hc, hE, Int.reduceEq, Int.reduceAdd, Int.reduceLT, Int.reduceLE, hr1, o1, y1, hr2, o2, y2, hr3]
              repeat' (first | exact True.intro | with_reducible assumption | with_reducible refine And.intro ?_ ?_ | intro _)
              all_goals first
                | omega
                | assumption
                | rfl
                | (split <;> omega)
                | (have k9 := ih (by omega)
                   (repeat' split at k9) <;> first | exact k9 | omega)
                | (have k9 := ih2 (by omega)
                   (repeat' split at k9) <;> first | exact k9 | omega)
                | exact he (by omega)
                | ((with_reducible congr 1) <;> omega)
                | (rw [if_pos (by omega)] at he; exact he)
                | exact hD1 (by omega)
                | exact hD2 (by omega)
                | grind
                | skip
      · rw [if_neg c116] at hK
        by_cases c114 : c = 114
        · rw [if_pos c114] at hK
          subst c114
          have a1 := (kG_D 0 7 u k2).2.1
          have o1 := (kG_D 0 7).ok k2
          generalize hr1 : kD 0 7 u = r1 at *
          obtain ⟨v1, b1⟩ := r1
          have y1 := sS_83 o1.1
          dsimp only at a1 o1 y1
          rcases a1 with rfl | rfl
          · rw [kA_0 hr1] at hK
            subst hK
            refine hZ (fun u => Nat.beq u 9999) 14 0 _ _ _ _ _ ?_
            simp only [sm_run, sm_blk, sm_get, sm_ent, sm_ents, sm_wds, sm_wd, sm_nl, sm_pop, sm_back, sm_cases, oK, oLK, oL, oI, oA, oJ, oIs, oAs, oJs, oInc, oAdd, oSub, oMul, oDiv, oRem, oNeg, oAnd, oAndB, oOr, oShl, oI2c, oI2l, oL2i, oLand, oLor, oLshl, oLshr, oLushr, oLcmp, oDup, oDup2, oPop, oGo, oFg, oEq, oNe, oLt, oGe, oGt, oLe, oEq0, oNe0, oLt0, oGe0, oGt0, oLe0, oSw, oGi, oGr, oPi, oPz, oPr, oLen, oIl, oZl, oCl, oRl, oIst, oZst, oCst, oRst, oCopy, oNew, oNa, oNa2, oObj, oCs, oCv, oCi, oIr, oZr, oVr, Nat.beq, List.getElem?_cons_zero, List.getElem?_cons_succ, List.set_cons_zero, List.set_cons_succ, List.length_cons, List.length_nil, List.nil_append, List.cons_append, List.append_nil, List.replicate_succ, List.replicate_zero, Nat.reduceAdd, Nat.reduceSub, Nat.reduceLT, Nat.reduceLeDiff, Nat.reduceBEq, true_and, and_true, Nat.zero_add, Nat.add_zero, Nat.le_refl, Option.some.injEq, exists_eq_left', true_or, or_true, or_false, false_or, reduceCtorEq, Prod.mk.injEq, Sum.inl.injEq, and_self, false_and, and_false, not_true_eq_false, not_false_eq_true, false_implies, true_implies, sm_r, Int.add_zero, Int.zero_add, wI_wsI, wS_wsI, wR_wsI, wI_wCp, wS_wCp, wR_wCp, Nat.reduceEqDiff, reduceIte, sT_iff, sT_iffC, wIf_ne, ne_eq, Bool.false_or, Bool.true_or, Bool.or_false, Bool.or_true, Bool.or_self, Nat.left_eq_add, Nat.add_eq_left, Nat.add_left_inj, oMax, oMin, oAbs, tb_X5_readOrder, p_J7_fill_53178, p_X5_peek, p_X5_readDigit, p_X5_readNumber, p_X5_readShuttle, p_X5_readSign, f_J7_fill_53178, f_X5_peek, f_X5_readDigit, f_X5_readNumber, f_X5_readShuttle, f_X5_readSign, p_X5_readOrder, f_X5_readOrder, sS_83 hT, sR_83_4 hT, sS_85 hT, h5S, h5R, kf, en, e83, eO, yO, e2, e3, k2, hc, hE, Int.reduceEq, Int.reduceAdd, Int.reduceLT, Int.reduceLE, hr1]
            repeat' (first | exact True.intro | with_reducible assumption | with_reducible refine And.intro ?_ ?_ | intro _)
            all_goals first
              | omega
              | assumption
              | rfl
              | (split <;> omega)
              | (have k9 := ih (by omega)
                 (repeat' split at k9) <;> first | exact k9 | omega)
              | (have k9 := ih2 (by omega)
                 (repeat' split at k9) <;> first | exact k9 | omega)
              | exact he (by omega)
              | ((with_reducible congr 1) <;> omega)
              | (rw [if_pos (by omega)] at he; exact he)
              | exact hD1 (by omega)
              | exact hD2 (by omega)
              | grind
              | skip
          · rw [kA_1 hr1] at hK
            have a2 := (kG_S (s := 61) (by decide) v1 o1).2.1
            have o2 := (kG_S (s := 61) (by decide)).ok o1
            generalize hr2 : kS 61 v1 = r2 at *
            obtain ⟨v2, b2⟩ := r2
            have y2 := sS_83 o2.1
            dsimp only at a2 o2 y2
            rcases a2 with rfl | rfl
            · rw [kA_0 hr2] at hK
              subst hK
              refine hZ (fun u => Nat.beq u 9999) 14 0 _ _ _ _ _ ?_
              simp only [sm_run, sm_blk, sm_get, sm_ent, sm_ents, sm_wds, sm_wd, sm_nl, sm_pop, sm_back, sm_cases, oK, oLK, oL, oI, oA, oJ, oIs, oAs, oJs, oInc, oAdd, oSub, oMul, oDiv, oRem, oNeg, oAnd, oAndB, oOr, oShl, oI2c, oI2l, oL2i, oLand, oLor, oLshl, oLshr, oLushr, oLcmp, oDup, oDup2, oPop, oGo, oFg, oEq, oNe, oLt, oGe, oGt, oLe, oEq0, oNe0, oLt0, oGe0, oGt0, oLe0, oSw, oGi, oGr, oPi, oPz, oPr, oLen, oIl, oZl, oCl, oRl, oIst, oZst, oCst, oRst, oCopy, oNew, oNa, oNa2, oObj, oCs, oCv, oCi, oIr, oZr, oVr, Nat.beq, List.getElem?_cons_zero, List.getElem?_cons_succ, List.set_cons_zero, List.set_cons_succ, List.length_cons, List.length_nil, List.nil_append, List.cons_append, List.append_nil, List.replicate_succ, List.replicate_zero, Nat.reduceAdd, Nat.reduceSub, Nat.reduceLT, Nat.reduceLeDiff, Nat.reduceBEq, true_and, and_true, Nat.zero_add, Nat.add_zero, Nat.le_refl, Option.some.injEq, exists_eq_left', true_or, or_true, or_false, false_or, reduceCtorEq, Prod.mk.injEq, Sum.inl.injEq, and_self, false_and, and_false, not_true_eq_false, not_false_eq_true, false_implies, true_implies, sm_r, Int.add_zero, Int.zero_add, wI_wsI, wS_wsI, wR_wsI, wI_wCp, wS_wCp, wR_wCp, Nat.reduceEqDiff, reduceIte, sT_iff, sT_iffC, wIf_ne, ne_eq, Bool.false_or, Bool.true_or, Bool.or_false, Bool.or_true, Bool.or_self, Nat.left_eq_add, Nat.add_eq_left, Nat.add_left_inj, oMax, oMin, oAbs, tb_X5_readOrder, p_J7_fill_53178, p_X5_peek, p_X5_readDigit, p_X5_readNumber, p_X5_readShuttle, p_X5_readSign, f_J7_fill_53178, f_X5_peek, f_X5_readDigit, f_X5_readNumber, f_X5_readShuttle, f_X5_readSign, p_X5_readOrder, f_X5_readOrder, sS_83 hT, sR_83_4 hT, sS_85 hT, h5S, h5R, kf, en, e83, eO, yO, e2, e3, k2, hc, hE, Int.reduceEq, Int.reduceAdd, Int.reduceLT, Int.reduceLE, hr1, o1, y1, hr2]
              repeat' (first | exact True.intro | with_reducible assumption | with_reducible refine And.intro ?_ ?_ | intro _)
              all_goals first
                | omega
                | assumption
                | rfl
                | (split <;> omega)
                | (have k9 := ih (by omega)
                   (repeat' split at k9) <;> first | exact k9 | omega)
                | (have k9 := ih2 (by omega)
                   (repeat' split at k9) <;> first | exact k9 | omega)
                | exact he (by omega)
                | ((with_reducible congr 1) <;> omega)
                | (rw [if_pos (by omega)] at he; exact he)
                | exact hD1 (by omega)
                | exact hD2 (by omega)
                | grind
                | skip
            · rw [kA_1 hr2] at hK
              have a3 := (kG_N 1 v2 o2).2.1
              have o3 := (kG_N 1).ok o2
              generalize hr3 : kN 1 v2 = r3 at *
              obtain ⟨v3, b3⟩ := r3
              have y3 := sS_83 o3.1
              dsimp only at a3 o3 y3
              rcases a3 with rfl | rfl
              · subst hK
                refine hZ (fun u => Nat.beq u 9999) 14 0 _ _ _ _ _ ?_
                simp only [sm_run, sm_blk, sm_get, sm_ent, sm_ents, sm_wds, sm_wd, sm_nl, sm_pop, sm_back, sm_cases, oK, oLK, oL, oI, oA, oJ, oIs, oAs, oJs, oInc, oAdd, oSub, oMul, oDiv, oRem, oNeg, oAnd, oAndB, oOr, oShl, oI2c, oI2l, oL2i, oLand, oLor, oLshl, oLshr, oLushr, oLcmp, oDup, oDup2, oPop, oGo, oFg, oEq, oNe, oLt, oGe, oGt, oLe, oEq0, oNe0, oLt0, oGe0, oGt0, oLe0, oSw, oGi, oGr, oPi, oPz, oPr, oLen, oIl, oZl, oCl, oRl, oIst, oZst, oCst, oRst, oCopy, oNew, oNa, oNa2, oObj, oCs, oCv, oCi, oIr, oZr, oVr, Nat.beq, List.getElem?_cons_zero, List.getElem?_cons_succ, List.set_cons_zero, List.set_cons_succ, List.length_cons, List.length_nil, List.nil_append, List.cons_append, List.append_nil, List.replicate_succ, List.replicate_zero, Nat.reduceAdd, Nat.reduceSub, Nat.reduceLT, Nat.reduceLeDiff, Nat.reduceBEq, true_and, and_true, Nat.zero_add, Nat.add_zero, Nat.le_refl, Option.some.injEq, exists_eq_left', true_or, or_true, or_false, false_or, reduceCtorEq, Prod.mk.injEq, Sum.inl.injEq, and_self, false_and, and_false, not_true_eq_false, not_false_eq_true, false_implies, true_implies, sm_r, Int.add_zero, Int.zero_add, wI_wsI, wS_wsI, wR_wsI, wI_wCp, wS_wCp, wR_wCp, Nat.reduceEqDiff, reduceIte, sT_iff, sT_iffC, wIf_ne, ne_eq, Bool.false_or, Bool.true_or, Bool.or_false, Bool.or_true, Bool.or_self, Nat.left_eq_add, Nat.add_eq_left, Nat.add_left_inj, oMax, oMin, oAbs, tb_X5_readOrder, p_J7_fill_53178, p_X5_peek, p_X5_readDigit, p_X5_readNumber, p_X5_readShuttle, p_X5_readSign, f_J7_fill_53178, f_X5_peek, f_X5_readDigit, f_X5_readNumber, f_X5_readShuttle, f_X5_readSign, p_X5_readOrder, f_X5_readOrder, sS_83 hT, sR_83_4 hT, sS_85 hT, h5S, h5R, kf, en, e83, eO, yO, e2, e3, k2, hc, hE, Int.reduceEq, Int.reduceAdd, Int.reduceLT, Int.reduceLE, hr1, o1, y1, hr2, o2, y2, hr3]
                repeat' (first | exact True.intro | with_reducible assumption | with_reducible refine And.intro ?_ ?_ | intro _)
                all_goals first
                  | omega
                  | assumption
                  | rfl
                  | (split <;> omega)
                  | (have k9 := ih (by omega)
                     (repeat' split at k9) <;> first | exact k9 | omega)
                  | (have k9 := ih2 (by omega)
                     (repeat' split at k9) <;> first | exact k9 | omega)
                  | exact he (by omega)
                  | ((with_reducible congr 1) <;> omega)
                  | (rw [if_pos (by omega)] at he; exact he)
                  | exact hD1 (by omega)
                  | exact hD2 (by omega)
                  | grind
                  | skip
              · subst hK
                refine hZ (fun u => Nat.beq u 9999) 14 0 _ _ _ _ _ ?_
                simp only [sm_run, sm_blk, sm_get, sm_ent, sm_ents, sm_wds, sm_wd, sm_nl, sm_pop, sm_back, sm_cases, oK, oLK, oL, oI, oA, oJ, oIs, oAs, oJs, oInc, oAdd, oSub, oMul, oDiv, oRem, oNeg, oAnd, oAndB, oOr, oShl, oI2c, oI2l, oL2i, oLand, oLor, oLshl, oLshr, oLushr, oLcmp, oDup, oDup2, oPop, oGo, oFg, oEq, oNe, oLt, oGe, oGt, oLe, oEq0, oNe0, oLt0, oGe0, oGt0, oLe0, oSw, oGi, oGr, oPi, oPz, oPr, oLen, oIl, oZl, oCl, oRl, oIst, oZst, oCst, oRst, oCopy, oNew, oNa, oNa2, oObj, oCs, oCv, oCi, oIr, oZr, oVr, Nat.beq, List.getElem?_cons_zero, List.getElem?_cons_succ, List.set_cons_zero, List.set_cons_succ, List.length_cons, List.length_nil, List.nil_append, List.cons_append, List.append_nil, List.replicate_succ, List.replicate_zero, Nat.reduceAdd, Nat.reduceSub, Nat.reduceLT, Nat.reduceLeDiff, Nat.reduceBEq, true_and, and_true, Nat.zero_add, Nat.add_zero, Nat.le_refl, Option.some.injEq, exists_eq_left', true_or, or_true, or_false, false_or, reduceCtorEq, Prod.mk.injEq, Sum.inl.injEq, and_self, false_and, and_false, not_true_eq_false, not_false_eq_true, false_implies, true_implies, sm_r, Int.add_zero, Int.zero_add, wI_wsI, wS_wsI, wR_wsI, wI_wCp, wS_wCp, wR_wCp, Nat.reduceEqDiff, reduceIte, sT_iff, sT_iffC, wIf_ne, ne_eq, Bool.false_or, Bool.true_or, Bool.or_false, Bool.or_true, Bool.or_self, Nat.left_eq_add, Nat.add_eq_left, Nat.add_left_inj, oMax, oMin, oAbs, tb_X5_readOrder, p_J7_fill_53178, p_X5_peek, p_X5_readDigit, p_X5_readNumber, p_X5_readShuttle, p_X5_readSign, f_J7_fill_53178, f_X5_peek, f_X5_readDigit, f_X5_readNumber, f_X5_readShuttle, f_X5_readSign, p_X5_readOrder, f_X5_readOrder, sS_83 hT, sR_83_4 hT, sS_85 hT, h5S, h5R, kf, en, e83, eO, yO, e2, e3, k2, hc, hE, Int.reduceEq, Int.reduceAdd, Int.reduceLT, Int.reduceLE, hr1, o1, y1, hr2, o2, y2, hr3]
                repeat' (first | exact True.intro | with_reducible assumption | with_reducible refine And.intro ?_ ?_ | intro _)
                all_goals first
                  | omega
                  | assumption
                  | rfl
                  | (split <;> omega)
                  | (have k9 := ih (by omega)
                     (repeat' split at k9) <;> first | exact k9 | omega)
                  | (have k9 := ih2 (by omega)
                     (repeat' split at k9) <;> first | exact k9 | omega)
                  | exact he (by omega)
                  | ((with_reducible congr 1) <;> omega)
                  | (rw [if_pos (by omega)] at he; exact he)
                  | exact hD1 (by omega)
                  | exact hD2 (by omega)
                  | grind
                  | skip
        · rw [if_neg c114] at hK
          by_cases c112 : c = 112
          · rw [if_pos c112] at hK
            subst c112
            have a1 := (kG_D 0 8 u k2).2.1
            have o1 := (kG_D 0 8).ok k2
            generalize hr1 : kD 0 8 u = r1 at *
            obtain ⟨v1, b1⟩ := r1
            have y1 := sS_83 o1.1
            dsimp only at a1 o1 y1
            rcases a1 with rfl | rfl
            · rw [kA_0 hr1] at hK
              subst hK
              refine hZ (fun u => Nat.beq u 9999) 14 0 _ _ _ _ _ ?_
              simp only [sm_run, sm_blk, sm_get, sm_ent, sm_ents, sm_wds, sm_wd, sm_nl, sm_pop, sm_back, sm_cases, oK, oLK, oL, oI, oA, oJ, oIs, oAs, oJs, oInc, oAdd, oSub, oMul, oDiv, oRem, oNeg, oAnd, oAndB, oOr, oShl, oI2c, oI2l, oL2i, oLand, oLor, oLshl, oLshr, oLushr, oLcmp, oDup, oDup2, oPop, oGo, oFg, oEq, oNe, oLt, oGe, oGt, oLe, oEq0, oNe0, oLt0, oGe0, oGt0, oLe0, oSw, oGi, oGr, oPi, oPz, oPr, oLen, oIl, oZl, oCl, oRl, oIst, oZst, oCst, oRst, oCopy, oNew, oNa, oNa2, oObj, oCs, oCv, oCi, oIr, oZr, oVr, Nat.beq, List.getElem?_cons_zero, List.getElem?_cons_succ, List.set_cons_zero, List.set_cons_succ, List.length_cons, List.length_nil, List.nil_append, List.cons_append, List.append_nil, List.replicate_succ, List.replicate_zero, Nat.reduceAdd, Nat.reduceSub, Nat.reduceLT, Nat.reduceLeDiff, Nat.reduceBEq, true_and, and_true, Nat.zero_add, Nat.add_zero, Nat.le_refl, Option.some.injEq, exists_eq_left', true_or, or_true, or_false, false_or, reduceCtorEq, Prod.mk.injEq, Sum.inl.injEq, and_self, false_and, and_false, not_true_eq_false, not_false_eq_true, false_implies, true_implies, sm_r, Int.add_zero, Int.zero_add, wI_wsI, wS_wsI, wR_wsI, wI_wCp, wS_wCp, wR_wCp, Nat.reduceEqDiff, reduceIte, sT_iff, sT_iffC, wIf_ne, ne_eq, Bool.false_or, Bool.true_or, Bool.or_false, Bool.or_true, Bool.or_self, Nat.left_eq_add, Nat.add_eq_left, Nat.add_left_inj, oMax, oMin, oAbs, tb_X5_readOrder, p_J7_fill_53178, p_X5_peek, p_X5_readDigit, p_X5_readNumber, p_X5_readShuttle, p_X5_readSign, f_J7_fill_53178, f_X5_peek, f_X5_readDigit, f_X5_readNumber, f_X5_readShuttle, f_X5_readSign, p_X5_readOrder, f_X5_readOrder, sS_83 hT, sR_83_4 hT, sS_85 hT, h5S, h5R, kf, en, e83, eO, yO, e2, e3, k2, hc, hE, Int.reduceEq, Int.reduceAdd, Int.reduceLT, Int.reduceLE, hr1]
              repeat' (first | exact True.intro | with_reducible assumption | with_reducible refine And.intro ?_ ?_ | intro _)
              all_goals first
                | omega
                | assumption
                | rfl
                | (split <;> omega)
                | (have k9 := ih (by omega)
                   (repeat' split at k9) <;> first | exact k9 | omega)
                | (have k9 := ih2 (by omega)
                   (repeat' split at k9) <;> first | exact k9 | omega)
                | exact he (by omega)
                | ((with_reducible congr 1) <;> omega)
                | (rw [if_pos (by omega)] at he; exact he)
                | exact hD1 (by omega)
                | exact hD2 (by omega)
                | grind
                | skip
            · rw [kA_1 hr1] at hK
              have a2 := (kG_S (s := 61) (by decide) v1 o1).2.1
              have o2 := (kG_S (s := 61) (by decide)).ok o1
              generalize hr2 : kS 61 v1 = r2 at *
              obtain ⟨v2, b2⟩ := r2
              have y2 := sS_83 o2.1
              dsimp only at a2 o2 y2
              rcases a2 with rfl | rfl
              · rw [kA_0 hr2] at hK
                subst hK
                refine hZ (fun u => Nat.beq u 9999) 14 0 _ _ _ _ _ ?_
                simp only [sm_run, sm_blk, sm_get, sm_ent, sm_ents, sm_wds, sm_wd, sm_nl, sm_pop, sm_back, sm_cases, oK, oLK, oL, oI, oA, oJ, oIs, oAs, oJs, oInc, oAdd, oSub, oMul, oDiv, oRem, oNeg, oAnd, oAndB, oOr, oShl, oI2c, oI2l, oL2i, oLand, oLor, oLshl, oLshr, oLushr, oLcmp, oDup, oDup2, oPop, oGo, oFg, oEq, oNe, oLt, oGe, oGt, oLe, oEq0, oNe0, oLt0, oGe0, oGt0, oLe0, oSw, oGi, oGr, oPi, oPz, oPr, oLen, oIl, oZl, oCl, oRl, oIst, oZst, oCst, oRst, oCopy, oNew, oNa, oNa2, oObj, oCs, oCv, oCi, oIr, oZr, oVr, Nat.beq, List.getElem?_cons_zero, List.getElem?_cons_succ, List.set_cons_zero, List.set_cons_succ, List.length_cons, List.length_nil, List.nil_append, List.cons_append, List.append_nil, List.replicate_succ, List.replicate_zero, Nat.reduceAdd, Nat.reduceSub, Nat.reduceLT, Nat.reduceLeDiff, Nat.reduceBEq, true_and, and_true, Nat.zero_add, Nat.add_zero, Nat.le_refl, Option.some.injEq, exists_eq_left', true_or, or_true, or_false, false_or, reduceCtorEq, Prod.mk.injEq, Sum.inl.injEq, and_self, false_and, and_false, not_true_eq_false, not_false_eq_true, false_implies, true_implies, sm_r, Int.add_zero, Int.zero_add, wI_wsI, wS_wsI, wR_wsI, wI_wCp, wS_wCp, wR_wCp, Nat.reduceEqDiff, reduceIte, sT_iff, sT_iffC, wIf_ne, ne_eq, Bool.false_or, Bool.true_or, Bool.or_false, Bool.or_true, Bool.or_self, Nat.left_eq_add, Nat.add_eq_left, Nat.add_left_inj, oMax, oMin, oAbs, tb_X5_readOrder, p_J7_fill_53178, p_X5_peek, p_X5_readDigit, p_X5_readNumber, p_X5_readShuttle, p_X5_readSign, f_J7_fill_53178, f_X5_peek, f_X5_readDigit, f_X5_readNumber, f_X5_readShuttle, f_X5_readSign, p_X5_readOrder, f_X5_readOrder, sS_83 hT, sR_83_4 hT, sS_85 hT, h5S, h5R, kf, en, e83, eO, yO, e2, e3, k2, hc, hE, Int.reduceEq, Int.reduceAdd, Int.reduceLT, Int.reduceLE, hr1, o1, y1, hr2]
                repeat' (first | exact True.intro | with_reducible assumption | with_reducible refine And.intro ?_ ?_ | intro _)
                all_goals first
                  | omega
                  | assumption
                  | rfl
                  | (split <;> omega)
                  | (have k9 := ih (by omega)
                     (repeat' split at k9) <;> first | exact k9 | omega)
                  | (have k9 := ih2 (by omega)
                     (repeat' split at k9) <;> first | exact k9 | omega)
                  | exact he (by omega)
                  | ((with_reducible congr 1) <;> omega)
                  | (rw [if_pos (by omega)] at he; exact he)
                  | exact hD1 (by omega)
                  | exact hD2 (by omega)
                  | grind
                  | skip
              · rw [kA_1 hr2] at hK
                have a3 := (kG_D 1 10 v2 o2).2.1
                have o3 := (kG_D 1 10).ok o2
                generalize hr3 : kD 1 10 v2 = r3 at *
                obtain ⟨v3, b3⟩ := r3
                have y3 := sS_83 o3.1
                dsimp only at a3 o3 y3
                rcases a3 with rfl | rfl
                · subst hK
                  refine hZ (fun u => Nat.beq u 9999) 14 0 _ _ _ _ _ ?_
                  simp only [sm_run, sm_blk, sm_get, sm_ent, sm_ents, sm_wds, sm_wd, sm_nl, sm_pop, sm_back, sm_cases, oK, oLK, oL, oI, oA, oJ, oIs, oAs, oJs, oInc, oAdd, oSub, oMul, oDiv, oRem, oNeg, oAnd, oAndB, oOr, oShl, oI2c, oI2l, oL2i, oLand, oLor, oLshl, oLshr, oLushr, oLcmp, oDup, oDup2, oPop, oGo, oFg, oEq, oNe, oLt, oGe, oGt, oLe, oEq0, oNe0, oLt0, oGe0, oGt0, oLe0, oSw, oGi, oGr, oPi, oPz, oPr, oLen, oIl, oZl, oCl, oRl, oIst, oZst, oCst, oRst, oCopy, oNew, oNa, oNa2, oObj, oCs, oCv, oCi, oIr, oZr, oVr, Nat.beq, List.getElem?_cons_zero, List.getElem?_cons_succ, List.set_cons_zero, List.set_cons_succ, List.length_cons, List.length_nil, List.nil_append, List.cons_append, List.append_nil, List.replicate_succ, List.replicate_zero, Nat.reduceAdd, Nat.reduceSub, Nat.reduceLT, Nat.reduceLeDiff, Nat.reduceBEq, true_and, and_true, Nat.zero_add, Nat.add_zero, Nat.le_refl, Option.some.injEq, exists_eq_left', true_or, or_true, or_false, false_or, reduceCtorEq, Prod.mk.injEq, Sum.inl.injEq, and_self, false_and, and_false, not_true_eq_false, not_false_eq_true, false_implies, true_implies, sm_r, Int.add_zero, Int.zero_add, wI_wsI, wS_wsI, wR_wsI, wI_wCp, wS_wCp, wR_wCp, Nat.reduceEqDiff, reduceIte, sT_iff, sT_iffC, wIf_ne, ne_eq, Bool.false_or, Bool.true_or, Bool.or_false, Bool.or_true, Bool.or_self, Nat.left_eq_add, Nat.add_eq_left, Nat.add_left_inj, oMax, oMin, oAbs, tb_X5_readOrder, p_J7_fill_53178, p_X5_peek, p_X5_readDigit, p_X5_readNumber, p_X5_readShuttle, p_X5_readSign, f_J7_fill_53178, f_X5_peek, f_X5_readDigit, f_X5_readNumber, f_X5_readShuttle, f_X5_readSign, p_X5_readOrder, f_X5_readOrder, sS_83 hT, sR_83_4 hT, sS_85 hT, h5S, h5R, kf, en, e83, eO, yO, e2, e3, k2, hc, hE, Int.reduceEq, Int.reduceAdd, Int.reduceLT, Int.reduceLE, hr1, o1, y1, hr2, o2, y2, hr3]
                  repeat' (first | exact True.intro | with_reducible assumption | with_reducible refine And.intro ?_ ?_ | intro _)
                  all_goals first
                    | omega
                    | assumption
                    | rfl
                    | (split <;> omega)
                    | (have k9 := ih (by omega)
                       (repeat' split at k9) <;> first | exact k9 | omega)
                    | (have k9 := ih2 (by omega)
                       (repeat' split at k9) <;> first | exact k9 | omega)
                    | exact he (by omega)
                    | ((with_reducible congr 1) <;> omega)
                    | (rw [if_pos (by omega)] at he; exact he)
                    | exact hD1 (by omega)
                    | exact hD2 (by omega)
                    | grind
                    | skip
                · subst hK
                  refine hZ (fun u => Nat.beq u 9999) 14 0 _ _ _ _ _ ?_
                  simp only [sm_run, sm_blk, sm_get, sm_ent, sm_ents, sm_wds, sm_wd, sm_nl, sm_pop, sm_back, sm_cases, oK, oLK, oL, oI, oA, oJ, oIs, oAs, oJs, oInc, oAdd, oSub, oMul, oDiv, oRem, oNeg, oAnd, oAndB, oOr, oShl, oI2c, oI2l, oL2i, oLand, oLor, oLshl, oLshr, oLushr, oLcmp, oDup, oDup2, oPop, oGo, oFg, oEq, oNe, oLt, oGe, oGt, oLe, oEq0, oNe0, oLt0, oGe0, oGt0, oLe0, oSw, oGi, oGr, oPi, oPz, oPr, oLen, oIl, oZl, oCl, oRl, oIst, oZst, oCst, oRst, oCopy, oNew, oNa, oNa2, oObj, oCs, oCv, oCi, oIr, oZr, oVr, Nat.beq, List.getElem?_cons_zero, List.getElem?_cons_succ, List.set_cons_zero, List.set_cons_succ, List.length_cons, List.length_nil, List.nil_append, List.cons_append, List.append_nil, List.replicate_succ, List.replicate_zero, Nat.reduceAdd, Nat.reduceSub, Nat.reduceLT, Nat.reduceLeDiff, Nat.reduceBEq, true_and, and_true, Nat.zero_add, Nat.add_zero, Nat.le_refl, Option.some.injEq, exists_eq_left', true_or, or_true, or_false, false_or, reduceCtorEq, Prod.mk.injEq, Sum.inl.injEq, and_self, false_and, and_false, not_true_eq_false, not_false_eq_true, false_implies, true_implies, sm_r, Int.add_zero, Int.zero_add, wI_wsI, wS_wsI, wR_wsI, wI_wCp, wS_wCp, wR_wCp, Nat.reduceEqDiff, reduceIte, sT_iff, sT_iffC, wIf_ne, ne_eq, Bool.false_or, Bool.true_or, Bool.or_false, Bool.or_true, Bool.or_self, Nat.left_eq_add, Nat.add_eq_left, Nat.add_left_inj, oMax, oMin, oAbs, tb_X5_readOrder, p_J7_fill_53178, p_X5_peek, p_X5_readDigit, p_X5_readNumber, p_X5_readShuttle, p_X5_readSign, f_J7_fill_53178, f_X5_peek, f_X5_readDigit, f_X5_readNumber, f_X5_readShuttle, f_X5_readSign, p_X5_readOrder, f_X5_readOrder, sS_83 hT, sR_83_4 hT, sS_85 hT, h5S, h5R, kf, en, e83, eO, yO, e2, e3, k2, hc, hE, Int.reduceEq, Int.reduceAdd, Int.reduceLT, Int.reduceLE, hr1, o1, y1, hr2, o2, y2, hr3]
                  repeat' (first | exact True.intro | with_reducible assumption | with_reducible refine And.intro ?_ ?_ | intro _)
                  all_goals first
                    | omega
                    | assumption
                    | rfl
                    | (split <;> omega)
                    | (have k9 := ih (by omega)
                       (repeat' split at k9) <;> first | exact k9 | omega)
                    | (have k9 := ih2 (by omega)
                       (repeat' split at k9) <;> first | exact k9 | omega)
                    | exact he (by omega)
                    | ((with_reducible congr 1) <;> omega)
                    | (rw [if_pos (by omega)] at he; exact he)
                    | exact hD1 (by omega)
                    | exact hD2 (by omega)
                    | grind
                    | skip
          · rw [if_neg c112] at hK
            by_cases c120 : c = 120
            · rw [if_pos c120] at hK
              subst c120
              have a1 := (kG_D 0 8 u k2).2.1
              have o1 := (kG_D 0 8).ok k2
              generalize hr1 : kD 0 8 u = r1 at *
              obtain ⟨v1, b1⟩ := r1
              have y1 := sS_83 o1.1
              dsimp only at a1 o1 y1
              rcases a1 with rfl | rfl
              · subst hK
                refine hZ (fun u => Nat.beq u 9999) 14 0 _ _ _ _ _ ?_
                simp only [sm_run, sm_blk, sm_get, sm_ent, sm_ents, sm_wds, sm_wd, sm_nl, sm_pop, sm_back, sm_cases, oK, oLK, oL, oI, oA, oJ, oIs, oAs, oJs, oInc, oAdd, oSub, oMul, oDiv, oRem, oNeg, oAnd, oAndB, oOr, oShl, oI2c, oI2l, oL2i, oLand, oLor, oLshl, oLshr, oLushr, oLcmp, oDup, oDup2, oPop, oGo, oFg, oEq, oNe, oLt, oGe, oGt, oLe, oEq0, oNe0, oLt0, oGe0, oGt0, oLe0, oSw, oGi, oGr, oPi, oPz, oPr, oLen, oIl, oZl, oCl, oRl, oIst, oZst, oCst, oRst, oCopy, oNew, oNa, oNa2, oObj, oCs, oCv, oCi, oIr, oZr, oVr, Nat.beq, List.getElem?_cons_zero, List.getElem?_cons_succ, List.set_cons_zero, List.set_cons_succ, List.length_cons, List.length_nil, List.nil_append, List.cons_append, List.append_nil, List.replicate_succ, List.replicate_zero, Nat.reduceAdd, Nat.reduceSub, Nat.reduceLT, Nat.reduceLeDiff, Nat.reduceBEq, true_and, and_true, Nat.zero_add, Nat.add_zero, Nat.le_refl, Option.some.injEq, exists_eq_left', true_or, or_true, or_false, false_or, reduceCtorEq, Prod.mk.injEq, Sum.inl.injEq, and_self, false_and, and_false, not_true_eq_false, not_false_eq_true, false_implies, true_implies, sm_r, Int.add_zero, Int.zero_add, wI_wsI, wS_wsI, wR_wsI, wI_wCp, wS_wCp, wR_wCp, Nat.reduceEqDiff, reduceIte, sT_iff, sT_iffC, wIf_ne, ne_eq, Bool.false_or, Bool.true_or, Bool.or_false, Bool.or_true, Bool.or_self, Nat.left_eq_add, Nat.add_eq_left, Nat.add_left_inj, oMax, oMin, oAbs, tb_X5_readOrder, p_J7_fill_53178, p_X5_peek, p_X5_readDigit, p_X5_readNumber, p_X5_readShuttle, p_X5_readSign, f_J7_fill_53178, f_X5_peek, f_X5_readDigit, f_X5_readNumber, f_X5_readShuttle, f_X5_readSign, p_X5_readOrder, f_X5_readOrder, sS_83 hT, sR_83_4 hT, sS_85 hT, h5S, h5R, kf, en, e83, eO, yO, e2, e3, k2, hc, hE, Int.reduceEq, Int.reduceAdd, Int.reduceLT, Int.reduceLE, hr1]
                repeat' (first | exact True.intro | with_reducible assumption | with_reducible refine And.intro ?_ ?_ | intro _)
                all_goals first
                  | omega
                  | assumption
                  | rfl
                  | (split <;> omega)
                  | (have k9 := ih (by omega)
                     (repeat' split at k9) <;> first | exact k9 | omega)
                  | (have k9 := ih2 (by omega)
                     (repeat' split at k9) <;> first | exact k9 | omega)
                  | exact he (by omega)
                  | ((with_reducible congr 1) <;> omega)
                  | (rw [if_pos (by omega)] at he; exact he)
                  | exact hD1 (by omega)
                  | exact hD2 (by omega)
                  | grind
                  | skip
              · subst hK
                refine hZ (fun u => Nat.beq u 9999) 14 0 _ _ _ _ _ ?_
                simp only [sm_run, sm_blk, sm_get, sm_ent, sm_ents, sm_wds, sm_wd, sm_nl, sm_pop, sm_back, sm_cases, oK, oLK, oL, oI, oA, oJ, oIs, oAs, oJs, oInc, oAdd, oSub, oMul, oDiv, oRem, oNeg, oAnd, oAndB, oOr, oShl, oI2c, oI2l, oL2i, oLand, oLor, oLshl, oLshr, oLushr, oLcmp, oDup, oDup2, oPop, oGo, oFg, oEq, oNe, oLt, oGe, oGt, oLe, oEq0, oNe0, oLt0, oGe0, oGt0, oLe0, oSw, oGi, oGr, oPi, oPz, oPr, oLen, oIl, oZl, oCl, oRl, oIst, oZst, oCst, oRst, oCopy, oNew, oNa, oNa2, oObj, oCs, oCv, oCi, oIr, oZr, oVr, Nat.beq, List.getElem?_cons_zero, List.getElem?_cons_succ, List.set_cons_zero, List.set_cons_succ, List.length_cons, List.length_nil, List.nil_append, List.cons_append, List.append_nil, List.replicate_succ, List.replicate_zero, Nat.reduceAdd, Nat.reduceSub, Nat.reduceLT, Nat.reduceLeDiff, Nat.reduceBEq, true_and, and_true, Nat.zero_add, Nat.add_zero, Nat.le_refl, Option.some.injEq, exists_eq_left', true_or, or_true, or_false, false_or, reduceCtorEq, Prod.mk.injEq, Sum.inl.injEq, and_self, false_and, and_false, not_true_eq_false, not_false_eq_true, false_implies, true_implies, sm_r, Int.add_zero, Int.zero_add, wI_wsI, wS_wsI, wR_wsI, wI_wCp, wS_wCp, wR_wCp, Nat.reduceEqDiff, reduceIte, sT_iff, sT_iffC, wIf_ne, ne_eq, Bool.false_or, Bool.true_or, Bool.or_false, Bool.or_true, Bool.or_self, Nat.left_eq_add, Nat.add_eq_left, Nat.add_left_inj, oMax, oMin, oAbs, tb_X5_readOrder, p_J7_fill_53178, p_X5_peek, p_X5_readDigit, p_X5_readNumber, p_X5_readShuttle, p_X5_readSign, f_J7_fill_53178, f_X5_peek, f_X5_readDigit, f_X5_readNumber, f_X5_readShuttle, f_X5_readSign, p_X5_readOrder, f_X5_readOrder, sS_83 hT, sR_83_4 hT, sS_85 hT, h5S, h5R, kf, en, e83, eO, yO, e2, e3, k2, hc, hE, Int.reduceEq, Int.reduceAdd, Int.reduceLT, Int.reduceLE, hr1]
                repeat' (first | exact True.intro | with_reducible assumption | with_reducible refine And.intro ?_ ?_ | intro _)
                all_goals first
                  | omega
                  | assumption
                  | rfl
                  | (split <;> omega)
                  | (have k9 := ih (by omega)
                     (repeat' split at k9) <;> first | exact k9 | omega)
                  | (have k9 := ih2 (by omega)
                     (repeat' split at k9) <;> first | exact k9 | omega)
                  | exact he (by omega)
                  | ((with_reducible congr 1) <;> omega)
                  | (rw [if_pos (by omega)] at he; exact he)
                  | exact hD1 (by omega)
                  | exact hD2 (by omega)
                  | grind
                  | skip
            · rw [if_neg c120] at hK
              subst hK
              refine hZ (fun u => Nat.beq u 9999) 14 0 _ _ _ _ _ ?_
              simp only [sm_run, sm_blk, sm_get, sm_ent, sm_ents, sm_wds, sm_wd, sm_nl, sm_pop, sm_back, sm_cases, oK, oLK, oL, oI, oA, oJ, oIs, oAs, oJs, oInc, oAdd, oSub, oMul, oDiv, oRem, oNeg, oAnd, oAndB, oOr, oShl, oI2c, oI2l, oL2i, oLand, oLor, oLshl, oLshr, oLushr, oLcmp, oDup, oDup2, oPop, oGo, oFg, oEq, oNe, oLt, oGe, oGt, oLe, oEq0, oNe0, oLt0, oGe0, oGt0, oLe0, oSw, oGi, oGr, oPi, oPz, oPr, oLen, oIl, oZl, oCl, oRl, oIst, oZst, oCst, oRst, oCopy, oNew, oNa, oNa2, oObj, oCs, oCv, oCi, oIr, oZr, oVr, Nat.beq, List.getElem?_cons_zero, List.getElem?_cons_succ, List.set_cons_zero, List.set_cons_succ, List.length_cons, List.length_nil, List.nil_append, List.cons_append, List.append_nil, List.replicate_succ, List.replicate_zero, Nat.reduceAdd, Nat.reduceSub, Nat.reduceLT, Nat.reduceLeDiff, Nat.reduceBEq, true_and, and_true, Nat.zero_add, Nat.add_zero, Nat.le_refl, Option.some.injEq, exists_eq_left', true_or, or_true, or_false, false_or, reduceCtorEq, Prod.mk.injEq, Sum.inl.injEq, and_self, false_and, and_false, not_true_eq_false, not_false_eq_true, false_implies, true_implies, sm_r, Int.add_zero, Int.zero_add, wI_wsI, wS_wsI, wR_wsI, wI_wCp, wS_wCp, wR_wCp, Nat.reduceEqDiff, reduceIte, sT_iff, sT_iffC, wIf_ne, ne_eq, Bool.false_or, Bool.true_or, Bool.or_false, Bool.or_true, Bool.or_self, Nat.left_eq_add, Nat.add_eq_left, Nat.add_left_inj, oMax, oMin, oAbs, tb_X5_readOrder, p_J7_fill_53178, p_X5_peek, p_X5_readDigit, p_X5_readNumber, p_X5_readShuttle, p_X5_readSign, f_J7_fill_53178, f_X5_peek, f_X5_readDigit, f_X5_readNumber, f_X5_readShuttle, f_X5_readSign, p_X5_readOrder, f_X5_readOrder, sS_83 hT, sR_83_4 hT, sS_85 hT, h5S, h5R, kf, en, e83, eO, yO, e2, e3, k2, hc, hE, Int.reduceEq, Int.reduceAdd, Int.reduceLT, Int.reduceLE, true_and]
              repeat' (first | exact True.intro | with_reducible assumption | with_reducible refine And.intro ?_ ?_ | intro _)
              all_goals first
                | omega
                | assumption
                | rfl
                | (split <;> omega)
                | (have k9 := ih (by omega)
                   (repeat' split at k9) <;> first | exact k9 | omega)
                | (have k9 := ih2 (by omega)
                   (repeat' split at k9) <;> first | exact k9 | omega)
                | exact he (by omega)
                | ((with_reducible congr 1) <;> omega)
                | (rw [if_pos (by omega)] at he; exact he)
                | exact hD1 (by omega)
                | exact hD2 (by omega)
                | grind
                | skip
theorem met_X5_readOrder (l : Launch) : sm_Met l yX5_readOrder cX5_readOrder 1 (some .boolean) 4 0 0 p_X5_readOrder f_X5_readOrder := sm_met 2 (Or.inr (Or.inr ⟨rfl, rfl⟩)) (by decide +kernel) (sn_X5_readOrder l) ok_X5_readOrder
def kF : Nat → sm_W → sm_W × Int
  | 0, w => (w, wI w 83 2)
  | n + 1, w => if (kOrd w).2 = 0 then ((kOrd w).1, wI (kOrd w).1 83 2) else (if wI (kOrd w).1 83 2 = wI (kOrd w).1 83 0 then ((kOrd w).1, -6) else (if (kS 59 (kOrd w).1).2 = 0 then ((kS 59 (kOrd w).1).1, wI (kS 59 (kOrd w).1).1 83 2) else kF n (kS 59 (kOrd w).1).1))
theorem kF_s (n : Nat) (w : sm_W) : kF (n + 1) w = if (kOrd w).2 = 0 then ((kOrd w).1, wI (kOrd w).1 83 2) else (if wI (kOrd w).1 83 2 = wI (kOrd w).1 83 0 then ((kOrd w).1, -6) else (if (kS 59 (kOrd w).1).2 = 0 then ((kS 59 (kOrd w).1).1, wI (kS 59 (kOrd w).1).1 83 2) else kF n (kS 59 (kOrd w).1).1)) := rfl
def kF0 (w : sm_W) : sm_W := wsI w 83 2 0
def p_X5_findFault : List sm_V → sm_W → Prop
  | [.inr (.inl o)], w => o = 83 ∧ kOK (kF0 w)
  | _, _ => False
def f_X5_findFault : sm_F
  | [.inr (.inl o)], w => (some (.inl (kF 80 (kF0 w)).2), (kF 80 (kF0 w)).1)
  | _, w => (none, w)
def tb_X5_findFault : List (Nat × List sm_O) := [(0, [oA 0, oK 0, oPi 5 5 2, oK 0, oIs 1, oGo 7]),
  (7, [oI 1, oK 80, oGe 59, oA 0, oCv 5 5 p_X5_readOrder f_X5_readOrder 0 0 1, oNe0 25, oA 0, oGi 5 5 2, oIr]),
  (25, [oA 0, oGi 5 5 2, oA 0, oGi 5 5 0, oNe 39, oK (-6), oIr]),
  (39, [oA 0, oK 59, oCv 5 5 p_X5_readSign f_X5_readSign 0 0 2, oNe0 53, oA 0, oGi 5 5 2, oIr]),
  (53, [oInc 1 1, oGo 7]),
  (59, [oA 0, oGi 5 5 2, oIr])]
set_option maxRecDepth 100000 in
theorem sb_X5_findFault_0 (l : Launch) : sm_SndB l RX5 "findFault" cX5_findFault 2 1 5 0 [oA 0, oK 0, oPi 5 5 2, oK 0, oIs 1, oGo 7] := sb_cons (sd_aload_n (by decide +kernel : decode cX5_findFault 0 = .ok (.aload_n 0, 1)) rfl) (sb_cons (sd_iconst (by decide +kernel : decode cX5_findFault 1 = .ok (.iconst 0, 1)) ⟨by decide, by decide⟩) (sb_cons (sd_puti (k := 2) kl_5 (by decide) rfl (Or.inl rfl) wm_129 (by decide +kernel : decode cX5_findFault 2 = .ok (.putfield 29, 3))) (sb_cons (sd_iconst (by decide +kernel : decode cX5_findFault 5 = .ok (.iconst 0, 1)) ⟨by decide, by decide⟩) (sb_cons (sd_istore_n (by decide +kernel : decode cX5_findFault 6 = .ok (.istore_n 1, 1)) rfl) (sb_cons (sd_fall (x := 0)) sb_nil)))))
set_option maxRecDepth 100000 in
theorem sb_X5_findFault_7 (l : Launch) : sm_SndB l RX5 "findFault" cX5_findFault 2 1 5 7 [oI 1, oK 80, oGe 59, oA 0, oCv 5 5 p_X5_readOrder f_X5_readOrder 0 0 1, oNe0 25, oA 0, oGi 5 5 2, oIr] := sb_cons (sd_iload_n (by decide +kernel : decode cX5_findFault 7 = .ok (.iload_n 1, 1)) rfl) (sb_cons (sd_bipush (by decide +kernel : decode cX5_findFault 8 = .ok (.bipush 80, 2)) ⟨by decide, by decide⟩ (by decide)) (sb_cons (sd_ge (by decide +kernel : decode cX5_findFault 10 = .ok (.if_icmp .ge 49, 3)) (by decide)) (sb_cons (sd_aload_n (by decide +kernel : decode cX5_findFault 13 = .ok (.aload_n 0, 1)) rfl) (sb_cons (sd_callv (n := 0) (met_X5_readOrder l) (by decide) (by decide) wm_599 wm_597 wm_8 ⟨by decide +kernel, by decide +kernel, by decide +kernel⟩ kl_5 wm_598 wm_1097 (by decide +kernel : decode cX5_findFault 14 = .ok (.invokevirtual 32, 3))) (sb_cons (sd_ne0 (by decide +kernel : decode cX5_findFault 17 = .ok (.ifCond .ne 8, 3)) (by decide)) (sb_cons (sd_aload_n (by decide +kernel : decode cX5_findFault 20 = .ok (.aload_n 0, 1)) rfl) (sb_cons (sd_geti (k := 2) kl_5 (by decide) rfl wm_129 (by decide +kernel : decode cX5_findFault 21 = .ok (.getfield 29, 3))) (sb_cons (sd_ireturn (x := 0) rfl (by decide +kernel : decode cX5_findFault 24 = .ok (.ireturn, 1))) sb_nil))))))))
set_option maxRecDepth 100000 in
theorem sb_X5_findFault_25 (l : Launch) : sm_SndB l RX5 "findFault" cX5_findFault 2 1 5 25 [oA 0, oGi 5 5 2, oA 0, oGi 5 5 0, oNe 39, oK (-6), oIr] := sb_cons (sd_aload_n (by decide +kernel : decode cX5_findFault 25 = .ok (.aload_n 0, 1)) rfl) (sb_cons (sd_geti (k := 2) kl_5 (by decide) rfl wm_129 (by decide +kernel : decode cX5_findFault 26 = .ok (.getfield 29, 3))) (sb_cons (sd_aload_n (by decide +kernel : decode cX5_findFault 29 = .ok (.aload_n 0, 1)) rfl) (sb_cons (sd_geti (k := 0) kl_5 (by decide) rfl wm_126 (by decide +kernel : decode cX5_findFault 30 = .ok (.getfield 25, 3))) (sb_cons (sd_ne (by decide +kernel : decode cX5_findFault 33 = .ok (.if_icmp .ne 6, 3)) (by decide)) (sb_cons (sd_bipush (by decide +kernel : decode cX5_findFault 36 = .ok (.bipush (-6), 2)) ⟨by decide, by decide⟩ (by decide)) (sb_cons (sd_ireturn (x := 0) rfl (by decide +kernel : decode cX5_findFault 38 = .ok (.ireturn, 1))) sb_nil))))))
set_option maxRecDepth 100000 in
theorem sb_X5_findFault_39 (l : Launch) : sm_SndB l RX5 "findFault" cX5_findFault 2 1 5 39 [oA 0, oK 59, oCv 5 5 p_X5_readSign f_X5_readSign 0 0 2, oNe0 53, oA 0, oGi 5 5 2, oIr] := sb_cons (sd_aload_n (by decide +kernel : decode cX5_findFault 39 = .ok (.aload_n 0, 1)) rfl) (sb_cons (sd_bipush (by decide +kernel : decode cX5_findFault 40 = .ok (.bipush 59, 2)) ⟨by decide, by decide⟩ (by decide)) (sb_cons (sd_callv (n := 1) (met_X5_readSign l) (by decide) (by decide) wm_616 wm_614 wm_8 ⟨by decide +kernel, by decide +kernel, by decide +kernel⟩ kl_5 wm_615 wm_1101 (by decide +kernel : decode cX5_findFault 42 = .ok (.invokevirtual 36, 3))) (sb_cons (sd_ne0 (by decide +kernel : decode cX5_findFault 45 = .ok (.ifCond .ne 8, 3)) (by decide)) (sb_cons (sd_aload_n (by decide +kernel : decode cX5_findFault 48 = .ok (.aload_n 0, 1)) rfl) (sb_cons (sd_geti (k := 2) kl_5 (by decide) rfl wm_129 (by decide +kernel : decode cX5_findFault 49 = .ok (.getfield 29, 3))) (sb_cons (sd_ireturn (x := 0) rfl (by decide +kernel : decode cX5_findFault 52 = .ok (.ireturn, 1))) sb_nil))))))
set_option maxRecDepth 100000 in
theorem sb_X5_findFault_53 (l : Launch) : sm_SndB l RX5 "findFault" cX5_findFault 2 1 5 53 [oInc 1 1, oGo 7] := sb_cons (sd_iinc (by decide +kernel : decode cX5_findFault 53 = .ok (.iinc 1 1, 3))) (sb_cons (sd_goto (x := 0) (by decide +kernel : decode cX5_findFault 56 = .ok (.goto (-49), 3)) (by decide)) sb_nil)
set_option maxRecDepth 100000 in
theorem sb_X5_findFault_59 (l : Launch) : sm_SndB l RX5 "findFault" cX5_findFault 2 1 5 59 [oA 0, oGi 5 5 2, oIr] := sb_cons (sd_aload_n (by decide +kernel : decode cX5_findFault 59 = .ok (.aload_n 0, 1)) rfl) (sb_cons (sd_geti (k := 2) kl_5 (by decide) rfl wm_129 (by decide +kernel : decode cX5_findFault 60 = .ok (.getfield 29, 3))) (sb_cons (sd_ireturn (x := 0) rfl (by decide +kernel : decode cX5_findFault 63 = .ok (.ireturn, 1))) sb_nil))
theorem sn_X5_findFault (l : Launch) : sm_SndT l RX5 "findFault" cX5_findFault 2 1 5 tb_X5_findFault := st_cons (sb_X5_findFault_0 l) (st_cons (sb_X5_findFault_7 l) (st_cons (sb_X5_findFault_25 l) (st_cons (sb_X5_findFault_39 l) (st_cons (sb_X5_findFault_53 l) (st_cons (sb_X5_findFault_59 l) (st_nil))))))
set_option maxRecDepth 100000 in
set_option maxHeartbeats 4000000 in
theorem ok_X5_findFault : sm_Ok tb_X5_findFault 2 0 0 p_X5_findFault f_X5_findFault := by
  intro as w hp ha hw
  match as, hp with
  | [.inr (.inl o)], hp =>
  refine ⟨Nat.le_of_ble_eq_true rfl, fun Z hZ => ?_⟩
  obtain ⟨rfl, hO⟩ := hp
  have hT : sT w := hO.1
  generalize hE : kF 80 (kF0 w) = E at *
  have hl := sm_loopM (S := Nat × sm_W) Z 7 (fun s => s.1) (fun s => s.1 ≤ 80 ∧ kOK s.2 ∧ wI s.2 83 2 ≤ 80 ∧ kF s.1 s.2 = E) (fun s => [some (.inr (.inl 83)), some (.inl (80 - s.1))]) (fun s => s.2) 0 0 (fun s hI ih => by
    obtain ⟨n, u⟩ := s
    dsimp only at hI ih ⊢
    obtain ⟨i1, hU, h8, he⟩ := hI
    have y0 := sS_83 hU.1
    cases n with
    | zero =>
      have he : (u, wI u 83 2) = E := he
      subst he
      clear ih
      refine hZ (fun u => Nat.beq u 7) 14 7 _ _ _ _ _ ?_
      simp only [sm_run, sm_blk, sm_get, sm_ent, sm_ents, sm_wds, sm_wd, sm_nl, sm_pop, sm_back, sm_cases, oK, oLK, oL, oI, oA, oJ, oIs, oAs, oJs, oInc, oAdd, oSub, oMul, oDiv, oRem, oNeg, oAnd, oAndB, oOr, oShl, oI2c, oI2l, oL2i, oLand, oLor, oLshl, oLshr, oLushr, oLcmp, oDup, oDup2, oPop, oGo, oFg, oEq, oNe, oLt, oGe, oGt, oLe, oEq0, oNe0, oLt0, oGe0, oGt0, oLe0, oSw, oGi, oGr, oPi, oPz, oPr, oLen, oIl, oZl, oCl, oRl, oIst, oZst, oCst, oRst, oCopy, oNew, oNa, oNa2, oObj, oCs, oCv, oCi, oIr, oZr, oVr, Nat.beq, List.getElem?_cons_zero, List.getElem?_cons_succ, List.set_cons_zero, List.set_cons_succ, List.length_cons, List.length_nil, List.nil_append, List.cons_append, List.append_nil, List.replicate_succ, List.replicate_zero, Nat.reduceAdd, Nat.reduceSub, Nat.reduceLT, Nat.reduceLeDiff, Nat.reduceBEq, true_and, and_true, Nat.zero_add, Nat.add_zero, Nat.le_refl, Option.some.injEq, exists_eq_left', true_or, or_true, or_false, false_or, reduceCtorEq, Prod.mk.injEq, Sum.inl.injEq, and_self, false_and, and_false, not_true_eq_false, not_false_eq_true, false_implies, true_implies, sm_r, Int.add_zero, Int.zero_add, wI_wsI, wS_wsI, wR_wsI, wI_wCp, wS_wCp, wR_wCp, Nat.reduceEqDiff, reduceIte, sT_iff, sT_iffC, wIf_ne, ne_eq, Bool.false_or, Bool.true_or, Bool.or_false, Bool.or_true, Bool.or_self, Nat.left_eq_add, Nat.add_eq_left, Nat.add_left_inj, oMax, oMin, oAbs, tb_X5_findFault, p_X5_readOrder, p_X5_readSign, f_X5_readOrder, f_X5_readSign, p_X5_findFault, f_X5_findFault, y0, hE]
      repeat' (first | exact True.intro | with_reducible assumption | with_reducible refine And.intro ?_ ?_ | intro _)
      all_goals first
        | omega
        | assumption
        | rfl
        | (split <;> omega)
        | (have k9 := ih (by omega)
           (repeat' split at k9) <;> first | exact k9 | omega)
        | (have k9 := ih2 (by omega)
           (repeat' split at k9) <;> first | exact k9 | omega)
        | exact he (by omega)
        | ((with_reducible congr 1) <;> omega)
        | (rw [if_pos (by omega)] at he; exact he)
        | exact hD1 (by omega)
        | exact hD2 (by omega)
        | grind
        | skip
    | succ n =>
      rw [kF_s] at he
      have hcast : (80 : Int) - ((n + 1 : Nat) : Int) + 1 = 80 - (n : Int) := by omega
      have k1 := kOrd_in hU h8
      generalize hr1 : kOrd u = r1 at *
      obtain ⟨u1, b1⟩ := r1
      dsimp only at k1 he
      obtain ⟨f1, o1, a1, n1, -⟩ := k1
      have y1 := sS_83 o1.1
      rcases a1 with rfl | rfl
      · rw [if_pos rfl] at he
        subst he
        clear ih
        refine hZ (fun u => Nat.beq u 7) 14 7 _ _ _ _ _ ?_
        simp only [sm_run, sm_blk, sm_get, sm_ent, sm_ents, sm_wds, sm_wd, sm_nl, sm_pop, sm_back, sm_cases, oK, oLK, oL, oI, oA, oJ, oIs, oAs, oJs, oInc, oAdd, oSub, oMul, oDiv, oRem, oNeg, oAnd, oAndB, oOr, oShl, oI2c, oI2l, oL2i, oLand, oLor, oLshl, oLshr, oLushr, oLcmp, oDup, oDup2, oPop, oGo, oFg, oEq, oNe, oLt, oGe, oGt, oLe, oEq0, oNe0, oLt0, oGe0, oGt0, oLe0, oSw, oGi, oGr, oPi, oPz, oPr, oLen, oIl, oZl, oCl, oRl, oIst, oZst, oCst, oRst, oCopy, oNew, oNa, oNa2, oObj, oCs, oCv, oCi, oIr, oZr, oVr, Nat.beq, List.getElem?_cons_zero, List.getElem?_cons_succ, List.set_cons_zero, List.set_cons_succ, List.length_cons, List.length_nil, List.nil_append, List.cons_append, List.append_nil, List.replicate_succ, List.replicate_zero, Nat.reduceAdd, Nat.reduceSub, Nat.reduceLT, Nat.reduceLeDiff, Nat.reduceBEq, true_and, and_true, Nat.zero_add, Nat.add_zero, Nat.le_refl, Option.some.injEq, exists_eq_left', true_or, or_true, or_false, false_or, reduceCtorEq, Prod.mk.injEq, Sum.inl.injEq, and_self, false_and, and_false, not_true_eq_false, not_false_eq_true, false_implies, true_implies, sm_r, Int.add_zero, Int.zero_add, wI_wsI, wS_wsI, wR_wsI, wI_wCp, wS_wCp, wR_wCp, Nat.reduceEqDiff, reduceIte, sT_iff, sT_iffC, wIf_ne, ne_eq, Bool.false_or, Bool.true_or, Bool.or_false, Bool.or_true, Bool.or_self, Nat.left_eq_add, Nat.add_eq_left, Nat.add_left_inj, oMax, oMin, oAbs, tb_X5_findFault, p_X5_readOrder, p_X5_readSign, f_X5_readOrder, f_X5_readSign, p_X5_findFault, f_X5_findFault, y0, hU, hr1, y1, hE]
        repeat' (first | exact True.intro | with_reducible assumption | with_reducible refine And.intro ?_ ?_ | intro _)
        all_goals first
          | omega
          | assumption
          | rfl
          | (split <;> omega)
          | (have k9 := ih (by omega)
             (repeat' split at k9) <;> first | exact k9 | omega)
          | (have k9 := ih2 (by omega)
             (repeat' split at k9) <;> first | exact k9 | omega)
          | exact he (by omega)
          | ((with_reducible congr 1) <;> omega)
          | (rw [if_pos (by omega)] at he; exact he)
          | exact hD1 (by omega)
          | exact hD2 (by omega)
          | grind
          | skip
      · rw [if_neg (by decide)] at he
        by_cases c : wI u1 83 2 = wI u1 83 0
        · rw [if_pos c] at he
          subst he
          clear ih
          refine hZ (fun u => Nat.beq u 7) 14 7 _ _ _ _ _ ?_
          simp only [sm_run, sm_blk, sm_get, sm_ent, sm_ents, sm_wds, sm_wd, sm_nl, sm_pop, sm_back, sm_cases, oK, oLK, oL, oI, oA, oJ, oIs, oAs, oJs, oInc, oAdd, oSub, oMul, oDiv, oRem, oNeg, oAnd, oAndB, oOr, oShl, oI2c, oI2l, oL2i, oLand, oLor, oLshl, oLshr, oLushr, oLcmp, oDup, oDup2, oPop, oGo, oFg, oEq, oNe, oLt, oGe, oGt, oLe, oEq0, oNe0, oLt0, oGe0, oGt0, oLe0, oSw, oGi, oGr, oPi, oPz, oPr, oLen, oIl, oZl, oCl, oRl, oIst, oZst, oCst, oRst, oCopy, oNew, oNa, oNa2, oObj, oCs, oCv, oCi, oIr, oZr, oVr, Nat.beq, List.getElem?_cons_zero, List.getElem?_cons_succ, List.set_cons_zero, List.set_cons_succ, List.length_cons, List.length_nil, List.nil_append, List.cons_append, List.append_nil, List.replicate_succ, List.replicate_zero, Nat.reduceAdd, Nat.reduceSub, Nat.reduceLT, Nat.reduceLeDiff, Nat.reduceBEq, true_and, and_true, Nat.zero_add, Nat.add_zero, Nat.le_refl, Option.some.injEq, exists_eq_left', true_or, or_true, or_false, false_or, reduceCtorEq, Prod.mk.injEq, Sum.inl.injEq, and_self, false_and, and_false, not_true_eq_false, not_false_eq_true, false_implies, true_implies, sm_r, Int.add_zero, Int.zero_add, wI_wsI, wS_wsI, wR_wsI, wI_wCp, wS_wCp, wR_wCp, Nat.reduceEqDiff, reduceIte, sT_iff, sT_iffC, wIf_ne, ne_eq, Bool.false_or, Bool.true_or, Bool.or_false, Bool.or_true, Bool.or_self, Nat.left_eq_add, Nat.add_eq_left, Nat.add_left_inj, oMax, oMin, oAbs, tb_X5_findFault, p_X5_readOrder, p_X5_readSign, f_X5_readOrder, f_X5_readSign, p_X5_findFault, f_X5_findFault, y0, hU, hr1, y1, o1, hE]
          repeat' (first | exact True.intro | with_reducible assumption | with_reducible refine And.intro ?_ ?_ | intro _)
          all_goals first
            | omega
            | assumption
            | rfl
            | (split <;> omega)
            | (have k9 := ih (by omega)
               (repeat' split at k9) <;> first | exact k9 | omega)
            | (have k9 := ih2 (by omega)
               (repeat' split at k9) <;> first | exact k9 | omega)
            | exact he (by omega)
            | ((with_reducible congr 1) <;> omega)
            | (rw [if_pos (by omega)] at he; exact he)
            | exact hD1 (by omega)
            | exact hD2 (by omega)
            | grind
            | skip
        · rw [if_neg c] at he
          have hg := kG_S (s := 59) (by decide) u1 o1
          have o2 := (kG_S (s := 59) (by decide)).ok o1
          have l1 := o1.2.1
          generalize hr2 : kS 59 u1 = r2 at *
          obtain ⟨u2, b2⟩ := r2
          dsimp only at hg he o2
          have y2 := sS_83 o2.1
          rcases hg.2.1 with rfl | rfl
          · rw [if_pos rfl] at he
            subst he
            clear ih
            refine hZ (fun u => Nat.beq u 7) 14 7 _ _ _ _ _ ?_
            simp only [sm_run, sm_blk, sm_get, sm_ent, sm_ents, sm_wds, sm_wd, sm_nl, sm_pop, sm_back, sm_cases, oK, oLK, oL, oI, oA, oJ, oIs, oAs, oJs, oInc, oAdd, oSub, oMul, oDiv, oRem, oNeg, oAnd, oAndB, oOr, oShl, oI2c, oI2l, oL2i, oLand, oLor, oLshl, oLshr, oLushr, oLcmp, oDup, oDup2, oPop, oGo, oFg, oEq, oNe, oLt, oGe, oGt, oLe, oEq0, oNe0, oLt0, oGe0, oGt0, oLe0, oSw, oGi, oGr, oPi, oPz, oPr, oLen, oIl, oZl, oCl, oRl, oIst, oZst, oCst, oRst, oCopy, oNew, oNa, oNa2, oObj, oCs, oCv, oCi, oIr, oZr, oVr, Nat.beq, List.getElem?_cons_zero, List.getElem?_cons_succ, List.set_cons_zero, List.set_cons_succ, List.length_cons, List.length_nil, List.nil_append, List.cons_append, List.append_nil, List.replicate_succ, List.replicate_zero, Nat.reduceAdd, Nat.reduceSub, Nat.reduceLT, Nat.reduceLeDiff, Nat.reduceBEq, true_and, and_true, Nat.zero_add, Nat.add_zero, Nat.le_refl, Option.some.injEq, exists_eq_left', true_or, or_true, or_false, false_or, reduceCtorEq, Prod.mk.injEq, Sum.inl.injEq, and_self, false_and, and_false, not_true_eq_false, not_false_eq_true, false_implies, true_implies, sm_r, Int.add_zero, Int.zero_add, wI_wsI, wS_wsI, wR_wsI, wI_wCp, wS_wCp, wR_wCp, Nat.reduceEqDiff, reduceIte, sT_iff, sT_iffC, wIf_ne, ne_eq, Bool.false_or, Bool.true_or, Bool.or_false, Bool.or_true, Bool.or_self, Nat.left_eq_add, Nat.add_eq_left, Nat.add_left_inj, oMax, oMin, oAbs, tb_X5_findFault, p_X5_readOrder, p_X5_readSign, f_X5_readOrder, f_X5_readSign, p_X5_findFault, f_X5_findFault, y0, hU, hr1, y1, o1, hr2, y2, hE]
            repeat' (first | exact True.intro | with_reducible assumption | with_reducible refine And.intro ?_ ?_ | intro _)
            all_goals first
              | omega
              | assumption
              | rfl
              | (split <;> omega)
              | (have k9 := ih (by omega)
                 (repeat' split at k9) <;> first | exact k9 | omega)
              | (have k9 := ih2 (by omega)
                 (repeat' split at k9) <;> first | exact k9 | omega)
              | exact he (by omega)
              | ((with_reducible congr 1) <;> omega)
              | (rw [if_pos (by omega)] at he; exact he)
              | exact hD1 (by omega)
              | exact hD2 (by omega)
              | grind
              | skip
          · rw [if_neg (by decide)] at he
            have ih := ih (n, u2) ⟨by omega, o2, by dsimp only; omega, he⟩ (Nat.lt_succ_self n)
            dsimp only at ih
            clear he
            refine hZ (fun u => Nat.beq u 7) 14 7 _ _ _ _ _ ?_
            simp only [sm_run, sm_blk, sm_get, sm_ent, sm_ents, sm_wds, sm_wd, sm_nl, sm_pop, sm_back, sm_cases, oK, oLK, oL, oI, oA, oJ, oIs, oAs, oJs, oInc, oAdd, oSub, oMul, oDiv, oRem, oNeg, oAnd, oAndB, oOr, oShl, oI2c, oI2l, oL2i, oLand, oLor, oLshl, oLshr, oLushr, oLcmp, oDup, oDup2, oPop, oGo, oFg, oEq, oNe, oLt, oGe, oGt, oLe, oEq0, oNe0, oLt0, oGe0, oGt0, oLe0, oSw, oGi, oGr, oPi, oPz, oPr, oLen, oIl, oZl, oCl, oRl, oIst, oZst, oCst, oRst, oCopy, oNew, oNa, oNa2, oObj, oCs, oCv, oCi, oIr, oZr, oVr, Nat.beq, List.getElem?_cons_zero, List.getElem?_cons_succ, List.set_cons_zero, List.set_cons_succ, List.length_cons, List.length_nil, List.nil_append, List.cons_append, List.append_nil, List.replicate_succ, List.replicate_zero, Nat.reduceAdd, Nat.reduceSub, Nat.reduceLT, Nat.reduceLeDiff, Nat.reduceBEq, true_and, and_true, Nat.zero_add, Nat.add_zero, Nat.le_refl, Option.some.injEq, exists_eq_left', true_or, or_true, or_false, false_or, reduceCtorEq, Prod.mk.injEq, Sum.inl.injEq, and_self, false_and, and_false, not_true_eq_false, not_false_eq_true, false_implies, true_implies, sm_r, Int.add_zero, Int.zero_add, wI_wsI, wS_wsI, wR_wsI, wI_wCp, wS_wCp, wR_wCp, Nat.reduceEqDiff, reduceIte, sT_iff, sT_iffC, wIf_ne, ne_eq, Bool.false_or, Bool.true_or, Bool.or_false, Bool.or_true, Bool.or_self, Nat.left_eq_add, Nat.add_eq_left, Nat.add_left_inj, oMax, oMin, oAbs, tb_X5_findFault, p_X5_readOrder, p_X5_readSign, f_X5_readOrder, f_X5_readSign, p_X5_findFault, f_X5_findFault, y0, hU, hr1, y1, o1, hr2, y2, hcast]
            repeat' (first | exact True.intro | with_reducible assumption | with_reducible refine And.intro ?_ ?_ | intro _)
            all_goals first
              | omega
              | assumption
              | rfl
              | (split <;> omega)
              | (have k9 := ih (by omega)
                 (repeat' split at k9) <;> first | exact k9 | omega)
              | (have k9 := ih2 (by omega)
                 (repeat' split at k9) <;> first | exact k9 | omega)
              | exact he (by omega)
              | ((with_reducible congr 1) <;> omega)
              | (rw [if_pos (by omega)] at he; exact he)
              | exact hD1 (by omega)
              | exact hD2 (by omega)
              | grind
              | skip
    )
  have h9 := hl (80, kF0 w) ⟨Nat.le_refl _, hO, (by show (0 : Int) ≤ 80; decide), hE⟩
  have h9 : Z 7 [some (.inr (.inl 83)), some (.inl 0)] [] (kF0 w) 0 0 := h9
  unfold kF0 at h9
  refine hZ (fun u => Nat.beq u 7) 14 0 _ _ _ _ _ ?_
  simp only [sm_run, sm_blk, sm_get, sm_ent, sm_ents, sm_wds, sm_wd, sm_nl, sm_pop, sm_back, sm_cases, oK, oLK, oL, oI, oA, oJ, oIs, oAs, oJs, oInc, oAdd, oSub, oMul, oDiv, oRem, oNeg, oAnd, oAndB, oOr, oShl, oI2c, oI2l, oL2i, oLand, oLor, oLshl, oLshr, oLushr, oLcmp, oDup, oDup2, oPop, oGo, oFg, oEq, oNe, oLt, oGe, oGt, oLe, oEq0, oNe0, oLt0, oGe0, oGt0, oLe0, oSw, oGi, oGr, oPi, oPz, oPr, oLen, oIl, oZl, oCl, oRl, oIst, oZst, oCst, oRst, oCopy, oNew, oNa, oNa2, oObj, oCs, oCv, oCi, oIr, oZr, oVr, Nat.beq, List.getElem?_cons_zero, List.getElem?_cons_succ, List.set_cons_zero, List.set_cons_succ, List.length_cons, List.length_nil, List.nil_append, List.cons_append, List.append_nil, List.replicate_succ, List.replicate_zero, Nat.reduceAdd, Nat.reduceSub, Nat.reduceLT, Nat.reduceLeDiff, Nat.reduceBEq, true_and, and_true, Nat.zero_add, Nat.add_zero, Nat.le_refl, Option.some.injEq, exists_eq_left', true_or, or_true, or_false, false_or, reduceCtorEq, Prod.mk.injEq, Sum.inl.injEq, and_self, false_and, and_false, not_true_eq_false, not_false_eq_true, false_implies, true_implies, sm_r, Int.add_zero, Int.zero_add, wI_wsI, wS_wsI, wR_wsI, wI_wCp, wS_wCp, wR_wCp, Nat.reduceEqDiff, reduceIte, sT_iff, sT_iffC, wIf_ne, ne_eq, Bool.false_or, Bool.true_or, Bool.or_false, Bool.or_true, Bool.or_self, Nat.left_eq_add, Nat.add_eq_left, Nat.add_left_inj, oMax, oMin, oAbs, tb_X5_findFault, p_X5_readOrder, p_X5_readSign, f_X5_readOrder, f_X5_readSign, p_X5_findFault, f_X5_findFault, sS_83 hT]
  repeat' (first | exact True.intro | with_reducible assumption | with_reducible refine And.intro ?_ ?_ | intro _)
  all_goals first
    | omega
    | assumption
    | rfl
    | (split <;> omega)
    | (have k9 := ih (by omega)
       (repeat' split at k9) <;> first | exact k9 | omega)
    | (have k9 := ih2 (by omega)
       (repeat' split at k9) <;> first | exact k9 | omega)
    | exact he (by omega)
    | ((with_reducible congr 1) <;> omega)
    | (rw [if_pos (by omega)] at he; exact he)
    | exact hD1 (by omega)
    | exact hD2 (by omega)
    | skip

theorem met_X5_findFault (l : Launch) : sm_Met l yX5_findFault cX5_findFault 2 (some .int) 5 0 0 p_X5_findFault f_X5_findFault := sm_met 1 (Or.inr (Or.inl ⟨rfl, rfl⟩)) (by decide +kernel) (sn_X5_findFault l) ok_X5_findFault