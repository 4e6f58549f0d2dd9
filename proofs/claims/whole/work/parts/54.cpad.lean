/-! THE CLASS: the pad -/
theorem b255n (x : Int64) : (x &&& 255).toInt32.toInt = ((x.toBitVec.toNat % 256 : Nat) : Int) := by
  have h : ((x &&& 255).toInt32.toBitVec).toNat = x.toBitVec.toNat % 256 := by
    rw [Int64.toBitVec_toInt32, BitVec.signExtend_eq_setWidth_of_le _ (by decide), BitVec.toNat_setWidth, Int64.toBitVec_and, BitVec.toNat_and]
    have e : (255 : Int64).toBitVec.toNat = 255 := rfl
    have e2 := Nat.and_two_pow_sub_one_eq_mod x.toBitVec.toNat 8
    simp only [Nat.reducePow, Nat.reduceSub] at e2
    rw [e, e2]
    omega
  show ((x &&& 255).toInt32.toBitVec).toInt = _
  rw [BitVec.toInt_eq_toNat_of_lt (by rw [h]; omega), h]
theorem b255 (x : Int64) : 0 ≤ (x &&& 255).toInt32.toInt ∧ (x &&& 255).toInt32.toInt ≤ 255 := by
  rw [b255n]
  omega
def kC : Nat → Int64 → Int → Int
  | 0, _, k => k
  | n + 1, r, k => if (lg_cmp r 0).toInt = 0 then k else (if (lg_cmp (r &&& 255) 33).toInt < 0 then 0 else (if 0 < (lg_cmp (r &&& 255) 126).toInt then 0 else kC n (xS r) (k + 1)))
theorem kC_s (n : Nat) (r : Int64) (k : Int) : kC (n + 1) r k = if (lg_cmp r 0).toInt = 0 then k else (if (lg_cmp (r &&& 255) 33).toInt < 0 then 0 else (if 0 < (lg_cmp (r &&& 255) 126).toInt then 0 else kC n (xS r) (k + 1))) := rfl
theorem kC_b : ∀ (n : Nat) (r : Int64) (k : Int), 0 ≤ k → 0 ≤ kC n r k ∧ kC n r k ≤ k + n
  | 0, _, k, h => ⟨h, by show k ≤ k + ((0 : Nat) : Int); omega⟩
  | n + 1, r, k, h => by
    rw [kC_s]
    split
    · omega
    · split
      · omega
      · split
        · omega
        · have := kC_b n (xS r) (k + 1) (by omega)
          omega
def p_X5_charactersIn : List sm_V → sm_W → Prop
  | [.inr (.inr c)], w => True
  | _, _ => False
def f_X5_charactersIn : sm_F
  | [.inr (.inr c)], w => (some (.inl (kC 8 c 0)), w)
  | _, w => (none, w)
def tb_X5_charactersIn : List (Nat × List sm_O) := [(0, [oJ 0, oJs 2, oK 0, oIs 4, oK 0, oIs 5, oGo 8]),
  (8, [oI 5, oK 8, oGe 62, oJ 2, oLK 0, oLcmp, oEq0 62, oJ 2, oLK 255, oLand, oJs 6, oJ 6, oLK 33, oLcmp, oLt0 46, oJ 6, oLK 126, oLcmp, oLe0 48, oGo 46]),
  (46, [oK 0, oIr]),
  (48, [oJ 2, oK 8, oLushr, oJs 2, oInc 4 1, oInc 5 1, oGo 8]),
  (62, [oI 4, oIr])]
set_option maxRecDepth 100000 in
theorem sb_X5_charactersIn_0 (l : Launch) : sm_SndB l RX5 "charactersIn" cX5_charactersIn 8 1 0 0 [oJ 0, oJs 2, oK 0, oIs 4, oK 0, oIs 5, oGo 8] := sb_cons (sd_lload_n (by decide +kernel : decode cX5_charactersIn 0 = .ok (.lload_n 0, 1)) rfl) (sb_cons (sd_lstore_n (by decide +kernel : decode cX5_charactersIn 1 = .ok (.lstore_n 2, 1)) rfl) (sb_cons (sd_iconst (by decide +kernel : decode cX5_charactersIn 2 = .ok (.iconst 0, 1)) ⟨by decide, by decide⟩) (sb_cons (sd_istore (by decide +kernel : decode cX5_charactersIn 3 = .ok (.istore 4, 2))) (sb_cons (sd_iconst (by decide +kernel : decode cX5_charactersIn 5 = .ok (.iconst 0, 1)) ⟨by decide, by decide⟩) (sb_cons (sd_istore (by decide +kernel : decode cX5_charactersIn 6 = .ok (.istore 5, 2))) (sb_cons (sd_fall (x := 0)) sb_nil))))))
set_option maxRecDepth 100000 in
theorem sb_X5_charactersIn_8 (l : Launch) : sm_SndB l RX5 "charactersIn" cX5_charactersIn 8 1 0 8 [oI 5, oK 8, oGe 62, oJ 2, oLK 0, oLcmp, oEq0 62, oJ 2, oLK 255, oLand, oJs 6, oJ 6, oLK 33, oLcmp, oLt0 46, oJ 6, oLK 126, oLcmp, oLe0 48, oGo 46] := sb_cons (sd_iload (by decide +kernel : decode cX5_charactersIn 8 = .ok (.iload 5, 2))) (sb_cons (sd_bipush (by decide +kernel : decode cX5_charactersIn 10 = .ok (.bipush 8, 2)) ⟨by decide, by decide⟩ (by decide)) (sb_cons (sd_ge (by decide +kernel : decode cX5_charactersIn 12 = .ok (.if_icmp .ge 50, 3)) (by decide)) (sb_cons (sd_lload_n (by decide +kernel : decode cX5_charactersIn 15 = .ok (.lload_n 2, 1)) rfl) (sb_cons (sd_lconst (by decide +kernel : decode cX5_charactersIn 16 = .ok (.lconst 0, 1)) rfl) (sb_cons (sd_lcmp (by decide +kernel : decode cX5_charactersIn 17 = .ok (.lcmp, 1))) (sb_cons (sd_eq0 (by decide +kernel : decode cX5_charactersIn 18 = .ok (.ifCond .eq 44, 3)) (by decide)) (sb_cons (sd_lload_n (by decide +kernel : decode cX5_charactersIn 21 = .ok (.lload_n 2, 1)) rfl) (sb_cons (sd_ldc2 wm_566 (by decide +kernel : decode cX5_charactersIn 22 = .ok (.ldc2_w 19, 3))) (sb_cons (sd_land (by decide +kernel : decode cX5_charactersIn 25 = .ok (.land, 1))) (sb_cons (sd_lstore (by decide +kernel : decode cX5_charactersIn 26 = .ok (.lstore 6, 2))) (sb_cons (sd_lload (by decide +kernel : decode cX5_charactersIn 28 = .ok (.lload 6, 2))) (sb_cons (sd_ldc2 wm_568 (by decide +kernel : decode cX5_charactersIn 30 = .ok (.ldc2_w 21, 3))) (sb_cons (sd_lcmp (by decide +kernel : decode cX5_charactersIn 33 = .ok (.lcmp, 1))) (sb_cons (sd_lt0 (by decide +kernel : decode cX5_charactersIn 34 = .ok (.ifCond .lt 12, 3)) (by decide)) (sb_cons (sd_lload (by decide +kernel : decode cX5_charactersIn 37 = .ok (.lload 6, 2))) (sb_cons (sd_ldc2 wm_570 (by decide +kernel : decode cX5_charactersIn 39 = .ok (.ldc2_w 23, 3))) (sb_cons (sd_lcmp (by decide +kernel : decode cX5_charactersIn 42 = .ok (.lcmp, 1))) (sb_cons (sd_le0 (by decide +kernel : decode cX5_charactersIn 43 = .ok (.ifCond .le 5, 3)) (by decide)) (sb_cons (sd_fall (x := 0)) sb_nil)))))))))))))))))))
set_option maxRecDepth 100000 in
theorem sb_X5_charactersIn_46 (l : Launch) : sm_SndB l RX5 "charactersIn" cX5_charactersIn 8 1 0 46 [oK 0, oIr] := sb_cons (sd_iconst (by decide +kernel : decode cX5_charactersIn 46 = .ok (.iconst 0, 1)) ⟨by decide, by decide⟩) (sb_cons (sd_ireturn (x := 0) rfl (by decide +kernel : decode cX5_charactersIn 47 = .ok (.ireturn, 1))) sb_nil)
set_option maxRecDepth 100000 in
theorem sb_X5_charactersIn_48 (l : Launch) : sm_SndB l RX5 "charactersIn" cX5_charactersIn 8 1 0 48 [oJ 2, oK 8, oLushr, oJs 2, oInc 4 1, oInc 5 1, oGo 8] := sb_cons (sd_lload_n (by decide +kernel : decode cX5_charactersIn 48 = .ok (.lload_n 2, 1)) rfl) (sb_cons (sd_bipush (by decide +kernel : decode cX5_charactersIn 49 = .ok (.bipush 8, 2)) ⟨by decide, by decide⟩ (by decide)) (sb_cons (sd_lushr (by decide +kernel : decode cX5_charactersIn 51 = .ok (.lushr, 1))) (sb_cons (sd_lstore_n (by decide +kernel : decode cX5_charactersIn 52 = .ok (.lstore_n 2, 1)) rfl) (sb_cons (sd_iinc (by decide +kernel : decode cX5_charactersIn 53 = .ok (.iinc 4 1, 3))) (sb_cons (sd_iinc (by decide +kernel : decode cX5_charactersIn 56 = .ok (.iinc 5 1, 3))) (sb_cons (sd_goto (x := 0) (by decide +kernel : decode cX5_charactersIn 59 = .ok (.goto (-51), 3)) (by decide)) sb_nil))))))
set_option maxRecDepth 100000 in
theorem sb_X5_charactersIn_62 (l : Launch) : sm_SndB l RX5 "charactersIn" cX5_charactersIn 8 1 0 62 [oI 4, oIr] := sb_cons (sd_iload (by decide +kernel : decode cX5_charactersIn 62 = .ok (.iload 4, 2))) (sb_cons (sd_ireturn (x := 0) rfl (by decide +kernel : decode cX5_charactersIn 64 = .ok (.ireturn, 1))) sb_nil)
theorem sn_X5_charactersIn (l : Launch) : sm_SndT l RX5 "charactersIn" cX5_charactersIn 8 1 0 tb_X5_charactersIn := st_cons (sb_X5_charactersIn_0 l) (st_cons (sb_X5_charactersIn_8 l) (st_cons (sb_X5_charactersIn_46 l) (st_cons (sb_X5_charactersIn_48 l) (st_cons (sb_X5_charactersIn_62 l) (st_nil)))))
set_option maxRecDepth 100000 in
set_option maxHeartbeats 4000000 in
theorem ok_X5_charactersIn : sm_Ok tb_X5_charactersIn 8 0 0 p_X5_charactersIn f_X5_charactersIn := by
  intro as w hp ha hw
  match as, hp with
  | [.inr (.inr c)], hp =>
  refine ⟨Nat.le_of_ble_eq_true rfl, fun Z hZ => ?_⟩
  generalize hE : kC 8 c 0 = E at *
  have hl := sm_loopM (S := Nat × Int64 × Int × Option sm_V) Z 8 (fun s => s.1) (fun s => s.1 ≤ 8 ∧ 0 ≤ s.2.2.1 ∧ s.2.2.1 ≤ 8 - s.1 ∧ kC s.1 s.2.1 s.2.2.1 = E) (fun s => [some (.inr (.inr c)), none, some (.inr (.inr s.2.1)), none, some (.inl s.2.2.1), some (.inl (8 - s.1)), s.2.2.2, none]) (fun _ => w) 0 0 (fun s hI ih => by
    obtain ⟨n, r, k, l6⟩ := s
    dsimp only at hI ih ⊢
    obtain ⟨i1, k0, k1, he⟩ := hI
    cases n with
    | zero =>
      have he : k = E := he
      clear ih
      refine hZ (fun u => Nat.beq u 8) 14 8 _ _ _ _ _ ?_
      simp only [sm_run, sm_blk, sm_get, sm_ent, sm_ents, sm_wds, sm_wd, sm_nl, sm_pop, sm_back, sm_cases, oK, oLK, oL, oI, oA, oJ, oIs, oAs, oJs, oInc, oAdd, oSub, oMul, oDiv, oRem, oNeg, oAnd, oAndB, oOr, oShl, oI2c, oI2l, oL2i, oLand, oLor, oLshl, oLshr, oLushr, oLcmp, oDup, oDup2, oPop, oGo, oFg, oEq, oNe, oLt, oGe, oGt, oLe, oEq0, oNe0, oLt0, oGe0, oGt0, oLe0, oSw, oGi, oGr, oPi, oPz, oPr, oLen, oIl, oZl, oCl, oRl, oIst, oZst, oCst, oRst, oCopy, oNew, oNa, oNa2, oObj, oCs, oCv, oCi, oIr, oZr, oVr, Nat.beq, List.getElem?_cons_zero, List.getElem?_cons_succ, List.set_cons_zero, List.set_cons_succ, List.length_cons, List.length_nil, List.nil_append, List.cons_append, List.append_nil, List.replicate_succ, List.replicate_zero, Nat.reduceAdd, Nat.reduceSub, Nat.reduceLT, Nat.reduceLeDiff, Nat.reduceBEq, true_and, and_true, Nat.zero_add, Nat.add_zero, Nat.le_refl, Option.some.injEq, exists_eq_left', true_or, or_true, or_false, false_or, reduceCtorEq, Prod.mk.injEq, Sum.inl.injEq, and_self, false_and, and_false, not_true_eq_false, not_false_eq_true, false_implies, true_implies, sm_r, Int.add_zero, Int.zero_add, wI_wsI, wS_wsI, wR_wsI, wI_wCp, wS_wCp, wR_wCp, Nat.reduceEqDiff, reduceIte, sT_iff, sT_iffC, wIf_ne, ne_eq, Bool.false_or, Bool.true_or, Bool.or_false, Bool.or_true, Bool.or_self, Nat.left_eq_add, Nat.add_eq_left, Nat.add_left_inj, oMax, oMin, oAbs, tb_X5_charactersIn, p_X5_charactersIn, f_X5_charactersIn, hE]
      repeat' (first | exact True.intro | with_reducible assumption | with_reducible refine And.intro ?_ ?_ | intro _)
      all_goals first
        | omega
        | assumption
        | rfl
        | (split <;> omega)
        | (have k9 := ih (by omega)
           (repeat' split at k9) <;> first | exact k9 | omega)
        | (have k9 := ih2 (by omega)
           (repeat' split at k9) <;> first | exact k9 | omega)
        | exact he (by omega)
        | ((with_reducible congr 1) <;> omega)
        | (rw [if_pos (by omega)] at he; exact he)
        | exact hD1 (by omega)
        | exact hD2 (by omega)
        | grind
        | skip
    | succ n =>
      rw [kC_s] at he
      have hcast : (8 : Int) - ((n + 1 : Nat) : Int) + 1 = 8 - (n : Int) := by omega
      by_cases c1 : (lg_cmp r 0).toInt = 0
      · rw [if_pos c1] at he
        clear ih
        refine hZ (fun u => Nat.beq u 8) 14 8 _ _ _ _ _ ?_
        simp only [sm_run, sm_blk, sm_get, sm_ent, sm_ents, sm_wds, sm_wd, sm_nl, sm_pop, sm_back, sm_cases, oK, oLK, oL, oI, oA, oJ, oIs, oAs, oJs, oInc, oAdd, oSub, oMul, oDiv, oRem, oNeg, oAnd, oAndB, oOr, oShl, oI2c, oI2l, oL2i, oLand, oLor, oLshl, oLshr, oLushr, oLcmp, oDup, oDup2, oPop, oGo, oFg, oEq, oNe, oLt, oGe, oGt, oLe, oEq0, oNe0, oLt0, oGe0, oGt0, oLe0, oSw, oGi, oGr, oPi, oPz, oPr, oLen, oIl, oZl, oCl, oRl, oIst, oZst, oCst, oRst, oCopy, oNew, oNa, oNa2, oObj, oCs, oCv, oCi, oIr, oZr, oVr, Nat.beq, List.getElem?_cons_zero, List.getElem?_cons_succ, List.set_cons_zero, List.set_cons_succ, List.length_cons, List.length_nil, List.nil_append, List.cons_append, List.append_nil, List.replicate_succ, List.replicate_zero, Nat.reduceAdd, Nat.reduceSub, Nat.reduceLT, Nat.reduceLeDiff, Nat.reduceBEq, true_and, and_true, Nat.zero_add, Nat.add_zero, Nat.le_refl, Option.some.injEq, exists_eq_left', true_or, or_true, or_false, false_or, reduceCtorEq, Prod.mk.injEq, Sum.inl.injEq, and_self, false_and, and_false, not_true_eq_false, not_false_eq_true, false_implies, true_implies, sm_r, Int.add_zero, Int.zero_add, wI_wsI, wS_wsI, wR_wsI, wI_wCp, wS_wCp, wR_wCp, Nat.reduceEqDiff, reduceIte, sT_iff, sT_iffC, wIf_ne, ne_eq, Bool.false_or, Bool.true_or, Bool.or_false, Bool.or_true, Bool.or_self, Nat.left_eq_add, Nat.add_eq_left, Nat.add_left_inj, oMax, oMin, oAbs, tb_X5_charactersIn, p_X5_charactersIn, f_X5_charactersIn, hE]
        repeat' (first | exact True.intro | with_reducible assumption | with_reducible refine And.intro ?_ ?_ | intro _)
        all_goals first
          | omega
          | assumption
          | rfl
          | (split <;> omega)
          | (have k9 := ih (by omega)
             (repeat' split at k9) <;> first | exact k9 | omega)
          | (have k9 := ih2 (by omega)
             (repeat' split at k9) <;> first | exact k9 | omega)
          | exact he (by omega)
          | ((with_reducible congr 1) <;> omega)
          | (rw [if_pos (by omega)] at he; exact he)
          | exact hD1 (by omega)
          | exact hD2 (by omega)
          | grind
          | skip
      · rw [if_neg c1] at he
        by_cases c2 : (lg_cmp (r &&& 255) 33).toInt < 0
        · rw [if_pos c2] at he
          clear ih
          refine hZ (fun u => Nat.beq u 8) 14 8 _ _ _ _ _ ?_
          simp only [sm_run, sm_blk, sm_get, sm_ent, sm_ents, sm_wds, sm_wd, sm_nl, sm_pop, sm_back, sm_cases, oK, oLK, oL, oI, oA, oJ, oIs, oAs, oJs, oInc, oAdd, oSub, oMul, oDiv, oRem, oNeg, oAnd, oAndB, oOr, oShl, oI2c, oI2l, oL2i, oLand, oLor, oLshl, oLshr, oLushr, oLcmp, oDup, oDup2, oPop, oGo, oFg, oEq, oNe, oLt, oGe, oGt, oLe, oEq0, oNe0, oLt0, oGe0, oGt0, oLe0, oSw, oGi, oGr, oPi, oPz, oPr, oLen, oIl, oZl, oCl, oRl, oIst, oZst, oCst, oRst, oCopy, oNew, oNa, oNa2, oObj, oCs, oCv, oCi, oIr, oZr, oVr, Nat.beq, List.getElem?_cons_zero, List.getElem?_cons_succ, List.set_cons_zero, List.set_cons_succ, List.length_cons, List.length_nil, List.nil_append, List.cons_append, List.append_nil, List.replicate_succ, List.replicate_zero, Nat.reduceAdd, Nat.reduceSub, Nat.reduceLT, Nat.reduceLeDiff, Nat.reduceBEq, true_and, and_true, Nat.zero_add, Nat.add_zero, Nat.le_refl, Option.some.injEq, exists_eq_left', true_or, or_true, or_false, false_or, reduceCtorEq, Prod.mk.injEq, Sum.inl.injEq, and_self, false_and, and_false, not_true_eq_false, not_false_eq_true, false_implies, true_implies, sm_r, Int.add_zero, Int.zero_add, wI_wsI, wS_wsI, wR_wsI, wI_wCp, wS_wCp, wR_wCp, Nat.reduceEqDiff, reduceIte, sT_iff, sT_iffC, wIf_ne, ne_eq, Bool.false_or, Bool.true_or, Bool.or_false, Bool.or_true, Bool.or_self, Nat.left_eq_add, Nat.add_eq_left, Nat.add_left_inj, oMax, oMin, oAbs, tb_X5_charactersIn, p_X5_charactersIn, f_X5_charactersIn, hE]
          repeat' (first | exact True.intro | with_reducible assumption | with_reducible refine And.intro ?_ ?_ | intro _)
          all_goals first
            | omega
            | assumption
            | rfl
            | (split <;> omega)
            | (have k9 := ih (by omega)
               (repeat' split at k9) <;> first | exact k9 | omega)
            | (have k9 := ih2 (by omega)
               (repeat' split at k9) <;> first | exact k9 | omega)
            | exact he (by omega)
            | ((with_reducible congr 1) <;> omega)
            | (rw [if_pos (by omega)] at he; exact he)
            | exact hD1 (by omega)
            | exact hD2 (by omega)
            | grind
            | skip
        · rw [if_neg c2] at he
          by_cases c3 : 0 < (lg_cmp (r &&& 255) 126).toInt
          · rw [if_pos c3] at he
            clear ih
            refine hZ (fun u => Nat.beq u 8) 14 8 _ _ _ _ _ ?_
            simp only [sm_run, sm_blk, sm_get, sm_ent, sm_ents, sm_wds, sm_wd, sm_nl, sm_pop, sm_back, sm_cases, oK, oLK, oL, oI, oA, oJ, oIs, oAs, oJs, oInc, oAdd, oSub, oMul, oDiv, oRem, oNeg, oAnd, oAndB, oOr, oShl, oI2c, oI2l, oL2i, oLand, oLor, oLshl, oLshr, oLushr, oLcmp, oDup, oDup2, oPop, oGo, oFg, oEq, oNe, oLt, oGe, oGt, oLe, oEq0, oNe0, oLt0, oGe0, oGt0, oLe0, oSw, oGi, oGr, oPi, oPz, oPr, oLen, oIl, oZl, oCl, oRl, oIst, oZst, oCst, oRst, oCopy, oNew, oNa, oNa2, oObj, oCs, oCv, oCi, oIr, oZr, oVr, Nat.beq, List.getElem?_cons_zero, List.getElem?_cons_succ, List.set_cons_zero, List.set_cons_succ, List.length_cons, List.length_nil, List.nil_append, List.cons_append, List.append_nil, List.replicate_succ, List.replicate_zero, Nat.reduceAdd, Nat.reduceSub, Nat.reduceLT, Nat.reduceLeDiff, Nat.reduceBEq, true_and, and_true, Nat.zero_add, Nat.add_zero, Nat.le_refl, Option.some.injEq, exists_eq_left', true_or, or_true, or_false, false_or, reduceCtorEq, Prod.mk.injEq, Sum.inl.injEq, and_self, false_and, and_false, not_true_eq_false, not_false_eq_true, false_implies, true_implies, sm_r, Int.add_zero, Int.zero_add, wI_wsI, wS_wsI, wR_wsI, wI_wCp, wS_wCp, wR_wCp, Nat.reduceEqDiff, reduceIte, sT_iff, sT_iffC, wIf_ne, ne_eq, Bool.false_or, Bool.true_or, Bool.or_false, Bool.or_true, Bool.or_self, Nat.left_eq_add, Nat.add_eq_left, Nat.add_left_inj, oMax, oMin, oAbs, tb_X5_charactersIn, p_X5_charactersIn, f_X5_charactersIn, hE]
            repeat' (first | exact True.intro | with_reducible assumption | with_reducible refine And.intro ?_ ?_ | intro _)
            all_goals first
              | omega
              | assumption
              | rfl
              | (split <;> omega)
              | (have k9 := ih (by omega)
                 (repeat' split at k9) <;> first | exact k9 | omega)
              | (have k9 := ih2 (by omega)
                 (repeat' split at k9) <;> first | exact k9 | omega)
              | exact he (by omega)
              | ((with_reducible congr 1) <;> omega)
              | (rw [if_pos (by omega)] at he; exact he)
              | exact hD1 (by omega)
              | exact hD2 (by omega)
              | grind
              | skip
          · rw [if_neg c3] at he
            have ih := ih (n, xS r, k + 1, some (.inr (.inr (r &&& 255)))) ⟨by omega, by dsimp only; omega, by dsimp only; omega, he⟩ (Nat.lt_succ_self n)
            dsimp only at ih
            unfold xS at ih
            refine hZ (fun u => Nat.beq u 8) 14 8 _ _ _ _ _ ?_
            simp only [sm_run, sm_blk, sm_get, sm_ent, sm_ents, sm_wds, sm_wd, sm_nl, sm_pop, sm_back, sm_cases, oK, oLK, oL, oI, oA, oJ, oIs, oAs, oJs, oInc, oAdd, oSub, oMul, oDiv, oRem, oNeg, oAnd, oAndB, oOr, oShl, oI2c, oI2l, oL2i, oLand, oLor, oLshl, oLshr, oLushr, oLcmp, oDup, oDup2, oPop, oGo, oFg, oEq, oNe, oLt, oGe, oGt, oLe, oEq0, oNe0, oLt0, oGe0, oGt0, oLe0, oSw, oGi, oGr, oPi, oPz, oPr, oLen, oIl, oZl, oCl, oRl, oIst, oZst, oCst, oRst, oCopy, oNew, oNa, oNa2, oObj, oCs, oCv, oCi, oIr, oZr, oVr, Nat.beq, List.getElem?_cons_zero, List.getElem?_cons_succ, List.set_cons_zero, List.set_cons_succ, List.length_cons, List.length_nil, List.nil_append, List.cons_append, List.append_nil, List.replicate_succ, List.replicate_zero, Nat.reduceAdd, Nat.reduceSub, Nat.reduceLT, Nat.reduceLeDiff, Nat.reduceBEq, true_and, and_true, Nat.zero_add, Nat.add_zero, Nat.le_refl, Option.some.injEq, exists_eq_left', true_or, or_true, or_false, false_or, reduceCtorEq, Prod.mk.injEq, Sum.inl.injEq, and_self, false_and, and_false, not_true_eq_false, not_false_eq_true, false_implies, true_implies, sm_r, Int.add_zero, Int.zero_add, wI_wsI, wS_wsI, wR_wsI, wI_wCp, wS_wCp, wR_wCp, Nat.reduceEqDiff, reduceIte, sT_iff, sT_iffC, wIf_ne, ne_eq, Bool.false_or, Bool.true_or, Bool.or_false, Bool.or_true, Bool.or_self, Nat.left_eq_add, Nat.add_eq_left, Nat.add_left_inj, oMax, oMin, oAbs, tb_X5_charactersIn, p_X5_charactersIn, f_X5_charactersIn, hE, hcast]
            repeat' (first | exact True.intro | with_reducible assumption | with_reducible refine And.intro ?_ ?_ | intro _)
            all_goals first
              | omega
              | assumption
              | rfl
              | (split <;> omega)
              | (have k9 := ih (by omega)
                 (repeat' split at k9) <;> first | exact k9 | omega)
              | (have k9 := ih2 (by omega)
                 (repeat' split at k9) <;> first | exact k9 | omega)
              | exact he (by omega)
              | ((with_reducible congr 1) <;> omega)
              | (rw [if_pos (by omega)] at he; exact he)
              | exact hD1 (by omega)
              | exact hD2 (by omega)
              | grind
              | skip
    )
  have h9 := hl (8, c, 0, none) ⟨Nat.le_refl _, Int.le_refl _, Int.le_refl _, hE⟩
  have h9 : Z 8 [some (.inr (.inr c)), none, some (.inr (.inr c)), none, some (.inl 0), some (.inl 0), none, none] [] w 0 0 := h9
  refine hZ (fun u => Nat.beq u 8) 14 0 _ _ _ _ _ ?_
  simp only [sm_run, sm_blk, sm_get, sm_ent, sm_ents, sm_wds, sm_wd, sm_nl, sm_pop, sm_back, sm_cases, oK, oLK, oL, oI, oA, oJ, oIs, oAs, oJs, oInc, oAdd, oSub, oMul, oDiv, oRem, oNeg, oAnd, oAndB, oOr, oShl, oI2c, oI2l, oL2i, oLand, oLor, oLshl, oLshr, oLushr, oLcmp, oDup, oDup2, oPop, oGo, oFg, oEq, oNe, oLt, oGe, oGt, oLe, oEq0, oNe0, oLt0, oGe0, oGt0, oLe0, oSw, oGi, oGr, oPi, oPz, oPr, oLen, oIl, oZl, oCl, oRl, oIst, oZst, oCst, oRst, oCopy, oNew, oNa, oNa2, oObj, oCs, oCv, oCi, oIr, oZr, oVr, Nat.beq, List.getElem?_cons_zero, List.getElem?_cons_succ, List.set_cons_zero, List.set_cons_succ, List.length_cons, List.length_nil, List.nil_append, List.cons_append, List.append_nil, List.replicate_succ, List.replicate_zero, Nat.reduceAdd, Nat.reduceSub, Nat.reduceLT, Nat.reduceLeDiff, Nat.reduceBEq, true_and, and_true, Nat.zero_add, Nat.add_zero, Nat.le_refl, Option.some.injEq, exists_eq_left', true_or, or_true, or_false, false_or, reduceCtorEq, Prod.mk.injEq, Sum.inl.injEq, and_self, false_and, and_false, not_true_eq_false, not_false_eq_true, false_implies, true_implies, sm_r, Int.add_zero, Int.zero_add, wI_wsI, wS_wsI, wR_wsI, wI_wCp, wS_wCp, wR_wCp, Nat.reduceEqDiff, reduceIte, sT_iff, sT_iffC, wIf_ne, ne_eq, Bool.false_or, Bool.true_or, Bool.or_false, Bool.or_true, Bool.or_self, Nat.left_eq_add, Nat.add_eq_left, Nat.add_left_inj, oMax, oMin, oAbs, tb_X5_charactersIn, p_X5_charactersIn, f_X5_charactersIn]
  repeat' (first | exact True.intro | with_reducible assumption | with_reducible refine And.intro ?_ ?_ | intro _)
  all_goals first
    | omega
    | assumption
    | rfl
    | (split <;> omega)
    | (have k9 := ih (by omega)
       (repeat' split at k9) <;> first | exact k9 | omega)
    | (have k9 := ih2 (by omega)
       (repeat' split at k9) <;> first | exact k9 | omega)
    | exact he (by omega)
    | ((with_reducible congr 1) <;> omega)
    | (rw [if_pos (by omega)] at he; exact he)
    | exact hD1 (by omega)
    | exact hD2 (by omega)
    | skip
theorem met_X5_charactersIn (l : Launch) : sm_Met l yX5_charactersIn cX5_charactersIn 8 (some .int) 0 0 0 p_X5_charactersIn f_X5_charactersIn := sm_met 1 (Or.inr (Or.inl ⟨rfl, rfl⟩)) (by decide +kernel) (sn_X5_charactersIn l) ok_X5_charactersIn
def kAt (c : Int64) (p : Int) : Int := ((c.toUInt64 >>> ((Int32.ofInt (8 * p)).toInt64.toUInt64 &&& Int64.toUInt64 63)).toInt64 &&& 255).toInt32.toInt
def kAp1 (c : Int64) (n b i : Int) (w : sm_W) : sm_W := wsI (wsI w 84 (b + i) (kAt c (n - 1 - i))) 83 0 (b + i + 1)
def kApp (w : sm_W) (c : Int64) (n : Int) : sm_W := itI (kAp1 c n (wI w 83 0)) w n
theorem kApL (c : Int64) (n : Int) (w : sm_W) (i : Int) (i0 : 0 ≤ i) : sFr (fun a j _ => (a = 83 ∧ j = 0) ∨ a = 84) w (itI (kAp1 c n (wI w 83 0)) w i) ∧ wI (itI (kAp1 c n (wI w 83 0)) w i) 83 0 = wI w 83 0 + i := by
  refine itI_ind (f := kAp1 c n (wI w 83 0)) (fun i r => sFr (fun a j _ => (a = 83 ∧ j = 0) ∨ a = 84) w r ∧ wI r 83 0 = wI w 83 0 + i) i ⟨sFr.refl w, by omega⟩ (fun i r j0 _ hr => ⟨(hr.1.st (Or.inr rfl)).st (Or.inl ⟨rfl, rfl⟩), ?_⟩) i i0 (Int.le_refl _)
  unfold kAp1
  rw [wI_wsI, if_pos ⟨rfl, rfl⟩]
  omega
def p_X5_append : List sm_V → sm_W → Prop
  | [.inr (.inl o), .inr (.inr c), .inl n], w => o = 83 ∧ sT w ∧ 0 ≤ n ∧ n ≤ 8 ∧ 0 ≤ wI w 83 0 ∧ wI w 83 0 ≤ 80
  | _, _ => False
def f_X5_append : sm_F
  | [.inr (.inl o), .inr (.inr c), .inl n], w => (some (.inl (if 80 < wI w 83 0 + n then -4 else wI w 83 0 + n)), (if 80 < wI w 83 0 + n then w else kApp w c n))
  | _, w => (none, w)
def tb_X5_append : List (Nat × List sm_O) := [(0, [oA 0, oGi 5 5 0, oI 3, oAdd, oK 80, oLe 14, oK (-4), oIr]),
  (14, [oI 3, oK 1, oSub, oIs 4, oFg 3, oGo 19]),
  (19, [oI 4, oLt0 62, oA 0, oGr 5 5 1, oA 0, oGi 5 5 0, oJ 1, oK 8, oI 4, oMul, oLushr, oLK 255, oLand, oL2i, oI2c, oCst, oA 0, oDup, oGi 5 5 0, oK 1, oAdd, oPi 5 5 0, oInc 4 (-1), oFg 3, oGo 19]),
  (62, [oA 0, oGi 5 5 0, oIr])]
set_option maxRecDepth 100000 in
theorem sb_X5_append_0 (l : Launch) : sm_SndB l RX5 "append" cX5_append 5 1 0 0 [oA 0, oGi 5 5 0, oI 3, oAdd, oK 80, oLe 14, oK (-4), oIr] := sb_cons (sd_aload_n (by decide +kernel : decode cX5_append 0 = .ok (.aload_n 0, 1)) rfl) (sb_cons (sd_geti (k := 0) kl_5 (by decide) rfl wm_126 (by decide +kernel : decode cX5_append 1 = .ok (.getfield 25, 3))) (sb_cons (sd_iload_n (by decide +kernel : decode cX5_append 4 = .ok (.iload_n 3, 1)) rfl) (sb_cons (sd_iadd (by decide +kernel : decode cX5_append 5 = .ok (.iadd, 1))) (sb_cons (sd_bipush (by decide +kernel : decode cX5_append 6 = .ok (.bipush 80, 2)) ⟨by decide, by decide⟩ (by decide)) (sb_cons (sd_le (by decide +kernel : decode cX5_append 8 = .ok (.if_icmp .le 6, 3)) (by decide)) (sb_cons (sd_bipush (by decide +kernel : decode cX5_append 11 = .ok (.bipush (-4), 2)) ⟨by decide, by decide⟩ (by decide)) (sb_cons (sd_ireturn (x := 0) rfl (by decide +kernel : decode cX5_append 13 = .ok (.ireturn, 1))) sb_nil)))))))
set_option maxRecDepth 100000 in
theorem sb_X5_append_14 (l : Launch) : sm_SndB l RX5 "append" cX5_append 5 1 0 14 [oI 3, oK 1, oSub, oIs 4, oFg 3, oGo 19] := sb_cons (sd_iload_n (by decide +kernel : decode cX5_append 14 = .ok (.iload_n 3, 1)) rfl) (sb_cons (sd_iconst (by decide +kernel : decode cX5_append 15 = .ok (.iconst 1, 1)) ⟨by decide, by decide⟩) (sb_cons (sd_isub (by decide +kernel : decode cX5_append 16 = .ok (.isub, 1))) (sb_cons (sd_istore (by decide +kernel : decode cX5_append 17 = .ok (.istore 4, 2))) (sb_cons (sd_fg) (sb_cons (sd_fall (x := 0)) sb_nil)))))
set_option maxRecDepth 100000 in
theorem sb_X5_append_19 (l : Launch) : sm_SndB l RX5 "append" cX5_append 5 1 0 19 [oI 4, oLt0 62, oA 0, oGr 5 5 1, oA 0, oGi 5 5 0, oJ 1, oK 8, oI 4, oMul, oLushr, oLK 255, oLand, oL2i, oI2c, oCst, oA 0, oDup, oGi 5 5 0, oK 1, oAdd, oPi 5 5 0, oInc 4 (-1), oFg 3, oGo 19] := sb_cons (sd_iload (by decide +kernel : decode cX5_append 19 = .ok (.iload 4, 2))) (sb_cons (sd_lt0 (by decide +kernel : decode cX5_append 21 = .ok (.ifCond .lt 41, 3)) (by decide)) (sb_cons (sd_aload_n (by decide +kernel : decode cX5_append 24 = .ok (.aload_n 0, 1)) rfl) (sb_cons (sd_getr (k := 1) kl_5 (by decide) rfl wm_128 (by decide +kernel : decode cX5_append 25 = .ok (.getfield 9, 3))) (sb_cons (sd_aload_n (by decide +kernel : decode cX5_append 28 = .ok (.aload_n 0, 1)) rfl) (sb_cons (sd_geti (k := 0) kl_5 (by decide) rfl wm_126 (by decide +kernel : decode cX5_append 29 = .ok (.getfield 25, 3))) (sb_cons (sd_lload_n (by decide +kernel : decode cX5_append 32 = .ok (.lload_n 1, 1)) rfl) (sb_cons (sd_bipush (by decide +kernel : decode cX5_append 33 = .ok (.bipush 8, 2)) ⟨by decide, by decide⟩ (by decide)) (sb_cons (sd_iload (by decide +kernel : decode cX5_append 35 = .ok (.iload 4, 2))) (sb_cons (sd_imul (by decide +kernel : decode cX5_append 37 = .ok (.imul, 1))) (sb_cons (sd_lushr (by decide +kernel : decode cX5_append 38 = .ok (.lushr, 1))) (sb_cons (sd_ldc2 wm_566 (by decide +kernel : decode cX5_append 39 = .ok (.ldc2_w 19, 3))) (sb_cons (sd_land (by decide +kernel : decode cX5_append 42 = .ok (.land, 1))) (sb_cons (sd_l2i (by decide +kernel : decode cX5_append 43 = .ok (.l2i, 1))) (sb_cons (sd_i2c (by decide +kernel : decode cX5_append 44 = .ok (.i2c, 1))) (sb_cons (sd_castore (by decide +kernel : decode cX5_append 45 = .ok (.castore, 1))) (sb_cons (sd_aload_n (by decide +kernel : decode cX5_append 46 = .ok (.aload_n 0, 1)) rfl) (sb_cons (sd_dup (by decide +kernel : decode cX5_append 47 = .ok (.dup, 1))) (sb_cons (sd_geti (k := 0) kl_5 (by decide) rfl wm_126 (by decide +kernel : decode cX5_append 48 = .ok (.getfield 25, 3))) (sb_cons (sd_iconst (by decide +kernel : decode cX5_append 51 = .ok (.iconst 1, 1)) ⟨by decide, by decide⟩) (sb_cons (sd_iadd (by decide +kernel : decode cX5_append 52 = .ok (.iadd, 1))) (sb_cons (sd_puti (k := 0) kl_5 (by decide) rfl (Or.inl rfl) wm_126 (by decide +kernel : decode cX5_append 53 = .ok (.putfield 25, 3))) (sb_cons (sd_iinc (by decide +kernel : decode cX5_append 56 = .ok (.iinc 4 (-1), 3))) (sb_cons (sd_fg) (sb_cons (sd_goto (x := 0) (by decide +kernel : decode cX5_append 59 = .ok (.goto (-40), 3)) (by decide)) sb_nil))))))))))))))))))))))))
set_option maxRecDepth 100000 in
theorem sb_X5_append_62 (l : Launch) : sm_SndB l RX5 "append" cX5_append 5 1 0 62 [oA 0, oGi 5 5 0, oIr] := sb_cons (sd_aload_n (by decide +kernel : decode cX5_append 62 = .ok (.aload_n 0, 1)) rfl) (sb_cons (sd_geti (k := 0) kl_5 (by decide) rfl wm_126 (by decide +kernel : decode cX5_append 63 = .ok (.getfield 25, 3))) (sb_cons (sd_ireturn (x := 0) rfl (by decide +kernel : decode cX5_append 66 = .ok (.ireturn, 1))) sb_nil))
theorem sn_X5_append (l : Launch) : sm_SndT l RX5 "append" cX5_append 5 1 0 tb_X5_append := st_cons (sb_X5_append_0 l) (st_cons (sb_X5_append_14 l) (st_cons (sb_X5_append_19 l) (st_cons (sb_X5_append_62 l) (st_nil))))
set_option maxRecDepth 100000 in
set_option maxHeartbeats 4000000 in
theorem ok_X5_append : sm_Ok tb_X5_append 5 0 0 p_X5_append f_X5_append := by
  intro as w hp ha hw
  match as, hp with
  | [.inr (.inl o), .inr (.inr c), .inl n], hp =>
  refine ⟨Nat.le_of_ble_eq_true rfl, fun Z hZ => ?_⟩
  obtain ⟨rfl, hT, n0, n1, b0, b1⟩ := hp
  by_cases hc : 80 < wI w 83 0 + n
  · skip
    refine hZ (fun u => Nat.beq u 19) 14 0 _ _ _ _ _ ?_
    simp only [sm_run, sm_blk, sm_get, sm_ent, sm_ents, sm_wds, sm_wd, sm_nl, sm_pop, sm_back, sm_cases, oK, oLK, oL, oI, oA, oJ, oIs, oAs, oJs, oInc, oAdd, oSub, oMul, oDiv, oRem, oNeg, oAnd, oAndB, oOr, oShl, oI2c, oI2l, oL2i, oLand, oLor, oLshl, oLshr, oLushr, oLcmp, oDup, oDup2, oPop, oGo, oFg, oEq, oNe, oLt, oGe, oGt, oLe, oEq0, oNe0, oLt0, oGe0, oGt0, oLe0, oSw, oGi, oGr, oPi, oPz, oPr, oLen, oIl, oZl, oCl, oRl, oIst, oZst, oCst, oRst, oCopy, oNew, oNa, oNa2, oObj, oCs, oCv, oCi, oIr, oZr, oVr, Nat.beq, List.getElem?_cons_zero, List.getElem?_cons_succ, List.set_cons_zero, List.set_cons_succ, List.length_cons, List.length_nil, List.nil_append, List.cons_append, List.append_nil, List.replicate_succ, List.replicate_zero, Nat.reduceAdd, Nat.reduceSub, Nat.reduceLT, Nat.reduceLeDiff, Nat.reduceBEq, true_and, and_true, Nat.zero_add, Nat.add_zero, Nat.le_refl, Option.some.injEq, exists_eq_left', true_or, or_true, or_false, false_or, reduceCtorEq, Prod.mk.injEq, Sum.inl.injEq, and_self, false_and, and_false, not_true_eq_false, not_false_eq_true, false_implies, true_implies, sm_r, Int.add_zero, Int.zero_add, wI_wsI, wS_wsI, wR_wsI, wI_wCp, wS_wCp, wR_wCp, Nat.reduceEqDiff, reduceIte, sT_iff, sT_iffC, wIf_ne, ne_eq, Bool.false_or, Bool.true_or, Bool.or_false, Bool.or_true, Bool.or_self, Nat.left_eq_add, Nat.add_eq_left, Nat.add_left_inj, oMax, oMin, oAbs, tb_X5_append, p_X5_append, f_X5_append, sS_83 hT, if_pos hc]
    repeat' (first | exact True.intro | with_reducible assumption | with_reducible refine And.intro ?_ ?_ | intro _)
    all_goals first
      | omega
      | assumption
      | rfl
      | (split <;> omega)
      | (have k9 := ih (by omega)
         (repeat' split at k9) <;> first | exact k9 | omega)
      | (have k9 := ih2 (by omega)
         (repeat' split at k9) <;> first | exact k9 | omega)
      | exact he (by omega)
      | ((with_reducible congr 1) <;> omega)
      | (rw [if_pos (by omega)] at he; exact he)
      | exact hD1 (by omega)
      | exact hD2 (by omega)
      | grind
      | skip
  · have hE0 : itI (kAp1 c n (wI w 83 0)) w n = kApp w c n := rfl
    generalize hE : kApp w c n = E at *
    have hl := sm_loopI Z 19 0 n (fun i => [some (.inr (.inl 83)), some (.inr (.inr c)), none, none, some (.inl (n - 1 - i))]) (fun i => itI (kAp1 c n (wI w 83 0)) w i) 0 0 n0 (fun i h0 h1 ih => by
      have hI := kApL c n w i h0
      rw [itI_s _ _ h0] at ih
      have he : i = n → itI (kAp1 c n (wI w 83 0)) w i = E := fun e => by rw [← hE0, e]
      generalize itI (kAp1 c n (wI w 83 0)) w i = u at *
      obtain ⟨hf, hu⟩ := hI
      have hTu := sFr_sT hf hT
      generalize hb : wI w 83 0 = b at *
      by_cases e : i = n
      · have he := he e
        clear ih
        refine hZ (fun u => Nat.beq u 19) 14 19 _ _ _ _ _ ?_
        simp only [sm_run, sm_blk, sm_get, sm_ent, sm_ents, sm_wds, sm_wd, sm_nl, sm_pop, sm_back, sm_cases, oK, oLK, oL, oI, oA, oJ, oIs, oAs, oJs, oInc, oAdd, oSub, oMul, oDiv, oRem, oNeg, oAnd, oAndB, oOr, oShl, oI2c, oI2l, oL2i, oLand, oLor, oLshl, oLshr, oLushr, oLcmp, oDup, oDup2, oPop, oGo, oFg, oEq, oNe, oLt, oGe, oGt, oLe, oEq0, oNe0, oLt0, oGe0, oGt0, oLe0, oSw, oGi, oGr, oPi, oPz, oPr, oLen, oIl, oZl, oCl, oRl, oIst, oZst, oCst, oRst, oCopy, oNew, oNa, oNa2, oObj, oCs, oCv, oCi, oIr, oZr, oVr, Nat.beq, List.getElem?_cons_zero, List.getElem?_cons_succ, List.set_cons_zero, List.set_cons_succ, List.length_cons, List.length_nil, List.nil_append, List.cons_append, List.append_nil, List.replicate_succ, List.replicate_zero, Nat.reduceAdd, Nat.reduceSub, Nat.reduceLT, Nat.reduceLeDiff, Nat.reduceBEq, true_and, and_true, Nat.zero_add, Nat.add_zero, Nat.le_refl, Option.some.injEq, exists_eq_left', true_or, or_true, or_false, false_or, reduceCtorEq, Prod.mk.injEq, Sum.inl.injEq, and_self, false_and, and_false, not_true_eq_false, not_false_eq_true, false_implies, true_implies, sm_r, Int.add_zero, Int.zero_add, wI_wsI, wS_wsI, wR_wsI, wI_wCp, wS_wCp, wR_wCp, Nat.reduceEqDiff, reduceIte, sT_iff, sT_iffC, wIf_ne, ne_eq, Bool.false_or, Bool.true_or, Bool.or_false, Bool.or_true, Bool.or_self, Nat.left_eq_add, Nat.add_eq_left, Nat.add_left_inj, oMax, oMin, oAbs, tb_X5_append, p_X5_append, f_X5_append, sS_83 hTu, hE, hu, hc, if_neg hc, hb]
        repeat' (first | exact True.intro | with_reducible assumption | with_reducible refine And.intro ?_ ?_ | intro _)
        all_goals first
          | omega
          | assumption
          | rfl
          | (split <;> omega)
          | (have k9 := ih (by omega)
             (repeat' split at k9) <;> first | exact k9 | omega)
          | (have k9 := ih2 (by omega)
             (repeat' split at k9) <;> first | exact k9 | omega)
          | exact he (by omega)
          | ((with_reducible congr 1) <;> omega)
          | (rw [if_pos (by omega)] at he; exact he)
          | exact hD1 (by omega)
          | exact hD2 (by omega)
          | grind
          | skip
      · have ih := ih (by omega)
        clear he
        have hk : (((c.toUInt64 >>> ((Int32.ofInt (8 * (n - 1 - i))).toInt64.toUInt64 &&& Int64.toUInt64 63)).toInt64 &&& 255).toInt32.toInt) = kAt c (n - 1 - i) := rfl
        have hkb := b255 (c.toUInt64 >>> ((Int32.ofInt (8 * (n - 1 - i))).toInt64.toUInt64 &&& Int64.toUInt64 63)).toInt64
        rw [hk] at hkb
        have hcm : n - 1 - i + -1 = n - 1 - (i + 1) := by omega
        unfold kAp1 at ih
        refine hZ (fun u => Nat.beq u 19) 14 19 _ _ _ _ _ ?_
        simp only [sm_run, sm_blk, sm_get, sm_ent, sm_ents, sm_wds, sm_wd, sm_nl, sm_pop, sm_back, sm_cases, oK, oLK, oL, oI, oA, oJ, oIs, oAs, oJs, oInc, oAdd, oSub, oMul, oDiv, oRem, oNeg, oAnd, oAndB, oOr, oShl, oI2c, oI2l, oL2i, oLand, oLor, oLshl, oLshr, oLushr, oLcmp, oDup, oDup2, oPop, oGo, oFg, oEq, oNe, oLt, oGe, oGt, oLe, oEq0, oNe0, oLt0, oGe0, oGt0, oLe0, oSw, oGi, oGr, oPi, oPz, oPr, oLen, oIl, oZl, oCl, oRl, oIst, oZst, oCst, oRst, oCopy, oNew, oNa, oNa2, oObj, oCs, oCv, oCi, oIr, oZr, oVr, Nat.beq, List.getElem?_cons_zero, List.getElem?_cons_succ, List.set_cons_zero, List.set_cons_succ, List.length_cons, List.length_nil, List.nil_append, List.cons_append, List.append_nil, List.replicate_succ, List.replicate_zero, Nat.reduceAdd, Nat.reduceSub, Nat.reduceLT, Nat.reduceLeDiff, Nat.reduceBEq, true_and, and_true, Nat.zero_add, Nat.add_zero, Nat.le_refl, Option.some.injEq, exists_eq_left', true_or, or_true, or_false, false_or, reduceCtorEq, Prod.mk.injEq, Sum.inl.injEq, and_self, false_and, and_false, not_true_eq_false, not_false_eq_true, false_implies, true_implies, sm_r, Int.add_zero, Int.zero_add, wI_wsI, wS_wsI, wR_wsI, wI_wCp, wS_wCp, wR_wCp, Nat.reduceEqDiff, reduceIte, sT_iff, sT_iffC, wIf_ne, ne_eq, Bool.false_or, Bool.true_or, Bool.or_false, Bool.or_true, Bool.or_self, Nat.left_eq_add, Nat.add_eq_left, Nat.add_left_inj, oMax, oMin, oAbs, tb_X5_append, p_X5_append, f_X5_append, sS_83 hTu, sR_83_1 hTu, sS_84 hTu, hu, hk, hcm, sT_iff]
        repeat' (first | exact True.intro | with_reducible assumption | with_reducible refine And.intro ?_ ?_ | intro _)
        all_goals first
          | omega
          | assumption
          | rfl
          | (split <;> omega)
          | (have k9 := ih (by omega)
             (repeat' split at k9) <;> first | exact k9 | omega)
          | (have k9 := ih2 (by omega)
             (repeat' split at k9) <;> first | exact k9 | omega)
          | exact he (by omega)
          | ((with_reducible congr 1) <;> omega)
          | (rw [if_pos (by omega)] at he; exact he)
          | exact hD1 (by omega)
          | exact hD2 (by omega)
          | grind
          | skip
      )
    have hl : Z 19 [some (.inr (.inl 83)), some (.inr (.inr c)), none, none, some (.inl (n - 1))] [] w 0 0 := by
      have h9 := hl
      rw [Int.sub_zero, itI_0] at h9
      exact h9
    refine hZ (fun u => Nat.beq u 19) 14 0 _ _ _ _ _ ?_
    simp only [sm_run, sm_blk, sm_get, sm_ent, sm_ents, sm_wds, sm_wd, sm_nl, sm_pop, sm_back, sm_cases, oK, oLK, oL, oI, oA, oJ, oIs, oAs, oJs, oInc, oAdd, oSub, oMul, oDiv, oRem, oNeg, oAnd, oAndB, oOr, oShl, oI2c, oI2l, oL2i, oLand, oLor, oLshl, oLshr, oLushr, oLcmp, oDup, oDup2, oPop, oGo, oFg, oEq, oNe, oLt, oGe, oGt, oLe, oEq0, oNe0, oLt0, oGe0, oGt0, oLe0, oSw, oGi, oGr, oPi, oPz, oPr, oLen, oIl, oZl, oCl, oRl, oIst, oZst, oCst, oRst, oCopy, oNew, oNa, oNa2, oObj, oCs, oCv, oCi, oIr, oZr, oVr, Nat.beq, List.getElem?_cons_zero, List.getElem?_cons_succ, List.set_cons_zero, List.set_cons_succ, List.length_cons, List.length_nil, List.nil_append, List.cons_append, List.append_nil, List.replicate_succ, List.replicate_zero, Nat.reduceAdd, Nat.reduceSub, Nat.reduceLT, Nat.reduceLeDiff, Nat.reduceBEq, true_and, and_true, Nat.zero_add, Nat.add_zero, Nat.le_refl, Option.some.injEq, exists_eq_left', true_or, or_true, or_false, false_or, reduceCtorEq, Prod.mk.injEq, Sum.inl.injEq, and_self, false_and, and_false, not_true_eq_false, not_false_eq_true, false_implies, true_implies, sm_r, Int.add_zero, Int.zero_add, wI_wsI, wS_wsI, wR_wsI, wI_wCp, wS_wCp, wR_wCp, Nat.reduceEqDiff, reduceIte, sT_iff, sT_iffC, wIf_ne, ne_eq, Bool.false_or, Bool.true_or, Bool.or_false, Bool.or_true, Bool.or_self, Nat.left_eq_add, Nat.add_eq_left, Nat.add_left_inj, oMax, oMin, oAbs, tb_X5_append, p_X5_append, f_X5_append, sS_83 hT]
    repeat' (first | exact True.intro | with_reducible assumption | with_reducible refine And.intro ?_ ?_ | intro _)
    all_goals first
      | omega
      | assumption
      | rfl
      | (split <;> omega)
      | (have k9 := ih (by omega)
         (repeat' split at k9) <;> first | exact k9 | omega)
      | (have k9 := ih2 (by omega)
         (repeat' split at k9) <;> first | exact k9 | omega)
      | exact he (by omega)
      | ((with_reducible congr 1) <;> omega)
      | (rw [if_pos (by omega)] at he; exact he)
      | exact hD1 (by omega)
      | exact hD2 (by omega)
      | skip
theorem met_X5_append (l : Launch) : sm_Met l yX5_append cX5_append 5 (some .int) 0 0 0 p_X5_append f_X5_append := sm_met 1 (Or.inr (Or.inl ⟨rfl, rfl⟩)) (by decide +kernel) (sn_X5_append l) ok_X5_append
def p_X5_empty : List sm_V → sm_W → Prop
  | [.inr (.inl o)], w => o = 83 ∧ sT w
  | _, _ => False
def f_X5_empty : sm_F
  | [.inr (.inl o)], w => (some (.inl (wI w 83 0)), wsI w 83 0 0)
  | _, w => (none, w)
def tb_X5_empty : List (Nat × List sm_O) := [(0, [oA 0, oGi 5 5 0, oIs 1, oA 0, oK 0, oPi 5 5 0, oI 1, oIr])]
set_option maxRecDepth 100000 in
theorem sb_X5_empty_0 (l : Launch) : sm_SndB l RX5 "empty" cX5_empty 2 1 0 0 [oA 0, oGi 5 5 0, oIs 1, oA 0, oK 0, oPi 5 5 0, oI 1, oIr] := sb_cons (sd_aload_n (by decide +kernel : decode cX5_empty 0 = .ok (.aload_n 0, 1)) rfl) (sb_cons (sd_geti (k := 0) kl_5 (by decide) rfl wm_126 (by decide +kernel : decode cX5_empty 1 = .ok (.getfield 25, 3))) (sb_cons (sd_istore_n (by decide +kernel : decode cX5_empty 4 = .ok (.istore_n 1, 1)) rfl) (sb_cons (sd_aload_n (by decide +kernel : decode cX5_empty 5 = .ok (.aload_n 0, 1)) rfl) (sb_cons (sd_iconst (by decide +kernel : decode cX5_empty 6 = .ok (.iconst 0, 1)) ⟨by decide, by decide⟩) (sb_cons (sd_puti (k := 0) kl_5 (by decide) rfl (Or.inl rfl) wm_126 (by decide +kernel : decode cX5_empty 7 = .ok (.putfield 25, 3))) (sb_cons (sd_iload_n (by decide +kernel : decode cX5_empty 10 = .ok (.iload_n 1, 1)) rfl) (sb_cons (sd_ireturn (x := 0) rfl (by decide +kernel : decode cX5_empty 11 = .ok (.ireturn, 1))) sb_nil)))))))
theorem sn_X5_empty (l : Launch) : sm_SndT l RX5 "empty" cX5_empty 2 1 0 tb_X5_empty := st_cons (sb_X5_empty_0 l) (st_nil)
set_option maxRecDepth 100000 in
set_option maxHeartbeats 4000000 in
theorem ok_X5_empty : sm_Ok tb_X5_empty 2 0 0 p_X5_empty f_X5_empty := by
  intro as w hp ha hw
  match as, hp with
  | [.inr (.inl o)], hp =>
  refine ⟨Nat.le_of_ble_eq_true rfl, fun Z hZ => ?_⟩
  obtain ⟨rfl, hT⟩ := hp
  refine hZ (fun _ => false) 16 0 _ _ _ _ _ ?_
  simp only [sm_run, sm_blk, sm_get, sm_ent, sm_ents, sm_wds, sm_wd, sm_nl, sm_pop, sm_back, sm_cases, oK, oLK, oL, oI, oA, oJ, oIs, oAs, oJs, oInc, oAdd, oSub, oMul, oDiv, oRem, oNeg, oAnd, oAndB, oOr, oShl, oI2c, oI2l, oL2i, oLand, oLor, oLshl, oLshr, oLushr, oLcmp, oDup, oDup2, oPop, oGo, oFg, oEq, oNe, oLt, oGe, oGt, oLe, oEq0, oNe0, oLt0, oGe0, oGt0, oLe0, oSw, oGi, oGr, oPi, oPz, oPr, oLen, oIl, oZl, oCl, oRl, oIst, oZst, oCst, oRst, oCopy, oNew, oNa, oNa2, oObj, oCs, oCv, oCi, oIr, oZr, oVr, Nat.beq, List.getElem?_cons_zero, List.getElem?_cons_succ, List.set_cons_zero, List.set_cons_succ, List.length_cons, List.length_nil, List.nil_append, List.cons_append, List.append_nil, List.replicate_succ, List.replicate_zero, Nat.reduceAdd, Nat.reduceSub, Nat.reduceLT, Nat.reduceLeDiff, Nat.reduceBEq, true_and, and_true, Nat.zero_add, Nat.add_zero, Nat.le_refl, Option.some.injEq, exists_eq_left', true_or, or_true, or_false, false_or, reduceCtorEq, Prod.mk.injEq, Sum.inl.injEq, and_self, false_and, and_false, not_true_eq_false, not_false_eq_true, false_implies, true_implies, sm_r, Int.add_zero, Int.zero_add, wI_wsI, wS_wsI, wR_wsI, wI_wCp, wS_wCp, wR_wCp, Nat.reduceEqDiff, reduceIte, sT_iff, sT_iffC, wIf_ne, ne_eq, Bool.false_or, Bool.true_or, Bool.or_false, Bool.or_true, Bool.or_self, Nat.left_eq_add, Nat.add_eq_left, Nat.add_left_inj, oMax, oMin, oAbs, tb_X5_empty, p_X5_empty, f_X5_empty, sS_83 hT]
  repeat' (first | exact True.intro | with_reducible assumption | with_reducible refine And.intro ?_ ?_ | intro _)
  all_goals first
    | omega
    | assumption
    | rfl
    | (split <;> omega)
    | skip
theorem met_X5_empty (l : Launch) : sm_Met l yX5_empty cX5_empty 2 (some .int) 0 0 0 p_X5_empty f_X5_empty := sm_met 1 (Or.inr (Or.inl ⟨rfl, rfl⟩)) (by decide +kernel) (sn_X5_empty l) ok_X5_empty
/-! reading -/
def kOK (w : sm_W) : Prop := sT w ∧ (0 ≤ wI w 83 0 ∧ wI w 83 0 ≤ 80) ∧ (0 ≤ wI w 83 2 ∧ wI w 83 2 ≤ 81) ∧ ∀ k, 0 ≤ wI w 84 k ∧ wI w 84 k ≤ 255
def kNx (w : sm_W) : Int := if wI w 83 2 < wI w 83 0 then wI w 84 (wI w 83 2) else 0
theorem kNx_b {w : sm_W} (h : kOK w) : 0 ≤ kNx w ∧ kNx w ≤ 255 ∧ (kNx w ≠ 0 → wI w 83 2 < wI w 83 0) := by
  have := h.2.2.2 (wI w 83 2)
  unfold kNx
  split <;> omega
theorem kNx_85 (w : sm_W) (i v : Int) : kNx (wsI w 85 i v) = kNx w := rfl
def p_X5_peek : List sm_V → sm_W → Prop
  | [.inr (.inl o)], w => o = 83 ∧ kOK w
  | _, _ => False
def f_X5_peek : sm_F
  | [.inr (.inl o)], w => (some (.inl (kNx w)), w)
  | _, w => (none, w)
def tb_X5_peek : List (Nat × List sm_O) := [(0, [oA 0, oGi 5 5 2, oA 0, oGi 5 5 0, oGe 23, oA 0, oGr 5 5 1, oA 0, oGi 5 5 2, oCl, oGo 24]),
  (23, [oK 0, oGo 24]),
  (24, [oIr])]
set_option maxRecDepth 100000 in
theorem sb_X5_peek_0 (l : Launch) : sm_SndB l RX5 "peek" cX5_peek 1 1 0 0 [oA 0, oGi 5 5 2, oA 0, oGi 5 5 0, oGe 23, oA 0, oGr 5 5 1, oA 0, oGi 5 5 2, oCl, oGo 24] := sb_cons (sd_aload_n (by decide +kernel : decode cX5_peek 0 = .ok (.aload_n 0, 1)) rfl) (sb_cons (sd_geti (k := 2) kl_5 (by decide) rfl wm_129 (by decide +kernel : decode cX5_peek 1 = .ok (.getfield 29, 3))) (sb_cons (sd_aload_n (by decide +kernel : decode cX5_peek 4 = .ok (.aload_n 0, 1)) rfl) (sb_cons (sd_geti (k := 0) kl_5 (by decide) rfl wm_126 (by decide +kernel : decode cX5_peek 5 = .ok (.getfield 25, 3))) (sb_cons (sd_ge (by decide +kernel : decode cX5_peek 8 = .ok (.if_icmp .ge 15, 3)) (by decide)) (sb_cons (sd_aload_n (by decide +kernel : decode cX5_peek 11 = .ok (.aload_n 0, 1)) rfl) (sb_cons (sd_getr (k := 1) kl_5 (by decide) rfl wm_128 (by decide +kernel : decode cX5_peek 12 = .ok (.getfield 9, 3))) (sb_cons (sd_aload_n (by decide +kernel : decode cX5_peek 15 = .ok (.aload_n 0, 1)) rfl) (sb_cons (sd_geti (k := 2) kl_5 (by decide) rfl wm_129 (by decide +kernel : decode cX5_peek 16 = .ok (.getfield 29, 3))) (sb_cons (sd_caload (by decide +kernel : decode cX5_peek 19 = .ok (.caload, 1))) (sb_cons (sd_goto (x := 0) (by decide +kernel : decode cX5_peek 20 = .ok (.goto 4, 3)) (by decide)) sb_nil))))))))))
set_option maxRecDepth 100000 in
theorem sb_X5_peek_23 (l : Launch) : sm_SndB l RX5 "peek" cX5_peek 1 1 0 23 [oK 0, oGo 24] := sb_cons (sd_iconst (by decide +kernel : decode cX5_peek 23 = .ok (.iconst 0, 1)) ⟨by decide, by decide⟩) (sb_cons (sd_fall (x := 0)) sb_nil)
set_option maxRecDepth 100000 in
theorem sb_X5_peek_24 (l : Launch) : sm_SndB l RX5 "peek" cX5_peek 1 1 0 24 [oIr] := sb_cons (sd_ireturn (x := 0) rfl (by decide +kernel : decode cX5_peek 24 = .ok (.ireturn, 1))) sb_nil
theorem sn_X5_peek (l : Launch) : sm_SndT l RX5 "peek" cX5_peek 1 1 0 tb_X5_peek := st_cons (sb_X5_peek_0 l) (st_cons (sb_X5_peek_23 l) (st_cons (sb_X5_peek_24 l) (st_nil)))
set_option maxRecDepth 100000 in
set_option maxHeartbeats 4000000 in
theorem ok_X5_peek : sm_Ok tb_X5_peek 1 0 0 p_X5_peek f_X5_peek := by
  intro as w hp ha hw
  match as, hp with
  | [.inr (.inl o)], hp =>
  refine ⟨Nat.le_of_ble_eq_true rfl, fun Z hZ => ?_⟩
  obtain ⟨rfl, hT, h1, h2, h3⟩ := hp
  refine hZ (fun _ => false) 16 0 _ _ _ _ _ ?_
  simp only [sm_run, sm_blk, sm_get, sm_ent, sm_ents, sm_wds, sm_wd, sm_nl, sm_pop, sm_back, sm_cases, oK, oLK, oL, oI, oA, oJ, oIs, oAs, oJs, oInc, oAdd, oSub, oMul, oDiv, oRem, oNeg, oAnd, oAndB, oOr, oShl, oI2c, oI2l, oL2i, oLand, oLor, oLshl, oLshr, oLushr, oLcmp, oDup, oDup2, oPop, oGo, oFg, oEq, oNe, oLt, oGe, oGt, oLe, oEq0, oNe0, oLt0, oGe0, oGt0, oLe0, oSw, oGi, oGr, oPi, oPz, oPr, oLen, oIl, oZl, oCl, oRl, oIst, oZst, oCst, oRst, oCopy, oNew, oNa, oNa2, oObj, oCs, oCv, oCi, oIr, oZr, oVr, Nat.beq, List.getElem?_cons_zero, List.getElem?_cons_succ, List.set_cons_zero, List.set_cons_succ, List.length_cons, List.length_nil, List.nil_append, List.cons_append, List.append_nil, List.replicate_succ, List.replicate_zero, Nat.reduceAdd, Nat.reduceSub, Nat.reduceLT, Nat.reduceLeDiff, Nat.reduceBEq, true_and, and_true, Nat.zero_add, Nat.add_zero, Nat.le_refl, Option.some.injEq, exists_eq_left', true_or, or_true, or_false, false_or, reduceCtorEq, Prod.mk.injEq, Sum.inl.injEq, and_self, false_and, and_false, not_true_eq_false, not_false_eq_true, false_implies, true_implies, sm_r, Int.add_zero, Int.zero_add, wI_wsI, wS_wsI, wR_wsI, wI_wCp, wS_wCp, wR_wCp, Nat.reduceEqDiff, reduceIte, sT_iff, sT_iffC, wIf_ne, ne_eq, Bool.false_or, Bool.true_or, Bool.or_false, Bool.or_true, Bool.or_self, Nat.left_eq_add, Nat.add_eq_left, Nat.add_left_inj, oMax, oMin, oAbs, tb_X5_peek, p_X5_peek, f_X5_peek, sS_83 hT, sR_83_1 hT, sS_84 hT]
  repeat' (first | exact True.intro | with_reducible assumption | with_reducible refine And.intro ?_ ?_ | intro _)
  all_goals first
    | omega
    | assumption
    | rfl
    | (split <;> omega)
    | grind [kNx]
    | skip
theorem met_X5_peek (l : Launch) : sm_Met l yX5_peek cX5_peek 1 (some .int) 0 0 0 p_X5_peek f_X5_peek := sm_met 1 (Or.inr (Or.inl ⟨rfl, rfl⟩)) (by decide +kernel) (sn_X5_peek l) ok_X5_peek
/-- a reader: the world behind it, and whether it could read -/
abbrev kR : Type := sm_W → sm_W × Int
def kS (s : Int) : kR := fun w => if kNx w = s then (wsI w 83 2 (wI w 83 2 + 1), 1) else (w, 0)
def kD (p l : Int) : kR := fun w => if kNx w - 48 < 0 then (w, 0) else (if l ≤ kNx w - 48 then (w, 0) else (wsI (wsI w 85 p (kNx w - 48)) 83 2 (wI w 83 2 + 1), 1))
def kNL (p : Int) : Nat → sm_W → Int → sm_W
  | 0, w, v => wsI w 85 p v
  | n + 1, w, v => if v ≤ 0 then wsI w 85 p v else (if (kD p 10 w).2 = 0 then wsI w 85 p v else kNL p n (kD p 10 w).1 (10 * v + (kNx w - 48)))
theorem kNL_s (p : Int) (n : Nat) (w : sm_W) (v : Int) : kNL p (n + 1) w v = if v ≤ 0 then wsI w 85 p v else (if (kD p 10 w).2 = 0 then wsI w 85 p v else kNL p n (kD p 10 w).1 (10 * v + (kNx w - 48))) := rfl
def kN (p : Int) : kR := fun w => if (kD p 10 w).2 = 0 then ((kD p 10 w).1, 0) else (kNL p 2 (kD p 10 w).1 (kNx w - 48), 1)
/-- what reading leaves as it is -/
def sRd (a : Nat) (i _ : Int) : Prop := (a = 83 ∧ (i = 2 ∨ i = 3)) ∨ a = 85
/-- a reader that goes on, at most to the end -/
def kG (R : kR) : Prop := ∀ w, kOK w → sFr sRd w (R w).1 ∧ ((R w).2 = 0 ∨ (R w).2 = 1) ∧ wI w 83 2 ≤ wI (R w).1 83 2 ∧ (wI (R w).1 83 2 = wI w 83 2 ∨ wI (R w).1 83 2 ≤ wI w 83 0)
theorem kOK_fr {w u : sm_W} (h : kOK w) (hf : sFr sRd w u) (h2 : 0 ≤ wI u 83 2 ∧ wI u 83 2 ≤ 81) : kOK u := by
  refine ⟨sFr_sT hf h.1, ?_, h2, fun k => ?_⟩
  · rw [hf.out (show ∀ v, ¬ sRd 83 0 v from fun v hs => by unfold sRd at hs; omega)]
    exact h.2.1
  · rw [hf.outA (show ∀ i v, ¬ sRd 84 i v from fun i v hs => by unfold sRd at hs; omega)]
    exact h.2.2.2 k
theorem kG.ok {R : kR} (h : kG R) {w : sm_W} (hw : kOK w) : kOK (R w).1 := by
  have h1 := h w hw
  have h2 := hw.2.1
  have h3 := hw.2.2.1
  exact kOK_fr hw h1.1 (by omega)
theorem kG.l0 {R : kR} (h : kG R) {w : sm_W} (hw : kOK w) : wI (R w).1 83 0 = wI w 83 0 := (h w hw).1.out (fun v hs => by unfold sRd at hs; omega)
theorem kG_S {s : Int} (hs : 0 < s) : kG (kS s) := fun w h => by
  have hn := kNx_b h
  unfold kS
  split
  · refine ⟨(sFr.refl w).st (Or.inl ⟨rfl, Or.inl rfl⟩), Or.inr rfl, ?_, ?_⟩
    · show wI w 83 2 ≤ wI w 83 2 + 1; omega
    · show wI w 83 2 + 1 = wI w 83 2 ∨ wI w 83 2 + 1 ≤ wI w 83 0; omega
  · exact ⟨sFr.refl w, Or.inl rfl, Int.le_refl _, Or.inl rfl⟩
theorem kG_D (p l : Int) : kG (kD p l) := fun w h => by
  have hn := kNx_b h
  unfold kD
  split
  · exact ⟨sFr.refl w, Or.inl rfl, Int.le_refl _, Or.inl rfl⟩
  · split
    · exact ⟨sFr.refl w, Or.inl rfl, Int.le_refl _, Or.inl rfl⟩
    · refine ⟨((sFr.refl w).st (Or.inr rfl)).st (Or.inl ⟨rfl, Or.inl rfl⟩), Or.inr rfl, ?_, ?_⟩
      · show wI w 83 2 ≤ wI w 83 2 + 1; omega
      · show wI w 83 2 + 1 = wI w 83 2 ∨ wI w 83 2 + 1 ≤ wI w 83 0; omega
theorem kNL_g (p : Int) : ∀ (n : Nat) (w : sm_W) (v : Int), kOK w → sFr sRd w (kNL p n w v) ∧ wI w 83 2 ≤ wI (kNL p n w v) 83 2 ∧ (wI (kNL p n w v) 83 2 = wI w 83 2 ∨ wI (kNL p n w v) 83 2 ≤ wI w 83 0)
  | 0, w, v, _ => ⟨(sFr.refl w).st (Or.inr rfl), Int.le_refl _, Or.inl rfl⟩
  | n + 1, w, v, h => by
    have hd := kG_D p 10 w h
    have ho := (kG_D p 10).ok h
    have hl := (kG_D p 10).l0 h
    rw [kNL_s]
    split
    · exact ⟨(sFr.refl w).st (Or.inr rfl), Int.le_refl _, Or.inl rfl⟩
    · split
      · exact ⟨(sFr.refl w).st (Or.inr rfl), Int.le_refl _, Or.inl rfl⟩
      · have h1 := kNL_g p n (kD p 10 w).1 (10 * v + (kNx w - 48)) ho
        exact ⟨hd.1.trans h1.1, by omega, by omega⟩
theorem kG_N (p : Int) : kG (kN p) := fun w h => by
  have hd := kG_D p 10 w h
  have ho := (kG_D p 10).ok h
  have hl := (kG_D p 10).l0 h
  unfold kN
  split
  · exact ⟨hd.1, Or.inl rfl, hd.2.2.1, hd.2.2.2⟩
  · have h1 := kNL_g p 2 (kD p 10 w).1 (kNx w - 48) ho
    exact ⟨hd.1.trans h1.1, Or.inr rfl, by dsimp only; omega, by dsimp only; omega⟩
def p_X5_readSign : List sm_V → sm_W → Prop
  | [.inr (.inl o), .inl s], w => o = 83 ∧ kOK w ∧ 0 < s
  | _, _ => False
def f_X5_readSign : sm_F
  | [.inr (.inl o), .inl s], w => (some (.inl (kS s w).2), (kS s w).1)
  | _, w => (none, w)
def tb_X5_readSign : List (Nat × List sm_O) := [(0, [oA 0, oCv 5 5 p_X5_peek f_X5_peek 0 0 1, oI 1, oEq 10, oK 0, oZr]),
  (10, [oA 0, oDup, oGi 5 5 2, oK 1, oAdd, oPi 5 5 2, oK 1, oZr])]
set_option maxRecDepth 100000 in
theorem sb_X5_readSign_0 (l : Launch) : sm_SndB l RX5 "readSign" cX5_readSign 2 2 1 0 [oA 0, oCv 5 5 p_X5_peek f_X5_peek 0 0 1, oI 1, oEq 10, oK 0, oZr] := sb_cons (sd_aload_n (by decide +kernel : decode cX5_readSign 0 = .ok (.aload_n 0, 1)) rfl) (sb_cons (sd_callv (n := 0) (met_X5_peek l) (by decide) (by decide) wm_604 wm_602 wm_8 ⟨by decide +kernel, by decide +kernel, by decide +kernel⟩ kl_5 wm_603 wm_1098 (by decide +kernel : decode cX5_readSign 1 = .ok (.invokevirtual 76, 3))) (sb_cons (sd_iload_n (by decide +kernel : decode cX5_readSign 4 = .ok (.iload_n 1, 1)) rfl) (sb_cons (sd_eq (by decide +kernel : decode cX5_readSign 5 = .ok (.if_icmp .eq 5, 3)) (by decide)) (sb_cons (sd_iconst (by decide +kernel : decode cX5_readSign 8 = .ok (.iconst 0, 1)) ⟨by decide, by decide⟩) (sb_cons (sd_zreturn (x := 0) rfl (by decide +kernel : decode cX5_readSign 9 = .ok (.ireturn, 1))) sb_nil)))))
set_option maxRecDepth 100000 in
theorem sb_X5_readSign_10 (l : Launch) : sm_SndB l RX5 "readSign" cX5_readSign 2 2 1 10 [oA 0, oDup, oGi 5 5 2, oK 1, oAdd, oPi 5 5 2, oK 1, oZr] := sb_cons (sd_aload_n (by decide +kernel : decode cX5_readSign 10 = .ok (.aload_n 0, 1)) rfl) (sb_cons (sd_dup (by decide +kernel : decode cX5_readSign 11 = .ok (.dup, 1))) (sb_cons (sd_geti (k := 2) kl_5 (by decide) rfl wm_129 (by decide +kernel : decode cX5_readSign 12 = .ok (.getfield 29, 3))) (sb_cons (sd_iconst (by decide +kernel : decode cX5_readSign 15 = .ok (.iconst 1, 1)) ⟨by decide, by decide⟩) (sb_cons (sd_iadd (by decide +kernel : decode cX5_readSign 16 = .ok (.iadd, 1))) (sb_cons (sd_puti (k := 2) kl_5 (by decide) rfl (Or.inl rfl) wm_129 (by decide +kernel : decode cX5_readSign 17 = .ok (.putfield 29, 3))) (sb_cons (sd_iconst (by decide +kernel : decode cX5_readSign 20 = .ok (.iconst 1, 1)) ⟨by decide, by decide⟩) (sb_cons (sd_zreturn (x := 0) rfl (by decide +kernel : decode cX5_readSign 21 = .ok (.ireturn, 1))) sb_nil)))))))
theorem sn_X5_readSign (l : Launch) : sm_SndT l RX5 "readSign" cX5_readSign 2 2 1 tb_X5_readSign := st_cons (sb_X5_readSign_0 l) (st_cons (sb_X5_readSign_10 l) (st_nil))
set_option maxRecDepth 100000 in
set_option maxHeartbeats 4000000 in
theorem ok_X5_readSign : sm_Ok tb_X5_readSign 2 0 0 p_X5_readSign f_X5_readSign := by
  intro as w hp ha hw
  match as, hp with
  | [.inr (.inl o), .inl s], hp =>
  refine ⟨Nat.le_of_ble_eq_true rfl, fun Z hZ => ?_⟩
  obtain ⟨rfl, hO, hs⟩ := hp
  have hn := kNx_b hO
  obtain ⟨hT, h1, h2, h3⟩ := id hO
  have key : kS s w = if kNx w = s then (wsI w 83 2 (wI w 83 2 + 1), 1) else (w, 0) := rfl
  generalize hE : kS s w = E at *
  by_cases c : kNx w = s
  · rw [if_pos c] at key
    subst key
    refine hZ (fun _ => false) 16 0 _ _ _ _ _ ?_
    simp only [sm_run, sm_blk, sm_get, sm_ent, sm_ents, sm_wds, sm_wd, sm_nl, sm_pop, sm_back, sm_cases, oK, oLK, oL, oI, oA, oJ, oIs, oAs, oJs, oInc, oAdd, oSub, oMul, oDiv, oRem, oNeg, oAnd, oAndB, oOr, oShl, oI2c, oI2l, oL2i, oLand, oLor, oLshl, oLshr, oLushr, oLcmp, oDup, oDup2, oPop, oGo, oFg, oEq, oNe, oLt, oGe, oGt, oLe, oEq0, oNe0, oLt0, oGe0, oGt0, oLe0, oSw, oGi, oGr, oPi, oPz, oPr, oLen, oIl, oZl, oCl, oRl, oIst, oZst, oCst, oRst, oCopy, oNew, oNa, oNa2, oObj, oCs, oCv, oCi, oIr, oZr, oVr, Nat.beq, List.getElem?_cons_zero, List.getElem?_cons_succ, List.set_cons_zero, List.set_cons_succ, List.length_cons, List.length_nil, List.nil_append, List.cons_append, List.append_nil, List.replicate_succ, List.replicate_zero, Nat.reduceAdd, Nat.reduceSub, Nat.reduceLT, Nat.reduceLeDiff, Nat.reduceBEq, true_and, and_true, Nat.zero_add, Nat.add_zero, Nat.le_refl, Option.some.injEq, exists_eq_left', true_or, or_true, or_false, false_or, reduceCtorEq, Prod.mk.injEq, Sum.inl.injEq, and_self, false_and, and_false, not_true_eq_false, not_false_eq_true, false_implies, true_implies, sm_r, Int.add_zero, Int.zero_add, wI_wsI, wS_wsI, wR_wsI, wI_wCp, wS_wCp, wR_wCp, Nat.reduceEqDiff, reduceIte, sT_iff, sT_iffC, wIf_ne, ne_eq, Bool.false_or, Bool.true_or, Bool.or_false, Bool.or_true, Bool.or_self, Nat.left_eq_add, Nat.add_eq_left, Nat.add_left_inj, oMax, oMin, oAbs, tb_X5_readSign, p_X5_peek, f_X5_peek, p_X5_readSign, f_X5_readSign, sS_83 hT, hO, hE]
    repeat' (first | exact True.intro | with_reducible assumption | with_reducible refine And.intro ?_ ?_ | intro _)
    all_goals first
      | omega
      | assumption
      | rfl
      | (split <;> omega)
      | grind
      | skip
  · rw [if_neg c] at key
    subst key
    refine hZ (fun _ => false) 16 0 _ _ _ _ _ ?_
    simp only [sm_run, sm_blk, sm_get, sm_ent, sm_ents, sm_wds, sm_wd, sm_nl, sm_pop, sm_back, sm_cases, oK, oLK, oL, oI, oA, oJ, oIs, oAs, oJs, oInc, oAdd, oSub, oMul, oDiv, oRem, oNeg, oAnd, oAndB, oOr, oShl, oI2c, oI2l, oL2i, oLand, oLor, oLshl, oLshr, oLushr, oLcmp, oDup, oDup2, oPop, oGo, oFg, oEq, oNe, oLt, oGe, oGt, oLe, oEq0, oNe0, oLt0, oGe0, oGt0, oLe0, oSw, oGi, oGr, oPi, oPz, oPr, oLen, oIl, oZl, oCl, oRl, oIst, oZst, oCst, oRst, oCopy, oNew, oNa, oNa2, oObj, oCs, oCv, oCi, oIr, oZr, oVr, Nat.beq, List.getElem?_cons_zero, List.getElem?_cons_succ, List.set_cons_zero, List.set_cons_succ, List.length_cons, List.length_nil, List.nil_append, List.cons_append, List.append_nil, List.replicate_succ, List.replicate_zero, Nat.reduceAdd, Nat.reduceSub, Nat.reduceLT, Nat.reduceLeDiff, Nat.reduceBEq, true_and, and_true, Nat.zero_add, Nat.add_zero, Nat.le_refl, Option.some.injEq, exists_eq_left', true_or, or_true, or_false, false_or, reduceCtorEq, Prod.mk.injEq, Sum.inl.injEq, and_self, false_and, and_false, not_true_eq_false, not_false_eq_true, false_implies, true_implies, sm_r, Int.add_zero, Int.zero_add, wI_wsI, wS_wsI, wR_wsI, wI_wCp, wS_wCp, wR_wCp, Nat.reduceEqDiff, reduceIte, sT_iff, sT_iffC, wIf_ne, ne_eq, Bool.false_or, Bool.true_or, Bool.or_false, Bool.or_true, Bool.or_self, Nat.left_eq_add, Nat.add_eq_left, Nat.add_left_inj, oMax, oMin, oAbs, tb_X5_readSign, p_X5_peek, f_X5_peek, p_X5_readSign, f_X5_readSign, sS_83 hT, hO, hE]
    repeat' (first | exact True.intro | with_reducible assumption | with_reducible refine And.intro ?_ ?_ | intro _)
    all_goals first
      | omega
      | assumption
      | rfl
      | (split <;> omega)
      | grind
      | skip
theorem met_X5_readSign (l : Launch) : sm_Met l yX5_readSign cX5_readSign 2 (some .boolean) 1 0 0 p_X5_readSign f_X5_readSign := sm_met 2 (Or.inr (Or.inr ⟨rfl, rfl⟩)) (by decide +kernel) (sn_X5_readSign l) ok_X5_readSign
def p_X5_readDigit : List sm_V → sm_W → Prop
  | [.inr (.inl o), .inl p, .inl l], w => o = 83 ∧ kOK w ∧ 0 ≤ p ∧ p < 5 ∧ l ≤ 10
  | _, _ => False
def f_X5_readDigit : sm_F
  | [.inr (.inl o), .inl p, .inl l], w => (some (.inl (kD p l w).2), (kD p l w).1)
  | _, w => (none, w)
def tb_X5_readDigit : List (Nat × List sm_O) := [(0, [oA 0, oCv 5 5 p_X5_peek f_X5_peek 0 0 1, oK 48, oSub, oIs 3, oI 3, oLt0 17, oI 3, oI 2, oLt 19, oGo 17]),
  (17, [oK 0, oZr]),
  (19, [oA 0, oGr 5 5 4, oI 1, oI 3, oIst, oA 0, oDup, oGi 5 5 2, oK 1, oAdd, oPi 5 5 2, oK 1, oZr])]
set_option maxRecDepth 100000 in
theorem sb_X5_readDigit_0 (l : Launch) : sm_SndB l RX5 "readDigit" cX5_readDigit 4 2 1 0 [oA 0, oCv 5 5 p_X5_peek f_X5_peek 0 0 1, oK 48, oSub, oIs 3, oI 3, oLt0 17, oI 3, oI 2, oLt 19, oGo 17] := sb_cons (sd_aload_n (by decide +kernel : decode cX5_readDigit 0 = .ok (.aload_n 0, 1)) rfl) (sb_cons (sd_callv (n := 0) (met_X5_peek l) (by decide) (by decide) wm_604 wm_602 wm_8 ⟨by decide +kernel, by decide +kernel, by decide +kernel⟩ kl_5 wm_603 wm_1098 (by decide +kernel : decode cX5_readDigit 1 = .ok (.invokevirtual 76, 3))) (sb_cons (sd_bipush (by decide +kernel : decode cX5_readDigit 4 = .ok (.bipush 48, 2)) ⟨by decide, by decide⟩ (by decide)) (sb_cons (sd_isub (by decide +kernel : decode cX5_readDigit 6 = .ok (.isub, 1))) (sb_cons (sd_istore_n (by decide +kernel : decode cX5_readDigit 7 = .ok (.istore_n 3, 1)) rfl) (sb_cons (sd_iload_n (by decide +kernel : decode cX5_readDigit 8 = .ok (.iload_n 3, 1)) rfl) (sb_cons (sd_lt0 (by decide +kernel : decode cX5_readDigit 9 = .ok (.ifCond .lt 8, 3)) (by decide)) (sb_cons (sd_iload_n (by decide +kernel : decode cX5_readDigit 12 = .ok (.iload_n 3, 1)) rfl) (sb_cons (sd_iload_n (by decide +kernel : decode cX5_readDigit 13 = .ok (.iload_n 2, 1)) rfl) (sb_cons (sd_lt (by decide +kernel : decode cX5_readDigit 14 = .ok (.if_icmp .lt 5, 3)) (by decide)) (sb_cons (sd_fall (x := 0)) sb_nil))))))))))
set_option maxRecDepth 100000 in
theorem sb_X5_readDigit_17 (l : Launch) : sm_SndB l RX5 "readDigit" cX5_readDigit 4 2 1 17 [oK 0, oZr] := sb_cons (sd_iconst (by decide +kernel : decode cX5_readDigit 17 = .ok (.iconst 0, 1)) ⟨by decide, by decide⟩) (sb_cons (sd_zreturn (x := 0) rfl (by decide +kernel : decode cX5_readDigit 18 = .ok (.ireturn, 1))) sb_nil)
set_option maxRecDepth 100000 in
theorem sb_X5_readDigit_19 (l : Launch) : sm_SndB l RX5 "readDigit" cX5_readDigit 4 2 1 19 [oA 0, oGr 5 5 4, oI 1, oI 3, oIst, oA 0, oDup, oGi 5 5 2, oK 1, oAdd, oPi 5 5 2, oK 1, oZr] := sb_cons (sd_aload_n (by decide +kernel : decode cX5_readDigit 19 = .ok (.aload_n 0, 1)) rfl) (sb_cons (sd_getr (k := 4) kl_5 (by decide) rfl wm_131 (by decide +kernel : decode cX5_readDigit 20 = .ok (.getfield 15, 3))) (sb_cons (sd_iload_n (by decide +kernel : decode cX5_readDigit 23 = .ok (.iload_n 1, 1)) rfl) (sb_cons (sd_iload_n (by decide +kernel : decode cX5_readDigit 24 = .ok (.iload_n 3, 1)) rfl) (sb_cons (sd_iastore (by decide +kernel : decode cX5_readDigit 25 = .ok (.iastore, 1))) (sb_cons (sd_aload_n (by decide +kernel : decode cX5_readDigit 26 = .ok (.aload_n 0, 1)) rfl) (sb_cons (sd_dup (by decide +kernel : decode cX5_readDigit 27 = .ok (.dup, 1))) (sb_cons (sd_geti (k := 2) kl_5 (by decide) rfl wm_129 (by decide +kernel : decode cX5_readDigit 28 = .ok (.getfield 29, 3))) (sb_cons (sd_iconst (by decide +kernel : decode cX5_readDigit 31 = .ok (.iconst 1, 1)) ⟨by decide, by decide⟩) (sb_cons (sd_iadd (by decide +kernel : decode cX5_readDigit 32 = .ok (.iadd, 1))) (sb_cons (sd_puti (k := 2) kl_5 (by decide) rfl (Or.inl rfl) wm_129 (by decide +kernel : decode cX5_readDigit 33 = .ok (.putfield 29, 3))) (sb_cons (sd_iconst (by decide +kernel : decode cX5_readDigit 36 = .ok (.iconst 1, 1)) ⟨by decide, by decide⟩) (sb_cons (sd_zreturn (x := 0) rfl (by decide +kernel : decode cX5_readDigit 37 = .ok (.ireturn, 1))) sb_nil))))))))))))
theorem sn_X5_readDigit (l : Launch) : sm_SndT l RX5 "readDigit" cX5_readDigit 4 2 1 tb_X5_readDigit := st_cons (sb_X5_readDigit_0 l) (st_cons (sb_X5_readDigit_17 l) (st_cons (sb_X5_readDigit_19 l) (st_nil)))
set_option maxRecDepth 100000 in
set_option maxHeartbeats 4000000 in
theorem ok_X5_readDigit : sm_Ok tb_X5_readDigit 4 0 0 p_X5_readDigit f_X5_readDigit := by
  intro as w hp ha hw
  match as, hp with
  | [.inr (.inl o), .inl p, .inl l], hp =>
  refine ⟨Nat.le_of_ble_eq_true rfl, fun Z hZ => ?_⟩
  obtain ⟨rfl, hO, p0, p1, hl⟩ := hp
  have hn := kNx_b hO
  obtain ⟨hT, h1, h2, h3⟩ := id hO
  have key : kD p l w = if kNx w - 48 < 0 then (w, 0) else (if l ≤ kNx w - 48 then (w, 0) else (wsI (wsI w 85 p (kNx w - 48)) 83 2 (wI w 83 2 + 1), 1)) := rfl
  generalize hE : kD p l w = E at *
  by_cases c : kNx w - 48 < 0
  · rw [if_pos c] at key
    subst key
    refine hZ (fun _ => false) 16 0 _ _ _ _ _ ?_
    simp only [sm_run, sm_blk, sm_get, sm_ent, sm_ents, sm_wds, sm_wd, sm_nl, sm_pop, sm_back, sm_cases, oK, oLK, oL, oI, oA, oJ, oIs, oAs, oJs, oInc, oAdd, oSub, oMul, oDiv, oRem, oNeg, oAnd, oAndB, oOr, oShl, oI2c, oI2l, oL2i, oLand, oLor, oLshl, oLshr, oLushr, oLcmp, oDup, oDup2, oPop, oGo, oFg, oEq, oNe, oLt, oGe, oGt, oLe, oEq0, oNe0, oLt0, oGe0, oGt0, oLe0, oSw, oGi, oGr, oPi, oPz, oPr, oLen, oIl, oZl, oCl, oRl, oIst, oZst, oCst, oRst, oCopy, oNew, oNa, oNa2, oObj, oCs, oCv, oCi, oIr, oZr, oVr, Nat.beq, List.getElem?_cons_zero, List.getElem?_cons_succ, List.set_cons_zero, List.set_cons_succ, List.length_cons, List.length_nil, List.nil_append, List.cons_append, List.append_nil, List.replicate_succ, List.replicate_zero, Nat.reduceAdd, Nat.reduceSub, Nat.reduceLT, Nat.reduceLeDiff, Nat.reduceBEq, true_and, and_true, Nat.zero_add, Nat.add_zero, Nat.le_refl, Option.some.injEq, exists_eq_left', true_or, or_true, or_false, false_or, reduceCtorEq, Prod.mk.injEq, Sum.inl.injEq, and_self, false_and, and_false, not_true_eq_false, not_false_eq_true, false_implies, true_implies, sm_r, Int.add_zero, Int.zero_add, wI_wsI, wS_wsI, wR_wsI, wI_wCp, wS_wCp, wR_wCp, Nat.reduceEqDiff, reduceIte, sT_iff, sT_iffC, wIf_ne, ne_eq, Bool.false_or, Bool.true_or, Bool.or_false, Bool.or_true, Bool.or_self, Nat.left_eq_add, Nat.add_eq_left, Nat.add_left_inj, oMax, oMin, oAbs, tb_X5_readDigit, p_X5_peek, f_X5_peek, p_X5_readDigit, f_X5_readDigit, sS_83 hT, sR_83_4 hT, sS_85 hT, hO, hE]
    repeat' (first | exact True.intro | with_reducible assumption | with_reducible refine And.intro ?_ ?_ | intro _)
    all_goals first
      | omega
      | assumption
      | rfl
      | (split <;> omega)
      | grind
      | skip
  · rw [if_neg c] at key
    by_cases c2 : l ≤ kNx w - 48
    · rw [if_pos c2] at key
      subst key
      refine hZ (fun _ => false) 16 0 _ _ _ _ _ ?_
      simp only [sm_run, sm_blk, sm_get, sm_ent, sm_ents, sm_wds, sm_wd, sm_nl, sm_pop, sm_back, sm_cases, oK, oLK, oL, oI, oA, oJ, oIs, oAs, oJs, oInc, oAdd, oSub, oMul, oDiv, oRem, oNeg, oAnd, oAndB, oOr, oShl, oI2c, oI2l, oL2i, oLand, oLor, oLshl, oLshr, oLushr, oLcmp, oDup, oDup2, oPop, oGo, oFg, oEq, oNe, oLt, oGe, oGt, oLe, oEq0, oNe0, oLt0, oGe0, oGt0, oLe0, oSw, oGi, oGr, oPi, oPz, oPr, oLen, oIl, oZl, oCl, oRl, oIst, oZst, oCst, oRst, oCopy, oNew, oNa, oNa2, oObj, oCs, oCv, oCi, oIr, oZr, oVr, Nat.beq, List.getElem?_cons_zero, List.getElem?_cons_succ, List.set_cons_zero, List.set_cons_succ, List.length_cons, List.length_nil, List.nil_append, List.cons_append, List.append_nil, List.replicate_succ, List.replicate_zero, Nat.reduceAdd, Nat.reduceSub, Nat.reduceLT, Nat.reduceLeDiff, Nat.reduceBEq, true_and, and_true, Nat.zero_add, Nat.add_zero, Nat.le_refl, Option.some.injEq, exists_eq_left', true_or, or_true, or_false, false_or, reduceCtorEq, Prod.mk.injEq, Sum.inl.injEq, and_self, false_and, and_false, not_true_eq_false, not_false_eq_true, false_implies, true_implies, sm_r, Int.add_zero, Int.zero_add, wI_wsI, wS_wsI, wR_wsI, wI_wCp, wS_wCp, wR_wCp, Nat.reduceEqDiff, reduceIte, sT_iff, sT_iffC, wIf_ne, ne_eq, Bool.false_or, Bool.true_or, Bool.or_false, Bool.or_true, Bool.or_self, Nat.left_eq_add, Nat.add_eq_left, Nat.add_left_inj, oMax, oMin, oAbs, tb_X5_readDigit, p_X5_peek, f_X5_peek, p_X5_readDigit, f_X5_readDigit, sS_83 hT, sR_83_4 hT, sS_85 hT, hO, hE]
      repeat' (first | exact True.intro | with_reducible assumption | with_reducible refine And.intro ?_ ?_ | intro _)
      all_goals first
        | omega
        | assumption
        | rfl
        | (split <;> omega)
        | grind
        | skip
    · rw [if_neg c2] at key
      subst key
      refine hZ (fun _ => false) 16 0 _ _ _ _ _ ?_
      simp only [sm_run, sm_blk, sm_get, sm_ent, sm_ents, sm_wds, sm_wd, sm_nl, sm_pop, sm_back, sm_cases, oK, oLK, oL, oI, oA, oJ, oIs, oAs, oJs, oInc, oAdd, oSub, oMul, oDiv, oRem, oNeg, oAnd, oAndB, oOr, oShl, oI2c, oI2l, oL2i, oLand, oLor, oLshl, oLshr, oLushr, oLcmp, oDup, oDup2, oPop, oGo, oFg, oEq, oNe, oLt, oGe, oGt, oLe, oEq0, oNe0, oLt0, oGe0, oGt0, oLe0, oSw, oGi, oGr, oPi, oPz, oPr, oLen, oIl, oZl, oCl, oRl, oIst, oZst, oCst, oRst, oCopy, oNew, oNa, oNa2, oObj, oCs, oCv, oCi, oIr, oZr, oVr, Nat.beq, List.getElem?_cons_zero, List.getElem?_cons_succ, List.set_cons_zero, List.set_cons_succ, List.length_cons, List.length_nil, List.nil_append, List.cons_append, List.append_nil, List.replicate_succ, List.replicate_zero, Nat.reduceAdd, Nat.reduceSub, Nat.reduceLT, Nat.reduceLeDiff, Nat.reduceBEq, true_and, and_true, Nat.zero_add, Nat.add_zero, Nat.le_refl, Option.some.injEq, exists_eq_left', true_or, or_true, or_false, false_or, reduceCtorEq, Prod.mk.injEq, Sum.inl.injEq, and_self, false_and, and_false, not_true_eq_false, not_false_eq_true, false_implies, true_implies, sm_r, Int.add_zero, Int.zero_add, wI_wsI, wS_wsI, wR_wsI, wI_wCp, wS_wCp, wR_wCp, Nat.reduceEqDiff, reduceIte, sT_iff, sT_iffC, wIf_ne, ne_eq, Bool.false_or, Bool.true_or, Bool.or_false, Bool.or_true, Bool.or_self, Nat.left_eq_add, Nat.add_eq_left, Nat.add_left_inj, oMax, oMin, oAbs, tb_X5_readDigit, p_X5_peek, f_X5_peek, p_X5_readDigit, f_X5_readDigit, sS_83 hT, sR_83_4 hT, sS_85 hT, hO, hE, sT_iff]
      repeat' (first | exact True.intro | with_reducible assumption | with_reducible refine And.intro ?_ ?_ | intro _)
      all_goals first
        | omega
        | assumption
        | rfl
        | (split <;> omega)
        | grind
        | skip
theorem met_X5_readDigit (l : Launch) : sm_Met l yX5_readDigit cX5_readDigit 4 (some .boolean) 1 0 0 p_X5_readDigit f_X5_readDigit := sm_met 2 (Or.inr (Or.inr ⟨rfl, rfl⟩)) (by decide +kernel) (sn_X5_readDigit l) ok_X5_readDigit
theorem kD_at {p l : Int} {w : sm_W} (h : ¬ (kD p l w).2 = 0) : wI (kD p l w).1 85 p = kNx w - 48 ∧ 0 ≤ kNx w - 48 ∧ kNx w - 48 < l := by
  have key : kD p l w = if kNx w - 48 < 0 then (w, 0) else (if l ≤ kNx w - 48 then (w, 0) else (wsI (wsI w 85 p (kNx w - 48)) 83 2 (wI w 83 2 + 1), 1)) := rfl
  by_cases c : kNx w - 48 < 0
  · rw [if_pos c] at key; rw [key] at h; exact absurd rfl h
  · rw [if_neg c] at key
    by_cases c2 : l ≤ kNx w - 48
    · rw [if_pos c2] at key; rw [key] at h; exact absurd rfl h
    · rw [if_neg c2] at key
      rw [key]
      refine ⟨?_, by omega, by omega⟩
      show wI (wsI (wsI w 85 p (kNx w - 48)) 83 2 (wI w 83 2 + 1)) 85 p = _
      rw [wIf_ne (by decide), wI_wsI, if_pos ⟨rfl, rfl⟩]
theorem kD_0 {p l : Int} {w : sm_W} (h : (kD p l w).2 = 0) : (kD p l w).1 = w := by
  have key : kD p l w = if kNx w - 48 < 0 then (w, 0) else (if l ≤ kNx w - 48 then (w, 0) else (wsI (wsI w 85 p (kNx w - 48)) 83 2 (wI w 83 2 + 1), 1)) := rfl
  by_cases c : kNx w - 48 < 0
  · rw [if_pos c] at key; rw [key]
  · rw [if_neg c] at key
    by_cases c2 : l ≤ kNx w - 48
    · rw [if_pos c2] at key; rw [key]
    · rw [if_neg c2] at key; rw [key] at h; exact absurd (show (1 : Int) = 0 from h) (by decide)
def p_X5_readNumber : List sm_V → sm_W → Prop
  | [.inr (.inl o), .inl p], w => o = 83 ∧ kOK w ∧ 0 ≤ p ∧ p < 5
  | _, _ => False
def f_X5_readNumber : sm_F
  | [.inr (.inl o), .inl p], w => (some (.inl (kN p w).2), (kN p w).1)
  | _, w => (none, w)
def tb_X5_readNumber : List (Nat × List sm_O) := [(0, [oA 0, oI 1, oK 10, oCv 5 5 p_X5_readDigit f_X5_readDigit 0 0 3, oNe0 12, oK 0, oZr]),
  (12, [oA 0, oGr 5 5 4, oI 1, oIl, oIs 2, oK 1, oIs 3, oGo 21]),
  (21, [oI 3, oK 3, oGe 58, oI 2, oLe0 58, oA 0, oI 1, oK 10, oCv 5 5 p_X5_readDigit f_X5_readDigit 0 0 3, oEq0 58, oK 10, oI 2, oMul, oA 0, oGr 5 5 4, oI 1, oIl, oAdd, oIs 2, oInc 3 1, oGo 21]),
  (58, [oA 0, oGr 5 5 4, oI 1, oI 2, oIst, oK 1, oZr])]
set_option maxRecDepth 100000 in
theorem sb_X5_readNumber_0 (l : Launch) : sm_SndB l RX5 "readNumber" cX5_readNumber 4 2 2 0 [oA 0, oI 1, oK 10, oCv 5 5 p_X5_readDigit f_X5_readDigit 0 0 3, oNe0 12, oK 0, oZr] := sb_cons (sd_aload_n (by decide +kernel : decode cX5_readNumber 0 = .ok (.aload_n 0, 1)) rfl) (sb_cons (sd_iload_n (by decide +kernel : decode cX5_readNumber 1 = .ok (.iload_n 1, 1)) rfl) (sb_cons (sd_bipush (by decide +kernel : decode cX5_readNumber 2 = .ok (.bipush 10, 2)) ⟨by decide, by decide⟩ (by decide)) (sb_cons (sd_callv (n := 2) (met_X5_readDigit l) (by decide) (by decide) wm_612 wm_610 wm_8 ⟨by decide +kernel, by decide +kernel, by decide +kernel⟩ kl_5 wm_611 wm_1100 (by decide +kernel : decode cX5_readNumber 4 = .ok (.invokevirtual 83, 3))) (sb_cons (sd_ne0 (by decide +kernel : decode cX5_readNumber 7 = .ok (.ifCond .ne 5, 3)) (by decide)) (sb_cons (sd_iconst (by decide +kernel : decode cX5_readNumber 10 = .ok (.iconst 0, 1)) ⟨by decide, by decide⟩) (sb_cons (sd_zreturn (x := 0) rfl (by decide +kernel : decode cX5_readNumber 11 = .ok (.ireturn, 1))) sb_nil))))))
set_option maxRecDepth 100000 in
theorem sb_X5_readNumber_12 (l : Launch) : sm_SndB l RX5 "readNumber" cX5_readNumber 4 2 2 12 [oA 0, oGr 5 5 4, oI 1, oIl, oIs 2, oK 1, oIs 3, oGo 21] := sb_cons (sd_aload_n (by decide +kernel : decode cX5_readNumber 12 = .ok (.aload_n 0, 1)) rfl) (sb_cons (sd_getr (k := 4) kl_5 (by decide) rfl wm_131 (by decide +kernel : decode cX5_readNumber 13 = .ok (.getfield 15, 3))) (sb_cons (sd_iload_n (by decide +kernel : decode cX5_readNumber 16 = .ok (.iload_n 1, 1)) rfl) (sb_cons (sd_iaload (by decide +kernel : decode cX5_readNumber 17 = .ok (.iaload, 1))) (sb_cons (sd_istore_n (by decide +kernel : decode cX5_readNumber 18 = .ok (.istore_n 2, 1)) rfl) (sb_cons (sd_iconst (by decide +kernel : decode cX5_readNumber 19 = .ok (.iconst 1, 1)) ⟨by decide, by decide⟩) (sb_cons (sd_istore_n (by decide +kernel : decode cX5_readNumber 20 = .ok (.istore_n 3, 1)) rfl) (sb_cons (sd_fall (x := 0)) sb_nil)))))))
set_option maxRecDepth 100000 in
theorem sb_X5_readNumber_21 (l : Launch) : sm_SndB l RX5 "readNumber" cX5_readNumber 4 2 2 21 [oI 3, oK 3, oGe 58, oI 2, oLe0 58, oA 0, oI 1, oK 10, oCv 5 5 p_X5_readDigit f_X5_readDigit 0 0 3, oEq0 58, oK 10, oI 2, oMul, oA 0, oGr 5 5 4, oI 1, oIl, oAdd, oIs 2, oInc 3 1, oGo 21] := sb_cons (sd_iload_n (by decide +kernel : decode cX5_readNumber 21 = .ok (.iload_n 3, 1)) rfl) (sb_cons (sd_iconst (by decide +kernel : decode cX5_readNumber 22 = .ok (.iconst 3, 1)) ⟨by decide, by decide⟩) (sb_cons (sd_ge (by decide +kernel : decode cX5_readNumber 23 = .ok (.if_icmp .ge 35, 3)) (by decide)) (sb_cons (sd_iload_n (by decide +kernel : decode cX5_readNumber 26 = .ok (.iload_n 2, 1)) rfl) (sb_cons (sd_le0 (by decide +kernel : decode cX5_readNumber 27 = .ok (.ifCond .le 31, 3)) (by decide)) (sb_cons (sd_aload_n (by decide +kernel : decode cX5_readNumber 30 = .ok (.aload_n 0, 1)) rfl) (sb_cons (sd_iload_n (by decide +kernel : decode cX5_readNumber 31 = .ok (.iload_n 1, 1)) rfl) (sb_cons (sd_bipush (by decide +kernel : decode cX5_readNumber 32 = .ok (.bipush 10, 2)) ⟨by decide, by decide⟩ (by decide)) (sb_cons (sd_callv (n := 2) (met_X5_readDigit l) (by decide) (by decide) wm_612 wm_610 wm_8 ⟨by decide +kernel, by decide +kernel, by decide +kernel⟩ kl_5 wm_611 wm_1100 (by decide +kernel : decode cX5_readNumber 34 = .ok (.invokevirtual 83, 3))) (sb_cons (sd_eq0 (by decide +kernel : decode cX5_readNumber 37 = .ok (.ifCond .eq 21, 3)) (by decide)) (sb_cons (sd_bipush (by decide +kernel : decode cX5_readNumber 40 = .ok (.bipush 10, 2)) ⟨by decide, by decide⟩ (by decide)) (sb_cons (sd_iload_n (by decide +kernel : decode cX5_readNumber 42 = .ok (.iload_n 2, 1)) rfl) (sb_cons (sd_imul (by decide +kernel : decode cX5_readNumber 43 = .ok (.imul, 1))) (sb_cons (sd_aload_n (by decide +kernel : decode cX5_readNumber 44 = .ok (.aload_n 0, 1)) rfl) (sb_cons (sd_getr (k := 4) kl_5 (by decide) rfl wm_131 (by decide +kernel : decode cX5_readNumber 45 = .ok (.getfield 15, 3))) (sb_cons (sd_iload_n (by decide +kernel : decode cX5_readNumber 48 = .ok (.iload_n 1, 1)) rfl) (sb_cons (sd_iaload (by decide +kernel : decode cX5_readNumber 49 = .ok (.iaload, 1))) (sb_cons (sd_iadd (by decide +kernel : decode cX5_readNumber 50 = .ok (.iadd, 1))) (sb_cons (sd_istore_n (by decide +kernel : decode cX5_readNumber 51 = .ok (.istore_n 2, 1)) rfl) (sb_cons (sd_iinc (by decide +kernel : decode cX5_readNumber 52 = .ok (.iinc 3 1, 3))) (sb_cons (sd_goto (x := 0) (by decide +kernel : decode cX5_readNumber 55 = .ok (.goto (-34), 3)) (by decide)) sb_nil))))))))))))))))))))
set_option maxRecDepth 100000 in
theorem sb_X5_readNumber_58 (l : Launch) : sm_SndB l RX5 "readNumber" cX5_readNumber 4 2 2 58 [oA 0, oGr 5 5 4, oI 1, oI 2, oIst, oK 1, oZr] := sb_cons (sd_aload_n (by decide +kernel : decode cX5_readNumber 58 = .ok (.aload_n 0, 1)) rfl) (sb_cons (sd_getr (k := 4) kl_5 (by decide) rfl wm_131 (by decide +kernel : decode cX5_readNumber 59 = .ok (.getfield 15, 3))) (sb_cons (sd_iload_n (by decide +kernel : decode cX5_readNumber 62 = .ok (.iload_n 1, 1)) rfl) (sb_cons (sd_iload_n (by decide +kernel : decode cX5_readNumber 63 = .ok (.iload_n 2, 1)) rfl) (sb_cons (sd_iastore (by decide +kernel : decode cX5_readNumber 64 = .ok (.iastore, 1))) (sb_cons (sd_iconst (by decide +kernel : decode cX5_readNumber 65 = .ok (.iconst 1, 1)) ⟨by decide, by decide⟩) (sb_cons (sd_zreturn (x := 0) rfl (by decide +kernel : decode cX5_readNumber 66 = .ok (.ireturn, 1))) sb_nil))))))
theorem sn_X5_readNumber (l : Launch) : sm_SndT l RX5 "readNumber" cX5_readNumber 4 2 2 tb_X5_readNumber := st_cons (sb_X5_readNumber_0 l) (st_cons (sb_X5_readNumber_12 l) (st_cons (sb_X5_readNumber_21 l) (st_cons (sb_X5_readNumber_58 l) (st_nil))))
set_option maxRecDepth 100000 in
set_option maxHeartbeats 4000000 in
theorem ok_X5_readNumber : sm_Ok tb_X5_readNumber 4 0 0 p_X5_readNumber f_X5_readNumber := by
  intro as w hp ha hw
  match as, hp with
  | [.inr (.inl o), .inl p], hp =>
  refine ⟨Nat.le_of_ble_eq_true rfl, fun Z hZ => ?_⟩
  obtain ⟨rfl, hO, p0, p1⟩ := hp
  obtain ⟨hT, h1, h2, h3⟩ := id hO
  have hd := kG_D p 10 w hO
  have ho := (kG_D p 10).ok hO
  have hTd := ho.1
  have key : kN p w = if (kD p 10 w).2 = 0 then ((kD p 10 w).1, 0) else (kNL p 2 (kD p 10 w).1 (kNx w - 48), 1) := rfl
  generalize hE : kN p w = E at *
  by_cases c : (kD p 10 w).2 = 0
  · rw [if_pos c] at key
    subst key
    refine hZ (fun u => Nat.beq u 21) 14 0 _ _ _ _ _ ?_
    simp only [sm_run, sm_blk, sm_get, sm_ent, sm_ents, sm_wds, sm_wd, sm_nl, sm_pop, sm_back, sm_cases, oK, oLK, oL, oI, oA, oJ, oIs, oAs, oJs, oInc, oAdd, oSub, oMul, oDiv, oRem, oNeg, oAnd, oAndB, oOr, oShl, oI2c, oI2l, oL2i, oLand, oLor, oLshl, oLshr, oLushr, oLcmp, oDup, oDup2, oPop, oGo, oFg, oEq, oNe, oLt, oGe, oGt, oLe, oEq0, oNe0, oLt0, oGe0, oGt0, oLe0, oSw, oGi, oGr, oPi, oPz, oPr, oLen, oIl, oZl, oCl, oRl, oIst, oZst, oCst, oRst, oCopy, oNew, oNa, oNa2, oObj, oCs, oCv, oCi, oIr, oZr, oVr, Nat.beq, List.getElem?_cons_zero, List.getElem?_cons_succ, List.set_cons_zero, List.set_cons_succ, List.length_cons, List.length_nil, List.nil_append, List.cons_append, List.append_nil, List.replicate_succ, List.replicate_zero, Nat.reduceAdd, Nat.reduceSub, Nat.reduceLT, Nat.reduceLeDiff, Nat.reduceBEq, true_and, and_true, Nat.zero_add, Nat.add_zero, Nat.le_refl, Option.some.injEq, exists_eq_left', true_or, or_true, or_false, false_or, reduceCtorEq, Prod.mk.injEq, Sum.inl.injEq, and_self, false_and, and_false, not_true_eq_false, not_false_eq_true, false_implies, true_implies, sm_r, Int.add_zero, Int.zero_add, wI_wsI, wS_wsI, wR_wsI, wI_wCp, wS_wCp, wR_wCp, Nat.reduceEqDiff, reduceIte, sT_iff, sT_iffC, wIf_ne, ne_eq, Bool.false_or, Bool.true_or, Bool.or_false, Bool.or_true, Bool.or_self, Nat.left_eq_add, Nat.add_eq_left, Nat.add_left_inj, oMax, oMin, oAbs, tb_X5_readNumber, p_X5_readDigit, f_X5_readDigit, p_X5_readNumber, f_X5_readNumber, sS_83 hT, hO, c, hE]
    repeat' (first | exact True.intro | with_reducible assumption | with_reducible refine And.intro ?_ ?_ | intro _)
    all_goals first
      | omega
      | assumption
      | rfl
      | (split <;> omega)
      | (have k9 := ih (by omega)
         (repeat' split at k9) <;> first | exact k9 | omega)
      | (have k9 := ih2 (by omega)
         (repeat' split at k9) <;> first | exact k9 | omega)
      | exact he (by omega)
      | ((with_reducible congr 1) <;> omega)
      | (rw [if_pos (by omega)] at he; exact he)
      | exact hD1 (by omega)
      | exact hD2 (by omega)
      | grind
      | skip
  · rw [if_neg c] at key
    have hat := kD_at c
    have hl := sm_loopM (S := Nat × sm_W × Int) Z 21 (fun s => s.1) (fun s => s.1 ≤ 2 ∧ kOK s.2.1 ∧ 0 ≤ s.2.2 ∧ (s.1 = 2 → s.2.2 ≤ 9) ∧ (s.1 = 1 → s.2.2 ≤ 99) ∧ (s.1 = 0 → s.2.2 ≤ 999) ∧ kNL p s.1 s.2.1 s.2.2 = E.1) (fun s => [some (.inr (.inl 83)), some (.inl p), some (.inl s.2.2), some (.inl (3 - s.1))]) (fun s => s.2.1) 0 0 (fun s hI ih => by
      obtain ⟨n, u, v⟩ := s
      dsimp only at hI ih ⊢
      obtain ⟨i1, hU, v0, v2, v1, v00, he⟩ := hI
      have hTu := hU.1
      have h58 : wsI u 85 p v = E.1 → Z 58 [some (.inr (.inl 83)), some (.inl p), some (.inl v), some (.inl (3 - n))] [] u 0 0 := fun h => by
        have hE2 : E.2 = 1 := by rw [key]
        refine hZ (fun u => Nat.beq u 21) 14 58 _ _ _ _ _ ?_
        simp only [sm_run, sm_blk, sm_get, sm_ent, sm_ents, sm_wds, sm_wd, sm_nl, sm_pop, sm_back, sm_cases, oK, oLK, oL, oI, oA, oJ, oIs, oAs, oJs, oInc, oAdd, oSub, oMul, oDiv, oRem, oNeg, oAnd, oAndB, oOr, oShl, oI2c, oI2l, oL2i, oLand, oLor, oLshl, oLshr, oLushr, oLcmp, oDup, oDup2, oPop, oGo, oFg, oEq, oNe, oLt, oGe, oGt, oLe, oEq0, oNe0, oLt0, oGe0, oGt0, oLe0, oSw, oGi, oGr, oPi, oPz, oPr, oLen, oIl, oZl, oCl, oRl, oIst, oZst, oCst, oRst, oCopy, oNew, oNa, oNa2, oObj, oCs, oCv, oCi, oIr, oZr, oVr, Nat.beq, List.getElem?_cons_zero, List.getElem?_cons_succ, List.set_cons_zero, List.set_cons_succ, List.length_cons, List.length_nil, List.nil_append, List.cons_append, List.append_nil, List.replicate_succ, List.replicate_zero, Nat.reduceAdd, Nat.reduceSub, Nat.reduceLT, Nat.reduceLeDiff, Nat.reduceBEq, true_and, and_true, Nat.zero_add, Nat.add_zero, Nat.le_refl, Option.some.injEq, exists_eq_left', true_or, or_true, or_false, false_or, reduceCtorEq, Prod.mk.injEq, Sum.inl.injEq, and_self, false_and, and_false, not_true_eq_false, not_false_eq_true, false_implies, true_implies, sm_r, Int.add_zero, Int.zero_add, wI_wsI, wS_wsI, wR_wsI, wI_wCp, wS_wCp, wR_wCp, Nat.reduceEqDiff, reduceIte, sT_iff, sT_iffC, wIf_ne, ne_eq, Bool.false_or, Bool.true_or, Bool.or_false, Bool.or_true, Bool.or_self, Nat.left_eq_add, Nat.add_eq_left, Nat.add_left_inj, oMax, oMin, oAbs, tb_X5_readNumber, p_X5_readDigit, f_X5_readDigit, p_X5_readNumber, f_X5_readNumber, sS_83 hTu, sR_83_4 hTu, sS_85 hTu, hE, hE2]
        repeat' (first | exact True.intro | with_reducible assumption | with_reducible refine And.intro ?_ ?_ | intro _)
        all_goals first
          | omega
          | assumption
          | rfl
          | (split <;> omega)
          | (have k9 := ih (by omega)
             (repeat' split at k9) <;> first | exact k9 | omega)
          | (have k9 := ih2 (by omega)
             (repeat' split at k9) <;> first | exact k9 | omega)
          | exact he (by omega)
          | ((with_reducible congr 1) <;> omega)
          | (rw [if_pos (by omega)] at he; exact he)
          | exact hD1 (by omega)
          | exact hD2 (by omega)
          | grind
          | skip
      cases n with
      | zero =>
        have h58 := h58 he
        clear ih
        refine hZ (fun u => Nat.beq u 21 || Nat.beq u 58) 14 21 _ _ _ _ _ ?_
        simp only [sm_run, sm_blk, sm_get, sm_ent, sm_ents, sm_wds, sm_wd, sm_nl, sm_pop, sm_back, sm_cases, oK, oLK, oL, oI, oA, oJ, oIs, oAs, oJs, oInc, oAdd, oSub, oMul, oDiv, oRem, oNeg, oAnd, oAndB, oOr, oShl, oI2c, oI2l, oL2i, oLand, oLor, oLshl, oLshr, oLushr, oLcmp, oDup, oDup2, oPop, oGo, oFg, oEq, oNe, oLt, oGe, oGt, oLe, oEq0, oNe0, oLt0, oGe0, oGt0, oLe0, oSw, oGi, oGr, oPi, oPz, oPr, oLen, oIl, oZl, oCl, oRl, oIst, oZst, oCst, oRst, oCopy, oNew, oNa, oNa2, oObj, oCs, oCv, oCi, oIr, oZr, oVr, Nat.beq, List.getElem?_cons_zero, List.getElem?_cons_succ, List.set_cons_zero, List.set_cons_succ, List.length_cons, List.length_nil, List.nil_append, List.cons_append, List.append_nil, List.replicate_succ, List.replicate_zero, Nat.reduceAdd, Nat.reduceSub, Nat.reduceLT, Nat.reduceLeDiff, Nat.reduceBEq, true_and, and_true, Nat.zero_add, Nat.add_zero, Nat.le_refl, Option.some.injEq, exists_eq_left', true_or, or_true, or_false, false_or, reduceCtorEq, Prod.mk.injEq, Sum.inl.injEq, and_self, false_and, and_false, not_true_eq_false, not_false_eq_true, false_implies, true_implies, sm_r, Int.add_zero, Int.zero_add, wI_wsI, wS_wsI, wR_wsI, wI_wCp, wS_wCp, wR_wCp, Nat.reduceEqDiff, reduceIte, sT_iff, sT_iffC, wIf_ne, ne_eq, Bool.false_or, Bool.true_or, Bool.or_false, Bool.or_true, Bool.or_self, Nat.left_eq_add, Nat.add_eq_left, Nat.add_left_inj, oMax, oMin, oAbs, tb_X5_readNumber, p_X5_readDigit, f_X5_readDigit, p_X5_readNumber, f_X5_readNumber]
        repeat' (first | exact True.intro | with_reducible assumption | with_reducible refine And.intro ?_ ?_ | intro _)
        all_goals first
          | omega
          | assumption
          | rfl
          | (split <;> omega)
          | (have k9 := ih (by omega)
             (repeat' split at k9) <;> first | exact k9 | omega)
          | (have k9 := ih2 (by omega)
             (repeat' split at k9) <;> first | exact k9 | omega)
          | exact he (by omega)
          | ((with_reducible congr 1) <;> omega)
          | (rw [if_pos (by omega)] at he; exact he)
          | exact hD1 (by omega)
          | exact hD2 (by omega)
          | skip
      | succ n =>
        rw [kNL_s] at he
        have hcast : (3 : Int) - ((n + 1 : Nat) : Int) + 1 = 3 - (n : Int) := by omega
        by_cases c1 : v ≤ 0
        · rw [if_pos c1] at he
          have h58 := h58 he
          clear ih
          refine hZ (fun u => Nat.beq u 21 || Nat.beq u 58) 14 21 _ _ _ _ _ ?_
          simp only [sm_run, sm_blk, sm_get, sm_ent, sm_ents, sm_wds, sm_wd, sm_nl, sm_pop, sm_back, sm_cases, oK, oLK, oL, oI, oA, oJ, oIs, oAs, oJs, oInc, oAdd, oSub, oMul, oDiv, oRem, oNeg, oAnd, oAndB, oOr, oShl, oI2c, oI2l, oL2i, oLand, oLor, oLshl, oLshr, oLushr, oLcmp, oDup, oDup2, oPop, oGo, oFg, oEq, oNe, oLt, oGe, oGt, oLe, oEq0, oNe0, oLt0, oGe0, oGt0, oLe0, oSw, oGi, oGr, oPi, oPz, oPr, oLen, oIl, oZl, oCl, oRl, oIst, oZst, oCst, oRst, oCopy, oNew, oNa, oNa2, oObj, oCs, oCv, oCi, oIr, oZr, oVr, Nat.beq, List.getElem?_cons_zero, List.getElem?_cons_succ, List.set_cons_zero, List.set_cons_succ, List.length_cons, List.length_nil, List.nil_append, List.cons_append, List.append_nil, List.replicate_succ, List.replicate_zero, Nat.reduceAdd, Nat.reduceSub, Nat.reduceLT, Nat.reduceLeDiff, Nat.reduceBEq, true_and, and_true, Nat.zero_add, Nat.add_zero, Nat.le_refl, Option.some.injEq, exists_eq_left', true_or, or_true, or_false, false_or, reduceCtorEq, Prod.mk.injEq, Sum.inl.injEq, and_self, false_and, and_false, not_true_eq_false, not_false_eq_true, false_implies, true_implies, sm_r, Int.add_zero, Int.zero_add, wI_wsI, wS_wsI, wR_wsI, wI_wCp, wS_wCp, wR_wCp, Nat.reduceEqDiff, reduceIte, sT_iff, sT_iffC, wIf_ne, ne_eq, Bool.false_or, Bool.true_or, Bool.or_false, Bool.or_true, Bool.or_self, Nat.left_eq_add, Nat.add_eq_left, Nat.add_left_inj, oMax, oMin, oAbs, tb_X5_readNumber, p_X5_readDigit, f_X5_readDigit, p_X5_readNumber, f_X5_readNumber]
          repeat' (first | exact True.intro | with_reducible assumption | with_reducible refine And.intro ?_ ?_ | intro _)
          all_goals first
            | omega
            | assumption
            | rfl
            | (split <;> omega)
            | (have k9 := ih (by omega)
               (repeat' split at k9) <;> first | exact k9 | omega)
            | (have k9 := ih2 (by omega)
               (repeat' split at k9) <;> first | exact k9 | omega)
            | exact he (by omega)
            | ((with_reducible congr 1) <;> omega)
            | (rw [if_pos (by omega)] at he; exact he)
            | exact hD1 (by omega)
            | exact hD2 (by omega)
            | skip
        · rw [if_neg c1] at he
          by_cases c2 : (kD p 10 u).2 = 0
          · rw [if_pos c2] at he
            have h58 := h58 he
            have e0 := kD_0 c2
            clear ih
            refine hZ (fun u => Nat.beq u 21 || Nat.beq u 58) 14 21 _ _ _ _ _ ?_
            simp only [sm_run, sm_blk, sm_get, sm_ent, sm_ents, sm_wds, sm_wd, sm_nl, sm_pop, sm_back, sm_cases, oK, oLK, oL, oI, oA, oJ, oIs, oAs, oJs, oInc, oAdd, oSub, oMul, oDiv, oRem, oNeg, oAnd, oAndB, oOr, oShl, oI2c, oI2l, oL2i, oLand, oLor, oLshl, oLshr, oLushr, oLcmp, oDup, oDup2, oPop, oGo, oFg, oEq, oNe, oLt, oGe, oGt, oLe, oEq0, oNe0, oLt0, oGe0, oGt0, oLe0, oSw, oGi, oGr, oPi, oPz, oPr, oLen, oIl, oZl, oCl, oRl, oIst, oZst, oCst, oRst, oCopy, oNew, oNa, oNa2, oObj, oCs, oCv, oCi, oIr, oZr, oVr, Nat.beq, List.getElem?_cons_zero, List.getElem?_cons_succ, List.set_cons_zero, List.set_cons_succ, List.length_cons, List.length_nil, List.nil_append, List.cons_append, List.append_nil, List.replicate_succ, List.replicate_zero, Nat.reduceAdd, Nat.reduceSub, Nat.reduceLT, Nat.reduceLeDiff, Nat.reduceBEq, true_and, and_true, Nat.zero_add, Nat.add_zero, Nat.le_refl, Option.some.injEq, exists_eq_left', true_or, or_true, or_false, false_or, reduceCtorEq, Prod.mk.injEq, Sum.inl.injEq, and_self, false_and, and_false, not_true_eq_false, not_false_eq_true, false_implies, true_implies, sm_r, Int.add_zero, Int.zero_add, wI_wsI, wS_wsI, wR_wsI, wI_wCp, wS_wCp, wR_wCp, Nat.reduceEqDiff, reduceIte, sT_iff, sT_iffC, wIf_ne, ne_eq, Bool.false_or, Bool.true_or, Bool.or_false, Bool.or_true, Bool.or_self, Nat.left_eq_add, Nat.add_eq_left, Nat.add_left_inj, oMax, oMin, oAbs, tb_X5_readNumber, p_X5_readDigit, f_X5_readDigit, p_X5_readNumber, f_X5_readNumber, sS_83 hTu, hU, c2, e0]
            repeat' (first | exact True.intro | with_reducible assumption | with_reducible refine And.intro ?_ ?_ | intro _)
            all_goals first
              | omega
              | assumption
              | rfl
              | (split <;> omega)
              | (have k9 := ih (by omega)
                 (repeat' split at k9) <;> first | exact k9 | omega)
              | (have k9 := ih2 (by omega)
                 (repeat' split at k9) <;> first | exact k9 | omega)
              | exact he (by omega)
              | ((with_reducible congr 1) <;> omega)
              | (rw [if_pos (by omega)] at he; exact he)
              | exact hD1 (by omega)
              | exact hD2 (by omega)
              | grind
              | skip
          · rw [if_neg c2] at he
            have hau := kD_at c2
            have hoU := (kG_D p 10).ok hU
            have hTo := hoU.1
            have d01 := (kG_D p 10 u hU).2.1
            have d1 : (kD p 10 u).2 = 1 := by omega
            have ih := ih (n, (kD p 10 u).1, 10 * v + (kNx u - 48)) ⟨by omega, hoU, by dsimp only; omega, fun e => by dsimp only at e ⊢; omega, fun e => by dsimp only at e ⊢; omega, fun e => by dsimp only at e ⊢; omega, he⟩ (Nat.lt_succ_self n)
            dsimp only at ih
            have hau1 := hau.1
            clear h58 he
            refine hZ (fun u => Nat.beq u 21 || Nat.beq u 58) 14 21 _ _ _ _ _ ?_
            simp only [sm_run, sm_blk, sm_get, sm_ent, sm_ents, sm_wds, sm_wd, sm_nl, sm_pop, sm_back, sm_cases, oK, oLK, oL, oI, oA, oJ, oIs, oAs, oJs, oInc, oAdd, oSub, oMul, oDiv, oRem, oNeg, oAnd, oAndB, oOr, oShl, oI2c, oI2l, oL2i, oLand, oLor, oLshl, oLshr, oLushr, oLcmp, oDup, oDup2, oPop, oGo, oFg, oEq, oNe, oLt, oGe, oGt, oLe, oEq0, oNe0, oLt0, oGe0, oGt0, oLe0, oSw, oGi, oGr, oPi, oPz, oPr, oLen, oIl, oZl, oCl, oRl, oIst, oZst, oCst, oRst, oCopy, oNew, oNa, oNa2, oObj, oCs, oCv, oCi, oIr, oZr, oVr, Nat.beq, List.getElem?_cons_zero, List.getElem?_cons_succ, List.set_cons_zero, List.set_cons_succ, List.length_cons, List.length_nil, List.nil_append, List.cons_append, List.append_nil, List.replicate_succ, List.replicate_zero, Nat.reduceAdd, Nat.reduceSub, Nat.reduceLT, Nat.reduceLeDiff, Nat.reduceBEq, true_and, and_true, Nat.zero_add, Nat.add_zero, Nat.le_refl, Option.some.injEq, exists_eq_left', true_or, or_true, or_false, false_or, reduceCtorEq, Prod.mk.injEq, Sum.inl.injEq, and_self, false_and, and_false, not_true_eq_false, not_false_eq_true, false_implies, true_implies, sm_r, Int.add_zero, Int.zero_add, wI_wsI, wS_wsI, wR_wsI, wI_wCp, wS_wCp, wR_wCp, Nat.reduceEqDiff, reduceIte, sT_iff, sT_iffC, wIf_ne, ne_eq, Bool.false_or, Bool.true_or, Bool.or_false, Bool.or_true, Bool.or_self, Nat.left_eq_add, Nat.add_eq_left, Nat.add_left_inj, oMax, oMin, oAbs, tb_X5_readNumber, p_X5_readDigit, f_X5_readDigit, p_X5_readNumber, f_X5_readNumber, sS_83 hTu, hU, d1, sS_83 hTo, sR_83_4 hTo, sS_85 hTo, hau1, hcast]
            repeat' (first | exact True.intro | with_reducible assumption | with_reducible refine And.intro ?_ ?_ | intro _)
            all_goals first
              | omega
              | assumption
              | rfl
              | (split <;> omega)
              | (have k9 := ih (by omega)
                 (repeat' split at k9) <;> first | exact k9 | omega)
              | (have k9 := ih2 (by omega)
                 (repeat' split at k9) <;> first | exact k9 | omega)
              | exact he (by omega)
              | ((with_reducible congr 1) <;> omega)
              | (rw [if_pos (by omega)] at he; exact he)
              | exact hD1 (by omega)
              | exact hD2 (by omega)
              | grind
              | skip
      )
    have h9 := hl (2, (kD p 10 w).1, kNx w - 48) ⟨Nat.le_refl _, ho, by dsimp only; omega, fun _ => by dsimp only; omega, fun e => absurd (show (2 : Nat) = 1 from e) (by decide), fun e => absurd (show (2 : Nat) = 0 from e) (by decide), by rw [key]⟩
    have h9 : Z 21 [some (.inr (.inl 83)), some (.inl p), some (.inl (kNx w - 48)), some (.inl 1)] [] (kD p 10 w).1 0 0 := h9
    have d1 : (kD p 10 w).2 = 1 := by have := hd.2.1; omega
    have hat1 := hat.1
    refine hZ (fun u => Nat.beq u 21) 14 0 _ _ _ _ _ ?_
    simp only [sm_run, sm_blk, sm_get, sm_ent, sm_ents, sm_wds, sm_wd, sm_nl, sm_pop, sm_back, sm_cases, oK, oLK, oL, oI, oA, oJ, oIs, oAs, oJs, oInc, oAdd, oSub, oMul, oDiv, oRem, oNeg, oAnd, oAndB, oOr, oShl, oI2c, oI2l, oL2i, oLand, oLor, oLshl, oLshr, oLushr, oLcmp, oDup, oDup2, oPop, oGo, oFg, oEq, oNe, oLt, oGe, oGt, oLe, oEq0, oNe0, oLt0, oGe0, oGt0, oLe0, oSw, oGi, oGr, oPi, oPz, oPr, oLen, oIl, oZl, oCl, oRl, oIst, oZst, oCst, oRst, oCopy, oNew, oNa, oNa2, oObj, oCs, oCv, oCi, oIr, oZr, oVr, Nat.beq, List.getElem?_cons_zero, List.getElem?_cons_succ, List.set_cons_zero, List.set_cons_succ, List.length_cons, List.length_nil, List.nil_append, List.cons_append, List.append_nil, List.replicate_succ, List.replicate_zero, Nat.reduceAdd, Nat.reduceSub, Nat.reduceLT, Nat.reduceLeDiff, Nat.reduceBEq, true_and, and_true, Nat.zero_add, Nat.add_zero, Nat.le_refl, Option.some.injEq, exists_eq_left', true_or, or_true, or_false, false_or, reduceCtorEq, Prod.mk.injEq, Sum.inl.injEq, and_self, false_and, and_false, not_true_eq_false, not_false_eq_true, false_implies, true_implies, sm_r, Int.add_zero, Int.zero_add, wI_wsI, wS_wsI, wR_wsI, wI_wCp, wS_wCp, wR_wCp, Nat.reduceEqDiff, reduceIte, sT_iff, sT_iffC, wIf_ne, ne_eq, Bool.false_or, Bool.true_or, Bool.or_false, Bool.or_true, Bool.or_self, Nat.left_eq_add, Nat.add_eq_left, Nat.add_left_inj, oMax, oMin, oAbs, tb_X5_readNumber, p_X5_readDigit, f_X5_readDigit, p_X5_readNumber, f_X5_readNumber, sS_83 hT, hO, d1, sS_83 hTd, sR_83_4 hTd, sS_85 hTd, hat1]
    repeat' (first | exact True.intro | with_reducible assumption | with_reducible refine And.intro ?_ ?_ | intro _)
    all_goals first
      | omega
      | assumption
      | rfl
      | (split <;> omega)
      | (have k9 := ih (by omega)
         (repeat' split at k9) <;> first | exact k9 | omega)
      | (have k9 := ih2 (by omega)
         (repeat' split at k9) <;> first | exact k9 | omega)
      | exact he (by omega)
      | ((with_reducible congr 1) <;> omega)
      | (rw [if_pos (by omega)] at he; exact he)
      | exact hD1 (by omega)
      | exact hD2 (by omega)
      | skip

theorem met_X5_readNumber (l : Launch) : sm_Met l yX5_readNumber cX5_readNumber 4 (some .boolean) 2 0 0 p_X5_readNumber f_X5_readNumber := sm_met 2 (Or.inr (Or.inr ⟨rfl, rfl⟩)) (by decide +kernel) (sn_X5_readNumber l) ok_X5_readNumber