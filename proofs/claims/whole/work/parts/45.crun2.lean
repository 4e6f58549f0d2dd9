/-! THE CLASS: a day is run, its end -/
theorem xCan_1 {w : sm_W} {d : Nat} {x t : Int} (h : xCan w d x t = 1) : wI w (d + 27) x ≠ wI w (d + 1 + 4) x ∧ wI w (d + 28) x = 0 ∧ wI w (d + 29) x ≤ t ∧ wI w (d + 31) (sFrom (wI w (d + 27) x) (mWay (vL w (d + 1)) x)) = 0 := by
  unfold xCan at h
  grind
theorem xLv1_day {w : sm_W} {d : Nat} {x t : Int} (hX : xDay w d) (x0 : 0 ≤ x) (x1 : x < wI w (d + 1) 7) (hc : xCan w d x t = 1) : xDay (xLv1 w d x t) d := by
  have hn := dOK_n hX.1
  have h := xLv1_in (w := w) (d := d) (t := t) x0 (show x < 8 by omega)
  have hf := xLv1_fr w d x t x0 (by omega)
  have hs := hX.2 x x0 x1
  have hcc := (xCan_1 hc).1
  unfold xSh at hs
  refine xDay_fr hX hf x0 x1 (fun y hy => ⟨by rw [h.1], by rw [h.2.1, if_neg hy]⟩) ?_
  unfold xSh
  rw [h.1, h.2.1, if_pos rfl, sDy_l hf (k := 3) (by omega), sDy_l hf (k := 4) (by omega)]
  omega
theorem xLv1_b {w : sm_W} {d : Nat} {x t c e : Int} (hX : xDay w d) (x0 : 0 ≤ x) (x1 : x < wI w (d + 1) 7) (hcn : xCan w d x t = 1) (hd : xDu w d c) (hc : t + 30 ≤ c) (hh : xHb w d e) : xDu (xLv1 w d x t) d c ∧ xHb (xLv1 w d x t) d (e + 1) := by
  have hn := dOK_n hX.1
  have h := xLv1_in (w := w) (d := d) (t := t) x0 (show x < 8 by omega)
  have hf := xLv1_fr w d x t x0 (by omega)
  have hb := xSh_b hX x0 x1 (xCan_1 hcn).1
  have hr := lOK_r hX.1.2 (k := sFrom (wI w (d + 27) x) (mWay (vL w (d + 1)) x)) hb.1.1 hb.1.2
  refine ⟨fun y y0 y1 => ?_, fun i i0 i1 => ?_⟩
  · rw [sDy_l0 hf] at y1
    rw [h.2.2.1]
    split
    · omega
    · exact hd y y0 y1
  · rw [h.2.2.2.2.2.1]
    have := hh i i0 i1
    split <;> split <;> omega
def xLL : Nat → sm_W → Nat → Int → sm_W
  | 0, w, _, _ => w
  | n + 1, w, d, t => if xFirst w d t (wI w (d + 1) 7) < 0 then w else xLL n (xLv1 w d (xFirst w d t (wI w (d + 1) 7)) t) d t
theorem xLL_s (n : Nat) (w : sm_W) (d : Nat) (t : Int) : xLL (n + 1) w d t = if xFirst w d t (wI w (d + 1) 7) < 0 then w else xLL n (xLv1 w d (xFirst w d t (wI w (d + 1) 7)) t) d t := rfl
theorem xLL_inv {d : Nat} {t c : Int} (hc : t + 30 ≤ c) : ∀ (n : Nat) (w : sm_W) (e : Int), xDay w d → xDu w d c → xHb w d e → xDay (xLL n w d t) d ∧ sFr (sDy d) w (xLL n w d t) ∧ xDu (xLL n w d t) d c ∧ xHb (xLL n w d t) d (e + n)
  | 0, w, e, hX, hd, hh => ⟨hX, sFr.refl w, hd, by rw [show e + ((0 : Nat) : Int) = e by omega]; exact hh⟩
  | n + 1, w, e, hX, hd, hh => by
    have hn := dOK_n hX.1
    have hi := xFirst_in w d t (wI w (d + 1) 7) hn.1
    rw [xLL_s]
    split
    · exact ⟨hX, sFr.refl w, hd, fun i i0 i1 => by have := hh i i0 i1; omega⟩
    · next h =>
      rcases hi with hi | ⟨h0, h1, h2⟩
      · omega
      · have hb := xLv1_b hX h0 h1 h2 hd hc hh
        have ih := xLL_inv hc n _ (e + 1) (xLv1_day hX h0 h1 h2) hb.1 hb.2
        refine ⟨ih.1, (xLv1_fr w d _ t h0 (by omega)).trans ih.2.1, ih.2.2.1, ?_⟩
        rw [show e + ((n + 1 : Nat) : Int) = e + 1 + n by omega]
        exact ih.2.2.2
def p_X0_letLeave : List sm_V → sm_W → Prop
  | [.inr (.inl d), .inl t], w => xDay w d ∧ 0 ≤ t ∧ t ≤ 900000 ∧ xDu w d 1000000 ∧ xHb w d 900000
  | _, _ => False
def f_X0_letLeave : sm_F
  | [.inr (.inl d), .inl t], w => (none, xLL 8 w d t)
  | _, w => (none, w)
def tb_X0_letLeave : List (Nat × List sm_O) := [(0, [oK 0, oIs 2, oFg 3, oGo 2]),
  (2, [oI 2, oK 8, oGe 31, oA 0, oI 1, oCv 0 11 p_X0_firstToLeave f_X0_firstToLeave 0 0 2, oIs 3, oI 3, oGe0 19, oVr]),
  (19, [oA 0, oI 3, oI 1, oCv 0 11 p_X0_leave f_X0_leave 0 0 3, oInc 2 1, oFg 3, oGo 2]),
  (31, [oVr])]
set_option maxRecDepth 100000 in
theorem sb_X0_letLeave_0 (l : Launch) : sm_SndB l RX0 "letLeave" cX0_letLeave 4 0 4 0 [oK 0, oIs 2, oFg 3, oGo 2] := sb_cons (sd_iconst (by decide +kernel : decode cX0_letLeave 0 = .ok (.iconst 0, 1)) ⟨by decide, by decide⟩) (sb_cons (sd_istore_n (by decide +kernel : decode cX0_letLeave 1 = .ok (.istore_n 2, 1)) rfl) (sb_cons (sd_fg) (sb_cons (sd_fall (x := 0)) sb_nil)))
set_option maxRecDepth 100000 in
theorem sb_X0_letLeave_2 (l : Launch) : sm_SndB l RX0 "letLeave" cX0_letLeave 4 0 4 2 [oI 2, oK 8, oGe 31, oA 0, oI 1, oCv 0 11 p_X0_firstToLeave f_X0_firstToLeave 0 0 2, oIs 3, oI 3, oGe0 19, oVr] := sb_cons (sd_iload_n (by decide +kernel : decode cX0_letLeave 2 = .ok (.iload_n 2, 1)) rfl) (sb_cons (sd_bipush (by decide +kernel : decode cX0_letLeave 3 = .ok (.bipush 8, 2)) ⟨by decide, by decide⟩ (by decide)) (sb_cons (sd_ge (by decide +kernel : decode cX0_letLeave 5 = .ok (.if_icmp .ge 26, 3)) (by decide)) (sb_cons (sd_aload_n (by decide +kernel : decode cX0_letLeave 8 = .ok (.aload_n 0, 1)) rfl) (sb_cons (sd_iload_n (by decide +kernel : decode cX0_letLeave 9 = .ok (.iload_n 1, 1)) rfl) (sb_cons (sd_callv (n := 1) (met_X0_firstToLeave l) (by decide) (by decide) wm_324 wm_322 wm_2 ⟨by decide +kernel, by decide +kernel, by decide +kernel⟩ kl_0 wm_323 wm_1083 (by decide +kernel : decode cX0_letLeave 10 = .ok (.invokevirtual 109, 3))) (sb_cons (sd_istore_n (by decide +kernel : decode cX0_letLeave 13 = .ok (.istore_n 3, 1)) rfl) (sb_cons (sd_iload_n (by decide +kernel : decode cX0_letLeave 14 = .ok (.iload_n 3, 1)) rfl) (sb_cons (sd_ge0 (by decide +kernel : decode cX0_letLeave 15 = .ok (.ifCond .ge 4, 3)) (by decide)) (sb_cons (sd_return (x := 0) rfl (by decide +kernel : decode cX0_letLeave 18 = .ok (.return_, 1))) sb_nil)))))))))
set_option maxRecDepth 100000 in
theorem sb_X0_letLeave_19 (l : Launch) : sm_SndB l RX0 "letLeave" cX0_letLeave 4 0 4 19 [oA 0, oI 3, oI 1, oCv 0 11 p_X0_leave f_X0_leave 0 0 3, oInc 2 1, oFg 3, oGo 2] := sb_cons (sd_aload_n (by decide +kernel : decode cX0_letLeave 19 = .ok (.aload_n 0, 1)) rfl) (sb_cons (sd_iload_n (by decide +kernel : decode cX0_letLeave 20 = .ok (.iload_n 3, 1)) rfl) (sb_cons (sd_iload_n (by decide +kernel : decode cX0_letLeave 21 = .ok (.iload_n 1, 1)) rfl) (sb_cons (sd_callv (n := 2) (met_X0_leave l) (by decide) (by decide) wm_340 wm_338 wm_2 ⟨by decide +kernel, by decide +kernel, by decide +kernel⟩ kl_0 wm_339 wm_1087 (by decide +kernel : decode cX0_letLeave 22 = .ok (.invokevirtual 112, 3))) (sb_cons (sd_iinc (by decide +kernel : decode cX0_letLeave 25 = .ok (.iinc 2 1, 3))) (sb_cons (sd_fg) (sb_cons (sd_goto (x := 0) (by decide +kernel : decode cX0_letLeave 28 = .ok (.goto (-26), 3)) (by decide)) sb_nil))))))
set_option maxRecDepth 100000 in
theorem sb_X0_letLeave_31 (l : Launch) : sm_SndB l RX0 "letLeave" cX0_letLeave 4 0 4 31 [oVr] := sb_cons (sd_return (x := 0) rfl (by decide +kernel : decode cX0_letLeave 31 = .ok (.return_, 1))) sb_nil
theorem sn_X0_letLeave (l : Launch) : sm_SndT l RX0 "letLeave" cX0_letLeave 4 0 4 tb_X0_letLeave := st_cons (sb_X0_letLeave_0 l) (st_cons (sb_X0_letLeave_2 l) (st_cons (sb_X0_letLeave_19 l) (st_cons (sb_X0_letLeave_31 l) (st_nil))))
set_option maxRecDepth 100000 in
set_option maxHeartbeats 4000000 in
theorem ok_X0_letLeave : sm_Ok tb_X0_letLeave 4 0 0 p_X0_letLeave f_X0_letLeave := by
  intro as w hp ha hw
  match as, hp with
  | [.inr (.inl d), .inl t], hp =>
  refine ⟨Nat.le_of_ble_eq_true rfl, fun Z hZ => ?_⟩
  obtain ⟨hX, t0, t1, hd, hh⟩ := hp
  obtain ⟨d0, d9, d18, d27, d28, d29, d30, d31, d32, s0, s1, s2, s5, s6, s7, s8, s9, s10⟩ := dS hX.1.2.1 hX.1.1
  generalize hE : xLL 8 w d t = E at *
  have hl := sm_loopM (S := Nat × sm_W) Z 2 (fun s => s.1) (fun s => s.1 ≤ 8 ∧ xDay s.2 d ∧ xDu s.2 d 1000000 ∧ xHb s.2 d (900000 + (8 - s.1)) ∧ xLL s.1 s.2 d t = E) (fun s => [some (.inr (.inl d)), some (.inl t), some (.inl (8 - s.1)), none]) (fun s => s.2) 0 0 (fun s hI ih => by
    obtain ⟨n, u⟩ := s
    dsimp only at hI ih ⊢
    obtain ⟨hn8, hU, hdu, hhu, he⟩ := hI
    have hD := hU.1
    obtain ⟨d0, d9, d18, d27, d28, d29, d30, d31, d32, s0, s1, s2, s5, s6, s7, s8, s9, s10⟩ := dS hD.2.1 hD.1
    have hn := dOK_n hD
    have hi := xFirst_in u d t (wI u (d + 1) 7) hn.1
    cases n with
    | zero =>
      have he : u = E := he
      clear ih
      refine hZ (fun u => Nat.beq u 2) 14 2 _ _ _ _ _ ?_
      simp only [sm_run, sm_blk, sm_get, sm_ent, sm_ents, sm_wds, sm_wd, sm_nl, sm_pop, sm_back, sm_cases, oK, oLK, oL, oI, oA, oJ, oIs, oAs, oJs, oInc, oAdd, oSub, oMul, oDiv, oRem, oNeg, oAnd, oAndB, oOr, oShl, oI2c, oI2l, oL2i, oLand, oLor, oLshl, oLshr, oLushr, oLcmp, oDup, oDup2, oPop, oGo, oFg, oEq, oNe, oLt, oGe, oGt, oLe, oEq0, oNe0, oLt0, oGe0, oGt0, oLe0, oSw, oGi, oGr, oPi, oPz, oPr, oLen, oIl, oZl, oCl, oRl, oIst, oZst, oCst, oRst, oCopy, oNew, oNa, oNa2, oObj, oCs, oCv, oCi, oIr, oZr, oVr, Nat.beq, List.getElem?_cons_zero, List.getElem?_cons_succ, List.set_cons_zero, List.set_cons_succ, List.length_cons, List.length_nil, List.nil_append, List.cons_append, List.append_nil, List.replicate_succ, List.replicate_zero, Nat.reduceAdd, Nat.reduceSub, Nat.reduceLT, Nat.reduceLeDiff, Nat.reduceBEq, true_and, and_true, Nat.zero_add, Nat.add_zero, Nat.le_refl, Option.some.injEq, exists_eq_left', true_or, or_true, or_false, false_or, reduceCtorEq, Prod.mk.injEq, Sum.inl.injEq, and_self, false_and, and_false, not_true_eq_false, not_false_eq_true, false_implies, true_implies, sm_r, Int.add_zero, Int.zero_add, wI_wsI, wS_wsI, wR_wsI, wI_wCp, wS_wCp, wR_wCp, Nat.reduceEqDiff, reduceIte, sT_iff, sT_iffC, wIf_ne, ne_eq, Bool.false_or, Bool.true_or, Bool.or_false, Bool.or_true, Bool.or_self, Nat.left_eq_add, Nat.add_eq_left, Nat.add_left_inj, oMax, oMin, oAbs, tb_X0_letLeave, p_X0_firstToLeave, p_X0_leave, f_X0_firstToLeave, f_X0_leave, p_X0_letLeave, f_X0_letLeave, hE]
      repeat' (first | exact True.intro | with_reducible assumption | with_reducible refine And.intro ?_ ?_ | intro _)
      all_goals first
        | omega
        | assumption
        | rfl
        | (split <;> omega)
        | (have k9 := ih (by omega)
           (repeat' split at k9) <;> first | exact k9 | omega)
        | (have k9 := ih2 (by omega)
           (repeat' split at k9) <;> first | exact k9 | omega)
        | exact he (by omega)
        | ((with_reducible congr 1) <;> omega)
        | (rw [if_pos (by omega)] at he; exact he)
        | exact hD1 (by omega)
        | exact hD2 (by omega)
        | grind
        | skip
    | succ n =>
      rw [xLL_s] at he
      by_cases c : xFirst u d t (wI u (d + 1) 7) < 0
      · rw [if_pos c] at he
        clear ih
        generalize hxe : xFirst u d t (wI u (d + 1) 7) = x at *
        refine hZ (fun u => Nat.beq u 2) 14 2 _ _ _ _ _ ?_
        simp only [sm_run, sm_blk, sm_get, sm_ent, sm_ents, sm_wds, sm_wd, sm_nl, sm_pop, sm_back, sm_cases, oK, oLK, oL, oI, oA, oJ, oIs, oAs, oJs, oInc, oAdd, oSub, oMul, oDiv, oRem, oNeg, oAnd, oAndB, oOr, oShl, oI2c, oI2l, oL2i, oLand, oLor, oLshl, oLshr, oLushr, oLcmp, oDup, oDup2, oPop, oGo, oFg, oEq, oNe, oLt, oGe, oGt, oLe, oEq0, oNe0, oLt0, oGe0, oGt0, oLe0, oSw, oGi, oGr, oPi, oPz, oPr, oLen, oIl, oZl, oCl, oRl, oIst, oZst, oCst, oRst, oCopy, oNew, oNa, oNa2, oObj, oCs, oCv, oCi, oIr, oZr, oVr, Nat.beq, List.getElem?_cons_zero, List.getElem?_cons_succ, List.set_cons_zero, List.set_cons_succ, List.length_cons, List.length_nil, List.nil_append, List.cons_append, List.append_nil, List.replicate_succ, List.replicate_zero, Nat.reduceAdd, Nat.reduceSub, Nat.reduceLT, Nat.reduceLeDiff, Nat.reduceBEq, true_and, and_true, Nat.zero_add, Nat.add_zero, Nat.le_refl, Option.some.injEq, exists_eq_left', true_or, or_true, or_false, false_or, reduceCtorEq, Prod.mk.injEq, Sum.inl.injEq, and_self, false_and, and_false, not_true_eq_false, not_false_eq_true, false_implies, true_implies, sm_r, Int.add_zero, Int.zero_add, wI_wsI, wS_wsI, wR_wsI, wI_wCp, wS_wCp, wR_wCp, Nat.reduceEqDiff, reduceIte, sT_iff, sT_iffC, wIf_ne, ne_eq, Bool.false_or, Bool.true_or, Bool.or_false, Bool.or_true, Bool.or_self, Nat.left_eq_add, Nat.add_eq_left, Nat.add_left_inj, oMax, oMin, oAbs, tb_X0_letLeave, p_X0_firstToLeave, p_X0_leave, f_X0_firstToLeave, f_X0_leave, p_X0_letLeave, f_X0_letLeave, hE, d0, hU, hxe]
        repeat' (first | exact True.intro | with_reducible assumption | with_reducible refine And.intro ?_ ?_ | intro _)
        all_goals first
          | omega
          | assumption
          | rfl
          | (split <;> omega)
          | (have k9 := ih (by omega)
             (repeat' split at k9) <;> first | exact k9 | omega)
          | (have k9 := ih2 (by omega)
             (repeat' split at k9) <;> first | exact k9 | omega)
          | exact he (by omega)
          | ((with_reducible congr 1) <;> omega)
          | (rw [if_pos (by omega)] at he; exact he)
          | exact hD1 (by omega)
          | exact hD2 (by omega)
          | grind
          | skip
      · rw [if_neg c] at he
        rcases hi with hi | ⟨h0, h1, h2⟩
        · omega
        · have hb := xLv1_b (t := t) (c := 1000000) hU h0 h1 h2 hdu (by omega) hhu
          have ih := ih (n, xLv1 u d (xFirst u d t (wI u (d + 1) 7)) t) ⟨by omega, xLv1_day hU h0 h1 h2, hb.1, fun i i0 i1 => by have := hb.2 i i0 i1; dsimp only; omega, he⟩ (Nat.lt_succ_self n)
          have hne := (xCan_1 h2).1
          have hhb : xHb u d 1000000 := fun i i0 i1 => by have := hhu i i0 i1; omega
          have hcast : (8 : Int) - ((n + 1 : Nat) : Int) + 1 = 8 - (n : Int) := by omega
          clear hb he hhu
          generalize hxe : xFirst u d t (wI u (d + 1) 7) = x at *
          dsimp only at ih
          have hge : ¬ x < 0 := c
          refine hZ (fun u => Nat.beq u 2) 14 2 _ _ _ _ _ ?_
          simp only [sm_run, sm_blk, sm_get, sm_ent, sm_ents, sm_wds, sm_wd, sm_nl, sm_pop, sm_back, sm_cases, oK, oLK, oL, oI, oA, oJ, oIs, oAs, oJs, oInc, oAdd, oSub, oMul, oDiv, oRem, oNeg, oAnd, oAndB, oOr, oShl, oI2c, oI2l, oL2i, oLand, oLor, oLshl, oLshr, oLushr, oLcmp, oDup, oDup2, oPop, oGo, oFg, oEq, oNe, oLt, oGe, oGt, oLe, oEq0, oNe0, oLt0, oGe0, oGt0, oLe0, oSw, oGi, oGr, oPi, oPz, oPr, oLen, oIl, oZl, oCl, oRl, oIst, oZst, oCst, oRst, oCopy, oNew, oNa, oNa2, oObj, oCs, oCv, oCi, oIr, oZr, oVr, Nat.beq, List.getElem?_cons_zero, List.getElem?_cons_succ, List.set_cons_zero, List.set_cons_succ, List.length_cons, List.length_nil, List.nil_append, List.cons_append, List.append_nil, List.replicate_succ, List.replicate_zero, Nat.reduceAdd, Nat.reduceSub, Nat.reduceLT, Nat.reduceLeDiff, Nat.reduceBEq, true_and, and_true, Nat.zero_add, Nat.add_zero, Nat.le_refl, Option.some.injEq, exists_eq_left', true_or, or_true, or_false, false_or, reduceCtorEq, Prod.mk.injEq, Sum.inl.injEq, and_self, false_and, and_false, not_true_eq_false, not_false_eq_true, false_implies, true_implies, sm_r, Int.add_zero, Int.zero_add, wI_wsI, wS_wsI, wR_wsI, wI_wCp, wS_wCp, wR_wCp, Nat.reduceEqDiff, reduceIte, sT_iff, sT_iffC, wIf_ne, ne_eq, Bool.false_or, Bool.true_or, Bool.or_false, Bool.or_true, Bool.or_self, Nat.left_eq_add, Nat.add_eq_left, Nat.add_left_inj, oMax, oMin, oAbs, tb_X0_letLeave, p_X0_firstToLeave, p_X0_leave, f_X0_firstToLeave, f_X0_leave, p_X0_letLeave, f_X0_letLeave, hE, d0, hU, hxe, hhb, hcast]
          repeat' (first | exact True.intro | with_reducible assumption | with_reducible refine And.intro ?_ ?_ | intro _)
          all_goals first
            | omega
            | assumption
            | rfl
            | (split <;> omega)
            | (have k9 := ih (by omega)
               (repeat' split at k9) <;> first | exact k9 | omega)
            | (have k9 := ih2 (by omega)
               (repeat' split at k9) <;> first | exact k9 | omega)
            | exact he (by omega)
            | ((with_reducible congr 1) <;> omega)
            | (rw [if_pos (by omega)] at he; exact he)
            | exact hD1 (by omega)
            | exact hD2 (by omega)
            | grind
            | skip
    )
  have h9 := hl (8, w) ⟨Nat.le_refl _, hX, hd, fun i i0 i1 => by have := hh i i0 i1; dsimp only; omega, hE⟩
  have h9 : Z 2 [some (.inr (.inl d)), some (.inl t), some (.inl 0), none] [] w 0 0 := h9
  refine hZ (fun u => Nat.beq u 2) 14 0 _ _ _ _ _ ?_
  simp only [sm_run, sm_blk, sm_get, sm_ent, sm_ents, sm_wds, sm_wd, sm_nl, sm_pop, sm_back, sm_cases, oK, oLK, oL, oI, oA, oJ, oIs, oAs, oJs, oInc, oAdd, oSub, oMul, oDiv, oRem, oNeg, oAnd, oAndB, oOr, oShl, oI2c, oI2l, oL2i, oLand, oLor, oLshl, oLshr, oLushr, oLcmp, oDup, oDup2, oPop, oGo, oFg, oEq, oNe, oLt, oGe, oGt, oLe, oEq0, oNe0, oLt0, oGe0, oGt0, oLe0, oSw, oGi, oGr, oPi, oPz, oPr, oLen, oIl, oZl, oCl, oRl, oIst, oZst, oCst, oRst, oCopy, oNew, oNa, oNa2, oObj, oCs, oCv, oCi, oIr, oZr, oVr, Nat.beq, List.getElem?_cons_zero, List.getElem?_cons_succ, List.set_cons_zero, List.set_cons_succ, List.length_cons, List.length_nil, List.nil_append, List.cons_append, List.append_nil, List.replicate_succ, List.replicate_zero, Nat.reduceAdd, Nat.reduceSub, Nat.reduceLT, Nat.reduceLeDiff, Nat.reduceBEq, true_and, and_true, Nat.zero_add, Nat.add_zero, Nat.le_refl, Option.some.injEq, exists_eq_left', true_or, or_true, or_false, false_or, reduceCtorEq, Prod.mk.injEq, Sum.inl.injEq, and_self, false_and, and_false, not_true_eq_false, not_false_eq_true, false_implies, true_implies, sm_r, Int.add_zero, Int.zero_add, wI_wsI, wS_wsI, wR_wsI, wI_wCp, wS_wCp, wR_wCp, Nat.reduceEqDiff, reduceIte, sT_iff, sT_iffC, wIf_ne, ne_eq, Bool.false_or, Bool.true_or, Bool.or_false, Bool.or_true, Bool.or_self, Nat.left_eq_add, Nat.add_eq_left, Nat.add_left_inj, oMax, oMin, oAbs, tb_X0_letLeave, p_X0_firstToLeave, p_X0_leave, f_X0_firstToLeave, f_X0_leave, p_X0_letLeave, f_X0_letLeave]
  repeat' (first | exact True.intro | with_reducible assumption | with_reducible refine And.intro ?_ ?_ | intro _)
  all_goals first
    | omega
    | assumption
    | rfl
    | (split <;> omega)
    | (have k9 := ih (by omega)
       (repeat' split at k9) <;> first | exact k9 | omega)
    | (have k9 := ih2 (by omega)
       (repeat' split at k9) <;> first | exact k9 | omega)
    | exact he (by omega)
    | ((with_reducible congr 1) <;> omega)
    | (rw [if_pos (by omega)] at he; exact he)
    | exact hD1 (by omega)
    | exact hD2 (by omega)
    | skip
theorem met_X0_letLeave (l : Launch) : sm_Met l yX0_letLeave cX0_letLeave 4 none 4 0 0 p_X0_letLeave f_X0_letLeave := sm_met 0 (Or.inl ⟨rfl, rfl⟩) (by decide +kernel) (sn_X0_letLeave l) ok_X0_letLeave
def xO1 (d : Nat) (k : Int) (w : sm_W) : sm_W := wsI w (d + 31) k 0
def xO2 (d : Nat) (w : sm_W) : sm_W := fiW (d + 32) 0 ((8 : Nat) : Int) (itI (xO1 d) w 7)
def xO3 (d : Nat) (x : Int) (w : sm_W) : sm_W := xStand d x (wI w (d + 1 + 3) x) (wI w (d + 1 + 5) x) (fiW (dV d x) (-6) ((8 : Nat) : Int) (fiW (dC d x) (-6) ((8 : Nat) : Int) w))
def xOut (d : Nat) (w : sm_W) : sm_W := itI (xO3 d) (xO2 d w) (wI w (d + 1) 7)
theorem fi8_S (a b : Nat) (v : Int) (w : sm_W) : wS (fiW a v ((8 : Nat) : Int) w) b = wS w b := (fiW_in a v w _ (by omega)).1 b
theorem fi8_R (a b : Nat) (v j : Int) (w : sm_W) : wR (fiW a v ((8 : Nat) : Int) w) b j = wR w b j := (fiW_in a v w _ (by omega)).2.2.2.2 b j
theorem fi8_I {a b : Nat} (v : Int) (w : sm_W) (h : b ≠ a) : wI (fiW a v ((8 : Nat) : Int) w) b = wI w b := funext fun j => by rw [(fiW_in a v w _ (by omega)).2.1, if_neg (fun k => h k.1)]
theorem fi8_fr {S : Nat → Int → Int → Prop} {a : Nat} (v : Int) (w : sm_W) (h : ∀ i, S a i v) : sFr S w (fiW a v ((8 : Nat) : Int) w) := sFr.it (f := fiA a v) _ (by omega) (fun i r _ _ _ => (sFr.refl r).st (h i))
theorem xO1_fr (d : Nat) (w : sm_W) (n : Int) (hn : 0 ≤ n) : sFr (sDy d) w (itI (xO1 d) w n) := sFr.it (f := xO1 d) n hn (fun i r _ _ _ => (sFr.refl r).st (by unfold sDy; omega))
theorem xO2_fr (d : Nat) (w : sm_W) : sFr (sDy d) w (xO2 d w) := (xO1_fr d w 7 (by decide)).trans (fi8_fr _ _ (fun _ => by unfold sDy; omega))
theorem xO3_fr (d : Nat) (w : sm_W) {x : Int} (x0 : 0 ≤ x) (x1 : x < 8) : sFr (sDy d) w (xO3 d x w) := ((fi8_fr (S := sDy d) _ w (fun _ => by unfold sDy dC; omega)).trans (fi8_fr _ _ (fun _ => by unfold sDy dV; omega))).trans (xStand_fr _ _ _ _ _)
/-- a shuttle is put outside -/
theorem xO3_in (d : Nat) (w : sm_W) {x : Int} (x0 : 0 ≤ x) (x1 : x < 8) : (∀ y, wI (xO3 d x w) (d + 27) y = if y = x then wI w (d + 1 + 3) x else wI w (d + 27) y) ∧ (∀ y, wI (xO3 d x w) (d + 28) y = if y = x then 0 else wI w (d + 28) y) ∧ (∀ y, wI (xO3 d x w) (d + 29) y = if y = x then wI w (d + 1 + 5) x else wI w (d + 29) y) ∧ (∀ y, wI (xO3 d x w) (d + 30) y = if y = x then xUrg w d x (wI w (d + 1 + 3) x) (wI w (d + 1 + 5) x) else wI w (d + 30) y) ∧ wI (xO3 d x w) (d + 31) = wI w (d + 31) ∧ wI (xO3 d x w) (d + 32) = wI w (d + 32) ∧ (∀ y s, 0 ≤ y → y < 8 → 0 ≤ s → s < 8 → wI (xO3 d x w) (dC d y) s = (if y = x then -6 else wI w (dC d y) s) ∧ wI (xO3 d x w) (dV d y) s = (if y = x then -6 else wI w (dV d y) s)) ∧ wI (xO3 d x w) d = wI w d := by
  obtain ⟨u, hu⟩ : ∃ u, u = fiW (dV d x) (-6) ((8 : Nat) : Int) (fiW (dC d x) (-6) ((8 : Nat) : Int) w) := ⟨_, rfl⟩
  have e : xO3 d x w = xStand d x (wI w (d + 1 + 3) x) (wI w (d + 1 + 5) x) u := by unfold xO3; rw [hu]
  have ou : ∀ a, a ≠ dV d x → a ≠ dC d x → wI u a = wI w a := fun a h1 h2 => by rw [hu, fi8_I _ _ h1, fi8_I _ _ h2]
  have hfu : sFr (sDy d) w u := by rw [hu]; exact (fi8_fr (S := sDy d) _ w (fun _ => by unfold sDy dC; omega)).trans (fi8_fr _ _ (fun _ => by unfold sDy dV; omega))
  have hU : xUrg u d x (wI w (d + 1 + 3) x) (wI w (d + 1 + 5) x) = xUrg w d x (wI w (d + 1 + 3) x) (wI w (d + 1 + 5) x) := by
    unfold xUrg
    rw [sDy_v hfu, sDy_l0 hfu]
  have uC : ∀ y s, 0 ≤ y → y < 8 → 0 ≤ s → s < 8 → wI u (dC d y) s = if y = x then -6 else wI w (dC d y) s := fun y s y0 y1 s0 s1 => by
    rw [hu, fi8_I _ _ (show dC d y ≠ dV d x by unfold dC dV; omega), (fiW_in _ _ _ _ (by omega)).2.1]
    by_cases c : y = x
    · rw [if_pos c, if_pos ⟨by rw [c], by omega, by omega⟩]
    · rw [if_neg c, if_neg (fun h => c (by have := h.1; unfold dC at this; omega))]
  have uV : ∀ y s, 0 ≤ y → y < 8 → 0 ≤ s → s < 8 → wI u (dV d y) s = if y = x then -6 else wI w (dV d y) s := fun y s y0 y1 s0 s1 => by
    rw [hu, (fiW_in _ _ _ _ (by omega)).2.1, fi8_I _ _ (show dV d y ≠ dC d x by unfold dC dV; omega)]
    by_cases c : y = x
    · rw [if_pos c, if_pos ⟨by rw [c], by omega, by omega⟩]
    · rw [if_neg c, if_neg (fun h => c (by have := h.1; unfold dV at this; omega))]
  rw [e]
  obtain ⟨s1, s2, s3, s4, s5⟩ := xStand_in d x (wI w (d + 1 + 3) x) (wI w (d + 1 + 5) x) u
  refine ⟨fun y => ?_, fun y => ?_, fun y => ?_, fun y => ?_, ?_, ?_, fun y s y0 y1 z0 z1 => ⟨?_, ?_⟩, ?_⟩
  · rw [s1, ou _ (by unfold dV; omega) (by unfold dC; omega)]
  · rw [s2, ou _ (by unfold dV; omega) (by unfold dC; omega)]
  · rw [s3, ou _ (by unfold dV; omega) (by unfold dC; omega)]
  · rw [s4, ou _ (by unfold dV; omega) (by unfold dC; omega), hU]
  · rw [s5 _ (by omega), ou _ (by unfold dV; omega) (by unfold dC; omega)]
  · rw [s5 _ (by omega), ou _ (by unfold dV; omega) (by unfold dC; omega)]
  · rw [s5 _ (by unfold dC; omega), uC y s y0 y1 z0 z1]
  · rw [s5 _ (by unfold dV; omega), uV y s y0 y1 z0 z1]
  · rw [s5 _ (by omega), ou _ (by unfold dV; omega) (by unfold dC; omega)]
theorem xO3L {d : Nat} {w : sm_W} (hD : dOK w d) (n : Int) (n0 : 0 ≤ n) (n1 : n ≤ wI w (d + 1) 7) : sFr (sDy d) w (itI (xO3 d) (xO2 d w) n) :=
  (xO2_fr d w).trans (sFr.it (f := xO3 d) n n0 (fun i r i0 i1 _ => xO3_fr d r i0 (by have := dOK_n hD; omega)))
def p_X0_putOutside : List sm_V → sm_W → Prop
  | [.inr (.inl d)], w => dOK w d
  | _, _ => False
def f_X0_putOutside : sm_F
  | [.inr (.inl d)], w => (none, xOut d w)
  | _, w => (none, w)
def tb_X0_putOutside : List (Nat × List sm_O) := [(0, [oK 0, oIs 1, oGo 2]),
  (2, [oI 1, oK 7, oGe 21, oA 0, oGr 0 11 9, oI 1, oK 0, oZst, oInc 1 1, oGo 2]),
  (21, [oA 0, oGr 0 11 10, oK 0, oCs p_J7_fill_53178 f_J7_fill_53178 0 0 2, oK 0, oIs 1, oGo 31]),
  (31, [oI 1, oA 0, oGr 0 11 0, oGi 2 9 7, oGe 93, oA 0, oGr 0 11 1, oI 1, oRl, oK (-6), oCs p_J7_fill_53178 f_J7_fill_53178 0 0 2, oA 0, oGr 0 11 2, oI 1, oRl, oK (-6), oCs p_J7_fill_53178 f_J7_fill_53178 0 0 2, oA 0, oI 1, oA 0, oGr 0 11 0, oGr 2 9 2, oI 1, oIl, oA 0, oGr 0 11 0, oGr 2 9 4, oI 1, oIl, oCv 0 11 p_X0_stand f_X0_stand 0 0 4, oInc 1 1, oGo 31]),
  (93, [oVr])]
set_option maxRecDepth 100000 in
theorem sb_X0_putOutside_0 (l : Launch) : sm_SndB l RX0 "putOutside" cX0_putOutside 2 0 3 0 [oK 0, oIs 1, oGo 2] := sb_cons (sd_iconst (by decide +kernel : decode cX0_putOutside 0 = .ok (.iconst 0, 1)) ⟨by decide, by decide⟩) (sb_cons (sd_istore_n (by decide +kernel : decode cX0_putOutside 1 = .ok (.istore_n 1, 1)) rfl) (sb_cons (sd_fall (x := 0)) sb_nil))
set_option maxRecDepth 100000 in
theorem sb_X0_putOutside_2 (l : Launch) : sm_SndB l RX0 "putOutside" cX0_putOutside 2 0 3 2 [oI 1, oK 7, oGe 21, oA 0, oGr 0 11 9, oI 1, oK 0, oZst, oInc 1 1, oGo 2] := sb_cons (sd_iload_n (by decide +kernel : decode cX0_putOutside 2 = .ok (.iload_n 1, 1)) rfl) (sb_cons (sd_bipush (by decide +kernel : decode cX0_putOutside 3 = .ok (.bipush 7, 2)) ⟨by decide, by decide⟩ (by decide)) (sb_cons (sd_ge (by decide +kernel : decode cX0_putOutside 5 = .ok (.if_icmp .ge 16, 3)) (by decide)) (sb_cons (sd_aload_n (by decide +kernel : decode cX0_putOutside 8 = .ok (.aload_n 0, 1)) rfl) (sb_cons (sd_getr (k := 9) kl_0 (by decide) rfl wm_87 (by decide +kernel : decode cX0_putOutside 9 = .ok (.getfield 40, 3))) (sb_cons (sd_iload_n (by decide +kernel : decode cX0_putOutside 12 = .ok (.iload_n 1, 1)) rfl) (sb_cons (sd_iconst (by decide +kernel : decode cX0_putOutside 13 = .ok (.iconst 0, 1)) ⟨by decide, by decide⟩) (sb_cons (sd_bastore (by decide +kernel : decode cX0_putOutside 14 = .ok (.bastore, 1))) (sb_cons (sd_iinc (by decide +kernel : decode cX0_putOutside 15 = .ok (.iinc 1 1, 3))) (sb_cons (sd_goto (x := 0) (by decide +kernel : decode cX0_putOutside 18 = .ok (.goto (-16), 3)) (by decide)) sb_nil)))))))))
set_option maxRecDepth 100000 in
theorem sb_X0_putOutside_21 (l : Launch) : sm_SndB l RX0 "putOutside" cX0_putOutside 2 0 3 21 [oA 0, oGr 0 11 10, oK 0, oCs p_J7_fill_53178 f_J7_fill_53178 0 0 2, oK 0, oIs 1, oGo 31] := sb_cons (sd_aload_n (by decide +kernel : decode cX0_putOutside 21 = .ok (.aload_n 0, 1)) rfl) (sb_cons (sd_getr (k := 10) kl_0 (by decide) rfl wm_88 (by decide +kernel : decode cX0_putOutside 22 = .ok (.getfield 43, 3))) (sb_cons (sd_iconst (by decide +kernel : decode cX0_putOutside 25 = .ok (.iconst 0, 1)) ⟨by decide, by decide⟩) (sb_cons (sd_calls (n := 2) (met_J7_fill_53178 l) (by decide) (by decide) wm_37 wm_293 wm_4 ⟨by decide +kernel, by decide +kernel, by decide +kernel⟩ wm_36 (by decide +kernel : decode cX0_putOutside 26 = .ok (.invokestatic 71, 3))) (sb_cons (sd_iconst (by decide +kernel : decode cX0_putOutside 29 = .ok (.iconst 0, 1)) ⟨by decide, by decide⟩) (sb_cons (sd_istore_n (by decide +kernel : decode cX0_putOutside 30 = .ok (.istore_n 1, 1)) rfl) (sb_cons (sd_fall (x := 0)) sb_nil))))))
set_option maxRecDepth 100000 in
theorem sb_X0_putOutside_31 (l : Launch) : sm_SndB l RX0 "putOutside" cX0_putOutside 2 0 3 31 [oI 1, oA 0, oGr 0 11 0, oGi 2 9 7, oGe 93, oA 0, oGr 0 11 1, oI 1, oRl, oK (-6), oCs p_J7_fill_53178 f_J7_fill_53178 0 0 2, oA 0, oGr 0 11 2, oI 1, oRl, oK (-6), oCs p_J7_fill_53178 f_J7_fill_53178 0 0 2, oA 0, oI 1, oA 0, oGr 0 11 0, oGr 2 9 2, oI 1, oIl, oA 0, oGr 0 11 0, oGr 2 9 4, oI 1, oIl, oCv 0 11 p_X0_stand f_X0_stand 0 0 4, oInc 1 1, oGo 31] := sb_cons (sd_iload_n (by decide +kernel : decode cX0_putOutside 31 = .ok (.iload_n 1, 1)) rfl) (sb_cons (sd_aload_n (by decide +kernel : decode cX0_putOutside 32 = .ok (.aload_n 0, 1)) rfl) (sb_cons (sd_getr (k := 0) kl_0 (by decide) rfl wm_68 (by decide +kernel : decode cX0_putOutside 33 = .ok (.getfield 12, 3))) (sb_cons (sd_geti (k := 7) kl_2 (by decide) rfl wm_59 (by decide +kernel : decode cX0_putOutside 36 = .ok (.getfield 77, 3))) (sb_cons (sd_ge (by decide +kernel : decode cX0_putOutside 39 = .ok (.if_icmp .ge 54, 3)) (by decide)) (sb_cons (sd_aload_n (by decide +kernel : decode cX0_putOutside 42 = .ok (.aload_n 0, 1)) rfl) (sb_cons (sd_getr (k := 1) kl_0 (by decide) rfl wm_73 (by decide +kernel : decode cX0_putOutside 43 = .ok (.getfield 20, 3))) (sb_cons (sd_iload_n (by decide +kernel : decode cX0_putOutside 46 = .ok (.iload_n 1, 1)) rfl) (sb_cons (sd_aaload (by decide +kernel : decode cX0_putOutside 47 = .ok (.aaload, 1))) (sb_cons (sd_bipush (by decide +kernel : decode cX0_putOutside 48 = .ok (.bipush (-6), 2)) ⟨by decide, by decide⟩ (by decide)) (sb_cons (sd_calls (n := 2) (met_J7_fill_53178 l) (by decide) (by decide) wm_37 wm_293 wm_4 ⟨by decide +kernel, by decide +kernel, by decide +kernel⟩ wm_36 (by decide +kernel : decode cX0_putOutside 50 = .ok (.invokestatic 71, 3))) (sb_cons (sd_aload_n (by decide +kernel : decode cX0_putOutside 53 = .ok (.aload_n 0, 1)) rfl) (sb_cons (sd_getr (k := 2) kl_0 (by decide) rfl wm_76 (by decide +kernel : decode cX0_putOutside 54 = .ok (.getfield 23, 3))) (sb_cons (sd_iload_n (by decide +kernel : decode cX0_putOutside 57 = .ok (.iload_n 1, 1)) rfl) (sb_cons (sd_aaload (by decide +kernel : decode cX0_putOutside 58 = .ok (.aaload, 1))) (sb_cons (sd_bipush (by decide +kernel : decode cX0_putOutside 59 = .ok (.bipush (-6), 2)) ⟨by decide, by decide⟩ (by decide)) (sb_cons (sd_calls (n := 2) (met_J7_fill_53178 l) (by decide) (by decide) wm_37 wm_293 wm_4 ⟨by decide +kernel, by decide +kernel, by decide +kernel⟩ wm_36 (by decide +kernel : decode cX0_putOutside 61 = .ok (.invokestatic 71, 3))) (sb_cons (sd_aload_n (by decide +kernel : decode cX0_putOutside 64 = .ok (.aload_n 0, 1)) rfl) (sb_cons (sd_iload_n (by decide +kernel : decode cX0_putOutside 65 = .ok (.iload_n 1, 1)) rfl) (sb_cons (sd_aload_n (by decide +kernel : decode cX0_putOutside 66 = .ok (.aload_n 0, 1)) rfl) (sb_cons (sd_getr (k := 0) kl_0 (by decide) rfl wm_68 (by decide +kernel : decode cX0_putOutside 67 = .ok (.getfield 12, 3))) (sb_cons (sd_getr (k := 2) kl_2 (by decide) rfl wm_46 (by decide +kernel : decode cX0_putOutside 70 = .ok (.getfield 80, 3))) (sb_cons (sd_iload_n (by decide +kernel : decode cX0_putOutside 73 = .ok (.iload_n 1, 1)) rfl) (sb_cons (sd_iaload (by decide +kernel : decode cX0_putOutside 74 = .ok (.iaload, 1))) (sb_cons (sd_aload_n (by decide +kernel : decode cX0_putOutside 75 = .ok (.aload_n 0, 1)) rfl) (sb_cons (sd_getr (k := 0) kl_0 (by decide) rfl wm_68 (by decide +kernel : decode cX0_putOutside 76 = .ok (.getfield 12, 3))) (sb_cons (sd_getr (k := 4) kl_2 (by decide) rfl wm_50 (by decide +kernel : decode cX0_putOutside 79 = .ok (.getfield 83, 3))) (sb_cons (sd_iload_n (by decide +kernel : decode cX0_putOutside 82 = .ok (.iload_n 1, 1)) rfl) (sb_cons (sd_iaload (by decide +kernel : decode cX0_putOutside 83 = .ok (.iaload, 1))) (sb_cons (sd_callv (n := 3) (met_X0_stand l) (by decide) (by decide) wm_296 wm_294 wm_2 ⟨by decide +kernel, by decide +kernel, by decide +kernel⟩ kl_0 wm_295 wm_1080 (by decide +kernel : decode cX0_putOutside 84 = .ok (.invokevirtual 86, 3))) (sb_cons (sd_iinc (by decide +kernel : decode cX0_putOutside 87 = .ok (.iinc 1 1, 3))) (sb_cons (sd_goto (x := 0) (by decide +kernel : decode cX0_putOutside 90 = .ok (.goto (-59), 3)) (by decide)) sb_nil)))))))))))))))))))))))))))))))
set_option maxRecDepth 100000 in
theorem sb_X0_putOutside_93 (l : Launch) : sm_SndB l RX0 "putOutside" cX0_putOutside 2 0 3 93 [oVr] := sb_cons (sd_return (x := 0) rfl (by decide +kernel : decode cX0_putOutside 93 = .ok (.return_, 1))) sb_nil
theorem sn_X0_putOutside (l : Launch) : sm_SndT l RX0 "putOutside" cX0_putOutside 2 0 3 tb_X0_putOutside := st_cons (sb_X0_putOutside_0 l) (st_cons (sb_X0_putOutside_2 l) (st_cons (sb_X0_putOutside_21 l) (st_cons (sb_X0_putOutside_31 l) (st_cons (sb_X0_putOutside_93 l) (st_nil)))))
set_option maxRecDepth 100000 in
set_option maxHeartbeats 4000000 in
theorem ok_X0_putOutside : sm_Ok tb_X0_putOutside 2 0 0 p_X0_putOutside f_X0_putOutside := by
  intro as w hp ha hw
  match as, hp with
  | [.inr (.inl d)], hp =>
  refine ⟨Nat.le_of_ble_eq_true rfl, fun Z hZ => ?_⟩
  have hD := hp
  have hn := dOK_n hD
  have h31 := sm_loopI Z 31 0 (wI w (d + 1) 7) (fun i => [some (.inr (.inl d)), some (.inl i)]) (fun i => itI (xO3 d) (xO2 d w) i) 0 0 hn.1 (fun i h0 h1 ih => by
    have hf := xO3L hD i h0 h1
    rw [itI_s _ _ h0] at ih
    have he : i = wI w (d + 1) 7 → itI (xO3 d) (xO2 d w) i = xOut d w := fun e => by rw [e]; rfl
    generalize hE : xOut d w = E at *
    generalize itI (xO3 d) (xO2 d w) i = u at *
    have hnu : wI u (d + 1) 7 = wI w (d + 1) 7 := by rw [sDy_l0 hf]
    have hD := sDy_ok hf hD
    obtain ⟨d0, d9, d18, d27, d28, d29, d30, d31, d32, s0, s1, s2, s5, s6, s7, s8, s9, s10⟩ := dS hD.2.1 hD.1
    obtain ⟨l0, l1, l2, l3, l4, l5, l6, l7, r0, r1, r2, r3, r4, r5, r6⟩ := lS hD.2.1 (dL hD.1)
    by_cases e : i = wI w (d + 1) 7
    · have he := he e
      subst he
      clear ih
      refine hZ (fun u => Nat.beq u 2 || Nat.beq u 31) 14 31 _ _ _ _ _ ?_
      simp only [sm_run, sm_blk, sm_get, sm_ent, sm_ents, sm_wds, sm_wd, sm_nl, sm_pop, sm_back, sm_cases, oK, oLK, oL, oI, oA, oJ, oIs, oAs, oJs, oInc, oAdd, oSub, oMul, oDiv, oRem, oNeg, oAnd, oAndB, oOr, oShl, oI2c, oI2l, oL2i, oLand, oLor, oLshl, oLshr, oLushr, oLcmp, oDup, oDup2, oPop, oGo, oFg, oEq, oNe, oLt, oGe, oGt, oLe, oEq0, oNe0, oLt0, oGe0, oGt0, oLe0, oSw, oGi, oGr, oPi, oPz, oPr, oLen, oIl, oZl, oCl, oRl, oIst, oZst, oCst, oRst, oCopy, oNew, oNa, oNa2, oObj, oCs, oCv, oCi, oIr, oZr, oVr, Nat.beq, List.getElem?_cons_zero, List.getElem?_cons_succ, List.set_cons_zero, List.set_cons_succ, List.length_cons, List.length_nil, List.nil_append, List.cons_append, List.append_nil, List.replicate_succ, List.replicate_zero, Nat.reduceAdd, Nat.reduceSub, Nat.reduceLT, Nat.reduceLeDiff, Nat.reduceBEq, true_and, and_true, Nat.zero_add, Nat.add_zero, Nat.le_refl, Option.some.injEq, exists_eq_left', true_or, or_true, or_false, false_or, reduceCtorEq, Prod.mk.injEq, Sum.inl.injEq, and_self, false_and, and_false, not_true_eq_false, not_false_eq_true, false_implies, true_implies, sm_r, Int.add_zero, Int.zero_add, wI_wsI, wS_wsI, wR_wsI, wI_wCp, wS_wCp, wR_wCp, Nat.reduceEqDiff, reduceIte, sT_iff, sT_iffC, wIf_ne, ne_eq, Bool.false_or, Bool.true_or, Bool.or_false, Bool.or_true, Bool.or_self, Nat.left_eq_add, Nat.add_eq_left, Nat.add_left_inj, oMax, oMin, oAbs, tb_X0_putOutside, p_J7_fill_53178, p_X0_stand, f_J7_fill_53178, f_X0_stand, p_X0_putOutside, f_X0_putOutside, d0, s0, l0, hnu, hE]
      repeat' (first | exact True.intro | with_reducible assumption | with_reducible refine And.intro ?_ ?_ | intro _)
      all_goals first
        | omega
        | assumption
        | rfl
        | (split <;> omega)
        | (have k9 := ih (by omega)
           (repeat' split at k9) <;> first | exact k9 | omega)
        | (have k9 := ih2 (by omega)
           (repeat' split at k9) <;> first | exact k9 | omega)
        | exact he (by omega)
        | ((with_reducible congr 1) <;> omega)
        | (rw [if_pos (by omega)] at he; exact he)
        | exact hD1 (by omega)
        | exact hD2 (by omega)
        | grind
        | skip
    · have hlt : i < wI w (d + 1) 7 := by omega
      have ih := ih hlt
      clear he hE
      have hq := lOK_s hD.2 h0 (show i < wI u (d + 1) 7 by omega)
      obtain ⟨c9, c18, cC, cV⟩ := dRC hD.2.1 hD.1 h0 (show i < 8 by omega)
      have e3 : wI (fiW (dV d i) (-6) ((8 : Nat) : Int) (fiW (dC d i) (-6) ((8 : Nat) : Int) u)) (d + 1 + 3) = wI u (d + 1 + 3) := by rw [fi8_I _ _ (by unfold dV; omega), fi8_I _ _ (by unfold dC; omega)]
      have e5 : wI (fiW (dV d i) (-6) ((8 : Nat) : Int) (fiW (dC d i) (-6) ((8 : Nat) : Int) u)) (d + 1 + 5) = wI u (d + 1 + 5) := by rw [fi8_I _ _ (by unfold dV; omega), fi8_I _ _ (by unfold dC; omega)]
      have e7 : wI (fiW (dV d i) (-6) ((8 : Nat) : Int) (fiW (dC d i) (-6) ((8 : Nat) : Int) u)) (d + 1) = wI u (d + 1) := by rw [fi8_I _ _ (by unfold dV; omega), fi8_I _ _ (by unfold dC; omega)]
      have hf2 : sFr (sDy d) u (fiW (dV d i) (-6) ((8 : Nat) : Int) (fiW (dC d i) (-6) ((8 : Nat) : Int) u)) := (fi8_fr (S := sDy d) _ u (fun _ => by unfold sDy dC; omega)).trans (fi8_fr _ _ (fun _ => by unfold sDy dV; omega))
      have hD2 := sDy_ok hf2 hD
      unfold xO3 at ih
      refine hZ (fun u => Nat.beq u 2 || Nat.beq u 31) 14 31 _ _ _ _ _ ?_
      simp only [sm_run, sm_blk, sm_get, sm_ent, sm_ents, sm_wds, sm_wd, sm_nl, sm_pop, sm_back, sm_cases, oK, oLK, oL, oI, oA, oJ, oIs, oAs, oJs, oInc, oAdd, oSub, oMul, oDiv, oRem, oNeg, oAnd, oAndB, oOr, oShl, oI2c, oI2l, oL2i, oLand, oLor, oLshl, oLshr, oLushr, oLcmp, oDup, oDup2, oPop, oGo, oFg, oEq, oNe, oLt, oGe, oGt, oLe, oEq0, oNe0, oLt0, oGe0, oGt0, oLe0, oSw, oGi, oGr, oPi, oPz, oPr, oLen, oIl, oZl, oCl, oRl, oIst, oZst, oCst, oRst, oCopy, oNew, oNa, oNa2, oObj, oCs, oCv, oCi, oIr, oZr, oVr, Nat.beq, List.getElem?_cons_zero, List.getElem?_cons_succ, List.set_cons_zero, List.set_cons_succ, List.length_cons, List.length_nil, List.nil_append, List.cons_append, List.append_nil, List.replicate_succ, List.replicate_zero, Nat.reduceAdd, Nat.reduceSub, Nat.reduceLT, Nat.reduceLeDiff, Nat.reduceBEq, true_and, and_true, Nat.zero_add, Nat.add_zero, Nat.le_refl, Option.some.injEq, exists_eq_left', true_or, or_true, or_false, false_or, reduceCtorEq, Prod.mk.injEq, Sum.inl.injEq, and_self, false_and, and_false, not_true_eq_false, not_false_eq_true, false_implies, true_implies, sm_r, Int.add_zero, Int.zero_add, wI_wsI, wS_wsI, wR_wsI, wI_wCp, wS_wCp, wR_wCp, Nat.reduceEqDiff, reduceIte, sT_iff, sT_iffC, wIf_ne, ne_eq, Bool.false_or, Bool.true_or, Bool.or_false, Bool.or_true, Bool.or_self, Nat.left_eq_add, Nat.add_eq_left, Nat.add_left_inj, oMax, oMin, oAbs, tb_X0_putOutside, p_J7_fill_53178, p_X0_stand, f_J7_fill_53178, f_X0_stand, p_X0_putOutside, f_X0_putOutside, d0, s0, l0, hnu, s1, d9, c9, cC, s2, d18, c18, cV, r2, l3, r4, l5, fi8_S, fi8_R, e3, e5, e7, hD2]
      repeat' (first | exact True.intro | with_reducible assumption | with_reducible refine And.intro ?_ ?_ | intro _)
      all_goals first
        | omega
        | assumption
        | rfl
        | (split <;> omega)
        | (have k9 := ih (by omega)
           (repeat' split at k9) <;> first | exact k9 | omega)
        | (have k9 := ih2 (by omega)
           (repeat' split at k9) <;> first | exact k9 | omega)
        | exact he (by omega)
        | ((with_reducible congr 1) <;> omega)
        | (rw [if_pos (by omega)] at he; exact he)
        | exact hD1 (by omega)
        | exact hD2 (by omega)
        | grind
        | skip
    )
  rw [itI_0] at h31
  have h2 := sm_loopI Z 2 0 7 (fun i => [some (.inr (.inl d)), some (.inl i)]) (fun i => itI (xO1 d) w i) 0 0 (by decide) (fun i h0 h1 ih => by
    have hf := xO1_fr d w i h0
    rw [itI_s _ _ h0] at ih
    have he : i = 7 → Z 31 [some (.inr (.inl d)), some (.inl 0)] [] (fiW (d + 32) 0 ((8 : Nat) : Int) (itI (xO1 d) w i)) 0 0 := fun e => by rw [e]; exact h31
    generalize itI (xO1 d) w i = u at *
    have hD := sDy_ok hf hD
    obtain ⟨d0, d9, d18, d27, d28, d29, d30, d31, d32, s0, s1, s2, s5, s6, s7, s8, s9, s10⟩ := dS hD.2.1 hD.1
    unfold xO1 at ih
    by_cases e : i = 7
    · have he := he e
      clear ih
      refine hZ (fun u => Nat.beq u 2 || Nat.beq u 31) 14 2 _ _ _ _ _ ?_
      simp only [sm_run, sm_blk, sm_get, sm_ent, sm_ents, sm_wds, sm_wd, sm_nl, sm_pop, sm_back, sm_cases, oK, oLK, oL, oI, oA, oJ, oIs, oAs, oJs, oInc, oAdd, oSub, oMul, oDiv, oRem, oNeg, oAnd, oAndB, oOr, oShl, oI2c, oI2l, oL2i, oLand, oLor, oLshl, oLshr, oLushr, oLcmp, oDup, oDup2, oPop, oGo, oFg, oEq, oNe, oLt, oGe, oGt, oLe, oEq0, oNe0, oLt0, oGe0, oGt0, oLe0, oSw, oGi, oGr, oPi, oPz, oPr, oLen, oIl, oZl, oCl, oRl, oIst, oZst, oCst, oRst, oCopy, oNew, oNa, oNa2, oObj, oCs, oCv, oCi, oIr, oZr, oVr, Nat.beq, List.getElem?_cons_zero, List.getElem?_cons_succ, List.set_cons_zero, List.set_cons_succ, List.length_cons, List.length_nil, List.nil_append, List.cons_append, List.append_nil, List.replicate_succ, List.replicate_zero, Nat.reduceAdd, Nat.reduceSub, Nat.reduceLT, Nat.reduceLeDiff, Nat.reduceBEq, true_and, and_true, Nat.zero_add, Nat.add_zero, Nat.le_refl, Option.some.injEq, exists_eq_left', true_or, or_true, or_false, false_or, reduceCtorEq, Prod.mk.injEq, Sum.inl.injEq, and_self, false_and, and_false, not_true_eq_false, not_false_eq_true, false_implies, true_implies, sm_r, Int.add_zero, Int.zero_add, wI_wsI, wS_wsI, wR_wsI, wI_wCp, wS_wCp, wR_wCp, Nat.reduceEqDiff, reduceIte, sT_iff, sT_iffC, wIf_ne, ne_eq, Bool.false_or, Bool.true_or, Bool.or_false, Bool.or_true, Bool.or_self, Nat.left_eq_add, Nat.add_eq_left, Nat.add_left_inj, oMax, oMin, oAbs, tb_X0_putOutside, p_J7_fill_53178, p_X0_stand, f_J7_fill_53178, f_X0_stand, p_X0_putOutside, f_X0_putOutside, d0, s9, d31, s10, d32]
      repeat' (first | exact True.intro | with_reducible assumption | with_reducible refine And.intro ?_ ?_ | intro _)
      all_goals first
        | omega
        | assumption
        | rfl
        | (split <;> omega)
        | (have k9 := ih (by omega)
           (repeat' split at k9) <;> first | exact k9 | omega)
        | (have k9 := ih2 (by omega)
           (repeat' split at k9) <;> first | exact k9 | omega)
        | exact he (by omega)
        | ((with_reducible congr 1) <;> omega)
        | (rw [if_pos (by omega)] at he; exact he)
        | exact hD1 (by omega)
        | exact hD2 (by omega)
        | grind
        | skip
    · have ih := ih (by omega)
      clear he
      refine hZ (fun u => Nat.beq u 2 || Nat.beq u 31) 14 2 _ _ _ _ _ ?_
      simp only [sm_run, sm_blk, sm_get, sm_ent, sm_ents, sm_wds, sm_wd, sm_nl, sm_pop, sm_back, sm_cases, oK, oLK, oL, oI, oA, oJ, oIs, oAs, oJs, oInc, oAdd, oSub, oMul, oDiv, oRem, oNeg, oAnd, oAndB, oOr, oShl, oI2c, oI2l, oL2i, oLand, oLor, oLshl, oLshr, oLushr, oLcmp, oDup, oDup2, oPop, oGo, oFg, oEq, oNe, oLt, oGe, oGt, oLe, oEq0, oNe0, oLt0, oGe0, oGt0, oLe0, oSw, oGi, oGr, oPi, oPz, oPr, oLen, oIl, oZl, oCl, oRl, oIst, oZst, oCst, oRst, oCopy, oNew, oNa, oNa2, oObj, oCs, oCv, oCi, oIr, oZr, oVr, Nat.beq, List.getElem?_cons_zero, List.getElem?_cons_succ, List.set_cons_zero, List.set_cons_succ, List.length_cons, List.length_nil, List.nil_append, List.cons_append, List.append_nil, List.replicate_succ, List.replicate_zero, Nat.reduceAdd, Nat.reduceSub, Nat.reduceLT, Nat.reduceLeDiff, Nat.reduceBEq, true_and, and_true, Nat.zero_add, Nat.add_zero, Nat.le_refl, Option.some.injEq, exists_eq_left', true_or, or_true, or_false, false_or, reduceCtorEq, Prod.mk.injEq, Sum.inl.injEq, and_self, false_and, and_false, not_true_eq_false, not_false_eq_true, false_implies, true_implies, sm_r, Int.add_zero, Int.zero_add, wI_wsI, wS_wsI, wR_wsI, wI_wCp, wS_wCp, wR_wCp, Nat.reduceEqDiff, reduceIte, sT_iff, sT_iffC, wIf_ne, ne_eq, Bool.false_or, Bool.true_or, Bool.or_false, Bool.or_true, Bool.or_self, Nat.left_eq_add, Nat.add_eq_left, Nat.add_left_inj, oMax, oMin, oAbs, tb_X0_putOutside, p_J7_fill_53178, p_X0_stand, f_J7_fill_53178, f_X0_stand, p_X0_putOutside, f_X0_putOutside, d0, s9, d31]
      repeat' (first | exact True.intro | with_reducible assumption | with_reducible refine And.intro ?_ ?_ | intro _)
      all_goals first
        | omega
        | assumption
        | rfl
        | (split <;> omega)
        | (have k9 := ih (by omega)
           (repeat' split at k9) <;> first | exact k9 | omega)
        | (have k9 := ih2 (by omega)
           (repeat' split at k9) <;> first | exact k9 | omega)
        | exact he (by omega)
        | ((with_reducible congr 1) <;> omega)
        | (rw [if_pos (by omega)] at he; exact he)
        | exact hD1 (by omega)
        | exact hD2 (by omega)
        | grind
        | skip
    )
  refine hZ (fun u => Nat.beq u 2) 14 0 _ _ _ _ _ ?_
  simp only [sm_run, sm_blk, sm_get, sm_ent, sm_ents, sm_wds, sm_wd, sm_nl, sm_pop, sm_back, sm_cases, oK, oLK, oL, oI, oA, oJ, oIs, oAs, oJs, oInc, oAdd, oSub, oMul, oDiv, oRem, oNeg, oAnd, oAndB, oOr, oShl, oI2c, oI2l, oL2i, oLand, oLor, oLshl, oLshr, oLushr, oLcmp, oDup, oDup2, oPop, oGo, oFg, oEq, oNe, oLt, oGe, oGt, oLe, oEq0, oNe0, oLt0, oGe0, oGt0, oLe0, oSw, oGi, oGr, oPi, oPz, oPr, oLen, oIl, oZl, oCl, oRl, oIst, oZst, oCst, oRst, oCopy, oNew, oNa, oNa2, oObj, oCs, oCv, oCi, oIr, oZr, oVr, Nat.beq, List.getElem?_cons_zero, List.getElem?_cons_succ, List.set_cons_zero, List.set_cons_succ, List.length_cons, List.length_nil, List.nil_append, List.cons_append, List.append_nil, List.replicate_succ, List.replicate_zero, Nat.reduceAdd, Nat.reduceSub, Nat.reduceLT, Nat.reduceLeDiff, Nat.reduceBEq, true_and, and_true, Nat.zero_add, Nat.add_zero, Nat.le_refl, Option.some.injEq, exists_eq_left', true_or, or_true, or_false, false_or, reduceCtorEq, Prod.mk.injEq, Sum.inl.injEq, and_self, false_and, and_false, not_true_eq_false, not_false_eq_true, false_implies, true_implies, sm_r, Int.add_zero, Int.zero_add, wI_wsI, wS_wsI, wR_wsI, wI_wCp, wS_wCp, wR_wCp, Nat.reduceEqDiff, reduceIte, sT_iff, sT_iffC, wIf_ne, ne_eq, Bool.false_or, Bool.true_or, Bool.or_false, Bool.or_true, Bool.or_self, Nat.left_eq_add, Nat.add_eq_left, Nat.add_left_inj, oMax, oMin, oAbs, tb_X0_putOutside, p_J7_fill_53178, p_X0_stand, f_J7_fill_53178, f_X0_stand, p_X0_putOutside, f_X0_putOutside]
  repeat' (first | exact True.intro | with_reducible assumption | with_reducible refine And.intro ?_ ?_ | intro _)
  all_goals first
    | omega
    | assumption
    | rfl
    | (split <;> omega)
    | (have k9 := ih (by omega)
       (repeat' split at k9) <;> first | exact k9 | omega)
    | (have k9 := ih2 (by omega)
       (repeat' split at k9) <;> first | exact k9 | omega)
    | exact he (by omega)
    | ((with_reducible congr 1) <;> omega)
    | (rw [if_pos (by omega)] at he; exact he)
    | exact hD1 (by omega)
    | exact hD2 (by omega)
    | skip

theorem met_X0_putOutside (l : Launch) : sm_Met l yX0_putOutside cX0_putOutside 2 none 3 0 0 p_X0_putOutside f_X0_putOutside := sm_met 0 (Or.inl ⟨rfl, rfl⟩) (by decide +kernel) (sn_X0_putOutside l) ok_X0_putOutside