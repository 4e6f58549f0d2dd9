/-! THE CLASS: a day, what an event does -/
theorem xSh_b {w : sm_W} {d : Nat} {x : Int} (hX : xDay w d) (h0 : 0 ≤ x) (h1 : x < wI w (d + 1) 7) (hs : wI w (d + 27) x ≠ wI w (d + 1 + 4) x) : (0 ≤ sFrom (wI w (d + 27) x) (mWay (vL w (d + 1)) x) ∧ sFrom (wI w (d + 27) x) (mWay (vL w (d + 1)) x) < 7) ∧ (0 ≤ wI w (d + 27) x + mWay (vL w (d + 1)) x ∧ wI w (d + 27) x + mWay (vL w (d + 1)) x < 8) := by
  have hs := hX.2 x h0 h1
  unfold xSh at hs
  have hq := lOK_s hX.1.2 h0 h1
  have hw := lWay (w := w) (a := d + 1) h0
  have hsf : (0 < mWay (vL w (d + 1)) x → sFrom (wI w (d + 27) x) (mWay (vL w (d + 1)) x) = wI w (d + 27) x) ∧ (¬ 0 < mWay (vL w (d + 1)) x → sFrom (wI w (d + 27) x) (mWay (vL w (d + 1)) x) = wI w (d + 27) x - 1) := ⟨fun h => if_pos h, fun h => if_neg h⟩
  omega
/-- the tracks that are counted are few -/
def xHb (w : sm_W) (d : Nat) (c : Int) : Prop := ∀ i, 0 ≤ i → i < 8 → -c ≤ wI w (d + 32) i ∧ wI w (d + 32) i ≤ c
def xLvA (w : sm_W) (d : Nat) (x : Int) : sm_W := if wI w (d + 27) x = wI w (d + 1 + 3) x then w else wsI w (d + 32) (wI w (d + 27) x) (wI w (d + 32) (wI w (d + 27) x) - 1)
def xLvB (w : sm_W) (d : Nat) (x p : Int) : sm_W := if p = wI w (d + 1 + 4) x then w else wsI w (d + 32) p (wI w (d + 32) p + 1)
def xLvC (w : sm_W) (d : Nat) (x p s t r : Int) : sm_W := wsI (wsI (wsI (wsI w (d + 31) s 1) (d + 28) x 1) (dV d x) p t) (d + 29) x (t + r)
def xLv1 (w : sm_W) (d : Nat) (x t : Int) : sm_W := xLvC (xLvB (xLvA w d x) d x (wI w (d + 27) x + mWay (vL w (d + 1)) x)) d x (wI w (d + 27) x) (sFrom (wI w (d + 27) x) (mWay (vL w (d + 1)) x)) t (wI w (d + 1 + 2) (sFrom (wI w (d + 27) x) (mWay (vL w (d + 1)) x)))
def p_X0_leave : List sm_V → sm_W → Prop
  | [.inr (.inl d), .inl x, .inl t], w => xDay w d ∧ 0 ≤ x ∧ x < wI w (d + 1) 7 ∧ wI w (d + 27) x ≠ wI w (d + 1 + 4) x ∧ 0 ≤ t ∧ t ≤ 1000000 ∧ xHb w d 1000000
  | _, _ => False
def f_X0_leave : sm_F
  | [.inr (.inl d), .inl x, .inl t], w => (none, xLv1 w d x t)
  | _, w => (none, w)
def tb_X0_leave : List (Nat × List sm_O) := [(0, [oA 0, oGr 0 11 5, oI 1, oIl, oIs 3, oA 0, oGr 0 11 0, oI 1, oI 3, oCv 2 9 p_X2_nextStation f_X2_nextStation 0 0 3, oIs 4, oA 0, oGr 0 11 0, oI 1, oI 3, oCv 2 9 p_X2_stretchAhead f_X2_stretchAhead 0 0 3, oIs 5, oI 3, oA 0, oGr 0 11 0, oGr 2 9 2, oI 1, oIl, oEq 52, oA 0, oGr 0 11 10, oI 3, oDup2, oIl, oK 1, oSub, oIst, oGo 52]),
  (52, [oI 4, oA 0, oGr 0 11 0, oGr 2 9 3, oI 1, oIl, oEq 77, oA 0, oGr 0 11 10, oI 4, oDup2, oIl, oK 1, oAdd, oIst, oGo 77]),
  (77, [oA 0, oGr 0 11 9, oI 5, oK 1, oZst, oA 0, oGr 0 11 6, oI 1, oK 1, oZst, oA 0, oGr 0 11 2, oI 1, oRl, oI 3, oI 2, oIst, oA 0, oGr 0 11 7, oI 1, oI 2, oA 0, oGr 0 11 0, oGr 2 9 1, oI 5, oIl, oAdd, oIst, oVr])]
set_option maxRecDepth 100000 in
theorem sb_X0_leave_0 (l : Launch) : sm_SndB l RX0 "leave" cX0_leave 6 0 2 0 [oA 0, oGr 0 11 5, oI 1, oIl, oIs 3, oA 0, oGr 0 11 0, oI 1, oI 3, oCv 2 9 p_X2_nextStation f_X2_nextStation 0 0 3, oIs 4, oA 0, oGr 0 11 0, oI 1, oI 3, oCv 2 9 p_X2_stretchAhead f_X2_stretchAhead 0 0 3, oIs 5, oI 3, oA 0, oGr 0 11 0, oGr 2 9 2, oI 1, oIl, oEq 52, oA 0, oGr 0 11 10, oI 3, oDup2, oIl, oK 1, oSub, oIst, oGo 52] := sb_cons (sd_aload_n (by decide +kernel : decode cX0_leave 0 = .ok (.aload_n 0, 1)) rfl) (sb_cons (sd_getr (k := 5) kl_0 (by decide) rfl wm_83 (by decide +kernel : decode cX0_leave 1 = .ok (.getfield 26, 3))) (sb_cons (sd_iload_n (by decide +kernel : decode cX0_leave 4 = .ok (.iload_n 1, 1)) rfl) (sb_cons (sd_iaload (by decide +kernel : decode cX0_leave 5 = .ok (.iaload, 1))) (sb_cons (sd_istore_n (by decide +kernel : decode cX0_leave 6 = .ok (.istore_n 3, 1)) rfl) (sb_cons (sd_aload_n (by decide +kernel : decode cX0_leave 7 = .ok (.aload_n 0, 1)) rfl) (sb_cons (sd_getr (k := 0) kl_0 (by decide) rfl wm_68 (by decide +kernel : decode cX0_leave 8 = .ok (.getfield 12, 3))) (sb_cons (sd_iload_n (by decide +kernel : decode cX0_leave 11 = .ok (.iload_n 1, 1)) rfl) (sb_cons (sd_iload_n (by decide +kernel : decode cX0_leave 12 = .ok (.iload_n 3, 1)) rfl) (sb_cons (sd_callv (n := 2) (met_X2_nextStation l) (by decide) (by decide) wm_306 wm_303 wm_3 ⟨by decide +kernel, by decide +kernel, by decide +kernel⟩ kl_2 wm_304 wm_305 (by decide +kernel : decode cX0_leave 13 = .ok (.invokevirtual 100, 3))) (sb_cons (sd_istore (by decide +kernel : decode cX0_leave 16 = .ok (.istore 4, 2))) (sb_cons (sd_aload_n (by decide +kernel : decode cX0_leave 18 = .ok (.aload_n 0, 1)) rfl) (sb_cons (sd_getr (k := 0) kl_0 (by decide) rfl wm_68 (by decide +kernel : decode cX0_leave 19 = .ok (.getfield 12, 3))) (sb_cons (sd_iload_n (by decide +kernel : decode cX0_leave 22 = .ok (.iload_n 1, 1)) rfl) (sb_cons (sd_iload_n (by decide +kernel : decode cX0_leave 23 = .ok (.iload_n 3, 1)) rfl) (sb_cons (sd_callv (n := 2) (met_X2_stretchAhead l) (by decide) (by decide) wm_316 wm_313 wm_3 ⟨by decide +kernel, by decide +kernel, by decide +kernel⟩ kl_2 wm_314 wm_315 (by decide +kernel : decode cX0_leave 24 = .ok (.invokevirtual 103, 3))) (sb_cons (sd_istore (by decide +kernel : decode cX0_leave 27 = .ok (.istore 5, 2))) (sb_cons (sd_iload_n (by decide +kernel : decode cX0_leave 29 = .ok (.iload_n 3, 1)) rfl) (sb_cons (sd_aload_n (by decide +kernel : decode cX0_leave 30 = .ok (.aload_n 0, 1)) rfl) (sb_cons (sd_getr (k := 0) kl_0 (by decide) rfl wm_68 (by decide +kernel : decode cX0_leave 31 = .ok (.getfield 12, 3))) (sb_cons (sd_getr (k := 2) kl_2 (by decide) rfl wm_46 (by decide +kernel : decode cX0_leave 34 = .ok (.getfield 80, 3))) (sb_cons (sd_iload_n (by decide +kernel : decode cX0_leave 37 = .ok (.iload_n 1, 1)) rfl) (sb_cons (sd_iaload (by decide +kernel : decode cX0_leave 38 = .ok (.iaload, 1))) (sb_cons (sd_eq (by decide +kernel : decode cX0_leave 39 = .ok (.if_icmp .eq 13, 3)) (by decide)) (sb_cons (sd_aload_n (by decide +kernel : decode cX0_leave 42 = .ok (.aload_n 0, 1)) rfl) (sb_cons (sd_getr (k := 10) kl_0 (by decide) rfl wm_88 (by decide +kernel : decode cX0_leave 43 = .ok (.getfield 43, 3))) (sb_cons (sd_iload_n (by decide +kernel : decode cX0_leave 46 = .ok (.iload_n 3, 1)) rfl) (sb_cons (sd_dup2 (by decide +kernel : decode cX0_leave 47 = .ok (.dup2, 1))) (sb_cons (sd_iaload (by decide +kernel : decode cX0_leave 48 = .ok (.iaload, 1))) (sb_cons (sd_iconst (by decide +kernel : decode cX0_leave 49 = .ok (.iconst 1, 1)) ⟨by decide, by decide⟩) (sb_cons (sd_isub (by decide +kernel : decode cX0_leave 50 = .ok (.isub, 1))) (sb_cons (sd_iastore (by decide +kernel : decode cX0_leave 51 = .ok (.iastore, 1))) (sb_cons (sd_fall (x := 0)) sb_nil))))))))))))))))))))))))))))))))
set_option maxRecDepth 100000 in
theorem sb_X0_leave_52 (l : Launch) : sm_SndB l RX0 "leave" cX0_leave 6 0 2 52 [oI 4, oA 0, oGr 0 11 0, oGr 2 9 3, oI 1, oIl, oEq 77, oA 0, oGr 0 11 10, oI 4, oDup2, oIl, oK 1, oAdd, oIst, oGo 77] := sb_cons (sd_iload (by decide +kernel : decode cX0_leave 52 = .ok (.iload 4, 2))) (sb_cons (sd_aload_n (by decide +kernel : decode cX0_leave 54 = .ok (.aload_n 0, 1)) rfl) (sb_cons (sd_getr (k := 0) kl_0 (by decide) rfl wm_68 (by decide +kernel : decode cX0_leave 55 = .ok (.getfield 12, 3))) (sb_cons (sd_getr (k := 3) kl_2 (by decide) rfl wm_48 (by decide +kernel : decode cX0_leave 58 = .ok (.getfield 97, 3))) (sb_cons (sd_iload_n (by decide +kernel : decode cX0_leave 61 = .ok (.iload_n 1, 1)) rfl) (sb_cons (sd_iaload (by decide +kernel : decode cX0_leave 62 = .ok (.iaload, 1))) (sb_cons (sd_eq (by decide +kernel : decode cX0_leave 63 = .ok (.if_icmp .eq 14, 3)) (by decide)) (sb_cons (sd_aload_n (by decide +kernel : decode cX0_leave 66 = .ok (.aload_n 0, 1)) rfl) (sb_cons (sd_getr (k := 10) kl_0 (by decide) rfl wm_88 (by decide +kernel : decode cX0_leave 67 = .ok (.getfield 43, 3))) (sb_cons (sd_iload (by decide +kernel : decode cX0_leave 70 = .ok (.iload 4, 2))) (sb_cons (sd_dup2 (by decide +kernel : decode cX0_leave 72 = .ok (.dup2, 1))) (sb_cons (sd_iaload (by decide +kernel : decode cX0_leave 73 = .ok (.iaload, 1))) (sb_cons (sd_iconst (by decide +kernel : decode cX0_leave 74 = .ok (.iconst 1, 1)) ⟨by decide, by decide⟩) (sb_cons (sd_iadd (by decide +kernel : decode cX0_leave 75 = .ok (.iadd, 1))) (sb_cons (sd_iastore (by decide +kernel : decode cX0_leave 76 = .ok (.iastore, 1))) (sb_cons (sd_fall (x := 0)) sb_nil)))))))))))))))
set_option maxRecDepth 100000 in
theorem sb_X0_leave_77 (l : Launch) : sm_SndB l RX0 "leave" cX0_leave 6 0 2 77 [oA 0, oGr 0 11 9, oI 5, oK 1, oZst, oA 0, oGr 0 11 6, oI 1, oK 1, oZst, oA 0, oGr 0 11 2, oI 1, oRl, oI 3, oI 2, oIst, oA 0, oGr 0 11 7, oI 1, oI 2, oA 0, oGr 0 11 0, oGr 2 9 1, oI 5, oIl, oAdd, oIst, oVr] := sb_cons (sd_aload_n (by decide +kernel : decode cX0_leave 77 = .ok (.aload_n 0, 1)) rfl) (sb_cons (sd_getr (k := 9) kl_0 (by decide) rfl wm_87 (by decide +kernel : decode cX0_leave 78 = .ok (.getfield 40, 3))) (sb_cons (sd_iload (by decide +kernel : decode cX0_leave 81 = .ok (.iload 5, 2))) (sb_cons (sd_iconst (by decide +kernel : decode cX0_leave 83 = .ok (.iconst 1, 1)) ⟨by decide, by decide⟩) (sb_cons (sd_bastore (by decide +kernel : decode cX0_leave 84 = .ok (.bastore, 1))) (sb_cons (sd_aload_n (by decide +kernel : decode cX0_leave 85 = .ok (.aload_n 0, 1)) rfl) (sb_cons (sd_getr (k := 6) kl_0 (by decide) rfl wm_84 (by decide +kernel : decode cX0_leave 86 = .ok (.getfield 30, 3))) (sb_cons (sd_iload_n (by decide +kernel : decode cX0_leave 89 = .ok (.iload_n 1, 1)) rfl) (sb_cons (sd_iconst (by decide +kernel : decode cX0_leave 90 = .ok (.iconst 1, 1)) ⟨by decide, by decide⟩) (sb_cons (sd_bastore (by decide +kernel : decode cX0_leave 91 = .ok (.bastore, 1))) (sb_cons (sd_aload_n (by decide +kernel : decode cX0_leave 92 = .ok (.aload_n 0, 1)) rfl) (sb_cons (sd_getr (k := 2) kl_0 (by decide) rfl wm_76 (by decide +kernel : decode cX0_leave 93 = .ok (.getfield 23, 3))) (sb_cons (sd_iload_n (by decide +kernel : decode cX0_leave 96 = .ok (.iload_n 1, 1)) rfl) (sb_cons (sd_aaload (by decide +kernel : decode cX0_leave 97 = .ok (.aaload, 1))) (sb_cons (sd_iload_n (by decide +kernel : decode cX0_leave 98 = .ok (.iload_n 3, 1)) rfl) (sb_cons (sd_iload_n (by decide +kernel : decode cX0_leave 99 = .ok (.iload_n 2, 1)) rfl) (sb_cons (sd_iastore (by decide +kernel : decode cX0_leave 100 = .ok (.iastore, 1))) (sb_cons (sd_aload_n (by decide +kernel : decode cX0_leave 101 = .ok (.aload_n 0, 1)) rfl) (sb_cons (sd_getr (k := 7) kl_0 (by decide) rfl wm_85 (by decide +kernel : decode cX0_leave 102 = .ok (.getfield 34, 3))) (sb_cons (sd_iload_n (by decide +kernel : decode cX0_leave 105 = .ok (.iload_n 1, 1)) rfl) (sb_cons (sd_iload_n (by decide +kernel : decode cX0_leave 106 = .ok (.iload_n 2, 1)) rfl) (sb_cons (sd_aload_n (by decide +kernel : decode cX0_leave 107 = .ok (.aload_n 0, 1)) rfl) (sb_cons (sd_getr (k := 0) kl_0 (by decide) rfl wm_68 (by decide +kernel : decode cX0_leave 108 = .ok (.getfield 12, 3))) (sb_cons (sd_getr (k := 1) kl_2 (by decide) rfl wm_44 (by decide +kernel : decode cX0_leave 111 = .ok (.getfield 133, 3))) (sb_cons (sd_iload (by decide +kernel : decode cX0_leave 114 = .ok (.iload 5, 2))) (sb_cons (sd_iaload (by decide +kernel : decode cX0_leave 116 = .ok (.iaload, 1))) (sb_cons (sd_iadd (by decide +kernel : decode cX0_leave 117 = .ok (.iadd, 1))) (sb_cons (sd_iastore (by decide +kernel : decode cX0_leave 118 = .ok (.iastore, 1))) (sb_cons (sd_return (x := 0) rfl (by decide +kernel : decode cX0_leave 119 = .ok (.return_, 1))) sb_nil))))))))))))))))))))))))))))
theorem sn_X0_leave (l : Launch) : sm_SndT l RX0 "leave" cX0_leave 6 0 2 tb_X0_leave := st_cons (sb_X0_leave_0 l) (st_cons (sb_X0_leave_52 l) (st_cons (sb_X0_leave_77 l) (st_nil)))
set_option maxRecDepth 100000 in
set_option maxHeartbeats 4000000 in
theorem ok_X0_leave : sm_Ok tb_X0_leave 6 0 0 p_X0_leave f_X0_leave := by
  intro as w hp ha hw
  match as, hp with
  | [.inr (.inl d), .inl x, .inl t], hp =>
  refine ⟨Nat.le_of_ble_eq_true rfl, fun Z hZ => ?_⟩
  obtain ⟨hX, x0, x1, hne, t0, t1, hH⟩ := hp
  have hD := hX.1
  obtain ⟨d0, d9, d18, d27, d28, d29, d30, d31, d32, s0, s1, s2, s5, s6, s7, s8, s9, s10⟩ := dS hD.2.1 hD.1
  obtain ⟨l0, l1, l2, l3, l4, l5, l6, l7, r0, r1, r2, r3, r4, r5, r6⟩ := lS hD.2.1 (dL hD.1)
  have hn := dOK_n hD
  have hT := hD.2.1
  have hL := hD.2.2.1
  have hs := (hX.2 x x0 x1).1
  have hb := xSh_b hX x0 x1 hne
  have hq := lOK_s hD.2 x0 x1
  have hr := lOK_r hD.2 (k := sFrom (wI w (d + 27) x) (mWay (vL w (d + 1)) x)) hb.1.1 hb.1.2
  obtain ⟨-, c18, -, cV⟩ := dRC hT hD.1 x0 (show x < 8 by omega)
  have v27 := dV_ne (d := d) (k := 27) x0 (show x < 8 by omega) (by omega)
  have v28 := dV_ne (d := d) (k := 28) x0 (show x < 8 by omega) (by omega)
  have v29 := dV_ne (d := d) (k := 29) x0 (show x < 8 by omega) (by omega)
  have hh1 := hH (wI w (d + 27) x) hs.1 hs.2
  have hh2 := hH (wI w (d + 27) x + mWay (vL w (d + 1)) x) hb.2.1 hb.2.2
  have hne2 : wI w (d + 27) x + mWay (vL w (d + 1)) x ≠ wI w (d + 27) x := by
    have hw := lWay (w := w) (a := d + 1) x0
    omega
  have hne3 : ¬ (wI w (d + 27) x + mWay (vL w (d + 1)) x = wI w (d + 27) x) := hne2
  have key : xLv1 w d x t = xLvC (xLvB (xLvA w d x) d x (wI w (d + 27) x + mWay (vL w (d + 1)) x)) d x (wI w (d + 27) x) (sFrom (wI w (d + 27) x) (mWay (vL w (d + 1)) x)) t (wI w (d + 1 + 2) (sFrom (wI w (d + 27) x) (mWay (vL w (d + 1)) x))) := rfl
  generalize hze : xLv1 w d x t = z at *
  by_cases c1 : wI w (d + 27) x = wI w (d + 1 + 3) x
  · have eA : xLvA w d x = w := if_pos c1
    rw [eA] at key
    by_cases c2 : wI w (d + 27) x + mWay (vL w (d + 1)) x = wI w (d + 1 + 4) x
    · have eB : xLvB w d x (wI w (d + 27) x + mWay (vL w (d + 1)) x) = w := if_pos c2
      rw [eB] at key
      unfold xLvC at key
      generalize hSe : sFrom (wI w (d + 27) x) (mWay (vL w (d + 1)) x) = S at *
      generalize hPe : wI w (d + 27) x + mWay (vL w (d + 1)) x = P at *
      refine hZ (fun _ => false) 16 0 _ _ _ _ _ ?_
      simp only [sm_run, sm_blk, sm_get, sm_ent, sm_ents, sm_wds, sm_wd, sm_nl, sm_pop, sm_back, sm_cases, oK, oLK, oL, oI, oA, oJ, oIs, oAs, oJs, oInc, oAdd, oSub, oMul, oDiv, oRem, oNeg, oAnd, oAndB, oOr, oShl, oI2c, oI2l, oL2i, oLand, oLor, oLshl, oLshr, oLushr, oLcmp, oDup, oDup2, oPop, oGo, oFg, oEq, oNe, oLt, oGe, oGt, oLe, oEq0, oNe0, oLt0, oGe0, oGt0, oLe0, oSw, oGi, oGr, oPi, oPz, oPr, oLen, oIl, oZl, oCl, oRl, oIst, oZst, oCst, oRst, oCopy, oNew, oNa, oNa2, oObj, oCs, oCv, oCi, oIr, oZr, oVr, Nat.beq, List.getElem?_cons_zero, List.getElem?_cons_succ, List.set_cons_zero, List.set_cons_succ, List.length_cons, List.length_nil, List.nil_append, List.cons_append, List.append_nil, List.replicate_succ, List.replicate_zero, Nat.reduceAdd, Nat.reduceSub, Nat.reduceLT, Nat.reduceLeDiff, Nat.reduceBEq, true_and, and_true, Nat.zero_add, Nat.add_zero, Nat.le_refl, Option.some.injEq, exists_eq_left', true_or, or_true, or_false, false_or, reduceCtorEq, Prod.mk.injEq, Sum.inl.injEq, and_self, false_and, and_false, not_true_eq_false, not_false_eq_true, false_implies, true_implies, sm_r, Int.add_zero, Int.zero_add, wI_wsI, wS_wsI, wR_wsI, wI_wCp, wS_wCp, wR_wCp, Nat.reduceEqDiff, reduceIte, sT_iff, sT_iffC, wIf_ne, ne_eq, Bool.false_or, Bool.true_or, Bool.or_false, Bool.or_true, Bool.or_self, Nat.left_eq_add, Nat.add_eq_left, Nat.add_left_inj, oMax, oMin, oAbs, tb_X0_leave, p_X2_nextStation, p_X2_stretchAhead, f_X2_nextStation, f_X2_stretchAhead, p_X0_leave, f_X0_leave, d0, s0, s5, s6, s7, s9, s10, s2, d18, c18, cV, d27, d28, d29, d31, d32, l0, r1, l2, r2, l3, r3, l4, hT, hL, hPe, hSe, v27, v28, v29, hze]
      repeat' (first | exact True.intro | with_reducible assumption | with_reducible refine And.intro ?_ ?_ | intro _)
      all_goals first
        | omega
        | assumption
        | rfl
        | (split <;> omega)
        | grind
        | skip
    · have eB : xLvB w d x (wI w (d + 27) x + mWay (vL w (d + 1)) x) = wsI w (d + 32) (wI w (d + 27) x + mWay (vL w (d + 1)) x) (wI w (d + 32) (wI w (d + 27) x + mWay (vL w (d + 1)) x) + 1) := if_neg c2
      rw [eB] at key
      unfold xLvC at key
      generalize hSe : sFrom (wI w (d + 27) x) (mWay (vL w (d + 1)) x) = S at *
      generalize hPe : wI w (d + 27) x + mWay (vL w (d + 1)) x = P at *
      refine hZ (fun _ => false) 16 0 _ _ _ _ _ ?_
      simp only [sm_run, sm_blk, sm_get, sm_ent, sm_ents, sm_wds, sm_wd, sm_nl, sm_pop, sm_back, sm_cases, oK, oLK, oL, oI, oA, oJ, oIs, oAs, oJs, oInc, oAdd, oSub, oMul, oDiv, oRem, oNeg, oAnd, oAndB, oOr, oShl, oI2c, oI2l, oL2i, oLand, oLor, oLshl, oLshr, oLushr, oLcmp, oDup, oDup2, oPop, oGo, oFg, oEq, oNe, oLt, oGe, oGt, oLe, oEq0, oNe0, oLt0, oGe0, oGt0, oLe0, oSw, oGi, oGr, oPi, oPz, oPr, oLen, oIl, oZl, oCl, oRl, oIst, oZst, oCst, oRst, oCopy, oNew, oNa, oNa2, oObj, oCs, oCv, oCi, oIr, oZr, oVr, Nat.beq, List.getElem?_cons_zero, List.getElem?_cons_succ, List.set_cons_zero, List.set_cons_succ, List.length_cons, List.length_nil, List.nil_append, List.cons_append, List.append_nil, List.replicate_succ, List.replicate_zero, Nat.reduceAdd, Nat.reduceSub, Nat.reduceLT, Nat.reduceLeDiff, Nat.reduceBEq, true_and, and_true, Nat.zero_add, Nat.add_zero, Nat.le_refl, Option.some.injEq, exists_eq_left', true_or, or_true, or_false, false_or, reduceCtorEq, Prod.mk.injEq, Sum.inl.injEq, and_self, false_and, and_false, not_true_eq_false, not_false_eq_true, false_implies, true_implies, sm_r, Int.add_zero, Int.zero_add, wI_wsI, wS_wsI, wR_wsI, wI_wCp, wS_wCp, wR_wCp, Nat.reduceEqDiff, reduceIte, sT_iff, sT_iffC, wIf_ne, ne_eq, Bool.false_or, Bool.true_or, Bool.or_false, Bool.or_true, Bool.or_self, Nat.left_eq_add, Nat.add_eq_left, Nat.add_left_inj, oMax, oMin, oAbs, tb_X0_leave, p_X2_nextStation, p_X2_stretchAhead, f_X2_nextStation, f_X2_stretchAhead, p_X0_leave, f_X0_leave, d0, s0, s5, s6, s7, s9, s10, s2, d18, c18, cV, d27, d28, d29, d31, d32, l0, r1, l2, r2, l3, r3, l4, hT, hL, hPe, hSe, v27, v28, v29, hze]
      repeat' (first | exact True.intro | with_reducible assumption | with_reducible refine And.intro ?_ ?_ | intro _)
      all_goals first
        | omega
        | assumption
        | rfl
        | (split <;> omega)
        | grind
        | skip
  · have eA : xLvA w d x = wsI w (d + 32) (wI w (d + 27) x) (wI w (d + 32) (wI w (d + 27) x) - 1) := if_neg c1
    rw [eA] at key
    by_cases c2 : wI w (d + 27) x + mWay (vL w (d + 1)) x = wI w (d + 1 + 4) x
    · have eB : ∀ u, u = wsI w (d + 32) (wI w (d + 27) x) (wI w (d + 32) (wI w (d + 27) x) - 1) → xLvB u d x (wI w (d + 27) x + mWay (vL w (d + 1)) x) = u := fun u hu => by
        unfold xLvB
        rw [if_pos]
        rw [hu, wIf_ne (show ¬ d + 1 + 4 = d + 32 by omega)]
        exact c2
      rw [eB _ rfl] at key
      unfold xLvC at key
      clear eB
      generalize hSe : sFrom (wI w (d + 27) x) (mWay (vL w (d + 1)) x) = S at *
      generalize hPe : wI w (d + 27) x + mWay (vL w (d + 1)) x = P at *
      refine hZ (fun _ => false) 16 0 _ _ _ _ _ ?_
      simp only [sm_run, sm_blk, sm_get, sm_ent, sm_ents, sm_wds, sm_wd, sm_nl, sm_pop, sm_back, sm_cases, oK, oLK, oL, oI, oA, oJ, oIs, oAs, oJs, oInc, oAdd, oSub, oMul, oDiv, oRem, oNeg, oAnd, oAndB, oOr, oShl, oI2c, oI2l, oL2i, oLand, oLor, oLshl, oLshr, oLushr, oLcmp, oDup, oDup2, oPop, oGo, oFg, oEq, oNe, oLt, oGe, oGt, oLe, oEq0, oNe0, oLt0, oGe0, oGt0, oLe0, oSw, oGi, oGr, oPi, oPz, oPr, oLen, oIl, oZl, oCl, oRl, oIst, oZst, oCst, oRst, oCopy, oNew, oNa, oNa2, oObj, oCs, oCv, oCi, oIr, oZr, oVr, Nat.beq, List.getElem?_cons_zero, List.getElem?_cons_succ, List.set_cons_zero, List.set_cons_succ, List.length_cons, List.length_nil, List.nil_append, List.cons_append, List.append_nil, List.replicate_succ, List.replicate_zero, Nat.reduceAdd, Nat.reduceSub, Nat.reduceLT, Nat.reduceLeDiff, Nat.reduceBEq, true_and, and_true, Nat.zero_add, Nat.add_zero, Nat.le_refl, Option.some.injEq, exists_eq_left', true_or, or_true, or_false, false_or, reduceCtorEq, Prod.mk.injEq, Sum.inl.injEq, and_self, false_and, and_false, not_true_eq_false, not_false_eq_true, false_implies, true_implies, sm_r, Int.add_zero, Int.zero_add, wI_wsI, wS_wsI, wR_wsI, wI_wCp, wS_wCp, wR_wCp, Nat.reduceEqDiff, reduceIte, sT_iff, sT_iffC, wIf_ne, ne_eq, Bool.false_or, Bool.true_or, Bool.or_false, Bool.or_true, Bool.or_self, Nat.left_eq_add, Nat.add_eq_left, Nat.add_left_inj, oMax, oMin, oAbs, tb_X0_leave, p_X2_nextStation, p_X2_stretchAhead, f_X2_nextStation, f_X2_stretchAhead, p_X0_leave, f_X0_leave, d0, s0, s5, s6, s7, s9, s10, s2, d18, c18, cV, d27, d28, d29, d31, d32, l0, r1, l2, r2, l3, r3, l4, hT, hL, hPe, hSe, v27, v28, v29, hze]
      repeat' (first | exact True.intro | with_reducible assumption | with_reducible refine And.intro ?_ ?_ | intro _)
      all_goals first
        | omega
        | assumption
        | rfl
        | (split <;> omega)
        | grind
        | skip
    · have eB : ∀ u, u = wsI w (d + 32) (wI w (d + 27) x) (wI w (d + 32) (wI w (d + 27) x) - 1) → xLvB u d x (wI w (d + 27) x + mWay (vL w (d + 1)) x) = wsI u (d + 32) (wI w (d + 27) x + mWay (vL w (d + 1)) x) (wI w (d + 32) (wI w (d + 27) x + mWay (vL w (d + 1)) x) + 1) := fun u hu => by
        unfold xLvB
        have e1 : wI u (d + 32) (wI w (d + 27) x + mWay (vL w (d + 1)) x) = wI w (d + 32) (wI w (d + 27) x + mWay (vL w (d + 1)) x) := by rw [hu, wI_wsI, if_neg (fun h => hne2 h.2)]
        have e2 : wI u (d + 1 + 4) x = wI w (d + 1 + 4) x := by rw [hu, wIf_ne (show ¬ d + 1 + 4 = d + 32 by omega)]
        rw [e1, e2, if_neg c2]
      rw [eB _ rfl] at key
      unfold xLvC at key
      clear eB
      generalize hSe : sFrom (wI w (d + 27) x) (mWay (vL w (d + 1)) x) = S at *
      generalize hPe : wI w (d + 27) x + mWay (vL w (d + 1)) x = P at *
      refine hZ (fun _ => false) 16 0 _ _ _ _ _ ?_
      simp only [sm_run, sm_blk, sm_get, sm_ent, sm_ents, sm_wds, sm_wd, sm_nl, sm_pop, sm_back, sm_cases, oK, oLK, oL, oI, oA, oJ, oIs, oAs, oJs, oInc, oAdd, oSub, oMul, oDiv, oRem, oNeg, oAnd, oAndB, oOr, oShl, oI2c, oI2l, oL2i, oLand, oLor, oLshl, oLshr, oLushr, oLcmp, oDup, oDup2, oPop, oGo, oFg, oEq, oNe, oLt, oGe, oGt, oLe, oEq0, oNe0, oLt0, oGe0, oGt0, oLe0, oSw, oGi, oGr, oPi, oPz, oPr, oLen, oIl, oZl, oCl, oRl, oIst, oZst, oCst, oRst, oCopy, oNew, oNa, oNa2, oObj, oCs, oCv, oCi, oIr, oZr, oVr, Nat.beq, List.getElem?_cons_zero, List.getElem?_cons_succ, List.set_cons_zero, List.set_cons_succ, List.length_cons, List.length_nil, List.nil_append, List.cons_append, List.append_nil, List.replicate_succ, List.replicate_zero, Nat.reduceAdd, Nat.reduceSub, Nat.reduceLT, Nat.reduceLeDiff, Nat.reduceBEq, true_and, and_true, Nat.zero_add, Nat.add_zero, Nat.le_refl, Option.some.injEq, exists_eq_left', true_or, or_true, or_false, false_or, reduceCtorEq, Prod.mk.injEq, Sum.inl.injEq, and_self, false_and, and_false, not_true_eq_false, not_false_eq_true, false_implies, true_implies, sm_r, Int.add_zero, Int.zero_add, wI_wsI, wS_wsI, wR_wsI, wI_wCp, wS_wCp, wR_wCp, Nat.reduceEqDiff, reduceIte, sT_iff, sT_iffC, wIf_ne, ne_eq, Bool.false_or, Bool.true_or, Bool.or_false, Bool.or_true, Bool.or_self, Nat.left_eq_add, Nat.add_eq_left, Nat.add_left_inj, oMax, oMin, oAbs, tb_X0_leave, p_X2_nextStation, p_X2_stretchAhead, f_X2_nextStation, f_X2_stretchAhead, p_X0_leave, f_X0_leave, d0, s0, s5, s6, s7, s9, s10, s2, d18, c18, cV, d27, d28, d29, d31, d32, l0, r1, l2, r2, l3, r3, l4, hT, hL, hPe, hSe, v27, v28, v29, hze, hne3, if_false]
      repeat' (first | exact True.intro | with_reducible assumption | with_reducible refine And.intro ?_ ?_ | intro _)
      all_goals first
        | omega
        | assumption
        | rfl
        | (split <;> omega)
        | grind
        | skip
theorem met_X0_leave (l : Launch) : sm_Met l yX0_leave cX0_leave 6 none 2 0 0 p_X0_leave f_X0_leave := sm_met 0 (Or.inl ⟨rfl, rfl⟩) (by decide +kernel) (sn_X0_leave l) ok_X0_leave
theorem xLv1_fr (w : sm_W) (d : Nat) (x t : Int) (x0 : 0 ≤ x) (x1 : x < 8) : sFr (sDy d) w (xLv1 w d x t) := by
  have a : sFr (sDy d) w (xLvA w d x) := by
    unfold xLvA
    split
    · exact sFr.refl w
    · exact (sFr.refl w).st (by unfold sDy; omega)
  have b : ∀ u p, sFr (sDy d) u (xLvB u d x p) := fun u p => by
    unfold xLvB
    split
    · exact sFr.refl u
    · exact (sFr.refl u).st (by unfold sDy; omega)
  have c : ∀ u p s r, sFr (sDy d) u (xLvC u d x p s t r) := fun u p s r => ((((sFr.refl u).st (by unfold sDy; omega)).st (by unfold sDy; omega)).st (by unfold sDy dV; omega)).st (by unfold sDy; omega)
  exact (a.trans (b _ _)).trans (c _ _ _ _)
/-- what leaving does -/
theorem xLv1_in {w : sm_W} {d : Nat} {x t : Int} (x0 : 0 ≤ x) (x1 : x < 8) : wI (xLv1 w d x t) (d + 27) = wI w (d + 27) ∧ (∀ y, wI (xLv1 w d x t) (d + 28) y = if y = x then 1 else wI w (d + 28) y) ∧ (∀ y, wI (xLv1 w d x t) (d + 29) y = if y = x then t + wI w (d + 1 + 2) (sFrom (wI w (d + 27) x) (mWay (vL w (d + 1)) x)) else wI w (d + 29) y) ∧ wI (xLv1 w d x t) (d + 30) = wI w (d + 30) ∧ (∀ s, wI (xLv1 w d x t) (d + 31) s = if s = sFrom (wI w (d + 27) x) (mWay (vL w (d + 1)) x) then 1 else wI w (d + 31) s) ∧ (∀ s, wI (xLv1 w d x t) (d + 32) s = wI w (d + 32) s - (if s = wI w (d + 27) x ∧ wI w (d + 27) x ≠ wI w (d + 1 + 3) x then 1 else 0) + (if s = wI w (d + 27) x + mWay (vL w (d + 1)) x ∧ wI w (d + 27) x + mWay (vL w (d + 1)) x ≠ wI w (d + 1 + 4) x then 1 else 0)) ∧ (∀ y s, 0 ≤ y → y < 8 → wI (xLv1 w d x t) (dV d y) s = if y = x ∧ s = wI w (d + 27) x then t else wI w (dV d y) s) ∧ (∀ y, 0 ≤ y → y < 8 → wI (xLv1 w d x t) (dC d y) = wI w (dC d y)) ∧ wI (xLv1 w d x t) d = wI w d := by
  have hw := lWay (w := w) (a := d + 1) x0
  obtain ⟨u, hu⟩ : ∃ u, u = xLvB (xLvA w d x) d x (wI w (d + 27) x + mWay (vL w (d + 1)) x) := ⟨_, rfl⟩
  have hA : ∀ a, a ≠ d + 32 → wI (xLvA w d x) a = wI w a := fun a h => by
    unfold xLvA
    split
    · rfl
    · exact wIf_ne h
  have hB : ∀ a, a ≠ d + 32 → wI u a = wI w a := fun a h => by
    rw [hu, ← hA a h]
    unfold xLvB
    split
    · rfl
    · exact wIf_ne h
  have h32 : ∀ s, wI u (d + 32) s = wI w (d + 32) s - (if s = wI w (d + 27) x ∧ wI w (d + 27) x ≠ wI w (d + 1 + 3) x then 1 else 0) + (if s = wI w (d + 27) x + mWay (vL w (d + 1)) x ∧ wI w (d + 27) x + mWay (vL w (d + 1)) x ≠ wI w (d + 1 + 4) x then 1 else 0) := fun s => by
    rw [hu]
    unfold xLvB
    rw [hA (d + 1 + 4) (by omega)]
    have hA32 : ∀ s, wI (xLvA w d x) (d + 32) s = wI w (d + 32) s - (if s = wI w (d + 27) x ∧ wI w (d + 27) x ≠ wI w (d + 1 + 3) x then 1 else 0) := fun s => by
      unfold xLvA
      split
      · next h => rw [if_neg (fun k => k.2 h)]; omega
      · next h =>
        rw [wI_wsI]
        by_cases c : s = wI w (d + 27) x
        · rw [if_pos ⟨rfl, c⟩, if_pos ⟨c, h⟩, c]
        · rw [if_neg (fun k => c k.2), if_neg (fun k => c k.1)]; omega
    split
    · next h => rw [hA32, if_neg (fun k : s = _ ∧ _ ≠ _ => k.2 h)]; omega
    · next h =>
      rw [wI_wsI]
      by_cases c : s = wI w (d + 27) x + mWay (vL w (d + 1)) x
      · rw [if_pos ⟨rfl, c⟩, hA32, if_pos (show s = _ ∧ _ from ⟨c, h⟩), c]
      · rw [if_neg (fun k => c k.2), hA32, if_neg (fun k : s = _ ∧ _ ≠ _ => c k.1)]; omega
  have hz : xLv1 w d x t = xLvC u d x (wI w (d + 27) x) (sFrom (wI w (d + 27) x) (mWay (vL w (d + 1)) x)) t (wI w (d + 1 + 2) (sFrom (wI w (d + 27) x) (mWay (vL w (d + 1)) x))) := by rw [hu]; rfl
  rw [hz]
  clear hz hu
  generalize sFrom (wI w (d + 27) x) (mWay (vL w (d + 1)) x) = S
  generalize wI w (d + 1 + 2) S = r
  unfold xLvC
  have nV : ∀ k, 27 ≤ k → ¬ d + k = dV d x := fun k h => by unfold dV; omega
  have ne : ∀ j k : Nat, j ≠ k → ¬ d + j = d + k := fun j k h => by omega
  refine ⟨?_, fun y => ?_, fun y => ?_, ?_, fun s => ?_, fun s => ?_, fun y s y0 y1 => ?_, fun y y0 y1 => ?_, ?_⟩
  · rw [wIf_ne (ne _ _ (by decide)), wIf_ne (nV _ (by decide)), wIf_ne (ne _ _ (by decide)), wIf_ne (ne _ _ (by decide)), hB _ (ne _ _ (by decide))]
  · rw [wIf_ne (ne _ _ (by decide)), wIf_ne (nV _ (by decide)), wI_wsI, wIf_ne (ne _ _ (by decide)), hB _ (ne _ _ (by decide))]
    simp only [true_and]
  · rw [wI_wsI, wIf_ne (nV _ (by decide)), wIf_ne (ne _ _ (by decide)), wIf_ne (ne _ _ (by decide)), hB _ (ne _ _ (by decide))]
    simp only [true_and]
  · rw [wIf_ne (ne _ _ (by decide)), wIf_ne (nV _ (by decide)), wIf_ne (ne _ _ (by decide)), wIf_ne (ne _ _ (by decide)), hB _ (ne _ _ (by decide))]
  · rw [wIf_ne (ne _ _ (by decide)), wIf_ne (nV _ (by decide)), wIf_ne (ne _ _ (by decide)), wI_wsI, hB _ (ne _ _ (by decide))]
    simp only [true_and]
  · rw [wIf_ne (ne _ _ (by decide)), wIf_ne (nV _ (by decide)), wIf_ne (ne _ _ (by decide)), wIf_ne (ne _ _ (by decide)), h32]
  · rw [wIf_ne (show ¬ dV d y = d + 29 by unfold dV; omega), wI_wsI, wIf_ne (show ¬ dV d y = d + 28 by unfold dV; omega), wIf_ne (show ¬ dV d y = d + 31 by unfold dV; omega), hB _ (show dV d y ≠ d + 32 by unfold dV; omega)]
    have e : (dV d y = dV d x) = (y = x) := by unfold dV; exact propext ⟨fun h => by omega, fun h => by rw [h]⟩
    simp only [e]
  · rw [wIf_ne (show ¬ dC d y = d + 29 by unfold dC; omega), wIf_ne (show ¬ dC d y = dV d x by unfold dC dV; omega), wIf_ne (show ¬ dC d y = d + 28 by unfold dC; omega), wIf_ne (show ¬ dC d y = d + 31 by unfold dC; omega), hB _ (show dC d y ≠ d + 32 by unfold dC; omega)]
  · rw [wIf_ne (show ¬ d = d + 29 by omega), wIf_ne (show ¬ d = dV d x by unfold dV; omega), wIf_ne (show ¬ d = d + 28 by omega), wIf_ne (show ¬ d = d + 31 by omega), hB _ (show d ≠ d + 32 by omega)]
