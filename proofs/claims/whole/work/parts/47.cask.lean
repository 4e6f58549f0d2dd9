/-! THE CLASS: what is asked of a day that was run -/
/-- what a day writes down is small -/
def xRec (w : sm_W) (d : Nat) : Prop := (∀ x, 0 ≤ x → x < wI w (d + 1) 7 → ∀ s, 0 ≤ s → s < 8 → (-6 ≤ wI w (dC d x) s ∧ wI w (dC d x) s ≤ 100000) ∧ (-6 ≤ wI w (dV d x) s ∧ wI w (dV d x) s ≤ 100000)) ∧ (0 ≤ wI w d 3 ∧ wI w d 3 ≤ 100000)
/-- a day of the class that was run -/
def xOK (w : sm_W) (d : Nat) : Prop := dOK w d ∧ xRec w d
theorem xOK_c {w : sm_W} {d : Nat} (h : xOK w d) {x s : Int} (x0 : 0 ≤ x) (x1 : x < wI w (d + 1) 7) (s0 : 0 ≤ s) (s1 : s < 8) : -6 ≤ wI w (dC d x) s ∧ wI w (dC d x) s ≤ 100000 := (h.2.1 x x0 x1 s s0 s1).1
theorem xOK_v {w : sm_W} {d : Nat} (h : xOK w d) {x s : Int} (x0 : 0 ≤ x) (x1 : x < wI w (d + 1) 7) (s0 : 0 ≤ s) (s1 : s < 8) : -6 ≤ wI w (dV d x) s ∧ wI w (dV d x) s ≤ 100000 := (h.2.1 x x0 x1 s s0 s1).2
def xEnd (w : sm_W) (d : Nat) (x : Int) : Int := wI w (dC d x) (wI w (d + 1 + 4) x)
def p_X0_endMinute : List sm_V → sm_W → Prop
  | [.inr (.inl d), .inl x], w => dOK w d ∧ 0 ≤ x ∧ x < wI w (d + 1) 7
  | _, _ => False
def f_X0_endMinute : sm_F
  | [.inr (.inl d), .inl x], w => (some (.inl (xEnd w d x)), w)
  | _, w => (none, w)
def tb_X0_endMinute : List (Nat × List sm_O) := [(0, [oA 0, oGr 0 11 1, oI 1, oRl, oA 0, oGr 0 11 0, oGr 2 9 3, oI 1, oIl, oIl, oIr])]
set_option maxRecDepth 100000 in
theorem sb_X0_endMinute_0 (l : Launch) : sm_SndB l RX0 "endMinute" cX0_endMinute 2 1 0 0 [oA 0, oGr 0 11 1, oI 1, oRl, oA 0, oGr 0 11 0, oGr 2 9 3, oI 1, oIl, oIl, oIr] := sb_cons (sd_aload_n (by decide +kernel : decode cX0_endMinute 0 = .ok (.aload_n 0, 1)) rfl) (sb_cons (sd_getr (k := 1) kl_0 (by decide) rfl wm_73 (by decide +kernel : decode cX0_endMinute 1 = .ok (.getfield 20, 3))) (sb_cons (sd_iload_n (by decide +kernel : decode cX0_endMinute 4 = .ok (.iload_n 1, 1)) rfl) (sb_cons (sd_aaload (by decide +kernel : decode cX0_endMinute 5 = .ok (.aaload, 1))) (sb_cons (sd_aload_n (by decide +kernel : decode cX0_endMinute 6 = .ok (.aload_n 0, 1)) rfl) (sb_cons (sd_getr (k := 0) kl_0 (by decide) rfl wm_68 (by decide +kernel : decode cX0_endMinute 7 = .ok (.getfield 12, 3))) (sb_cons (sd_getr (k := 3) kl_2 (by decide) rfl wm_48 (by decide +kernel : decode cX0_endMinute 10 = .ok (.getfield 97, 3))) (sb_cons (sd_iload_n (by decide +kernel : decode cX0_endMinute 13 = .ok (.iload_n 1, 1)) rfl) (sb_cons (sd_iaload (by decide +kernel : decode cX0_endMinute 14 = .ok (.iaload, 1))) (sb_cons (sd_iaload (by decide +kernel : decode cX0_endMinute 15 = .ok (.iaload, 1))) (sb_cons (sd_ireturn (x := 0) rfl (by decide +kernel : decode cX0_endMinute 16 = .ok (.ireturn, 1))) sb_nil))))))))))
theorem sn_X0_endMinute (l : Launch) : sm_SndT l RX0 "endMinute" cX0_endMinute 2 1 0 tb_X0_endMinute := st_cons (sb_X0_endMinute_0 l) (st_nil)
set_option maxRecDepth 100000 in
set_option maxHeartbeats 4000000 in
theorem ok_X0_endMinute : sm_Ok tb_X0_endMinute 2 0 0 p_X0_endMinute f_X0_endMinute := by
  intro as w hp ha hw
  match as, hp with
  | [.inr (.inl d), .inl x], hp =>
  refine ⟨Nat.le_of_ble_eq_true rfl, fun Z hZ => ?_⟩
  obtain ⟨hD, x0, x1⟩ := hp
  have hn := dOK_n hD
  obtain ⟨d0, d9, d18, d27, d28, d29, d30, d31, d32, s0, s1, s2, s5, s6, s7, s8, s9, s10⟩ := dS hD.2.1 hD.1
  obtain ⟨l0, l1, l2, l3, l4, l5, l6, l7, r0, r1, r2, r3, r4, r5, r6⟩ := lS hD.2.1 (dL hD.1)
  obtain ⟨c9, c18, cC, cV⟩ := dRC hD.2.1 hD.1 x0 (show x < 8 by omega)
  have hq := lOK_s hD.2 x0 x1
  refine hZ (fun _ => false) 16 0 _ _ _ _ _ ?_
  simp only [sm_run, sm_blk, sm_get, sm_ent, sm_ents, sm_wds, sm_wd, sm_nl, sm_pop, sm_back, sm_cases, oK, oLK, oL, oI, oA, oJ, oIs, oAs, oJs, oInc, oAdd, oSub, oMul, oDiv, oRem, oNeg, oAnd, oAndB, oOr, oShl, oI2c, oI2l, oL2i, oLand, oLor, oLshl, oLshr, oLushr, oLcmp, oDup, oDup2, oPop, oGo, oFg, oEq, oNe, oLt, oGe, oGt, oLe, oEq0, oNe0, oLt0, oGe0, oGt0, oLe0, oSw, oGi, oGr, oPi, oPz, oPr, oLen, oIl, oZl, oCl, oRl, oIst, oZst, oCst, oRst, oCopy, oNew, oNa, oNa2, oObj, oCs, oCv, oCi, oIr, oZr, oVr, Nat.beq, List.getElem?_cons_zero, List.getElem?_cons_succ, List.set_cons_zero, List.set_cons_succ, List.length_cons, List.length_nil, List.nil_append, List.cons_append, List.append_nil, List.replicate_succ, List.replicate_zero, Nat.reduceAdd, Nat.reduceSub, Nat.reduceLT, Nat.reduceLeDiff, Nat.reduceBEq, true_and, and_true, Nat.zero_add, Nat.add_zero, Nat.le_refl, Option.some.injEq, exists_eq_left', true_or, or_true, or_false, false_or, reduceCtorEq, Prod.mk.injEq, Sum.inl.injEq, and_self, false_and, and_false, not_true_eq_false, not_false_eq_true, false_implies, true_implies, sm_r, Int.add_zero, Int.zero_add, wI_wsI, wS_wsI, wR_wsI, wI_wCp, wS_wCp, wR_wCp, Nat.reduceEqDiff, reduceIte, sT_iff, sT_iffC, wIf_ne, ne_eq, Bool.false_or, Bool.true_or, Bool.or_false, Bool.or_true, Bool.or_self, Nat.left_eq_add, Nat.add_eq_left, Nat.add_left_inj, oMax, oMin, oAbs, tb_X0_endMinute, p_X0_endMinute, f_X0_endMinute, d0, s0, s1, d9, c9, cC, l0, r3, l4]
  repeat' (first | exact True.intro | with_reducible assumption | with_reducible refine And.intro ?_ ?_ | intro _)
  all_goals first
    | omega
    | assumption
    | rfl
    | (split <;> omega)
    | skip
theorem met_X0_endMinute (l : Launch) : sm_Met l yX0_endMinute cX0_endMinute 2 (some .int) 0 0 0 p_X0_endMinute f_X0_endMinute := sm_met 1 (Or.inr (Or.inl ⟨rfl, rfl⟩)) (by decide +kernel) (sn_X0_endMinute l) ok_X0_endMinute
def xDly (w : sm_W) (d : Nat) (x : Int) : Int := if xEnd w d x < 0 then -6 else xEnd w d x - wI w (d + 1 + 5) x - vTime (vL w (d + 1)) x (wI w (d + 1 + 3) x)
theorem xDly_b {w : sm_W} {d : Nat} (h : xOK w d) {x : Int} (x0 : 0 ≤ x) (x1 : x < wI w (d + 1) 7) : -1000 ≤ xDly w d x ∧ xDly w d x ≤ 100000 := by
  have hq := lOK_s h.1.2 x0 x1
  have hc := xOK_c h x0 x1 hq.2.1.1 hq.2.1.2
  have ht := vTime_b h.1.2.2.2 x0 x1 (fr := wI w (d + 1 + 3) x) (by omega) (by omega)
  unfold xDly xEnd
  split <;> omega
def p_X0_delayOf : List sm_V → sm_W → Prop
  | [.inr (.inl d), .inl x], w => xOK w d ∧ 0 ≤ x ∧ x < wI w (d + 1) 7
  | _, _ => False
def f_X0_delayOf : sm_F
  | [.inr (.inl d), .inl x], w => (some (.inl (xDly w d x)), w)
  | _, w => (none, w)
def tb_X0_delayOf : List (Nat × List sm_O) := [(0, [oA 0, oI 1, oCv 0 11 p_X0_endMinute f_X0_endMinute 0 0 2, oIs 2, oI 2, oGe0 13, oK (-6), oIr]),
  (13, [oI 2, oA 0, oGr 0 11 0, oGr 2 9 4, oI 1, oIl, oSub, oA 0, oGr 0 11 0, oI 1, oA 0, oGr 0 11 0, oGr 2 9 2, oI 1, oIl, oCv 2 9 p_X2_wayLeft f_X2_wayLeft 0 0 3, oSub, oIr])]
set_option maxRecDepth 100000 in
theorem sb_X0_delayOf_0 (l : Launch) : sm_SndB l RX0 "delayOf" cX0_delayOf 3 1 2 0 [oA 0, oI 1, oCv 0 11 p_X0_endMinute f_X0_endMinute 0 0 2, oIs 2, oI 2, oGe0 13, oK (-6), oIr] := sb_cons (sd_aload_n (by decide +kernel : decode cX0_delayOf 0 = .ok (.aload_n 0, 1)) rfl) (sb_cons (sd_iload_n (by decide +kernel : decode cX0_delayOf 1 = .ok (.iload_n 1, 1)) rfl) (sb_cons (sd_callv (n := 1) (met_X0_endMinute l) (by decide) (by decide) wm_353 wm_360 wm_2 ⟨by decide +kernel, by decide +kernel, by decide +kernel⟩ kl_0 wm_351 wm_352 (by decide +kernel : decode cX0_delayOf 2 = .ok (.invokevirtual 136, 3))) (sb_cons (sd_istore_n (by decide +kernel : decode cX0_delayOf 5 = .ok (.istore_n 2, 1)) rfl) (sb_cons (sd_iload_n (by decide +kernel : decode cX0_delayOf 6 = .ok (.iload_n 2, 1)) rfl) (sb_cons (sd_ge0 (by decide +kernel : decode cX0_delayOf 7 = .ok (.ifCond .ge 6, 3)) (by decide)) (sb_cons (sd_bipush (by decide +kernel : decode cX0_delayOf 10 = .ok (.bipush (-6), 2)) ⟨by decide, by decide⟩ (by decide)) (sb_cons (sd_ireturn (x := 0) rfl (by decide +kernel : decode cX0_delayOf 12 = .ok (.ireturn, 1))) sb_nil)))))))
set_option maxRecDepth 100000 in
theorem sb_X0_delayOf_13 (l : Launch) : sm_SndB l RX0 "delayOf" cX0_delayOf 3 1 2 13 [oI 2, oA 0, oGr 0 11 0, oGr 2 9 4, oI 1, oIl, oSub, oA 0, oGr 0 11 0, oI 1, oA 0, oGr 0 11 0, oGr 2 9 2, oI 1, oIl, oCv 2 9 p_X2_wayLeft f_X2_wayLeft 0 0 3, oSub, oIr] := sb_cons (sd_iload_n (by decide +kernel : decode cX0_delayOf 13 = .ok (.iload_n 2, 1)) rfl) (sb_cons (sd_aload_n (by decide +kernel : decode cX0_delayOf 14 = .ok (.aload_n 0, 1)) rfl) (sb_cons (sd_getr (k := 0) kl_0 (by decide) rfl wm_68 (by decide +kernel : decode cX0_delayOf 15 = .ok (.getfield 12, 3))) (sb_cons (sd_getr (k := 4) kl_2 (by decide) rfl wm_50 (by decide +kernel : decode cX0_delayOf 18 = .ok (.getfield 83, 3))) (sb_cons (sd_iload_n (by decide +kernel : decode cX0_delayOf 21 = .ok (.iload_n 1, 1)) rfl) (sb_cons (sd_iaload (by decide +kernel : decode cX0_delayOf 22 = .ok (.iaload, 1))) (sb_cons (sd_isub (by decide +kernel : decode cX0_delayOf 23 = .ok (.isub, 1))) (sb_cons (sd_aload_n (by decide +kernel : decode cX0_delayOf 24 = .ok (.aload_n 0, 1)) rfl) (sb_cons (sd_getr (k := 0) kl_0 (by decide) rfl wm_68 (by decide +kernel : decode cX0_delayOf 25 = .ok (.getfield 12, 3))) (sb_cons (sd_iload_n (by decide +kernel : decode cX0_delayOf 28 = .ok (.iload_n 1, 1)) rfl) (sb_cons (sd_aload_n (by decide +kernel : decode cX0_delayOf 29 = .ok (.aload_n 0, 1)) rfl) (sb_cons (sd_getr (k := 0) kl_0 (by decide) rfl wm_68 (by decide +kernel : decode cX0_delayOf 30 = .ok (.getfield 12, 3))) (sb_cons (sd_getr (k := 2) kl_2 (by decide) rfl wm_46 (by decide +kernel : decode cX0_delayOf 33 = .ok (.getfield 80, 3))) (sb_cons (sd_iload_n (by decide +kernel : decode cX0_delayOf 36 = .ok (.iload_n 1, 1)) rfl) (sb_cons (sd_iaload (by decide +kernel : decode cX0_delayOf 37 = .ok (.iaload, 1))) (sb_cons (sd_callv (n := 2) (met_X2_wayLeft l) (by decide) (by decide) wm_274 wm_298 wm_3 ⟨by decide +kernel, by decide +kernel, by decide +kernel⟩ kl_2 wm_272 wm_273 (by decide +kernel : decode cX0_delayOf 38 = .ok (.invokevirtual 93, 3))) (sb_cons (sd_isub (by decide +kernel : decode cX0_delayOf 41 = .ok (.isub, 1))) (sb_cons (sd_ireturn (x := 0) rfl (by decide +kernel : decode cX0_delayOf 42 = .ok (.ireturn, 1))) sb_nil)))))))))))))))))
theorem sn_X0_delayOf (l : Launch) : sm_SndT l RX0 "delayOf" cX0_delayOf 3 1 2 tb_X0_delayOf := st_cons (sb_X0_delayOf_0 l) (st_cons (sb_X0_delayOf_13 l) (st_nil))
set_option maxRecDepth 100000 in
set_option maxHeartbeats 4000000 in
theorem ok_X0_delayOf : sm_Ok tb_X0_delayOf 3 0 0 p_X0_delayOf f_X0_delayOf := by
  intro as w hp ha hw
  match as, hp with
  | [.inr (.inl d), .inl x], hp =>
  refine ⟨Nat.le_of_ble_eq_true rfl, fun Z hZ => ?_⟩
  obtain ⟨hX, x0, x1⟩ := hp
  have hD := hX.1
  have hn := dOK_n hD
  obtain ⟨d0, d9, d18, d27, d28, d29, d30, d31, d32, s0, s1, s2, s5, s6, s7, s8, s9, s10⟩ := dS hD.2.1 hD.1
  obtain ⟨l0, l1, l2, l3, l4, l5, l6, l7, r0, r1, r2, r3, r4, r5, r6⟩ := lS hD.2.1 (dL hD.1)
  have hq := lOK_s hD.2 x0 x1
  have hc := xOK_c hX x0 x1 hq.2.1.1 hq.2.1.2
  have ht := vTime_b hD.2.2.2 x0 x1 (fr := wI w (d + 1 + 3) x) (by omega) (by omega)
  have hO := hD.2
  have hce : wI w (dC d x) (wI w (d + 1 + 4) x) = xEnd w d x := rfl
  rw [hce] at hc
  refine hZ (fun _ => false) 16 0 _ _ _ _ _ ?_
  simp only [sm_run, sm_blk, sm_get, sm_ent, sm_ents, sm_wds, sm_wd, sm_nl, sm_pop, sm_back, sm_cases, oK, oLK, oL, oI, oA, oJ, oIs, oAs, oJs, oInc, oAdd, oSub, oMul, oDiv, oRem, oNeg, oAnd, oAndB, oOr, oShl, oI2c, oI2l, oL2i, oLand, oLor, oLshl, oLshr, oLushr, oLcmp, oDup, oDup2, oPop, oGo, oFg, oEq, oNe, oLt, oGe, oGt, oLe, oEq0, oNe0, oLt0, oGe0, oGt0, oLe0, oSw, oGi, oGr, oPi, oPz, oPr, oLen, oIl, oZl, oCl, oRl, oIst, oZst, oCst, oRst, oCopy, oNew, oNa, oNa2, oObj, oCs, oCv, oCi, oIr, oZr, oVr, Nat.beq, List.getElem?_cons_zero, List.getElem?_cons_succ, List.set_cons_zero, List.set_cons_succ, List.length_cons, List.length_nil, List.nil_append, List.cons_append, List.append_nil, List.replicate_succ, List.replicate_zero, Nat.reduceAdd, Nat.reduceSub, Nat.reduceLT, Nat.reduceLeDiff, Nat.reduceBEq, true_and, and_true, Nat.zero_add, Nat.add_zero, Nat.le_refl, Option.some.injEq, exists_eq_left', true_or, or_true, or_false, false_or, reduceCtorEq, Prod.mk.injEq, Sum.inl.injEq, and_self, false_and, and_false, not_true_eq_false, not_false_eq_true, false_implies, true_implies, sm_r, Int.add_zero, Int.zero_add, wI_wsI, wS_wsI, wR_wsI, wI_wCp, wS_wCp, wR_wCp, Nat.reduceEqDiff, reduceIte, sT_iff, sT_iffC, wIf_ne, ne_eq, Bool.false_or, Bool.true_or, Bool.or_false, Bool.or_true, Bool.or_self, Nat.left_eq_add, Nat.add_eq_left, Nat.add_left_inj, oMax, oMin, oAbs, tb_X0_delayOf, p_X0_endMinute, p_X2_wayLeft, f_X0_endMinute, f_X2_wayLeft, p_X0_delayOf, f_X0_delayOf, d0, s0, l0, r4, l5, r2, l3, hD, hO]
  repeat' (first | exact True.intro | with_reducible assumption | with_reducible refine And.intro ?_ ?_ | intro _)
  all_goals first
    | omega
    | assumption
    | rfl
    | (split <;> omega)
    | grind [xDly]
    | skip
theorem met_X0_delayOf (l : Launch) : sm_Met l yX0_delayOf cX0_delayOf 3 (some .int) 2 0 0 p_X0_delayOf f_X0_delayOf := sm_met 1 (Or.inr (Or.inl ⟨rfl, rfl⟩)) (by decide +kernel) (sn_X0_delayOf l) ok_X0_delayOf
def xDlS (w : sm_W) (d : Nat) : Int → Int := itI (fun x r => r + xDly w d x) 0
theorem xDlS_b {w : sm_W} {d : Nat} (h : xOK w d) (n : Int) (h0 : 0 ≤ n) (h1 : n ≤ wI w (d + 1) 7) : -1000 * n ≤ xDlS w d n ∧ xDlS w d n ≤ 100000 * n := by
  refine itI_ind (fun i r => -1000 * i ≤ r ∧ r ≤ 100000 * i) n ⟨by decide, by decide⟩ (fun i r i0 i1 hr => ?_) n h0 (Int.le_refl _)
  have := xDly_b h i0 (by omega)
  omega
def xDl (w : sm_W) (d : Nat) : Int := if wI w d 4 = 0 then xDlS w d (wI w (d + 1) 7) else -6
def p_X0_delay : List sm_V → sm_W → Prop
  | [.inr (.inl d)], w => xOK w d
  | _, _ => False
def f_X0_delay : sm_F
  | [.inr (.inl d)], w => (some (.inl (xDl w d)), w)
  | _, w => (none, w)
def tb_X0_delay : List (Nat × List sm_O) := [(0, [oA 0, oGi 0 11 4, oEq0 10, oK (-6), oIr]),
  (10, [oK 0, oIs 1, oK 0, oIs 2, oGo 14]),
  (14, [oI 2, oA 0, oGr 0 11 0, oGi 2 9 7, oGe 39, oI 1, oA 0, oI 2, oCv 0 11 p_X0_delayOf f_X0_delayOf 0 0 2, oAdd, oIs 1, oInc 2 1, oGo 14]),
  (39, [oI 1, oIr])]
set_option maxRecDepth 100000 in
theorem sb_X0_delay_0 (l : Launch) : sm_SndB l RX0 "delay" cX0_delay 3 1 3 0 [oA 0, oGi 0 11 4, oEq0 10, oK (-6), oIr] := sb_cons (sd_aload_n (by decide +kernel : decode cX0_delay 0 = .ok (.aload_n 0, 1)) rfl) (sb_cons (sd_geti (k := 4) kl_0 (by decide) rfl wm_81 (by decide +kernel : decode cX0_delay 1 = .ok (.getfield 68, 3))) (sb_cons (sd_eq0 (by decide +kernel : decode cX0_delay 4 = .ok (.ifCond .eq 6, 3)) (by decide)) (sb_cons (sd_bipush (by decide +kernel : decode cX0_delay 7 = .ok (.bipush (-6), 2)) ⟨by decide, by decide⟩ (by decide)) (sb_cons (sd_ireturn (x := 0) rfl (by decide +kernel : decode cX0_delay 9 = .ok (.ireturn, 1))) sb_nil))))
set_option maxRecDepth 100000 in
theorem sb_X0_delay_10 (l : Launch) : sm_SndB l RX0 "delay" cX0_delay 3 1 3 10 [oK 0, oIs 1, oK 0, oIs 2, oGo 14] := sb_cons (sd_iconst (by decide +kernel : decode cX0_delay 10 = .ok (.iconst 0, 1)) ⟨by decide, by decide⟩) (sb_cons (sd_istore_n (by decide +kernel : decode cX0_delay 11 = .ok (.istore_n 1, 1)) rfl) (sb_cons (sd_iconst (by decide +kernel : decode cX0_delay 12 = .ok (.iconst 0, 1)) ⟨by decide, by decide⟩) (sb_cons (sd_istore_n (by decide +kernel : decode cX0_delay 13 = .ok (.istore_n 2, 1)) rfl) (sb_cons (sd_fall (x := 0)) sb_nil))))
set_option maxRecDepth 100000 in
theorem sb_X0_delay_14 (l : Launch) : sm_SndB l RX0 "delay" cX0_delay 3 1 3 14 [oI 2, oA 0, oGr 0 11 0, oGi 2 9 7, oGe 39, oI 1, oA 0, oI 2, oCv 0 11 p_X0_delayOf f_X0_delayOf 0 0 2, oAdd, oIs 1, oInc 2 1, oGo 14] := sb_cons (sd_iload_n (by decide +kernel : decode cX0_delay 14 = .ok (.iload_n 2, 1)) rfl) (sb_cons (sd_aload_n (by decide +kernel : decode cX0_delay 15 = .ok (.aload_n 0, 1)) rfl) (sb_cons (sd_getr (k := 0) kl_0 (by decide) rfl wm_68 (by decide +kernel : decode cX0_delay 16 = .ok (.getfield 12, 3))) (sb_cons (sd_geti (k := 7) kl_2 (by decide) rfl wm_59 (by decide +kernel : decode cX0_delay 19 = .ok (.getfield 77, 3))) (sb_cons (sd_ge (by decide +kernel : decode cX0_delay 22 = .ok (.if_icmp .ge 17, 3)) (by decide)) (sb_cons (sd_iload_n (by decide +kernel : decode cX0_delay 25 = .ok (.iload_n 1, 1)) rfl) (sb_cons (sd_aload_n (by decide +kernel : decode cX0_delay 26 = .ok (.aload_n 0, 1)) rfl) (sb_cons (sd_iload_n (by decide +kernel : decode cX0_delay 27 = .ok (.iload_n 2, 1)) rfl) (sb_cons (sd_callv (n := 1) (met_X0_delayOf l) (by decide) (by decide) wm_358 wm_435 wm_2 ⟨by decide +kernel, by decide +kernel, by decide +kernel⟩ kl_0 wm_356 wm_357 (by decide +kernel : decode cX0_delay 28 = .ok (.invokevirtual 139, 3))) (sb_cons (sd_iadd (by decide +kernel : decode cX0_delay 31 = .ok (.iadd, 1))) (sb_cons (sd_istore_n (by decide +kernel : decode cX0_delay 32 = .ok (.istore_n 1, 1)) rfl) (sb_cons (sd_iinc (by decide +kernel : decode cX0_delay 33 = .ok (.iinc 2 1, 3))) (sb_cons (sd_goto (x := 0) (by decide +kernel : decode cX0_delay 36 = .ok (.goto (-22), 3)) (by decide)) sb_nil))))))))))))
set_option maxRecDepth 100000 in
theorem sb_X0_delay_39 (l : Launch) : sm_SndB l RX0 "delay" cX0_delay 3 1 3 39 [oI 1, oIr] := sb_cons (sd_iload_n (by decide +kernel : decode cX0_delay 39 = .ok (.iload_n 1, 1)) rfl) (sb_cons (sd_ireturn (x := 0) rfl (by decide +kernel : decode cX0_delay 40 = .ok (.ireturn, 1))) sb_nil)
theorem sn_X0_delay (l : Launch) : sm_SndT l RX0 "delay" cX0_delay 3 1 3 tb_X0_delay := st_cons (sb_X0_delay_0 l) (st_cons (sb_X0_delay_10 l) (st_cons (sb_X0_delay_14 l) (st_cons (sb_X0_delay_39 l) (st_nil))))
set_option maxRecDepth 100000 in
set_option maxHeartbeats 4000000 in
theorem ok_X0_delay : sm_Ok tb_X0_delay 3 0 0 p_X0_delay f_X0_delay := by
  intro as w hp ha hw
  match as, hp with
  | [.inr (.inl d)], hp =>
  refine ⟨Nat.le_of_ble_eq_true rfl, fun Z hZ => ?_⟩
  have hX := hp
  have hD := hX.1
  have hn := dOK_n hD
  obtain ⟨d0, d9, d18, d27, d28, d29, d30, d31, d32, s0, s1, s2, s5, s6, s7, s8, s9, s10⟩ := dS hD.2.1 hD.1
  obtain ⟨l0, l1, l2, l3, l4, l5, l6, l7, r0, r1, r2, r3, r4, r5, r6⟩ := lS hD.2.1 (dL hD.1)
  by_cases c : wI w d 4 = 0
  · have hr : xDl w d = xDlS w d (wI w (d + 1) 7) := if_pos c
    have hl := sm_loopI Z 14 0 (wI w (d + 1) 7) (fun i => [some (.inr (.inl d)), some (.inl (xDlS w d i)), some (.inl i)]) (fun _ => w) 0 0 hn.1 (fun i h0 h1 ih => by
      have hb := xDlS_b hX i h0 h1
      have hd := fun hlt => xDly_b hX h0 hlt
      have hu : xDlS w d (i + 1) = xDlS w d i + xDly w d i := itI_s _ _ h0
      have hx1 : i = wI w (d + 1) 7 → xDlS w d i = xDl w d := fun e => by rw [hr, e]
      rw [hu] at ih
      refine hZ (fun u => Nat.beq u 14) 14 14 _ _ _ _ _ ?_
      simp only [sm_run, sm_blk, sm_get, sm_ent, sm_ents, sm_wds, sm_wd, sm_nl, sm_pop, sm_back, sm_cases, oK, oLK, oL, oI, oA, oJ, oIs, oAs, oJs, oInc, oAdd, oSub, oMul, oDiv, oRem, oNeg, oAnd, oAndB, oOr, oShl, oI2c, oI2l, oL2i, oLand, oLor, oLshl, oLshr, oLushr, oLcmp, oDup, oDup2, oPop, oGo, oFg, oEq, oNe, oLt, oGe, oGt, oLe, oEq0, oNe0, oLt0, oGe0, oGt0, oLe0, oSw, oGi, oGr, oPi, oPz, oPr, oLen, oIl, oZl, oCl, oRl, oIst, oZst, oCst, oRst, oCopy, oNew, oNa, oNa2, oObj, oCs, oCv, oCi, oIr, oZr, oVr, Nat.beq, List.getElem?_cons_zero, List.getElem?_cons_succ, List.set_cons_zero, List.set_cons_succ, List.length_cons, List.length_nil, List.nil_append, List.cons_append, List.append_nil, List.replicate_succ, List.replicate_zero, Nat.reduceAdd, Nat.reduceSub, Nat.reduceLT, Nat.reduceLeDiff, Nat.reduceBEq, true_and, and_true, Nat.zero_add, Nat.add_zero, Nat.le_refl, Option.some.injEq, exists_eq_left', true_or, or_true, or_false, false_or, reduceCtorEq, Prod.mk.injEq, Sum.inl.injEq, and_self, false_and, and_false, not_true_eq_false, not_false_eq_true, false_implies, true_implies, sm_r, Int.add_zero, Int.zero_add, wI_wsI, wS_wsI, wR_wsI, wI_wCp, wS_wCp, wR_wCp, Nat.reduceEqDiff, reduceIte, sT_iff, sT_iffC, wIf_ne, ne_eq, Bool.false_or, Bool.true_or, Bool.or_false, Bool.or_true, Bool.or_self, Nat.left_eq_add, Nat.add_eq_left, Nat.add_left_inj, oMax, oMin, oAbs, tb_X0_delay, p_X0_delayOf, f_X0_delayOf, p_X0_delay, f_X0_delay, d0, s0, l0, hX]
      repeat' (first | exact True.intro | with_reducible assumption | with_reducible refine And.intro ?_ ?_ | intro _)
      all_goals first
        | omega
        | assumption
        | rfl
        | (split <;> omega)
        | (have k9 := ih (by omega)
           (repeat' split at k9) <;> first | exact k9 | omega)
        | (have k9 := ih2 (by omega)
           (repeat' split at k9) <;> first | exact k9 | omega)
        | exact he (by omega)
        | ((with_reducible congr 1) <;> omega)
        | (rw [if_pos (by omega)] at he; exact he)
        | exact hD1 (by omega)
        | exact hD2 (by omega)
        | grind
        | skip
      )
    refine hZ (fun u => Nat.beq u 14) 14 0 _ _ _ _ _ ?_
    simp only [sm_run, sm_blk, sm_get, sm_ent, sm_ents, sm_wds, sm_wd, sm_nl, sm_pop, sm_back, sm_cases, oK, oLK, oL, oI, oA, oJ, oIs, oAs, oJs, oInc, oAdd, oSub, oMul, oDiv, oRem, oNeg, oAnd, oAndB, oOr, oShl, oI2c, oI2l, oL2i, oLand, oLor, oLshl, oLshr, oLushr, oLcmp, oDup, oDup2, oPop, oGo, oFg, oEq, oNe, oLt, oGe, oGt, oLe, oEq0, oNe0, oLt0, oGe0, oGt0, oLe0, oSw, oGi, oGr, oPi, oPz, oPr, oLen, oIl, oZl, oCl, oRl, oIst, oZst, oCst, oRst, oCopy, oNew, oNa, oNa2, oObj, oCs, oCv, oCi, oIr, oZr, oVr, Nat.beq, List.getElem?_cons_zero, List.getElem?_cons_succ, List.set_cons_zero, List.set_cons_succ, List.length_cons, List.length_nil, List.nil_append, List.cons_append, List.append_nil, List.replicate_succ, List.replicate_zero, Nat.reduceAdd, Nat.reduceSub, Nat.reduceLT, Nat.reduceLeDiff, Nat.reduceBEq, true_and, and_true, Nat.zero_add, Nat.add_zero, Nat.le_refl, Option.some.injEq, exists_eq_left', true_or, or_true, or_false, false_or, reduceCtorEq, Prod.mk.injEq, Sum.inl.injEq, and_self, false_and, and_false, not_true_eq_false, not_false_eq_true, false_implies, true_implies, sm_r, Int.add_zero, Int.zero_add, wI_wsI, wS_wsI, wR_wsI, wI_wCp, wS_wCp, wR_wCp, Nat.reduceEqDiff, reduceIte, sT_iff, sT_iffC, wIf_ne, ne_eq, Bool.false_or, Bool.true_or, Bool.or_false, Bool.or_true, Bool.or_self, Nat.left_eq_add, Nat.add_eq_left, Nat.add_left_inj, oMax, oMin, oAbs, tb_X0_delay, p_X0_delayOf, f_X0_delayOf, p_X0_delay, f_X0_delay, d0, c]
    repeat' (first | exact True.intro | with_reducible assumption | with_reducible refine And.intro ?_ ?_ | intro _)
    all_goals first
      | omega
      | assumption
      | rfl
      | (split <;> omega)
      | (have k9 := ih (by omega)
         (repeat' split at k9) <;> first | exact k9 | omega)
      | (have k9 := ih2 (by omega)
         (repeat' split at k9) <;> first | exact k9 | omega)
      | exact he (by omega)
      | ((with_reducible congr 1) <;> omega)
      | (rw [if_pos (by omega)] at he; exact he)
      | exact hD1 (by omega)
      | exact hD2 (by omega)
      | skip
  · have hr : xDl w d = -6 := if_neg c
    refine hZ (fun u => Nat.beq u 14) 14 0 _ _ _ _ _ ?_
    simp only [sm_run, sm_blk, sm_get, sm_ent, sm_ents, sm_wds, sm_wd, sm_nl, sm_pop, sm_back, sm_cases, oK, oLK, oL, oI, oA, oJ, oIs, oAs, oJs, oInc, oAdd, oSub, oMul, oDiv, oRem, oNeg, oAnd, oAndB, oOr, oShl, oI2c, oI2l, oL2i, oLand, oLor, oLshl, oLshr, oLushr, oLcmp, oDup, oDup2, oPop, oGo, oFg, oEq, oNe, oLt, oGe, oGt, oLe, oEq0, oNe0, oLt0, oGe0, oGt0, oLe0, oSw, oGi, oGr, oPi, oPz, oPr, oLen, oIl, oZl, oCl, oRl, oIst, oZst, oCst, oRst, oCopy, oNew, oNa, oNa2, oObj, oCs, oCv, oCi, oIr, oZr, oVr, Nat.beq, List.getElem?_cons_zero, List.getElem?_cons_succ, List.set_cons_zero, List.set_cons_succ, List.length_cons, List.length_nil, List.nil_append, List.cons_append, List.append_nil, List.replicate_succ, List.replicate_zero, Nat.reduceAdd, Nat.reduceSub, Nat.reduceLT, Nat.reduceLeDiff, Nat.reduceBEq, true_and, and_true, Nat.zero_add, Nat.add_zero, Nat.le_refl, Option.some.injEq, exists_eq_left', true_or, or_true, or_false, false_or, reduceCtorEq, Prod.mk.injEq, Sum.inl.injEq, and_self, false_and, and_false, not_true_eq_false, not_false_eq_true, false_implies, true_implies, sm_r, Int.add_zero, Int.zero_add, wI_wsI, wS_wsI, wR_wsI, wI_wCp, wS_wCp, wR_wCp, Nat.reduceEqDiff, reduceIte, sT_iff, sT_iffC, wIf_ne, ne_eq, Bool.false_or, Bool.true_or, Bool.or_false, Bool.or_true, Bool.or_self, Nat.left_eq_add, Nat.add_eq_left, Nat.add_left_inj, oMax, oMin, oAbs, tb_X0_delay, p_X0_delayOf, f_X0_delayOf, p_X0_delay, f_X0_delay, d0, c, hr]
    repeat' (first | exact True.intro | with_reducible assumption | with_reducible refine And.intro ?_ ?_ | intro _)
    all_goals first
      | omega
      | assumption
      | rfl
      | (split <;> omega)
      | (have k9 := ih (by omega)
         (repeat' split at k9) <;> first | exact k9 | omega)
      | (have k9 := ih2 (by omega)
         (repeat' split at k9) <;> first | exact k9 | omega)
      | exact he (by omega)
      | ((with_reducible congr 1) <;> omega)
      | (rw [if_pos (by omega)] at he; exact he)
      | exact hD1 (by omega)
      | exact hD2 (by omega)
      | skip
theorem met_X0_delay (l : Launch) : sm_Met l yX0_delay cX0_delay 3 (some .int) 3 0 0 p_X0_delay f_X0_delay := sm_met 1 (Or.inr (Or.inl ⟨rfl, rfl⟩)) (by decide +kernel) (sn_X0_delay l) ok_X0_delay
def xGd (w : sm_W) (d : Nat) : Int → Int := itI (fun x r => if r < xDly w d x then xDly w d x else r) (-6)
def p_X0_greatestDelay : List sm_V → sm_W → Prop
  | [.inr (.inl d)], w => xOK w d
  | _, _ => False
def f_X0_greatestDelay : sm_F
  | [.inr (.inl d)], w => (some (.inl (xGd w d (wI w (d + 1) 7))), w)
  | _, w => (none, w)
def tb_X0_greatestDelay : List (Nat × List sm_O) := [(0, [oK (-6), oIs 1, oK 0, oIs 2, oGo 5]),
  (5, [oI 2, oA 0, oGr 0 11 0, oGi 2 9 7, oGe 32, oI 1, oA 0, oI 2, oCv 0 11 p_X0_delayOf f_X0_delayOf 0 0 2, oMax, oIs 1, oInc 2 1, oGo 5]),
  (32, [oI 1, oIr])]
set_option maxRecDepth 100000 in
theorem sb_X0_greatestDelay_0 (l : Launch) : sm_SndB l RX0 "greatestDelay" cX0_greatestDelay 3 1 3 0 [oK (-6), oIs 1, oK 0, oIs 2, oGo 5] := sb_cons (sd_bipush (by decide +kernel : decode cX0_greatestDelay 0 = .ok (.bipush (-6), 2)) ⟨by decide, by decide⟩ (by decide)) (sb_cons (sd_istore_n (by decide +kernel : decode cX0_greatestDelay 2 = .ok (.istore_n 1, 1)) rfl) (sb_cons (sd_iconst (by decide +kernel : decode cX0_greatestDelay 3 = .ok (.iconst 0, 1)) ⟨by decide, by decide⟩) (sb_cons (sd_istore_n (by decide +kernel : decode cX0_greatestDelay 4 = .ok (.istore_n 2, 1)) rfl) (sb_cons (sd_fall (x := 0)) sb_nil))))
set_option maxRecDepth 100000 in
theorem sb_X0_greatestDelay_5 (l : Launch) : sm_SndB l RX0 "greatestDelay" cX0_greatestDelay 3 1 3 5 [oI 2, oA 0, oGr 0 11 0, oGi 2 9 7, oGe 32, oI 1, oA 0, oI 2, oCv 0 11 p_X0_delayOf f_X0_delayOf 0 0 2, oMax, oIs 1, oInc 2 1, oGo 5] := sb_cons (sd_iload_n (by decide +kernel : decode cX0_greatestDelay 5 = .ok (.iload_n 2, 1)) rfl) (sb_cons (sd_aload_n (by decide +kernel : decode cX0_greatestDelay 6 = .ok (.aload_n 0, 1)) rfl) (sb_cons (sd_getr (k := 0) kl_0 (by decide) rfl wm_68 (by decide +kernel : decode cX0_greatestDelay 7 = .ok (.getfield 12, 3))) (sb_cons (sd_geti (k := 7) kl_2 (by decide) rfl wm_59 (by decide +kernel : decode cX0_greatestDelay 10 = .ok (.getfield 77, 3))) (sb_cons (sd_ge (by decide +kernel : decode cX0_greatestDelay 13 = .ok (.if_icmp .ge 19, 3)) (by decide)) (sb_cons (sd_iload_n (by decide +kernel : decode cX0_greatestDelay 16 = .ok (.iload_n 1, 1)) rfl) (sb_cons (sd_aload_n (by decide +kernel : decode cX0_greatestDelay 17 = .ok (.aload_n 0, 1)) rfl) (sb_cons (sd_iload_n (by decide +kernel : decode cX0_greatestDelay 18 = .ok (.iload_n 2, 1)) rfl) (sb_cons (sd_callv (n := 1) (met_X0_delayOf l) (by decide) (by decide) wm_358 wm_435 wm_2 ⟨by decide +kernel, by decide +kernel, by decide +kernel⟩ kl_0 wm_356 wm_357 (by decide +kernel : decode cX0_greatestDelay 19 = .ok (.invokevirtual 139, 3))) (sb_cons (sd_max (by decide) wm_399 wm_281 wm_12 wm_282 (by decide +kernel : decode cX0_greatestDelay 22 = .ok (.invokestatic 142, 3))) (sb_cons (sd_istore_n (by decide +kernel : decode cX0_greatestDelay 25 = .ok (.istore_n 1, 1)) rfl) (sb_cons (sd_iinc (by decide +kernel : decode cX0_greatestDelay 26 = .ok (.iinc 2 1, 3))) (sb_cons (sd_goto (x := 0) (by decide +kernel : decode cX0_greatestDelay 29 = .ok (.goto (-24), 3)) (by decide)) sb_nil))))))))))))
set_option maxRecDepth 100000 in
theorem sb_X0_greatestDelay_32 (l : Launch) : sm_SndB l RX0 "greatestDelay" cX0_greatestDelay 3 1 3 32 [oI 1, oIr] := sb_cons (sd_iload_n (by decide +kernel : decode cX0_greatestDelay 32 = .ok (.iload_n 1, 1)) rfl) (sb_cons (sd_ireturn (x := 0) rfl (by decide +kernel : decode cX0_greatestDelay 33 = .ok (.ireturn, 1))) sb_nil)
theorem sn_X0_greatestDelay (l : Launch) : sm_SndT l RX0 "greatestDelay" cX0_greatestDelay 3 1 3 tb_X0_greatestDelay := st_cons (sb_X0_greatestDelay_0 l) (st_cons (sb_X0_greatestDelay_5 l) (st_cons (sb_X0_greatestDelay_32 l) (st_nil)))
set_option maxRecDepth 100000 in
set_option maxHeartbeats 4000000 in
theorem ok_X0_greatestDelay : sm_Ok tb_X0_greatestDelay 3 0 0 p_X0_greatestDelay f_X0_greatestDelay := by
  intro as w hp ha hw
  match as, hp with
  | [.inr (.inl d)], hp =>
  refine ⟨Nat.le_of_ble_eq_true rfl, fun Z hZ => ?_⟩
  have hX := hp
  have hD := hX.1
  have hn := dOK_n hD
  obtain ⟨d0, d9, d18, d27, d28, d29, d30, d31, d32, s0, s1, s2, s5, s6, s7, s8, s9, s10⟩ := dS hD.2.1 hD.1
  obtain ⟨l0, l1, l2, l3, l4, l5, l6, l7, r0, r1, r2, r3, r4, r5, r6⟩ := lS hD.2.1 (dL hD.1)
  have hl := sm_loopI Z 5 0 (wI w (d + 1) 7) (fun i => [some (.inr (.inl d)), some (.inl (xGd w d i)), some (.inl i)]) (fun _ => w) 0 0 hn.1 (fun i h0 h1 ih => by
    have hu : xGd w d (i + 1) = if xGd w d i < xDly w d i then xDly w d i else xGd w d i := itI_s _ _ h0
    have hx1 : i = wI w (d + 1) 7 → xGd w d i = xGd w d (wI w (d + 1) 7) := fun e => by rw [e]
    rw [hu] at ih
    refine hZ (fun u => Nat.beq u 5) 14 5 _ _ _ _ _ ?_
    simp only [sm_run, sm_blk, sm_get, sm_ent, sm_ents, sm_wds, sm_wd, sm_nl, sm_pop, sm_back, sm_cases, oK, oLK, oL, oI, oA, oJ, oIs, oAs, oJs, oInc, oAdd, oSub, oMul, oDiv, oRem, oNeg, oAnd, oAndB, oOr, oShl, oI2c, oI2l, oL2i, oLand, oLor, oLshl, oLshr, oLushr, oLcmp, oDup, oDup2, oPop, oGo, oFg, oEq, oNe, oLt, oGe, oGt, oLe, oEq0, oNe0, oLt0, oGe0, oGt0, oLe0, oSw, oGi, oGr, oPi, oPz, oPr, oLen, oIl, oZl, oCl, oRl, oIst, oZst, oCst, oRst, oCopy, oNew, oNa, oNa2, oObj, oCs, oCv, oCi, oIr, oZr, oVr, Nat.beq, List.getElem?_cons_zero, List.getElem?_cons_succ, List.set_cons_zero, List.set_cons_succ, List.length_cons, List.length_nil, List.nil_append, List.cons_append, List.append_nil, List.replicate_succ, List.replicate_zero, Nat.reduceAdd, Nat.reduceSub, Nat.reduceLT, Nat.reduceLeDiff, Nat.reduceBEq, true_and, and_true, Nat.zero_add, Nat.add_zero, Nat.le_refl, Option.some.injEq, exists_eq_left', true_or, or_true, or_false, false_or, reduceCtorEq, Prod.mk.injEq, Sum.inl.injEq, and_self, false_and, and_false, not_true_eq_false, not_false_eq_true, false_implies, true_implies, sm_r, Int.add_zero, Int.zero_add, wI_wsI, wS_wsI, wR_wsI, wI_wCp, wS_wCp, wR_wCp, Nat.reduceEqDiff, reduceIte, sT_iff, sT_iffC, wIf_ne, ne_eq, Bool.false_or, Bool.true_or, Bool.or_false, Bool.or_true, Bool.or_self, Nat.left_eq_add, Nat.add_eq_left, Nat.add_left_inj, oMax, oMin, oAbs, tb_X0_greatestDelay, p_X0_delayOf, f_X0_delayOf, p_X0_greatestDelay, f_X0_greatestDelay, d0, s0, l0, hX]
    repeat' (first | exact True.intro | with_reducible assumption | with_reducible refine And.intro ?_ ?_ | intro _)
    all_goals first
      | omega
      | assumption
      | rfl
      | (split <;> omega)
      | (have k9 := ih (by omega)
         (repeat' split at k9) <;> first | exact k9 | omega)
      | (have k9 := ih2 (by omega)
         (repeat' split at k9) <;> first | exact k9 | omega)
      | exact he (by omega)
      | ((with_reducible congr 1) <;> omega)
      | (rw [if_pos (by omega)] at he; exact he)
      | exact hD1 (by omega)
      | exact hD2 (by omega)
      | grind
      | skip
    )
  refine hZ (fun u => Nat.beq u 5) 14 0 _ _ _ _ _ ?_
  simp only [sm_run, sm_blk, sm_get, sm_ent, sm_ents, sm_wds, sm_wd, sm_nl, sm_pop, sm_back, sm_cases, oK, oLK, oL, oI, oA, oJ, oIs, oAs, oJs, oInc, oAdd, oSub, oMul, oDiv, oRem, oNeg, oAnd, oAndB, oOr, oShl, oI2c, oI2l, oL2i, oLand, oLor, oLshl, oLshr, oLushr, oLcmp, oDup, oDup2, oPop, oGo, oFg, oEq, oNe, oLt, oGe, oGt, oLe, oEq0, oNe0, oLt0, oGe0, oGt0, oLe0, oSw, oGi, oGr, oPi, oPz, oPr, oLen, oIl, oZl, oCl, oRl, oIst, oZst, oCst, oRst, oCopy, oNew, oNa, oNa2, oObj, oCs, oCv, oCi, oIr, oZr, oVr, Nat.beq, List.getElem?_cons_zero, List.getElem?_cons_succ, List.set_cons_zero, List.set_cons_succ, List.length_cons, List.length_nil, List.nil_append, List.cons_append, List.append_nil, List.replicate_succ, List.replicate_zero, Nat.reduceAdd, Nat.reduceSub, Nat.reduceLT, Nat.reduceLeDiff, Nat.reduceBEq, true_and, and_true, Nat.zero_add, Nat.add_zero, Nat.le_refl, Option.some.injEq, exists_eq_left', true_or, or_true, or_false, false_or, reduceCtorEq, Prod.mk.injEq, Sum.inl.injEq, and_self, false_and, and_false, not_true_eq_false, not_false_eq_true, false_implies, true_implies, sm_r, Int.add_zero, Int.zero_add, wI_wsI, wS_wsI, wR_wsI, wI_wCp, wS_wCp, wR_wCp, Nat.reduceEqDiff, reduceIte, sT_iff, sT_iffC, wIf_ne, ne_eq, Bool.false_or, Bool.true_or, Bool.or_false, Bool.or_true, Bool.or_self, Nat.left_eq_add, Nat.add_eq_left, Nat.add_left_inj, oMax, oMin, oAbs, tb_X0_greatestDelay, p_X0_delayOf, f_X0_delayOf, p_X0_greatestDelay, f_X0_greatestDelay]
  repeat' (first | exact True.intro | with_reducible assumption | with_reducible refine And.intro ?_ ?_ | intro _)
  all_goals first
    | omega
    | assumption
    | rfl
    | (split <;> omega)
    | (have k9 := ih (by omega)
       (repeat' split at k9) <;> first | exact k9 | omega)
    | (have k9 := ih2 (by omega)
       (repeat' split at k9) <;> first | exact k9 | omega)
    | exact he (by omega)
    | ((with_reducible congr 1) <;> omega)
    | (rw [if_pos (by omega)] at he; exact he)
    | exact hD1 (by omega)
    | exact hD2 (by omega)
    | skip
theorem met_X0_greatestDelay (l : Launch) : sm_Met l yX0_greatestDelay cX0_greatestDelay 3 (some .int) 3 0 0 p_X0_greatestDelay f_X0_greatestDelay := sm_met 1 (Or.inr (Or.inl ⟨rfl, rfl⟩)) (by decide +kernel) (sn_X0_greatestDelay l) ok_X0_greatestDelay
def xWas (w : sm_W) (d : Nat) (x p : Int) : Int := if wI w (dC d x) p < 0 then 0 else (if p = wI w (d + 1 + 4) x then 0 else 1)
def p_X0_wasOnTrack : List sm_V → sm_W → Prop
  | [.inr (.inl d), .inl x, .inl p], w => dOK w d ∧ 0 ≤ x ∧ x < 8 ∧ 0 ≤ p ∧ p < 8
  | _, _ => False
def f_X0_wasOnTrack : sm_F
  | [.inr (.inl d), .inl x, .inl p], w => (some (.inl (xWas w d x p)), w)
  | _, w => (none, w)
def tb_X0_wasOnTrack : List (Nat × List sm_O) := [(0, [oA 0, oGr 0 11 1, oI 1, oRl, oI 2, oIl, oLt0 28, oI 2, oA 0, oGr 0 11 0, oGr 2 9 3, oI 1, oIl, oEq 28, oK 1, oGo 29]),
  (28, [oK 0, oGo 29]),
  (29, [oZr])]
set_option maxRecDepth 100000 in
theorem sb_X0_wasOnTrack_0 (l : Launch) : sm_SndB l RX0 "wasOnTrack" cX0_wasOnTrack 3 2 0 0 [oA 0, oGr 0 11 1, oI 1, oRl, oI 2, oIl, oLt0 28, oI 2, oA 0, oGr 0 11 0, oGr 2 9 3, oI 1, oIl, oEq 28, oK 1, oGo 29] := sb_cons (sd_aload_n (by decide +kernel : decode cX0_wasOnTrack 0 = .ok (.aload_n 0, 1)) rfl) (sb_cons (sd_getr (k := 1) kl_0 (by decide) rfl wm_73 (by decide +kernel : decode cX0_wasOnTrack 1 = .ok (.getfield 20, 3))) (sb_cons (sd_iload_n (by decide +kernel : decode cX0_wasOnTrack 4 = .ok (.iload_n 1, 1)) rfl) (sb_cons (sd_aaload (by decide +kernel : decode cX0_wasOnTrack 5 = .ok (.aaload, 1))) (sb_cons (sd_iload_n (by decide +kernel : decode cX0_wasOnTrack 6 = .ok (.iload_n 2, 1)) rfl) (sb_cons (sd_iaload (by decide +kernel : decode cX0_wasOnTrack 7 = .ok (.iaload, 1))) (sb_cons (sd_lt0 (by decide +kernel : decode cX0_wasOnTrack 8 = .ok (.ifCond .lt 20, 3)) (by decide)) (sb_cons (sd_iload_n (by decide +kernel : decode cX0_wasOnTrack 11 = .ok (.iload_n 2, 1)) rfl) (sb_cons (sd_aload_n (by decide +kernel : decode cX0_wasOnTrack 12 = .ok (.aload_n 0, 1)) rfl) (sb_cons (sd_getr (k := 0) kl_0 (by decide) rfl wm_68 (by decide +kernel : decode cX0_wasOnTrack 13 = .ok (.getfield 12, 3))) (sb_cons (sd_getr (k := 3) kl_2 (by decide) rfl wm_48 (by decide +kernel : decode cX0_wasOnTrack 16 = .ok (.getfield 97, 3))) (sb_cons (sd_iload_n (by decide +kernel : decode cX0_wasOnTrack 19 = .ok (.iload_n 1, 1)) rfl) (sb_cons (sd_iaload (by decide +kernel : decode cX0_wasOnTrack 20 = .ok (.iaload, 1))) (sb_cons (sd_eq (by decide +kernel : decode cX0_wasOnTrack 21 = .ok (.if_icmp .eq 7, 3)) (by decide)) (sb_cons (sd_iconst (by decide +kernel : decode cX0_wasOnTrack 24 = .ok (.iconst 1, 1)) ⟨by decide, by decide⟩) (sb_cons (sd_goto (x := 0) (by decide +kernel : decode cX0_wasOnTrack 25 = .ok (.goto 4, 3)) (by decide)) sb_nil)))))))))))))))
set_option maxRecDepth 100000 in
theorem sb_X0_wasOnTrack_28 (l : Launch) : sm_SndB l RX0 "wasOnTrack" cX0_wasOnTrack 3 2 0 28 [oK 0, oGo 29] := sb_cons (sd_iconst (by decide +kernel : decode cX0_wasOnTrack 28 = .ok (.iconst 0, 1)) ⟨by decide, by decide⟩) (sb_cons (sd_fall (x := 0)) sb_nil)
set_option maxRecDepth 100000 in
theorem sb_X0_wasOnTrack_29 (l : Launch) : sm_SndB l RX0 "wasOnTrack" cX0_wasOnTrack 3 2 0 29 [oZr] := sb_cons (sd_zreturn (x := 0) rfl (by decide +kernel : decode cX0_wasOnTrack 29 = .ok (.ireturn, 1))) sb_nil
theorem sn_X0_wasOnTrack (l : Launch) : sm_SndT l RX0 "wasOnTrack" cX0_wasOnTrack 3 2 0 tb_X0_wasOnTrack := st_cons (sb_X0_wasOnTrack_0 l) (st_cons (sb_X0_wasOnTrack_28 l) (st_cons (sb_X0_wasOnTrack_29 l) (st_nil)))
set_option maxRecDepth 100000 in
set_option maxHeartbeats 4000000 in
theorem ok_X0_wasOnTrack : sm_Ok tb_X0_wasOnTrack 3 0 0 p_X0_wasOnTrack f_X0_wasOnTrack := by
  intro as w hp ha hw
  match as, hp with
  | [.inr (.inl d), .inl x, .inl p], hp =>
  refine ⟨Nat.le_of_ble_eq_true rfl, fun Z hZ => ?_⟩
  obtain ⟨hD, x0, x1, p0, p1⟩ := hp
  obtain ⟨d0, d9, d18, d27, d28, d29, d30, d31, d32, s0, s1, s2, s5, s6, s7, s8, s9, s10⟩ := dS hD.2.1 hD.1
  obtain ⟨l0, l1, l2, l3, l4, l5, l6, l7, r0, r1, r2, r3, r4, r5, r6⟩ := lS hD.2.1 (dL hD.1)
  obtain ⟨c9, c18, cC, cV⟩ := dRC hD.2.1 hD.1 x0 x1
  refine hZ (fun _ => false) 16 0 _ _ _ _ _ ?_
  simp only [sm_run, sm_blk, sm_get, sm_ent, sm_ents, sm_wds, sm_wd, sm_nl, sm_pop, sm_back, sm_cases, oK, oLK, oL, oI, oA, oJ, oIs, oAs, oJs, oInc, oAdd, oSub, oMul, oDiv, oRem, oNeg, oAnd, oAndB, oOr, oShl, oI2c, oI2l, oL2i, oLand, oLor, oLshl, oLshr, oLushr, oLcmp, oDup, oDup2, oPop, oGo, oFg, oEq, oNe, oLt, oGe, oGt, oLe, oEq0, oNe0, oLt0, oGe0, oGt0, oLe0, oSw, oGi, oGr, oPi, oPz, oPr, oLen, oIl, oZl, oCl, oRl, oIst, oZst, oCst, oRst, oCopy, oNew, oNa, oNa2, oObj, oCs, oCv, oCi, oIr, oZr, oVr, Nat.beq, List.getElem?_cons_zero, List.getElem?_cons_succ, List.set_cons_zero, List.set_cons_succ, List.length_cons, List.length_nil, List.nil_append, List.cons_append, List.append_nil, List.replicate_succ, List.replicate_zero, Nat.reduceAdd, Nat.reduceSub, Nat.reduceLT, Nat.reduceLeDiff, Nat.reduceBEq, true_and, and_true, Nat.zero_add, Nat.add_zero, Nat.le_refl, Option.some.injEq, exists_eq_left', true_or, or_true, or_false, false_or, reduceCtorEq, Prod.mk.injEq, Sum.inl.injEq, and_self, false_and, and_false, not_true_eq_false, not_false_eq_true, false_implies, true_implies, sm_r, Int.add_zero, Int.zero_add, wI_wsI, wS_wsI, wR_wsI, wI_wCp, wS_wCp, wR_wCp, Nat.reduceEqDiff, reduceIte, sT_iff, sT_iffC, wIf_ne, ne_eq, Bool.false_or, Bool.true_or, Bool.or_false, Bool.or_true, Bool.or_self, Nat.left_eq_add, Nat.add_eq_left, Nat.add_left_inj, oMax, oMin, oAbs, tb_X0_wasOnTrack, p_X0_wasOnTrack, f_X0_wasOnTrack, d0, s0, s1, d9, c9, cC, l0, r3, l4]
  repeat' (first | exact True.intro | with_reducible assumption | with_reducible refine And.intro ?_ ?_ | intro _)
  all_goals first
    | omega
    | assumption
    | rfl
    | (split <;> omega)
    | grind [xWas]
    | skip
theorem met_X0_wasOnTrack (l : Launch) : sm_Met l yX0_wasOnTrack cX0_wasOnTrack 3 (some .boolean) 0 0 0 p_X0_wasOnTrack f_X0_wasOnTrack := sm_met 2 (Or.inr (Or.inr ⟨rfl, rfl⟩)) (by decide +kernel) (sn_X0_wasOnTrack l) ok_X0_wasOnTrack
theorem xWas_01 (w : sm_W) (d : Nat) (x p : Int) : xWas w d x p = 0 ∨ xWas w d x p = 1 := by
  unfold xWas
  grind
def xStd (w : sm_W) (d : Nat) (x p : Int) : Int := if p = wI w (d + 1 + 3) x then 1 else xWas w d x p
theorem xStd_01 (w : sm_W) (d : Nat) (x p : Int) : xStd w d x p = 0 ∨ xStd w d x p = 1 := by
  unfold xStd
  split
  · exact Or.inr rfl
  · exact xWas_01 w d x p
def p_X0_stoodAt : List sm_V → sm_W → Prop
  | [.inr (.inl d), .inl x, .inl p], w => dOK w d ∧ 0 ≤ x ∧ x < 8 ∧ 0 ≤ p ∧ p < 8
  | _, _ => False
def f_X0_stoodAt : sm_F
  | [.inr (.inl d), .inl x, .inl p], w => (some (.inl (xStd w d x p)), w)
  | _, w => (none, w)
def tb_X0_stoodAt : List (Nat × List sm_O) := [(0, [oI 2, oA 0, oGr 0 11 0, oGr 2 9 2, oI 1, oIl, oEq 22, oA 0, oI 1, oI 2, oCv 0 11 p_X0_wasOnTrack f_X0_wasOnTrack 0 0 3, oEq0 26, oGo 22]),
  (22, [oK 1, oGo 27]),
  (26, [oK 0, oGo 27]),
  (27, [oZr])]
set_option maxRecDepth 100000 in
theorem sb_X0_stoodAt_0 (l : Launch) : sm_SndB l RX0 "stoodAt" cX0_stoodAt 3 2 1 0 [oI 2, oA 0, oGr 0 11 0, oGr 2 9 2, oI 1, oIl, oEq 22, oA 0, oI 1, oI 2, oCv 0 11 p_X0_wasOnTrack f_X0_wasOnTrack 0 0 3, oEq0 26, oGo 22] := sb_cons (sd_iload_n (by decide +kernel : decode cX0_stoodAt 0 = .ok (.iload_n 2, 1)) rfl) (sb_cons (sd_aload_n (by decide +kernel : decode cX0_stoodAt 1 = .ok (.aload_n 0, 1)) rfl) (sb_cons (sd_getr (k := 0) kl_0 (by decide) rfl wm_68 (by decide +kernel : decode cX0_stoodAt 2 = .ok (.getfield 12, 3))) (sb_cons (sd_getr (k := 2) kl_2 (by decide) rfl wm_46 (by decide +kernel : decode cX0_stoodAt 5 = .ok (.getfield 80, 3))) (sb_cons (sd_iload_n (by decide +kernel : decode cX0_stoodAt 8 = .ok (.iload_n 1, 1)) rfl) (sb_cons (sd_iaload (by decide +kernel : decode cX0_stoodAt 9 = .ok (.iaload, 1))) (sb_cons (sd_eq (by decide +kernel : decode cX0_stoodAt 10 = .ok (.if_icmp .eq 12, 3)) (by decide)) (sb_cons (sd_aload_n (by decide +kernel : decode cX0_stoodAt 13 = .ok (.aload_n 0, 1)) rfl) (sb_cons (sd_iload_n (by decide +kernel : decode cX0_stoodAt 14 = .ok (.iload_n 1, 1)) rfl) (sb_cons (sd_iload_n (by decide +kernel : decode cX0_stoodAt 15 = .ok (.iload_n 2, 1)) rfl) (sb_cons (sd_callv (n := 2) (met_X0_wasOnTrack l) (by decide) (by decide) wm_375 wm_372 wm_2 ⟨by decide +kernel, by decide +kernel, by decide +kernel⟩ kl_0 wm_373 wm_374 (by decide +kernel : decode cX0_stoodAt 16 = .ok (.invokevirtual 147, 3))) (sb_cons (sd_eq0 (by decide +kernel : decode cX0_stoodAt 19 = .ok (.ifCond .eq 7, 3)) (by decide)) (sb_cons (sd_fall (x := 0)) sb_nil))))))))))))
set_option maxRecDepth 100000 in
theorem sb_X0_stoodAt_22 (l : Launch) : sm_SndB l RX0 "stoodAt" cX0_stoodAt 3 2 1 22 [oK 1, oGo 27] := sb_cons (sd_iconst (by decide +kernel : decode cX0_stoodAt 22 = .ok (.iconst 1, 1)) ⟨by decide, by decide⟩) (sb_cons (sd_goto (x := 0) (by decide +kernel : decode cX0_stoodAt 23 = .ok (.goto 4, 3)) (by decide)) sb_nil)
set_option maxRecDepth 100000 in
theorem sb_X0_stoodAt_26 (l : Launch) : sm_SndB l RX0 "stoodAt" cX0_stoodAt 3 2 1 26 [oK 0, oGo 27] := sb_cons (sd_iconst (by decide +kernel : decode cX0_stoodAt 26 = .ok (.iconst 0, 1)) ⟨by decide, by decide⟩) (sb_cons (sd_fall (x := 0)) sb_nil)
set_option maxRecDepth 100000 in
theorem sb_X0_stoodAt_27 (l : Launch) : sm_SndB l RX0 "stoodAt" cX0_stoodAt 3 2 1 27 [oZr] := sb_cons (sd_zreturn (x := 0) rfl (by decide +kernel : decode cX0_stoodAt 27 = .ok (.ireturn, 1))) sb_nil
theorem sn_X0_stoodAt (l : Launch) : sm_SndT l RX0 "stoodAt" cX0_stoodAt 3 2 1 tb_X0_stoodAt := st_cons (sb_X0_stoodAt_0 l) (st_cons (sb_X0_stoodAt_22 l) (st_cons (sb_X0_stoodAt_26 l) (st_cons (sb_X0_stoodAt_27 l) (st_nil))))
set_option maxRecDepth 100000 in
set_option maxHeartbeats 4000000 in
theorem ok_X0_stoodAt : sm_Ok tb_X0_stoodAt 3 0 0 p_X0_stoodAt f_X0_stoodAt := by
  intro as w hp ha hw
  match as, hp with
  | [.inr (.inl d), .inl x, .inl p], hp =>
  refine ⟨Nat.le_of_ble_eq_true rfl, fun Z hZ => ?_⟩
  obtain ⟨hD, x0, x1, p0, p1⟩ := hp
  obtain ⟨d0, d9, d18, d27, d28, d29, d30, d31, d32, s0, s1, s2, s5, s6, s7, s8, s9, s10⟩ := dS hD.2.1 hD.1
  obtain ⟨l0, l1, l2, l3, l4, l5, l6, l7, r0, r1, r2, r3, r4, r5, r6⟩ := lS hD.2.1 (dL hD.1)
  have h01 := xWas_01 w d x p
  refine hZ (fun _ => false) 16 0 _ _ _ _ _ ?_
  simp only [sm_run, sm_blk, sm_get, sm_ent, sm_ents, sm_wds, sm_wd, sm_nl, sm_pop, sm_back, sm_cases, oK, oLK, oL, oI, oA, oJ, oIs, oAs, oJs, oInc, oAdd, oSub, oMul, oDiv, oRem, oNeg, oAnd, oAndB, oOr, oShl, oI2c, oI2l, oL2i, oLand, oLor, oLshl, oLshr, oLushr, oLcmp, oDup, oDup2, oPop, oGo, oFg, oEq, oNe, oLt, oGe, oGt, oLe, oEq0, oNe0, oLt0, oGe0, oGt0, oLe0, oSw, oGi, oGr, oPi, oPz, oPr, oLen, oIl, oZl, oCl, oRl, oIst, oZst, oCst, oRst, oCopy, oNew, oNa, oNa2, oObj, oCs, oCv, oCi, oIr, oZr, oVr, Nat.beq, List.getElem?_cons_zero, List.getElem?_cons_succ, List.set_cons_zero, List.set_cons_succ, List.length_cons, List.length_nil, List.nil_append, List.cons_append, List.append_nil, List.replicate_succ, List.replicate_zero, Nat.reduceAdd, Nat.reduceSub, Nat.reduceLT, Nat.reduceLeDiff, Nat.reduceBEq, true_and, and_true, Nat.zero_add, Nat.add_zero, Nat.le_refl, Option.some.injEq, exists_eq_left', true_or, or_true, or_false, false_or, reduceCtorEq, Prod.mk.injEq, Sum.inl.injEq, and_self, false_and, and_false, not_true_eq_false, not_false_eq_true, false_implies, true_implies, sm_r, Int.add_zero, Int.zero_add, wI_wsI, wS_wsI, wR_wsI, wI_wCp, wS_wCp, wR_wCp, Nat.reduceEqDiff, reduceIte, sT_iff, sT_iffC, wIf_ne, ne_eq, Bool.false_or, Bool.true_or, Bool.or_false, Bool.or_true, Bool.or_self, Nat.left_eq_add, Nat.add_eq_left, Nat.add_left_inj, oMax, oMin, oAbs, tb_X0_stoodAt, p_X0_wasOnTrack, f_X0_wasOnTrack, p_X0_stoodAt, f_X0_stoodAt, d0, s0, l0, r2, l3, hD]
  repeat' (first | exact True.intro | with_reducible assumption | with_reducible refine And.intro ?_ ?_ | intro _)
  all_goals first
    | omega
    | assumption
    | rfl
    | (split <;> omega)
    | grind [xStd]
    | skip
theorem met_X0_stoodAt (l : Launch) : sm_Met l yX0_stoodAt cX0_stoodAt 3 (some .boolean) 1 0 0 p_X0_stoodAt f_X0_stoodAt := sm_met 2 (Or.inr (Or.inr ⟨rfl, rfl⟩)) (by decide +kernel) (sn_X0_stoodAt l) ok_X0_stoodAt
def xRdy (w : sm_W) (d : Nat) (x p : Int) : Int := if p = wI w (d + 1 + 3) x then wI w (d + 1 + 5) x else wI w (dC d x) p + wI w (d + 1 + 6) x
def p_X0_readyAt : List sm_V → sm_W → Prop
  | [.inr (.inl d), .inl x, .inl p], w => xOK w d ∧ 0 ≤ x ∧ x < wI w (d + 1) 7 ∧ 0 ≤ p ∧ p < 8
  | _, _ => False
def f_X0_readyAt : sm_F
  | [.inr (.inl d), .inl x, .inl p], w => (some (.inl (xRdy w d x p)), w)
  | _, w => (none, w)
def tb_X0_readyAt : List (Nat × List sm_O) := [(0, [oI 2, oA 0, oGr 0 11 0, oGr 2 9 2, oI 1, oIl, oNe 23, oA 0, oGr 0 11 0, oGr 2 9 4, oI 1, oIl, oIr]),
  (23, [oA 0, oGr 0 11 1, oI 1, oRl, oI 2, oIl, oA 0, oGr 0 11 0, oGr 2 9 5, oI 1, oIl, oAdd, oIr])]
set_option maxRecDepth 100000 in
theorem sb_X0_readyAt_0 (l : Launch) : sm_SndB l RX0 "readyAt" cX0_readyAt 3 1 0 0 [oI 2, oA 0, oGr 0 11 0, oGr 2 9 2, oI 1, oIl, oNe 23, oA 0, oGr 0 11 0, oGr 2 9 4, oI 1, oIl, oIr] := sb_cons (sd_iload_n (by decide +kernel : decode cX0_readyAt 0 = .ok (.iload_n 2, 1)) rfl) (sb_cons (sd_aload_n (by decide +kernel : decode cX0_readyAt 1 = .ok (.aload_n 0, 1)) rfl) (sb_cons (sd_getr (k := 0) kl_0 (by decide) rfl wm_68 (by decide +kernel : decode cX0_readyAt 2 = .ok (.getfield 12, 3))) (sb_cons (sd_getr (k := 2) kl_2 (by decide) rfl wm_46 (by decide +kernel : decode cX0_readyAt 5 = .ok (.getfield 80, 3))) (sb_cons (sd_iload_n (by decide +kernel : decode cX0_readyAt 8 = .ok (.iload_n 1, 1)) rfl) (sb_cons (sd_iaload (by decide +kernel : decode cX0_readyAt 9 = .ok (.iaload, 1))) (sb_cons (sd_ne (by decide +kernel : decode cX0_readyAt 10 = .ok (.if_icmp .ne 13, 3)) (by decide)) (sb_cons (sd_aload_n (by decide +kernel : decode cX0_readyAt 13 = .ok (.aload_n 0, 1)) rfl) (sb_cons (sd_getr (k := 0) kl_0 (by decide) rfl wm_68 (by decide +kernel : decode cX0_readyAt 14 = .ok (.getfield 12, 3))) (sb_cons (sd_getr (k := 4) kl_2 (by decide) rfl wm_50 (by decide +kernel : decode cX0_readyAt 17 = .ok (.getfield 83, 3))) (sb_cons (sd_iload_n (by decide +kernel : decode cX0_readyAt 20 = .ok (.iload_n 1, 1)) rfl) (sb_cons (sd_iaload (by decide +kernel : decode cX0_readyAt 21 = .ok (.iaload, 1))) (sb_cons (sd_ireturn (x := 0) rfl (by decide +kernel : decode cX0_readyAt 22 = .ok (.ireturn, 1))) sb_nil))))))))))))
set_option maxRecDepth 100000 in
theorem sb_X0_readyAt_23 (l : Launch) : sm_SndB l RX0 "readyAt" cX0_readyAt 3 1 0 23 [oA 0, oGr 0 11 1, oI 1, oRl, oI 2, oIl, oA 0, oGr 0 11 0, oGr 2 9 5, oI 1, oIl, oAdd, oIr] := sb_cons (sd_aload_n (by decide +kernel : decode cX0_readyAt 23 = .ok (.aload_n 0, 1)) rfl) (sb_cons (sd_getr (k := 1) kl_0 (by decide) rfl wm_73 (by decide +kernel : decode cX0_readyAt 24 = .ok (.getfield 20, 3))) (sb_cons (sd_iload_n (by decide +kernel : decode cX0_readyAt 27 = .ok (.iload_n 1, 1)) rfl) (sb_cons (sd_aaload (by decide +kernel : decode cX0_readyAt 28 = .ok (.aaload, 1))) (sb_cons (sd_iload_n (by decide +kernel : decode cX0_readyAt 29 = .ok (.iload_n 2, 1)) rfl) (sb_cons (sd_iaload (by decide +kernel : decode cX0_readyAt 30 = .ok (.iaload, 1))) (sb_cons (sd_aload_n (by decide +kernel : decode cX0_readyAt 31 = .ok (.aload_n 0, 1)) rfl) (sb_cons (sd_getr (k := 0) kl_0 (by decide) rfl wm_68 (by decide +kernel : decode cX0_readyAt 32 = .ok (.getfield 12, 3))) (sb_cons (sd_getr (k := 5) kl_2 (by decide) rfl wm_52 (by decide +kernel : decode cX0_readyAt 35 = .ok (.getfield 106, 3))) (sb_cons (sd_iload_n (by decide +kernel : decode cX0_readyAt 38 = .ok (.iload_n 1, 1)) rfl) (sb_cons (sd_iaload (by decide +kernel : decode cX0_readyAt 39 = .ok (.iaload, 1))) (sb_cons (sd_iadd (by decide +kernel : decode cX0_readyAt 40 = .ok (.iadd, 1))) (sb_cons (sd_ireturn (x := 0) rfl (by decide +kernel : decode cX0_readyAt 41 = .ok (.ireturn, 1))) sb_nil))))))))))))
theorem sn_X0_readyAt (l : Launch) : sm_SndT l RX0 "readyAt" cX0_readyAt 3 1 0 tb_X0_readyAt := st_cons (sb_X0_readyAt_0 l) (st_cons (sb_X0_readyAt_23 l) (st_nil))
set_option maxRecDepth 100000 in
set_option maxHeartbeats 4000000 in
theorem ok_X0_readyAt : sm_Ok tb_X0_readyAt 3 0 0 p_X0_readyAt f_X0_readyAt := by
  intro as w hp ha hw
  match as, hp with
  | [.inr (.inl d), .inl x, .inl p], hp =>
  refine ⟨Nat.le_of_ble_eq_true rfl, fun Z hZ => ?_⟩
  obtain ⟨hX, x0, x1, p0, p1⟩ := hp
  have hD := hX.1
  have hn := dOK_n hD
  obtain ⟨d0, d9, d18, d27, d28, d29, d30, d31, d32, s0, s1, s2, s5, s6, s7, s8, s9, s10⟩ := dS hD.2.1 hD.1
  obtain ⟨l0, l1, l2, l3, l4, l5, l6, l7, r0, r1, r2, r3, r4, r5, r6⟩ := lS hD.2.1 (dL hD.1)
  obtain ⟨c9, c18, cC, cV⟩ := dRC hD.2.1 hD.1 x0 (show x < 8 by omega)
  have hq := lOK_s hD.2 x0 x1
  have hc := xOK_c hX x0 x1 p0 p1
  refine hZ (fun _ => false) 16 0 _ _ _ _ _ ?_
  simp only [sm_run, sm_blk, sm_get, sm_ent, sm_ents, sm_wds, sm_wd, sm_nl, sm_pop, sm_back, sm_cases, oK, oLK, oL, oI, oA, oJ, oIs, oAs, oJs, oInc, oAdd, oSub, oMul, oDiv, oRem, oNeg, oAnd, oAndB, oOr, oShl, oI2c, oI2l, oL2i, oLand, oLor, oLshl, oLshr, oLushr, oLcmp, oDup, oDup2, oPop, oGo, oFg, oEq, oNe, oLt, oGe, oGt, oLe, oEq0, oNe0, oLt0, oGe0, oGt0, oLe0, oSw, oGi, oGr, oPi, oPz, oPr, oLen, oIl, oZl, oCl, oRl, oIst, oZst, oCst, oRst, oCopy, oNew, oNa, oNa2, oObj, oCs, oCv, oCi, oIr, oZr, oVr, Nat.beq, List.getElem?_cons_zero, List.getElem?_cons_succ, List.set_cons_zero, List.set_cons_succ, List.length_cons, List.length_nil, List.nil_append, List.cons_append, List.append_nil, List.replicate_succ, List.replicate_zero, Nat.reduceAdd, Nat.reduceSub, Nat.reduceLT, Nat.reduceLeDiff, Nat.reduceBEq, true_and, and_true, Nat.zero_add, Nat.add_zero, Nat.le_refl, Option.some.injEq, exists_eq_left', true_or, or_true, or_false, false_or, reduceCtorEq, Prod.mk.injEq, Sum.inl.injEq, and_self, false_and, and_false, not_true_eq_false, not_false_eq_true, false_implies, true_implies, sm_r, Int.add_zero, Int.zero_add, wI_wsI, wS_wsI, wR_wsI, wI_wCp, wS_wCp, wR_wCp, Nat.reduceEqDiff, reduceIte, sT_iff, sT_iffC, wIf_ne, ne_eq, Bool.false_or, Bool.true_or, Bool.or_false, Bool.or_true, Bool.or_self, Nat.left_eq_add, Nat.add_eq_left, Nat.add_left_inj, oMax, oMin, oAbs, tb_X0_readyAt, p_X0_readyAt, f_X0_readyAt, d0, s0, s1, d9, c9, cC, l0, r2, l3, r4, l5, r5, l6]
  repeat' (first | exact True.intro | with_reducible assumption | with_reducible refine And.intro ?_ ?_ | intro _)
  all_goals first
    | omega
    | assumption
    | rfl
    | (split <;> omega)
    | grind [xRdy]
    | skip
theorem met_X0_readyAt (l : Launch) : sm_Met l yX0_readyAt cX0_readyAt 3 (some .int) 0 0 0 p_X0_readyAt f_X0_readyAt := sm_met 1 (Or.inr (Or.inl ⟨rfl, rfl⟩)) (by decide +kernel) (sn_X0_readyAt l) ok_X0_readyAt
def xGone (w : sm_W) (d : Nat) (x p : Int) : Int := if wI w (dV d x) p < 0 then wI w d 3 + 1 else wI w (dV d x) p
def p_X0_goneFrom : List sm_V → sm_W → Prop
  | [.inr (.inl d), .inl x, .inl p], w => xOK w d ∧ 0 ≤ x ∧ x < wI w (d + 1) 7 ∧ 0 ≤ p ∧ p < 8
  | _, _ => False
def f_X0_goneFrom : sm_F
  | [.inr (.inl d), .inl x, .inl p], w => (some (.inl (xGone w d x p)), w)
  | _, w => (none, w)
def tb_X0_goneFrom : List (Nat × List sm_O) := [(0, [oA 0, oGr 0 11 2, oI 1, oRl, oI 2, oIl, oLt0 22, oA 0, oGr 0 11 2, oI 1, oRl, oI 2, oIl, oGo 28]),
  (22, [oA 0, oGi 0 11 3, oK 1, oAdd, oGo 28]),
  (28, [oIr])]
set_option maxRecDepth 100000 in
theorem sb_X0_goneFrom_0 (l : Launch) : sm_SndB l RX0 "goneFrom" cX0_goneFrom 3 1 0 0 [oA 0, oGr 0 11 2, oI 1, oRl, oI 2, oIl, oLt0 22, oA 0, oGr 0 11 2, oI 1, oRl, oI 2, oIl, oGo 28] := sb_cons (sd_aload_n (by decide +kernel : decode cX0_goneFrom 0 = .ok (.aload_n 0, 1)) rfl) (sb_cons (sd_getr (k := 2) kl_0 (by decide) rfl wm_76 (by decide +kernel : decode cX0_goneFrom 1 = .ok (.getfield 23, 3))) (sb_cons (sd_iload_n (by decide +kernel : decode cX0_goneFrom 4 = .ok (.iload_n 1, 1)) rfl) (sb_cons (sd_aaload (by decide +kernel : decode cX0_goneFrom 5 = .ok (.aaload, 1))) (sb_cons (sd_iload_n (by decide +kernel : decode cX0_goneFrom 6 = .ok (.iload_n 2, 1)) rfl) (sb_cons (sd_iaload (by decide +kernel : decode cX0_goneFrom 7 = .ok (.iaload, 1))) (sb_cons (sd_lt0 (by decide +kernel : decode cX0_goneFrom 8 = .ok (.ifCond .lt 14, 3)) (by decide)) (sb_cons (sd_aload_n (by decide +kernel : decode cX0_goneFrom 11 = .ok (.aload_n 0, 1)) rfl) (sb_cons (sd_getr (k := 2) kl_0 (by decide) rfl wm_76 (by decide +kernel : decode cX0_goneFrom 12 = .ok (.getfield 23, 3))) (sb_cons (sd_iload_n (by decide +kernel : decode cX0_goneFrom 15 = .ok (.iload_n 1, 1)) rfl) (sb_cons (sd_aaload (by decide +kernel : decode cX0_goneFrom 16 = .ok (.aaload, 1))) (sb_cons (sd_iload_n (by decide +kernel : decode cX0_goneFrom 17 = .ok (.iload_n 2, 1)) rfl) (sb_cons (sd_iaload (by decide +kernel : decode cX0_goneFrom 18 = .ok (.iaload, 1))) (sb_cons (sd_goto (x := 0) (by decide +kernel : decode cX0_goneFrom 19 = .ok (.goto 9, 3)) (by decide)) sb_nil)))))))))))))
set_option maxRecDepth 100000 in
theorem sb_X0_goneFrom_22 (l : Launch) : sm_SndB l RX0 "goneFrom" cX0_goneFrom 3 1 0 22 [oA 0, oGi 0 11 3, oK 1, oAdd, oGo 28] := sb_cons (sd_aload_n (by decide +kernel : decode cX0_goneFrom 22 = .ok (.aload_n 0, 1)) rfl) (sb_cons (sd_geti (k := 3) kl_0 (by decide) rfl wm_79 (by decide +kernel : decode cX0_goneFrom 23 = .ok (.getfield 49, 3))) (sb_cons (sd_iconst (by decide +kernel : decode cX0_goneFrom 26 = .ok (.iconst 1, 1)) ⟨by decide, by decide⟩) (sb_cons (sd_iadd (by decide +kernel : decode cX0_goneFrom 27 = .ok (.iadd, 1))) (sb_cons (sd_fall (x := 0)) sb_nil))))
set_option maxRecDepth 100000 in
theorem sb_X0_goneFrom_28 (l : Launch) : sm_SndB l RX0 "goneFrom" cX0_goneFrom 3 1 0 28 [oIr] := sb_cons (sd_ireturn (x := 0) rfl (by decide +kernel : decode cX0_goneFrom 28 = .ok (.ireturn, 1))) sb_nil
theorem sn_X0_goneFrom (l : Launch) : sm_SndT l RX0 "goneFrom" cX0_goneFrom 3 1 0 tb_X0_goneFrom := st_cons (sb_X0_goneFrom_0 l) (st_cons (sb_X0_goneFrom_22 l) (st_cons (sb_X0_goneFrom_28 l) (st_nil)))
set_option maxRecDepth 100000 in
set_option maxHeartbeats 4000000 in
theorem ok_X0_goneFrom : sm_Ok tb_X0_goneFrom 3 0 0 p_X0_goneFrom f_X0_goneFrom := by
  intro as w hp ha hw
  match as, hp with
  | [.inr (.inl d), .inl x, .inl p], hp =>
  refine ⟨Nat.le_of_ble_eq_true rfl, fun Z hZ => ?_⟩
  obtain ⟨hX, x0, x1, p0, p1⟩ := hp
  have hD := hX.1
  have hn := dOK_n hD
  obtain ⟨d0, d9, d18, d27, d28, d29, d30, d31, d32, s0, s1, s2, s5, s6, s7, s8, s9, s10⟩ := dS hD.2.1 hD.1
  obtain ⟨c9, c18, cC, cV⟩ := dRC hD.2.1 hD.1 x0 (show x < 8 by omega)
  have hl3 := hX.2.2
  refine hZ (fun _ => false) 16 0 _ _ _ _ _ ?_
  simp only [sm_run, sm_blk, sm_get, sm_ent, sm_ents, sm_wds, sm_wd, sm_nl, sm_pop, sm_back, sm_cases, oK, oLK, oL, oI, oA, oJ, oIs, oAs, oJs, oInc, oAdd, oSub, oMul, oDiv, oRem, oNeg, oAnd, oAndB, oOr, oShl, oI2c, oI2l, oL2i, oLand, oLor, oLshl, oLshr, oLushr, oLcmp, oDup, oDup2, oPop, oGo, oFg, oEq, oNe, oLt, oGe, oGt, oLe, oEq0, oNe0, oLt0, oGe0, oGt0, oLe0, oSw, oGi, oGr, oPi, oPz, oPr, oLen, oIl, oZl, oCl, oRl, oIst, oZst, oCst, oRst, oCopy, oNew, oNa, oNa2, oObj, oCs, oCv, oCi, oIr, oZr, oVr, Nat.beq, List.getElem?_cons_zero, List.getElem?_cons_succ, List.set_cons_zero, List.set_cons_succ, List.length_cons, List.length_nil, List.nil_append, List.cons_append, List.append_nil, List.replicate_succ, List.replicate_zero, Nat.reduceAdd, Nat.reduceSub, Nat.reduceLT, Nat.reduceLeDiff, Nat.reduceBEq, true_and, and_true, Nat.zero_add, Nat.add_zero, Nat.le_refl, Option.some.injEq, exists_eq_left', true_or, or_true, or_false, false_or, reduceCtorEq, Prod.mk.injEq, Sum.inl.injEq, and_self, false_and, and_false, not_true_eq_false, not_false_eq_true, false_implies, true_implies, sm_r, Int.add_zero, Int.zero_add, wI_wsI, wS_wsI, wR_wsI, wI_wCp, wS_wCp, wR_wCp, Nat.reduceEqDiff, reduceIte, sT_iff, sT_iffC, wIf_ne, ne_eq, Bool.false_or, Bool.true_or, Bool.or_false, Bool.or_true, Bool.or_self, Nat.left_eq_add, Nat.add_eq_left, Nat.add_left_inj, oMax, oMin, oAbs, tb_X0_goneFrom, p_X0_goneFrom, f_X0_goneFrom, d0, s2, d18, c18, cV]
  repeat' (first | exact True.intro | with_reducible assumption | with_reducible refine And.intro ?_ ?_ | intro _)
  all_goals first
    | omega
    | assumption
    | rfl
    | (split <;> omega)
    | grind [xGone]
    | skip
theorem met_X0_goneFrom (l : Launch) : sm_Met l yX0_goneFrom cX0_goneFrom 3 (some .int) 0 0 0 p_X0_goneFrom f_X0_goneFrom := sm_met 1 (Or.inr (Or.inl ⟨rfl, rfl⟩)) (by decide +kernel) (sn_X0_goneFrom l) ok_X0_goneFrom
theorem xRdy_b {w : sm_W} {d : Nat} (h : xOK w d) {x p : Int} (x0 : 0 ≤ x) (x1 : x < wI w (d + 1) 7) (p0 : 0 ≤ p) (p1 : p < 8) : -6 ≤ xRdy w d x p ∧ xRdy w d x p ≤ 100020 := by
  have hq := lOK_s h.1.2 x0 x1
  have hc := xOK_c h x0 x1 p0 p1
  unfold xRdy
  split <;> omega
theorem xGone_b {w : sm_W} {d : Nat} (h : xOK w d) {x p : Int} (x0 : 0 ≤ x) (x1 : x < wI w (d + 1) 7) (p0 : 0 ≤ p) (p1 : p < 8) : 0 ≤ xGone w d x p ∧ xGone w d x p ≤ 100001 := by
  have hc := xOK_v h x0 x1 p0 p1
  have hl := h.2.2
  unfold xGone
  split <;> omega
def xW1 (w : sm_W) (d : Nat) (x p r : Int) : Int := if xStd w d x p = 0 then r else r + (xGone w d x p - xRdy w d x p)
def xWr (w : sm_W) (d : Nat) (x r : Int) : Int → Int := itI (xW1 w d x) r
def xWm (w : sm_W) (d : Nat) : Int → Int := itI (fun x r => xWr w d x r 8) 0
theorem xWr_b {w : sm_W} {d : Nat} (h : xOK w d) {x r : Int} (x0 : 0 ≤ x) (x1 : x < wI w (d + 1) 7) (n : Int) (n0 : 0 ≤ n) (n1 : n ≤ 8) : r - 200000 * n ≤ xWr w d x r n ∧ xWr w d x r n ≤ r + 200000 * n := by
  refine itI_ind (fun i q => r - 200000 * i ≤ q ∧ q ≤ r + 200000 * i) n ⟨by omega, by omega⟩ (fun i q i0 i1 hr => ?_) n n0 (Int.le_refl _)
  have h1 := xRdy_b h x0 x1 i0 (show i < 8 by omega)
  have h2 := xGone_b h x0 x1 i0 (show i < 8 by omega)
  unfold xW1
  split <;> omega
theorem xWm_b {w : sm_W} {d : Nat} (h : xOK w d) (n : Int) (n0 : 0 ≤ n) (n1 : n ≤ wI w (d + 1) 7) : -1600000 * n ≤ xWm w d n ∧ xWm w d n ≤ 1600000 * n := by
  refine itI_ind (fun i q => -1600000 * i ≤ q ∧ q ≤ 1600000 * i) n ⟨by omega, by omega⟩ (fun i q i0 i1 hr => ?_) n n0 (Int.le_refl _)
  have := xWr_b h (r := q) i0 (show i < wI w (d + 1) 7 by omega) 8 (by decide) (by decide)
  omega
def p_X0_waitedMinutes : List sm_V → sm_W → Prop
  | [.inr (.inl d)], w => xOK w d
  | _, _ => False
def f_X0_waitedMinutes : sm_F
  | [.inr (.inl d)], w => (some (.inl (xWm w d (wI w (d + 1) 7))), w)
  | _, w => (none, w)
def tb_X0_waitedMinutes : List (Nat × List sm_O) := [(0, [oK 0, oIs 1, oK 0, oIs 2, oFg 3, oGo 4]),
  (4, [oI 2, oA 0, oGr 0 11 0, oGi 2 9 7, oGe 60, oK 0, oIs 3, oGo 17]),
  (17, [oI 3, oK 8, oGe 54, oA 0, oI 2, oI 3, oCv 0 11 p_X0_stoodAt f_X0_stoodAt 0 0 3, oEq0 48, oI 1, oA 0, oI 2, oI 3, oCv 0 11 p_X0_goneFrom f_X0_goneFrom 0 0 3, oA 0, oI 2, oI 3, oCv 0 11 p_X0_readyAt f_X0_readyAt 0 0 3, oSub, oAdd, oIs 1, oGo 48]),
  (48, [oInc 3 1, oGo 17]),
  (54, [oInc 2 1, oFg 3, oGo 4]),
  (60, [oI 1, oIr])]
set_option maxRecDepth 100000 in
theorem sb_X0_waitedMinutes_0 (l : Launch) : sm_SndB l RX0 "waitedMinutes" cX0_waitedMinutes 4 1 2 0 [oK 0, oIs 1, oK 0, oIs 2, oFg 3, oGo 4] := sb_cons (sd_iconst (by decide +kernel : decode cX0_waitedMinutes 0 = .ok (.iconst 0, 1)) ⟨by decide, by decide⟩) (sb_cons (sd_istore_n (by decide +kernel : decode cX0_waitedMinutes 1 = .ok (.istore_n 1, 1)) rfl) (sb_cons (sd_iconst (by decide +kernel : decode cX0_waitedMinutes 2 = .ok (.iconst 0, 1)) ⟨by decide, by decide⟩) (sb_cons (sd_istore_n (by decide +kernel : decode cX0_waitedMinutes 3 = .ok (.istore_n 2, 1)) rfl) (sb_cons (sd_fg) (sb_cons (sd_fall (x := 0)) sb_nil)))))
set_option maxRecDepth 100000 in
theorem sb_X0_waitedMinutes_4 (l : Launch) : sm_SndB l RX0 "waitedMinutes" cX0_waitedMinutes 4 1 2 4 [oI 2, oA 0, oGr 0 11 0, oGi 2 9 7, oGe 60, oK 0, oIs 3, oGo 17] := sb_cons (sd_iload_n (by decide +kernel : decode cX0_waitedMinutes 4 = .ok (.iload_n 2, 1)) rfl) (sb_cons (sd_aload_n (by decide +kernel : decode cX0_waitedMinutes 5 = .ok (.aload_n 0, 1)) rfl) (sb_cons (sd_getr (k := 0) kl_0 (by decide) rfl wm_68 (by decide +kernel : decode cX0_waitedMinutes 6 = .ok (.getfield 12, 3))) (sb_cons (sd_geti (k := 7) kl_2 (by decide) rfl wm_59 (by decide +kernel : decode cX0_waitedMinutes 9 = .ok (.getfield 77, 3))) (sb_cons (sd_ge (by decide +kernel : decode cX0_waitedMinutes 12 = .ok (.if_icmp .ge 48, 3)) (by decide)) (sb_cons (sd_iconst (by decide +kernel : decode cX0_waitedMinutes 15 = .ok (.iconst 0, 1)) ⟨by decide, by decide⟩) (sb_cons (sd_istore_n (by decide +kernel : decode cX0_waitedMinutes 16 = .ok (.istore_n 3, 1)) rfl) (sb_cons (sd_fall (x := 0)) sb_nil)))))))
set_option maxRecDepth 100000 in
theorem sb_X0_waitedMinutes_17 (l : Launch) : sm_SndB l RX0 "waitedMinutes" cX0_waitedMinutes 4 1 2 17 [oI 3, oK 8, oGe 54, oA 0, oI 2, oI 3, oCv 0 11 p_X0_stoodAt f_X0_stoodAt 0 0 3, oEq0 48, oI 1, oA 0, oI 2, oI 3, oCv 0 11 p_X0_goneFrom f_X0_goneFrom 0 0 3, oA 0, oI 2, oI 3, oCv 0 11 p_X0_readyAt f_X0_readyAt 0 0 3, oSub, oAdd, oIs 1, oGo 48] := sb_cons (sd_iload_n (by decide +kernel : decode cX0_waitedMinutes 17 = .ok (.iload_n 3, 1)) rfl) (sb_cons (sd_bipush (by decide +kernel : decode cX0_waitedMinutes 18 = .ok (.bipush 8, 2)) ⟨by decide, by decide⟩ (by decide)) (sb_cons (sd_ge (by decide +kernel : decode cX0_waitedMinutes 20 = .ok (.if_icmp .ge 34, 3)) (by decide)) (sb_cons (sd_aload_n (by decide +kernel : decode cX0_waitedMinutes 23 = .ok (.aload_n 0, 1)) rfl) (sb_cons (sd_iload_n (by decide +kernel : decode cX0_waitedMinutes 24 = .ok (.iload_n 2, 1)) rfl) (sb_cons (sd_iload_n (by decide +kernel : decode cX0_waitedMinutes 25 = .ok (.iload_n 3, 1)) rfl) (sb_cons (sd_callv (n := 2) (met_X0_stoodAt l) (by decide) (by decide) wm_370 wm_461 wm_2 ⟨by decide +kernel, by decide +kernel, by decide +kernel⟩ kl_0 wm_368 wm_369 (by decide +kernel : decode cX0_waitedMinutes 26 = .ok (.invokevirtual 150, 3))) (sb_cons (sd_eq0 (by decide +kernel : decode cX0_waitedMinutes 29 = .ok (.ifCond .eq 19, 3)) (by decide)) (sb_cons (sd_iload_n (by decide +kernel : decode cX0_waitedMinutes 32 = .ok (.iload_n 1, 1)) rfl) (sb_cons (sd_aload_n (by decide +kernel : decode cX0_waitedMinutes 33 = .ok (.aload_n 0, 1)) rfl) (sb_cons (sd_iload_n (by decide +kernel : decode cX0_waitedMinutes 34 = .ok (.iload_n 2, 1)) rfl) (sb_cons (sd_iload_n (by decide +kernel : decode cX0_waitedMinutes 35 = .ok (.iload_n 3, 1)) rfl) (sb_cons (sd_callv (n := 2) (met_X0_goneFrom l) (by decide) (by decide) wm_389 wm_462 wm_2 ⟨by decide +kernel, by decide +kernel, by decide +kernel⟩ kl_0 wm_387 wm_388 (by decide +kernel : decode cX0_waitedMinutes 36 = .ok (.invokevirtual 153, 3))) (sb_cons (sd_aload_n (by decide +kernel : decode cX0_waitedMinutes 39 = .ok (.aload_n 0, 1)) rfl) (sb_cons (sd_iload_n (by decide +kernel : decode cX0_waitedMinutes 40 = .ok (.iload_n 2, 1)) rfl) (sb_cons (sd_iload_n (by decide +kernel : decode cX0_waitedMinutes 41 = .ok (.iload_n 3, 1)) rfl) (sb_cons (sd_callv (n := 2) (met_X0_readyAt l) (by decide) (by decide) wm_384 wm_463 wm_2 ⟨by decide +kernel, by decide +kernel, by decide +kernel⟩ kl_0 wm_382 wm_383 (by decide +kernel : decode cX0_waitedMinutes 42 = .ok (.invokevirtual 156, 3))) (sb_cons (sd_isub (by decide +kernel : decode cX0_waitedMinutes 45 = .ok (.isub, 1))) (sb_cons (sd_iadd (by decide +kernel : decode cX0_waitedMinutes 46 = .ok (.iadd, 1))) (sb_cons (sd_istore_n (by decide +kernel : decode cX0_waitedMinutes 47 = .ok (.istore_n 1, 1)) rfl) (sb_cons (sd_fall (x := 0)) sb_nil))))))))))))))))))))
set_option maxRecDepth 100000 in
theorem sb_X0_waitedMinutes_48 (l : Launch) : sm_SndB l RX0 "waitedMinutes" cX0_waitedMinutes 4 1 2 48 [oInc 3 1, oGo 17] := sb_cons (sd_iinc (by decide +kernel : decode cX0_waitedMinutes 48 = .ok (.iinc 3 1, 3))) (sb_cons (sd_goto (x := 0) (by decide +kernel : decode cX0_waitedMinutes 51 = .ok (.goto (-34), 3)) (by decide)) sb_nil)
set_option maxRecDepth 100000 in
theorem sb_X0_waitedMinutes_54 (l : Launch) : sm_SndB l RX0 "waitedMinutes" cX0_waitedMinutes 4 1 2 54 [oInc 2 1, oFg 3, oGo 4] := sb_cons (sd_iinc (by decide +kernel : decode cX0_waitedMinutes 54 = .ok (.iinc 2 1, 3))) (sb_cons (sd_fg) (sb_cons (sd_goto (x := 0) (by decide +kernel : decode cX0_waitedMinutes 57 = .ok (.goto (-53), 3)) (by decide)) sb_nil))
set_option maxRecDepth 100000 in
theorem sb_X0_waitedMinutes_60 (l : Launch) : sm_SndB l RX0 "waitedMinutes" cX0_waitedMinutes 4 1 2 60 [oI 1, oIr] := sb_cons (sd_iload_n (by decide +kernel : decode cX0_waitedMinutes 60 = .ok (.iload_n 1, 1)) rfl) (sb_cons (sd_ireturn (x := 0) rfl (by decide +kernel : decode cX0_waitedMinutes 61 = .ok (.ireturn, 1))) sb_nil)
theorem sn_X0_waitedMinutes (l : Launch) : sm_SndT l RX0 "waitedMinutes" cX0_waitedMinutes 4 1 2 tb_X0_waitedMinutes := st_cons (sb_X0_waitedMinutes_0 l) (st_cons (sb_X0_waitedMinutes_4 l) (st_cons (sb_X0_waitedMinutes_17 l) (st_cons (sb_X0_waitedMinutes_48 l) (st_cons (sb_X0_waitedMinutes_54 l) (st_cons (sb_X0_waitedMinutes_60 l) (st_nil))))))
set_option maxRecDepth 100000 in
set_option maxHeartbeats 4000000 in
theorem ok_X0_waitedMinutes : sm_Ok tb_X0_waitedMinutes 4 0 0 p_X0_waitedMinutes f_X0_waitedMinutes := by
  intro as w hp ha hw
  match as, hp with
  | [.inr (.inl d)], hp =>
  refine ⟨Nat.le_of_ble_eq_true rfl, fun Z hZ => ?_⟩
  have hX := hp
  have hD := hX.1
  have hn := dOK_n hD
  obtain ⟨d0, d9, d18, d27, d28, d29, d30, d31, d32, s0, s1, s2, s5, s6, s7, s8, s9, s10⟩ := dS hD.2.1 hD.1
  obtain ⟨l0, l1, l2, l3, l4, l5, l6, l7, r0, r1, r2, r3, r4, r5, r6⟩ := lS hD.2.1 (dL hD.1)
  have hl := sm_loopI Z 4 0 (wI w (d + 1) 7) (fun i => [some (.inr (.inl d)), some (.inl (xWm w d i)), some (.inl i), none]) (fun _ => w) 0 0 hn.1 (fun i h0 h1 ih => by
    have hb := xWm_b hX i h0 h1
    have hu : xWm w d (i + 1) = xWr w d i (xWm w d i) 8 := itI_s _ _ h0
    have he : i = wI w (d + 1) 7 → xWm w d i = xWm w d (wI w (d + 1) 7) := fun e => by rw [e]
    rw [hu] at ih
    generalize hE : xWm w d (wI w (d + 1) 7) = E at *
    generalize xWm w d i = q at *
    have hl2 : i < wI w (d + 1) 7 → Z 17 [some (.inr (.inl d)), some (.inl q), some (.inl i), some (.inl 0)] [] w 0 0 := fun hlt => sm_loopI Z 17 0 8 (fun j => [some (.inr (.inl d)), some (.inl (xWr w d i q j)), some (.inl i), some (.inl j)]) (fun _ => w) 0 0 (by decide) (fun j g0 g1 ih2 => by
      have hwb := xWr_b (r := q) hX h0 hlt j g0 g1
      have hv : xWr w d i q (j + 1) = xW1 w d i j (xWr w d i q j) := itI_s _ _ g0
      have h01 := xStd_01 w d i j
      rw [hv] at ih2
      have ih : j = 8 → Z 4 [some (.inr (.inl d)), some (.inl (xWr w d i q j)), some (.inl (i + 1)), none] [] w 0 0 := fun e => by rw [e]; exact ih hlt
      generalize xWr w d i q j = y at *
      unfold xW1 at ih2
      by_cases e : j = 8
      · have ih := ih e
        clear ih2
        refine hZ (fun u => Nat.beq u 4 || Nat.beq u 17) 14 17 _ _ _ _ _ ?_
        simp only [sm_run, sm_blk, sm_get, sm_ent, sm_ents, sm_wds, sm_wd, sm_nl, sm_pop, sm_back, sm_cases, oK, oLK, oL, oI, oA, oJ, oIs, oAs, oJs, oInc, oAdd, oSub, oMul, oDiv, oRem, oNeg, oAnd, oAndB, oOr, oShl, oI2c, oI2l, oL2i, oLand, oLor, oLshl, oLshr, oLushr, oLcmp, oDup, oDup2, oPop, oGo, oFg, oEq, oNe, oLt, oGe, oGt, oLe, oEq0, oNe0, oLt0, oGe0, oGt0, oLe0, oSw, oGi, oGr, oPi, oPz, oPr, oLen, oIl, oZl, oCl, oRl, oIst, oZst, oCst, oRst, oCopy, oNew, oNa, oNa2, oObj, oCs, oCv, oCi, oIr, oZr, oVr, Nat.beq, List.getElem?_cons_zero, List.getElem?_cons_succ, List.set_cons_zero, List.set_cons_succ, List.length_cons, List.length_nil, List.nil_append, List.cons_append, List.append_nil, List.replicate_succ, List.replicate_zero, Nat.reduceAdd, Nat.reduceSub, Nat.reduceLT, Nat.reduceLeDiff, Nat.reduceBEq, true_and, and_true, Nat.zero_add, Nat.add_zero, Nat.le_refl, Option.some.injEq, exists_eq_left', true_or, or_true, or_false, false_or, reduceCtorEq, Prod.mk.injEq, Sum.inl.injEq, and_self, false_and, and_false, not_true_eq_false, not_false_eq_true, false_implies, true_implies, sm_r, Int.add_zero, Int.zero_add, wI_wsI, wS_wsI, wR_wsI, wI_wCp, wS_wCp, wR_wCp, Nat.reduceEqDiff, reduceIte, sT_iff, sT_iffC, wIf_ne, ne_eq, Bool.false_or, Bool.true_or, Bool.or_false, Bool.or_true, Bool.or_self, Nat.left_eq_add, Nat.add_eq_left, Nat.add_left_inj, oMax, oMin, oAbs, tb_X0_waitedMinutes, p_X0_goneFrom, p_X0_readyAt, p_X0_stoodAt, f_X0_goneFrom, f_X0_readyAt, f_X0_stoodAt, p_X0_waitedMinutes, f_X0_waitedMinutes]
        repeat' (first | exact True.intro | with_reducible assumption | with_reducible refine And.intro ?_ ?_ | intro _)
        all_goals first
          | omega
          | assumption
          | rfl
          | (split <;> omega)
          | (have k9 := ih (by omega)
             (repeat' split at k9) <;> first | exact k9 | omega)
          | (have k9 := ih2 (by omega)
             (repeat' split at k9) <;> first | exact k9 | omega)
          | exact he (by omega)
          | ((with_reducible congr 1) <;> omega)
          | (rw [if_pos (by omega)] at he; exact he)
          | exact hD1 (by omega)
          | exact hD2 (by omega)
          | skip
      · have ih2 := ih2 (by omega)
        have b1 := xRdy_b hX h0 hlt g0 (show j < 8 by omega)
        have b2 := xGone_b hX h0 hlt g0 (show j < 8 by omega)
        clear ih
        by_cases c : xStd w d i j = 0
        · rw [if_pos c] at ih2
          refine hZ (fun u => Nat.beq u 4 || Nat.beq u 17) 14 17 _ _ _ _ _ ?_
          simp only [sm_run, sm_blk, sm_get, sm_ent, sm_ents, sm_wds, sm_wd, sm_nl, sm_pop, sm_back, sm_cases, oK, oLK, oL, oI, oA, oJ, oIs, oAs, oJs, oInc, oAdd, oSub, oMul, oDiv, oRem, oNeg, oAnd, oAndB, oOr, oShl, oI2c, oI2l, oL2i, oLand, oLor, oLshl, oLshr, oLushr, oLcmp, oDup, oDup2, oPop, oGo, oFg, oEq, oNe, oLt, oGe, oGt, oLe, oEq0, oNe0, oLt0, oGe0, oGt0, oLe0, oSw, oGi, oGr, oPi, oPz, oPr, oLen, oIl, oZl, oCl, oRl, oIst, oZst, oCst, oRst, oCopy, oNew, oNa, oNa2, oObj, oCs, oCv, oCi, oIr, oZr, oVr, Nat.beq, List.getElem?_cons_zero, List.getElem?_cons_succ, List.set_cons_zero, List.set_cons_succ, List.length_cons, List.length_nil, List.nil_append, List.cons_append, List.append_nil, List.replicate_succ, List.replicate_zero, Nat.reduceAdd, Nat.reduceSub, Nat.reduceLT, Nat.reduceLeDiff, Nat.reduceBEq, true_and, and_true, Nat.zero_add, Nat.add_zero, Nat.le_refl, Option.some.injEq, exists_eq_left', true_or, or_true, or_false, false_or, reduceCtorEq, Prod.mk.injEq, Sum.inl.injEq, and_self, false_and, and_false, not_true_eq_false, not_false_eq_true, false_implies, true_implies, sm_r, Int.add_zero, Int.zero_add, wI_wsI, wS_wsI, wR_wsI, wI_wCp, wS_wCp, wR_wCp, Nat.reduceEqDiff, reduceIte, sT_iff, sT_iffC, wIf_ne, ne_eq, Bool.false_or, Bool.true_or, Bool.or_false, Bool.or_true, Bool.or_self, Nat.left_eq_add, Nat.add_eq_left, Nat.add_left_inj, oMax, oMin, oAbs, tb_X0_waitedMinutes, p_X0_goneFrom, p_X0_readyAt, p_X0_stoodAt, f_X0_goneFrom, f_X0_readyAt, f_X0_stoodAt, p_X0_waitedMinutes, f_X0_waitedMinutes, d0, hD, hX, c]
          repeat' (first | exact True.intro | with_reducible assumption | with_reducible refine And.intro ?_ ?_ | intro _)
          all_goals first
            | omega
            | assumption
            | rfl
            | (split <;> omega)
            | (have k9 := ih (by omega)
               (repeat' split at k9) <;> first | exact k9 | omega)
            | (have k9 := ih2 (by omega)
               (repeat' split at k9) <;> first | exact k9 | omega)
            | exact he (by omega)
            | ((with_reducible congr 1) <;> omega)
            | (rw [if_pos (by omega)] at he; exact he)
            | exact hD1 (by omega)
            | exact hD2 (by omega)
            | grind
            | skip
        · rw [if_neg c] at ih2
          have c1 : xStd w d i j = 1 := by omega
          refine hZ (fun u => Nat.beq u 4 || Nat.beq u 17) 14 17 _ _ _ _ _ ?_
          simp only [sm_run, sm_blk, sm_get, sm_ent, sm_ents, sm_wds, sm_wd, sm_nl, sm_pop, sm_back, sm_cases, oK, oLK, oL, oI, oA, oJ, oIs, oAs, oJs, oInc, oAdd, oSub, oMul, oDiv, oRem, oNeg, oAnd, oAndB, oOr, oShl, oI2c, oI2l, oL2i, oLand, oLor, oLshl, oLshr, oLushr, oLcmp, oDup, oDup2, oPop, oGo, oFg, oEq, oNe, oLt, oGe, oGt, oLe, oEq0, oNe0, oLt0, oGe0, oGt0, oLe0, oSw, oGi, oGr, oPi, oPz, oPr, oLen, oIl, oZl, oCl, oRl, oIst, oZst, oCst, oRst, oCopy, oNew, oNa, oNa2, oObj, oCs, oCv, oCi, oIr, oZr, oVr, Nat.beq, List.getElem?_cons_zero, List.getElem?_cons_succ, List.set_cons_zero, List.set_cons_succ, List.length_cons, List.length_nil, List.nil_append, List.cons_append, List.append_nil, List.replicate_succ, List.replicate_zero, Nat.reduceAdd, Nat.reduceSub, Nat.reduceLT, Nat.reduceLeDiff, Nat.reduceBEq, true_and, and_true, Nat.zero_add, Nat.add_zero, Nat.le_refl, Option.some.injEq, exists_eq_left', true_or, or_true, or_false, false_or, reduceCtorEq, Prod.mk.injEq, Sum.inl.injEq, and_self, false_and, and_false, not_true_eq_false, not_false_eq_true, false_implies, true_implies, sm_r, Int.add_zero, Int.zero_add, wI_wsI, wS_wsI, wR_wsI, wI_wCp, wS_wCp, wR_wCp, Nat.reduceEqDiff, reduceIte, sT_iff, sT_iffC, wIf_ne, ne_eq, Bool.false_or, Bool.true_or, Bool.or_false, Bool.or_true, Bool.or_self, Nat.left_eq_add, Nat.add_eq_left, Nat.add_left_inj, oMax, oMin, oAbs, tb_X0_waitedMinutes, p_X0_goneFrom, p_X0_readyAt, p_X0_stoodAt, f_X0_goneFrom, f_X0_readyAt, f_X0_stoodAt, p_X0_waitedMinutes, f_X0_waitedMinutes, d0, hD, hX, c1]
          repeat' (first | exact True.intro | with_reducible assumption | with_reducible refine And.intro ?_ ?_ | intro _)
          all_goals first
            | omega
            | assumption
            | rfl
            | (split <;> omega)
            | (have k9 := ih (by omega)
               (repeat' split at k9) <;> first | exact k9 | omega)
            | (have k9 := ih2 (by omega)
               (repeat' split at k9) <;> first | exact k9 | omega)
            | exact he (by omega)
            | ((with_reducible congr 1) <;> omega)
            | (rw [if_pos (by omega)] at he; exact he)
            | exact hD1 (by omega)
            | exact hD2 (by omega)
            | grind
            | skip
      )
    clear ih
    refine hZ (fun u => Nat.beq u 4 || Nat.beq u 17) 14 4 _ _ _ _ _ ?_
    simp only [sm_run, sm_blk, sm_get, sm_ent, sm_ents, sm_wds, sm_wd, sm_nl, sm_pop, sm_back, sm_cases, oK, oLK, oL, oI, oA, oJ, oIs, oAs, oJs, oInc, oAdd, oSub, oMul, oDiv, oRem, oNeg, oAnd, oAndB, oOr, oShl, oI2c, oI2l, oL2i, oLand, oLor, oLshl, oLshr, oLushr, oLcmp, oDup, oDup2, oPop, oGo, oFg, oEq, oNe, oLt, oGe, oGt, oLe, oEq0, oNe0, oLt0, oGe0, oGt0, oLe0, oSw, oGi, oGr, oPi, oPz, oPr, oLen, oIl, oZl, oCl, oRl, oIst, oZst, oCst, oRst, oCopy, oNew, oNa, oNa2, oObj, oCs, oCv, oCi, oIr, oZr, oVr, Nat.beq, List.getElem?_cons_zero, List.getElem?_cons_succ, List.set_cons_zero, List.set_cons_succ, List.length_cons, List.length_nil, List.nil_append, List.cons_append, List.append_nil, List.replicate_succ, List.replicate_zero, Nat.reduceAdd, Nat.reduceSub, Nat.reduceLT, Nat.reduceLeDiff, Nat.reduceBEq, true_and, and_true, Nat.zero_add, Nat.add_zero, Nat.le_refl, Option.some.injEq, exists_eq_left', true_or, or_true, or_false, false_or, reduceCtorEq, Prod.mk.injEq, Sum.inl.injEq, and_self, false_and, and_false, not_true_eq_false, not_false_eq_true, false_implies, true_implies, sm_r, Int.add_zero, Int.zero_add, wI_wsI, wS_wsI, wR_wsI, wI_wCp, wS_wCp, wR_wCp, Nat.reduceEqDiff, reduceIte, sT_iff, sT_iffC, wIf_ne, ne_eq, Bool.false_or, Bool.true_or, Bool.or_false, Bool.or_true, Bool.or_self, Nat.left_eq_add, Nat.add_eq_left, Nat.add_left_inj, oMax, oMin, oAbs, tb_X0_waitedMinutes, p_X0_goneFrom, p_X0_readyAt, p_X0_stoodAt, f_X0_goneFrom, f_X0_readyAt, f_X0_stoodAt, p_X0_waitedMinutes, f_X0_waitedMinutes, d0, s0, l0, hE]
    repeat' (first | exact True.intro | with_reducible assumption | with_reducible refine And.intro ?_ ?_ | intro _)
    all_goals first
      | omega
      | assumption
      | rfl
      | (split <;> omega)
      | (have k9 := ih (by omega)
         (repeat' split at k9) <;> first | exact k9 | omega)
      | (have k9 := ih2 (by omega)
         (repeat' split at k9) <;> first | exact k9 | omega)
      | exact he (by omega)
      | ((with_reducible congr 1) <;> omega)
      | (rw [if_pos (by omega)] at he; exact he)
      | exact hD1 (by omega)
      | exact hD2 (by omega)
      | grind
      | skip
    )
  refine hZ (fun u => Nat.beq u 4) 14 0 _ _ _ _ _ ?_
  simp only [sm_run, sm_blk, sm_get, sm_ent, sm_ents, sm_wds, sm_wd, sm_nl, sm_pop, sm_back, sm_cases, oK, oLK, oL, oI, oA, oJ, oIs, oAs, oJs, oInc, oAdd, oSub, oMul, oDiv, oRem, oNeg, oAnd, oAndB, oOr, oShl, oI2c, oI2l, oL2i, oLand, oLor, oLshl, oLshr, oLushr, oLcmp, oDup, oDup2, oPop, oGo, oFg, oEq, oNe, oLt, oGe, oGt, oLe, oEq0, oNe0, oLt0, oGe0, oGt0, oLe0, oSw, oGi, oGr, oPi, oPz, oPr, oLen, oIl, oZl, oCl, oRl, oIst, oZst, oCst, oRst, oCopy, oNew, oNa, oNa2, oObj, oCs, oCv, oCi, oIr, oZr, oVr, Nat.beq, List.getElem?_cons_zero, List.getElem?_cons_succ, List.set_cons_zero, List.set_cons_succ, List.length_cons, List.length_nil, List.nil_append, List.cons_append, List.append_nil, List.replicate_succ, List.replicate_zero, Nat.reduceAdd, Nat.reduceSub, Nat.reduceLT, Nat.reduceLeDiff, Nat.reduceBEq, true_and, and_true, Nat.zero_add, Nat.add_zero, Nat.le_refl, Option.some.injEq, exists_eq_left', true_or, or_true, or_false, false_or, reduceCtorEq, Prod.mk.injEq, Sum.inl.injEq, and_self, false_and, and_false, not_true_eq_false, not_false_eq_true, false_implies, true_implies, sm_r, Int.add_zero, Int.zero_add, wI_wsI, wS_wsI, wR_wsI, wI_wCp, wS_wCp, wR_wCp, Nat.reduceEqDiff, reduceIte, sT_iff, sT_iffC, wIf_ne, ne_eq, Bool.false_or, Bool.true_or, Bool.or_false, Bool.or_true, Bool.or_self, Nat.left_eq_add, Nat.add_eq_left, Nat.add_left_inj, oMax, oMin, oAbs, tb_X0_waitedMinutes, p_X0_goneFrom, p_X0_readyAt, p_X0_stoodAt, f_X0_goneFrom, f_X0_readyAt, f_X0_stoodAt, p_X0_waitedMinutes, f_X0_waitedMinutes]
  repeat' (first | exact True.intro | with_reducible assumption | with_reducible refine And.intro ?_ ?_ | intro _)
  all_goals first
    | omega
    | assumption
    | rfl
    | (split <;> omega)
    | (have k9 := ih (by omega)
       (repeat' split at k9) <;> first | exact k9 | omega)
    | (have k9 := ih2 (by omega)
       (repeat' split at k9) <;> first | exact k9 | omega)
    | exact he (by omega)
    | ((with_reducible congr 1) <;> omega)
    | (rw [if_pos (by omega)] at he; exact he)
    | exact hD1 (by omega)
    | exact hD2 (by omega)
    | skip
theorem met_X0_waitedMinutes (l : Launch) : sm_Met l yX0_waitedMinutes cX0_waitedMinutes 4 (some .int) 2 0 0 p_X0_waitedMinutes f_X0_waitedMinutes := sm_met 1 (Or.inr (Or.inl ⟨rfl, rfl⟩)) (by decide +kernel) (sn_X0_waitedMinutes l) ok_X0_waitedMinutes
def xFor (w : sm_W) (d : Nat) (x y : Int) : Int := if mWay (vL w (d + 1)) x = mWay (vL w (d + 1)) y then 2 else 1
def p_X0_reasonFor : List sm_V → sm_W → Prop
  | [.inr (.inl d), .inl x, .inl y], w => dOK w d ∧ 0 ≤ x ∧ x < 8 ∧ 0 ≤ y ∧ y < 8
  | _, _ => False
def f_X0_reasonFor : sm_F
  | [.inr (.inl d), .inl x, .inl y], w => (some (.inl (xFor w d x y)), w)
  | _, w => (none, w)
def tb_X0_reasonFor : List (Nat × List sm_O) := [(0, [oA 0, oGr 0 11 0, oI 1, oCv 2 9 p_X2_goesUp f_X2_goesUp 0 0 2, oA 0, oGr 0 11 0, oI 2, oCv 2 9 p_X2_goesUp f_X2_goesUp 0 0 2, oNe 23, oK 2, oGo 24]),
  (23, [oK 1, oGo 24]),
  (24, [oIr])]
set_option maxRecDepth 100000 in
theorem sb_X0_reasonFor_0 (l : Launch) : sm_SndB l RX0 "reasonFor" cX0_reasonFor 3 1 1 0 [oA 0, oGr 0 11 0, oI 1, oCv 2 9 p_X2_goesUp f_X2_goesUp 0 0 2, oA 0, oGr 0 11 0, oI 2, oCv 2 9 p_X2_goesUp f_X2_goesUp 0 0 2, oNe 23, oK 2, oGo 24] := sb_cons (sd_aload_n (by decide +kernel : decode cX0_reasonFor 0 = .ok (.aload_n 0, 1)) rfl) (sb_cons (sd_getr (k := 0) kl_0 (by decide) rfl wm_68 (by decide +kernel : decode cX0_reasonFor 1 = .ok (.getfield 12, 3))) (sb_cons (sd_iload_n (by decide +kernel : decode cX0_reasonFor 4 = .ok (.iload_n 1, 1)) rfl) (sb_cons (sd_callv (n := 1) (met_X2_goesUp l) (by decide) (by decide) wm_311 wm_397 wm_3 ⟨by decide +kernel, by decide +kernel, by decide +kernel⟩ kl_2 wm_309 wm_310 (by decide +kernel : decode cX0_reasonFor 5 = .ok (.invokevirtual 172, 3))) (sb_cons (sd_aload_n (by decide +kernel : decode cX0_reasonFor 8 = .ok (.aload_n 0, 1)) rfl) (sb_cons (sd_getr (k := 0) kl_0 (by decide) rfl wm_68 (by decide +kernel : decode cX0_reasonFor 9 = .ok (.getfield 12, 3))) (sb_cons (sd_iload_n (by decide +kernel : decode cX0_reasonFor 12 = .ok (.iload_n 2, 1)) rfl) (sb_cons (sd_callv (n := 1) (met_X2_goesUp l) (by decide) (by decide) wm_311 wm_397 wm_3 ⟨by decide +kernel, by decide +kernel, by decide +kernel⟩ kl_2 wm_309 wm_310 (by decide +kernel : decode cX0_reasonFor 13 = .ok (.invokevirtual 172, 3))) (sb_cons (sd_ne (by decide +kernel : decode cX0_reasonFor 16 = .ok (.if_icmp .ne 7, 3)) (by decide)) (sb_cons (sd_iconst (by decide +kernel : decode cX0_reasonFor 19 = .ok (.iconst 2, 1)) ⟨by decide, by decide⟩) (sb_cons (sd_goto (x := 0) (by decide +kernel : decode cX0_reasonFor 20 = .ok (.goto 4, 3)) (by decide)) sb_nil))))))))))
set_option maxRecDepth 100000 in
theorem sb_X0_reasonFor_23 (l : Launch) : sm_SndB l RX0 "reasonFor" cX0_reasonFor 3 1 1 23 [oK 1, oGo 24] := sb_cons (sd_iconst (by decide +kernel : decode cX0_reasonFor 23 = .ok (.iconst 1, 1)) ⟨by decide, by decide⟩) (sb_cons (sd_fall (x := 0)) sb_nil)
set_option maxRecDepth 100000 in
theorem sb_X0_reasonFor_24 (l : Launch) : sm_SndB l RX0 "reasonFor" cX0_reasonFor 3 1 1 24 [oIr] := sb_cons (sd_ireturn (x := 0) rfl (by decide +kernel : decode cX0_reasonFor 24 = .ok (.ireturn, 1))) sb_nil
theorem sn_X0_reasonFor (l : Launch) : sm_SndT l RX0 "reasonFor" cX0_reasonFor 3 1 1 tb_X0_reasonFor := st_cons (sb_X0_reasonFor_0 l) (st_cons (sb_X0_reasonFor_23 l) (st_cons (sb_X0_reasonFor_24 l) (st_nil)))
set_option maxRecDepth 100000 in
set_option maxHeartbeats 4000000 in
theorem ok_X0_reasonFor : sm_Ok tb_X0_reasonFor 3 0 0 p_X0_reasonFor f_X0_reasonFor := by
  intro as w hp ha hw
  match as, hp with
  | [.inr (.inl d), .inl x, .inl y], hp =>
  refine ⟨Nat.le_of_ble_eq_true rfl, fun Z hZ => ?_⟩
  obtain ⟨hD, x0, x1, y0, y1⟩ := hp
  obtain ⟨d0, d9, d18, d27, d28, d29, d30, d31, d32, s0, s1, s2, s5, s6, s7, s8, s9, s10⟩ := dS hD.2.1 hD.1
  obtain ⟨l0, l1, l2, l3, l4, l5, l6, l7, r0, r1, r2, r3, r4, r5, r6⟩ := lS hD.2.1 (dL hD.1)
  have hT := hD.2.1
  have hL := hD.2.2.1
  have h1 := lWay (w := w) (a := d + 1) x0
  have h2 := lWay (w := w) (a := d + 1) y0
  refine hZ (fun _ => false) 16 0 _ _ _ _ _ ?_
  simp only [sm_run, sm_blk, sm_get, sm_ent, sm_ents, sm_wds, sm_wd, sm_nl, sm_pop, sm_back, sm_cases, oK, oLK, oL, oI, oA, oJ, oIs, oAs, oJs, oInc, oAdd, oSub, oMul, oDiv, oRem, oNeg, oAnd, oAndB, oOr, oShl, oI2c, oI2l, oL2i, oLand, oLor, oLshl, oLshr, oLushr, oLcmp, oDup, oDup2, oPop, oGo, oFg, oEq, oNe, oLt, oGe, oGt, oLe, oEq0, oNe0, oLt0, oGe0, oGt0, oLe0, oSw, oGi, oGr, oPi, oPz, oPr, oLen, oIl, oZl, oCl, oRl, oIst, oZst, oCst, oRst, oCopy, oNew, oNa, oNa2, oObj, oCs, oCv, oCi, oIr, oZr, oVr, Nat.beq, List.getElem?_cons_zero, List.getElem?_cons_succ, List.set_cons_zero, List.set_cons_succ, List.length_cons, List.length_nil, List.nil_append, List.cons_append, List.append_nil, List.replicate_succ, List.replicate_zero, Nat.reduceAdd, Nat.reduceSub, Nat.reduceLT, Nat.reduceLeDiff, Nat.reduceBEq, true_and, and_true, Nat.zero_add, Nat.add_zero, Nat.le_refl, Option.some.injEq, exists_eq_left', true_or, or_true, or_false, false_or, reduceCtorEq, Prod.mk.injEq, Sum.inl.injEq, and_self, false_and, and_false, not_true_eq_false, not_false_eq_true, false_implies, true_implies, sm_r, Int.add_zero, Int.zero_add, wI_wsI, wS_wsI, wR_wsI, wI_wCp, wS_wCp, wR_wCp, Nat.reduceEqDiff, reduceIte, sT_iff, sT_iffC, wIf_ne, ne_eq, Bool.false_or, Bool.true_or, Bool.or_false, Bool.or_true, Bool.or_self, Nat.left_eq_add, Nat.add_eq_left, Nat.add_left_inj, oMax, oMin, oAbs, tb_X0_reasonFor, p_X2_goesUp, f_X2_goesUp, p_X0_reasonFor, f_X0_reasonFor, d0, s0, l0, hT, hL]
  repeat' (first | exact True.intro | with_reducible assumption | with_reducible refine And.intro ?_ ?_ | intro _)
  all_goals first
    | omega
    | assumption
    | rfl
    | (split <;> omega)
    | grind [xFor]
    | skip
theorem met_X0_reasonFor (l : Launch) : sm_Met l yX0_reasonFor cX0_reasonFor 3 (some .int) 1 0 0 p_X0_reasonFor f_X0_reasonFor := sm_met 1 (Or.inr (Or.inl ⟨rfl, rfl⟩)) (by decide +kernel) (sn_X0_reasonFor l) ok_X0_reasonFor
def xMnA (m r fr ah : Int) : Int := (if ah < m + r then ah else m + r) - (if m < fr then fr else m)
def xMn (w : sm_W) (d : Nat) (y s fr ah : Int) : Int := if wI w (dV d y) (if 0 < mWay (vL w (d + 1)) y then s else s + 1) < 0 then 0 else (if xMnA (wI w (dV d y) (if 0 < mWay (vL w (d + 1)) y then s else s + 1)) (wI w (d + 1 + 2) s) fr ah < 0 then 0 else xMnA (wI w (dV d y) (if 0 < mWay (vL w (d + 1)) y then s else s + 1)) (wI w (d + 1 + 2) s) fr ah)
theorem xMn_b {w : sm_W} {d : Nat} (h : xOK w d) {y s fr ah : Int} (y0 : 0 ≤ y) (y1 : y < wI w (d + 1) 7) (s0 : 0 ≤ s) (s1 : s < 7) : 0 ≤ xMn w d y s fr ah ∧ xMn w d y s fr ah ≤ 30 := by
  have hr := lOK_r h.1.2 (k := s) s0 s1
  unfold xMn xMnA
  generalize wI w (dV d y) (if 0 < mWay (vL w (d + 1)) y then s else s + 1) = m
  split
  · omega
  · split
    · omega
    · refine ⟨by omega, ?_⟩
      split <;> split <;> omega
def p_X0_minutesOn : List sm_V → sm_W → Prop
  | [.inr (.inl d), .inl y, .inl s, .inl fr, .inl ah], w => xOK w d ∧ 0 ≤ y ∧ y < wI w (d + 1) 7 ∧ 0 ≤ s ∧ s < 7 ∧ (-1000000 ≤ fr ∧ fr ≤ 1000000) ∧ (-1000000 ≤ ah ∧ ah ≤ 1000000)
  | _, _ => False
def f_X0_minutesOn : sm_F
  | [.inr (.inl d), .inl y, .inl s, .inl fr, .inl ah], w => (some (.inl (xMn w d y s fr ah)), w)
  | _, w => (none, w)
def tb_X0_minutesOn : List (Nat × List sm_O) := [(0, [oA 0, oGr 0 11 0, oI 1, oCv 2 9 p_X2_goesUp f_X2_goesUp 0 0 2, oEq0 15, oI 2, oGo 18]),
  (15, [oI 2, oK 1, oAdd, oGo 18]),
  (18, [oIs 5, oA 0, oGr 0 11 2, oI 1, oRl, oI 5, oIl, oIs 6, oI 6, oGe0 38, oK 0, oIr]),
  (38, [oI 6, oA 0, oGr 0 11 0, oGr 2 9 1, oI 2, oIl, oAdd, oIs 7, oI 7, oI 4, oMin, oI 6, oI 3, oMax, oSub, oK 0, oMax, oIr])]
set_option maxRecDepth 100000 in
theorem sb_X0_minutesOn_0 (l : Launch) : sm_SndB l RX0 "minutesOn" cX0_minutesOn 8 1 1 0 [oA 0, oGr 0 11 0, oI 1, oCv 2 9 p_X2_goesUp f_X2_goesUp 0 0 2, oEq0 15, oI 2, oGo 18] := sb_cons (sd_aload_n (by decide +kernel : decode cX0_minutesOn 0 = .ok (.aload_n 0, 1)) rfl) (sb_cons (sd_getr (k := 0) kl_0 (by decide) rfl wm_68 (by decide +kernel : decode cX0_minutesOn 1 = .ok (.getfield 12, 3))) (sb_cons (sd_iload_n (by decide +kernel : decode cX0_minutesOn 4 = .ok (.iload_n 1, 1)) rfl) (sb_cons (sd_callv (n := 1) (met_X2_goesUp l) (by decide) (by decide) wm_311 wm_397 wm_3 ⟨by decide +kernel, by decide +kernel, by decide +kernel⟩ kl_2 wm_309 wm_310 (by decide +kernel : decode cX0_minutesOn 5 = .ok (.invokevirtual 172, 3))) (sb_cons (sd_eq0 (by decide +kernel : decode cX0_minutesOn 8 = .ok (.ifCond .eq 7, 3)) (by decide)) (sb_cons (sd_iload_n (by decide +kernel : decode cX0_minutesOn 11 = .ok (.iload_n 2, 1)) rfl) (sb_cons (sd_goto (x := 0) (by decide +kernel : decode cX0_minutesOn 12 = .ok (.goto 6, 3)) (by decide)) sb_nil))))))
set_option maxRecDepth 100000 in
theorem sb_X0_minutesOn_15 (l : Launch) : sm_SndB l RX0 "minutesOn" cX0_minutesOn 8 1 1 15 [oI 2, oK 1, oAdd, oGo 18] := sb_cons (sd_iload_n (by decide +kernel : decode cX0_minutesOn 15 = .ok (.iload_n 2, 1)) rfl) (sb_cons (sd_iconst (by decide +kernel : decode cX0_minutesOn 16 = .ok (.iconst 1, 1)) ⟨by decide, by decide⟩) (sb_cons (sd_iadd (by decide +kernel : decode cX0_minutesOn 17 = .ok (.iadd, 1))) (sb_cons (sd_fall (x := 0)) sb_nil)))
set_option maxRecDepth 100000 in
theorem sb_X0_minutesOn_18 (l : Launch) : sm_SndB l RX0 "minutesOn" cX0_minutesOn 8 1 1 18 [oIs 5, oA 0, oGr 0 11 2, oI 1, oRl, oI 5, oIl, oIs 6, oI 6, oGe0 38, oK 0, oIr] := sb_cons (sd_istore (by decide +kernel : decode cX0_minutesOn 18 = .ok (.istore 5, 2))) (sb_cons (sd_aload_n (by decide +kernel : decode cX0_minutesOn 20 = .ok (.aload_n 0, 1)) rfl) (sb_cons (sd_getr (k := 2) kl_0 (by decide) rfl wm_76 (by decide +kernel : decode cX0_minutesOn 21 = .ok (.getfield 23, 3))) (sb_cons (sd_iload_n (by decide +kernel : decode cX0_minutesOn 24 = .ok (.iload_n 1, 1)) rfl) (sb_cons (sd_aaload (by decide +kernel : decode cX0_minutesOn 25 = .ok (.aaload, 1))) (sb_cons (sd_iload (by decide +kernel : decode cX0_minutesOn 26 = .ok (.iload 5, 2))) (sb_cons (sd_iaload (by decide +kernel : decode cX0_minutesOn 28 = .ok (.iaload, 1))) (sb_cons (sd_istore (by decide +kernel : decode cX0_minutesOn 29 = .ok (.istore 6, 2))) (sb_cons (sd_iload (by decide +kernel : decode cX0_minutesOn 31 = .ok (.iload 6, 2))) (sb_cons (sd_ge0 (by decide +kernel : decode cX0_minutesOn 33 = .ok (.ifCond .ge 5, 3)) (by decide)) (sb_cons (sd_iconst (by decide +kernel : decode cX0_minutesOn 36 = .ok (.iconst 0, 1)) ⟨by decide, by decide⟩) (sb_cons (sd_ireturn (x := 0) rfl (by decide +kernel : decode cX0_minutesOn 37 = .ok (.ireturn, 1))) sb_nil)))))))))))
set_option maxRecDepth 100000 in
theorem sb_X0_minutesOn_38 (l : Launch) : sm_SndB l RX0 "minutesOn" cX0_minutesOn 8 1 1 38 [oI 6, oA 0, oGr 0 11 0, oGr 2 9 1, oI 2, oIl, oAdd, oIs 7, oI 7, oI 4, oMin, oI 6, oI 3, oMax, oSub, oK 0, oMax, oIr] := sb_cons (sd_iload (by decide +kernel : decode cX0_minutesOn 38 = .ok (.iload 6, 2))) (sb_cons (sd_aload_n (by decide +kernel : decode cX0_minutesOn 40 = .ok (.aload_n 0, 1)) rfl) (sb_cons (sd_getr (k := 0) kl_0 (by decide) rfl wm_68 (by decide +kernel : decode cX0_minutesOn 41 = .ok (.getfield 12, 3))) (sb_cons (sd_getr (k := 1) kl_2 (by decide) rfl wm_44 (by decide +kernel : decode cX0_minutesOn 44 = .ok (.getfield 133, 3))) (sb_cons (sd_iload_n (by decide +kernel : decode cX0_minutesOn 47 = .ok (.iload_n 2, 1)) rfl) (sb_cons (sd_iaload (by decide +kernel : decode cX0_minutesOn 48 = .ok (.iaload, 1))) (sb_cons (sd_iadd (by decide +kernel : decode cX0_minutesOn 49 = .ok (.iadd, 1))) (sb_cons (sd_istore (by decide +kernel : decode cX0_minutesOn 50 = .ok (.istore 7, 2))) (sb_cons (sd_iload (by decide +kernel : decode cX0_minutesOn 52 = .ok (.iload 7, 2))) (sb_cons (sd_iload (by decide +kernel : decode cX0_minutesOn 54 = .ok (.iload 4, 2))) (sb_cons (sd_min (by decide) wm_398 wm_277 wm_12 wm_278 (by decide +kernel : decode cX0_minutesOn 56 = .ok (.invokestatic 175, 3))) (sb_cons (sd_iload (by decide +kernel : decode cX0_minutesOn 59 = .ok (.iload 6, 2))) (sb_cons (sd_iload_n (by decide +kernel : decode cX0_minutesOn 61 = .ok (.iload_n 3, 1)) rfl) (sb_cons (sd_max (by decide) wm_399 wm_281 wm_12 wm_282 (by decide +kernel : decode cX0_minutesOn 62 = .ok (.invokestatic 142, 3))) (sb_cons (sd_isub (by decide +kernel : decode cX0_minutesOn 65 = .ok (.isub, 1))) (sb_cons (sd_iconst (by decide +kernel : decode cX0_minutesOn 66 = .ok (.iconst 0, 1)) ⟨by decide, by decide⟩) (sb_cons (sd_max (by decide) wm_399 wm_281 wm_12 wm_282 (by decide +kernel : decode cX0_minutesOn 67 = .ok (.invokestatic 142, 3))) (sb_cons (sd_ireturn (x := 0) rfl (by decide +kernel : decode cX0_minutesOn 70 = .ok (.ireturn, 1))) sb_nil)))))))))))))))))
theorem sn_X0_minutesOn (l : Launch) : sm_SndT l RX0 "minutesOn" cX0_minutesOn 8 1 1 tb_X0_minutesOn := st_cons (sb_X0_minutesOn_0 l) (st_cons (sb_X0_minutesOn_15 l) (st_cons (sb_X0_minutesOn_18 l) (st_cons (sb_X0_minutesOn_38 l) (st_nil))))
set_option maxRecDepth 100000 in
set_option maxHeartbeats 4000000 in
theorem ok_X0_minutesOn : sm_Ok tb_X0_minutesOn 8 0 0 p_X0_minutesOn f_X0_minutesOn := by
  intro as w hp ha hw
  match as, hp with
  | [.inr (.inl d), .inl y, .inl s, .inl fr, .inl ah], hp =>
  refine ⟨Nat.le_of_ble_eq_true rfl, fun Z hZ => ?_⟩
  obtain ⟨hX, x0, x1, p0, p1, hf, ha2⟩ := hp
  have hD := hX.1
  have hn := dOK_n hD
  obtain ⟨d0, d9, d18, d27, d28, d29, d30, d31, d32, s0, s1, s2, s5, s6, s7, s8, s9, s10⟩ := dS hD.2.1 hD.1
  obtain ⟨l0, l1, l2, l3, l4, l5, l6, l7, r0, r1, r2, r3, r4, r5, r6⟩ := lS hD.2.1 (dL hD.1)
  obtain ⟨c9, c18, cC, cV⟩ := dRC hD.2.1 hD.1 x0 (show y < 8 by omega)
  have hT := hD.2.1
  have hL := hD.2.2.1
  have hr := lOK_r hD.2 (k := s) p0 p1
  have hw := lWay (w := w) (a := d + 1) x0
  obtain ⟨z, hz⟩ : ∃ z, z = xMn w d y s fr ah := ⟨_, rfl⟩
  have hze : xMn w d y s fr ah = z := hz.symm
  unfold xMn at hz
  have hm0 : ∀ bh, (if 0 < mWay (vL w (d + 1)) y then s else s + 1) = bh → 0 ≤ bh ∧ bh < 8 := fun bh h => by rw [← h]; split <;> omega
  by_cases c : 0 < mWay (vL w (d + 1)) y
  · have hcv := xOK_v hX x0 x1 (s := s) (by omega) (by omega)
    rw [if_pos c] at hz
    have hg : ¬ (if wI w (d + 1 + 3) y < wI w (d + 1 + 4) y then (1 : Int) else 0) = 0 := by rw [if_pos (by omega)]; decide
    generalize hme : wI w (dV d y) s = m at *
    by_cases c2 : m < 0
    · rw [if_pos c2] at hz
      refine hZ (fun _ => false) 16 0 _ _ _ _ _ ?_
      simp only [sm_run, sm_blk, sm_get, sm_ent, sm_ents, sm_wds, sm_wd, sm_nl, sm_pop, sm_back, sm_cases, oK, oLK, oL, oI, oA, oJ, oIs, oAs, oJs, oInc, oAdd, oSub, oMul, oDiv, oRem, oNeg, oAnd, oAndB, oOr, oShl, oI2c, oI2l, oL2i, oLand, oLor, oLshl, oLshr, oLushr, oLcmp, oDup, oDup2, oPop, oGo, oFg, oEq, oNe, oLt, oGe, oGt, oLe, oEq0, oNe0, oLt0, oGe0, oGt0, oLe0, oSw, oGi, oGr, oPi, oPz, oPr, oLen, oIl, oZl, oCl, oRl, oIst, oZst, oCst, oRst, oCopy, oNew, oNa, oNa2, oObj, oCs, oCv, oCi, oIr, oZr, oVr, Nat.beq, List.getElem?_cons_zero, List.getElem?_cons_succ, List.set_cons_zero, List.set_cons_succ, List.length_cons, List.length_nil, List.nil_append, List.cons_append, List.append_nil, List.replicate_succ, List.replicate_zero, Nat.reduceAdd, Nat.reduceSub, Nat.reduceLT, Nat.reduceLeDiff, Nat.reduceBEq, true_and, and_true, Nat.zero_add, Nat.add_zero, Nat.le_refl, Option.some.injEq, exists_eq_left', true_or, or_true, or_false, false_or, reduceCtorEq, Prod.mk.injEq, Sum.inl.injEq, and_self, false_and, and_false, not_true_eq_false, not_false_eq_true, false_implies, true_implies, sm_r, Int.add_zero, Int.zero_add, wI_wsI, wS_wsI, wR_wsI, wI_wCp, wS_wCp, wR_wCp, Nat.reduceEqDiff, reduceIte, sT_iff, sT_iffC, wIf_ne, ne_eq, Bool.false_or, Bool.true_or, Bool.or_false, Bool.or_true, Bool.or_self, Nat.left_eq_add, Nat.add_eq_left, Nat.add_left_inj, oMax, oMin, oAbs, tb_X0_minutesOn, p_X2_goesUp, f_X2_goesUp, p_X0_minutesOn, f_X0_minutesOn, d0, s0, l0, hT, hL, s2, d18, c18, cV, r1, l2, hze, hme]
      repeat' (first | exact True.intro | with_reducible assumption | with_reducible refine And.intro ?_ ?_ | intro _)
      all_goals first
        | omega
        | assumption
        | rfl
        | (split <;> omega)
        | grind
        | skip
    · rw [if_neg c2] at hz
      unfold xMnA at hz
      generalize hre : wI w (d + 1 + 2) s = r at *
      refine hZ (fun _ => false) 16 0 _ _ _ _ _ ?_
      simp only [sm_run, sm_blk, sm_get, sm_ent, sm_ents, sm_wds, sm_wd, sm_nl, sm_pop, sm_back, sm_cases, oK, oLK, oL, oI, oA, oJ, oIs, oAs, oJs, oInc, oAdd, oSub, oMul, oDiv, oRem, oNeg, oAnd, oAndB, oOr, oShl, oI2c, oI2l, oL2i, oLand, oLor, oLshl, oLshr, oLushr, oLcmp, oDup, oDup2, oPop, oGo, oFg, oEq, oNe, oLt, oGe, oGt, oLe, oEq0, oNe0, oLt0, oGe0, oGt0, oLe0, oSw, oGi, oGr, oPi, oPz, oPr, oLen, oIl, oZl, oCl, oRl, oIst, oZst, oCst, oRst, oCopy, oNew, oNa, oNa2, oObj, oCs, oCv, oCi, oIr, oZr, oVr, Nat.beq, List.getElem?_cons_zero, List.getElem?_cons_succ, List.set_cons_zero, List.set_cons_succ, List.length_cons, List.length_nil, List.nil_append, List.cons_append, List.append_nil, List.replicate_succ, List.replicate_zero, Nat.reduceAdd, Nat.reduceSub, Nat.reduceLT, Nat.reduceLeDiff, Nat.reduceBEq, true_and, and_true, Nat.zero_add, Nat.add_zero, Nat.le_refl, Option.some.injEq, exists_eq_left', true_or, or_true, or_false, false_or, reduceCtorEq, Prod.mk.injEq, Sum.inl.injEq, and_self, false_and, and_false, not_true_eq_false, not_false_eq_true, false_implies, true_implies, sm_r, Int.add_zero, Int.zero_add, wI_wsI, wS_wsI, wR_wsI, wI_wCp, wS_wCp, wR_wCp, Nat.reduceEqDiff, reduceIte, sT_iff, sT_iffC, wIf_ne, ne_eq, Bool.false_or, Bool.true_or, Bool.or_false, Bool.or_true, Bool.or_self, Nat.left_eq_add, Nat.add_eq_left, Nat.add_left_inj, oMax, oMin, oAbs, tb_X0_minutesOn, p_X2_goesUp, f_X2_goesUp, p_X0_minutesOn, f_X0_minutesOn, d0, s0, l0, hT, hL, s2, d18, c18, cV, r1, l2, hze, hme, hre]
      repeat' (first | exact True.intro | with_reducible assumption | with_reducible refine And.intro ?_ ?_ | intro _)
      all_goals first
        | omega
        | assumption
        | rfl
        | (split <;> omega)
        | grind
        | skip
  · have hcv := xOK_v hX x0 x1 (s := s + 1) (by omega) (by omega)
    rw [if_neg c] at hz
    have hg : (if wI w (d + 1 + 3) y < wI w (d + 1 + 4) y then (1 : Int) else 0) = 0 := by rw [if_neg (by omega)]
    generalize hme : wI w (dV d y) (s + 1) = m at *
    by_cases c2 : m < 0
    · rw [if_pos c2] at hz
      refine hZ (fun _ => false) 16 0 _ _ _ _ _ ?_
      simp only [sm_run, sm_blk, sm_get, sm_ent, sm_ents, sm_wds, sm_wd, sm_nl, sm_pop, sm_back, sm_cases, oK, oLK, oL, oI, oA, oJ, oIs, oAs, oJs, oInc, oAdd, oSub, oMul, oDiv, oRem, oNeg, oAnd, oAndB, oOr, oShl, oI2c, oI2l, oL2i, oLand, oLor, oLshl, oLshr, oLushr, oLcmp, oDup, oDup2, oPop, oGo, oFg, oEq, oNe, oLt, oGe, oGt, oLe, oEq0, oNe0, oLt0, oGe0, oGt0, oLe0, oSw, oGi, oGr, oPi, oPz, oPr, oLen, oIl, oZl, oCl, oRl, oIst, oZst, oCst, oRst, oCopy, oNew, oNa, oNa2, oObj, oCs, oCv, oCi, oIr, oZr, oVr, Nat.beq, List.getElem?_cons_zero, List.getElem?_cons_succ, List.set_cons_zero, List.set_cons_succ, List.length_cons, List.length_nil, List.nil_append, List.cons_append, List.append_nil, List.replicate_succ, List.replicate_zero, Nat.reduceAdd, Nat.reduceSub, Nat.reduceLT, Nat.reduceLeDiff, Nat.reduceBEq, true_and, and_true, Nat.zero_add, Nat.add_zero, Nat.le_refl, Option.some.injEq, exists_eq_left', true_or, or_true, or_false, false_or, reduceCtorEq, Prod.mk.injEq, Sum.inl.injEq, and_self, false_and, and_false, not_true_eq_false, not_false_eq_true, false_implies, true_implies, sm_r, Int.add_zero, Int.zero_add, wI_wsI, wS_wsI, wR_wsI, wI_wCp, wS_wCp, wR_wCp, Nat.reduceEqDiff, reduceIte, sT_iff, sT_iffC, wIf_ne, ne_eq, Bool.false_or, Bool.true_or, Bool.or_false, Bool.or_true, Bool.or_self, Nat.left_eq_add, Nat.add_eq_left, Nat.add_left_inj, oMax, oMin, oAbs, tb_X0_minutesOn, p_X2_goesUp, f_X2_goesUp, p_X0_minutesOn, f_X0_minutesOn, d0, s0, l0, hT, hL, s2, d18, c18, cV, r1, l2, hze, hme]
      repeat' (first | exact True.intro | with_reducible assumption | with_reducible refine And.intro ?_ ?_ | intro _)
      all_goals first
        | omega
        | assumption
        | rfl
        | (split <;> omega)
        | grind
        | skip
    · rw [if_neg c2] at hz
      unfold xMnA at hz
      generalize hre : wI w (d + 1 + 2) s = r at *
      refine hZ (fun _ => false) 16 0 _ _ _ _ _ ?_
      simp only [sm_run, sm_blk, sm_get, sm_ent, sm_ents, sm_wds, sm_wd, sm_nl, sm_pop, sm_back, sm_cases, oK, oLK, oL, oI, oA, oJ, oIs, oAs, oJs, oInc, oAdd, oSub, oMul, oDiv, oRem, oNeg, oAnd, oAndB, oOr, oShl, oI2c, oI2l, oL2i, oLand, oLor, oLshl, oLshr, oLushr, oLcmp, oDup, oDup2, oPop, oGo, oFg, oEq, oNe, oLt, oGe, oGt, oLe, oEq0, oNe0, oLt0, oGe0, oGt0, oLe0, oSw, oGi, oGr, oPi, oPz, oPr, oLen, oIl, oZl, oCl, oRl, oIst, oZst, oCst, oRst, oCopy, oNew, oNa, oNa2, oObj, oCs, oCv, oCi, oIr, oZr, oVr, Nat.beq, List.getElem?_cons_zero, List.getElem?_cons_succ, List.set_cons_zero, List.set_cons_succ, List.length_cons, List.length_nil, List.nil_append, List.cons_append, List.append_nil, List.replicate_succ, List.replicate_zero, Nat.reduceAdd, Nat.reduceSub, Nat.reduceLT, Nat.reduceLeDiff, Nat.reduceBEq, true_and, and_true, Nat.zero_add, Nat.add_zero, Nat.le_refl, Option.some.injEq, exists_eq_left', true_or, or_true, or_false, false_or, reduceCtorEq, Prod.mk.injEq, Sum.inl.injEq, and_self, false_and, and_false, not_true_eq_false, not_false_eq_true, false_implies, true_implies, sm_r, Int.add_zero, Int.zero_add, wI_wsI, wS_wsI, wR_wsI, wI_wCp, wS_wCp, wR_wCp, Nat.reduceEqDiff, reduceIte, sT_iff, sT_iffC, wIf_ne, ne_eq, Bool.false_or, Bool.true_or, Bool.or_false, Bool.or_true, Bool.or_self, Nat.left_eq_add, Nat.add_eq_left, Nat.add_left_inj, oMax, oMin, oAbs, tb_X0_minutesOn, p_X2_goesUp, f_X2_goesUp, p_X0_minutesOn, f_X0_minutesOn, d0, s0, l0, hT, hL, s2, d18, c18, cV, r1, l2, hze, hme, hre]
      repeat' (first | exact True.intro | with_reducible assumption | with_reducible refine And.intro ?_ ?_ | intro _)
      all_goals first
        | omega
        | assumption
        | rfl
        | (split <;> omega)
        | grind
        | skip

theorem met_X0_minutesOn (l : Launch) : sm_Met l yX0_minutesOn cX0_minutesOn 8 (some .int) 1 0 0 p_X0_minutesOn f_X0_minutesOn := sm_met 1 (Or.inr (Or.inl ⟨rfl, rfl⟩)) (by decide +kernel) (sn_X0_minutesOn l) ok_X0_minutesOn