/-! THE CLASS: a day, its small methods -/
def dC (d : Nat) (x : Int) : Nat := d + 10 + x.toNat
def dV (d : Nat) (x : Int) : Nat := d + 19 + x.toNat
theorem dRC {w : sm_W} (h : sT w) {d : Nat} (hd : sm_isD d) {x : Int} (h0 : 0 ≤ x) (h1 : x < 8) : wR w (d + 9) x = some (dC d x) ∧ wR w (d + 18) x = some (dV d x) ∧ wS w (dC d x) = (9, 8) ∧ wS w (dV d x) = (9, 8) := dRows h hd x h0 h1
theorem dC_ne {d k : Nat} {x : Int} (h0 : 0 ≤ x) (h1 : x < 8) (hk : k < 10 ∨ 18 ≤ k) : (d + k = dC d x) = False := eq_false (by unfold dC; omega)
theorem dV_ne {d k : Nat} {x : Int} (h0 : 0 ≤ x) (h1 : x < 8) (hk : k < 19 ∨ 27 ≤ k) : (d + k = dV d x) = False := eq_false (by unfold dV; omega)
theorem vL_cong {w u : sm_W} {a : Nat} (h : ∀ k, k ≤ 8 → wI u (a + k) = wI w (a + k)) : vL u a = vL w a := by
  funext j
  unfold vL
  have h0 := h 0 (by omega)
  rw [Nat.add_zero] at h0
  rw [h0, h 1 (by omega), h 2 (by omega), h 3 (by omega), h 4 (by omega), h 5 (by omega), h 6 (by omega), h 7 (by omega)]
theorem vL_out {w : sm_W} {a b : Nat} (i v : Int) (h : b < a ∨ a + 8 ≤ b) : vL (wsI w b i v) a = vL w a := by
  funext j
  unfold vL
  rw [wIf_ne (show ¬ a = b by omega), wIf_ne (show ¬ a + 1 = b by omega), wIf_ne (show ¬ a + 2 = b by omega), wIf_ne (show ¬ a + 3 = b by omega), wIf_ne (show ¬ a + 4 = b by omega), wIf_ne (show ¬ a + 5 = b by omega), wIf_ne (show ¬ a + 6 = b by omega), wIf_ne (show ¬ a + 7 = b by omega)]
theorem lOK_out {w : sm_W} {a b : Nat} (i v : Int) (h : b < a ∨ a + 8 ≤ b) : lOK (wsI w b i v) a = lOK w a := by
  unfold lOK
  rw [vL_out i v h]
  rfl
theorem vLd_27 (w : sm_W) (d : Nat) (i v : Int) : vL (wsI w (d + 27) i v) (d + 1) = vL w (d + 1) := vL_out i v (by omega)
theorem lOd_27 (w : sm_W) (d : Nat) (i v : Int) : lOK (wsI w (d + 27) i v) (d + 1) = lOK w (d + 1) := lOK_out i v (by omega)
theorem vLd_28 (w : sm_W) (d : Nat) (i v : Int) : vL (wsI w (d + 28) i v) (d + 1) = vL w (d + 1) := vL_out i v (by omega)
theorem lOd_28 (w : sm_W) (d : Nat) (i v : Int) : lOK (wsI w (d + 28) i v) (d + 1) = lOK w (d + 1) := lOK_out i v (by omega)
theorem vLd_29 (w : sm_W) (d : Nat) (i v : Int) : vL (wsI w (d + 29) i v) (d + 1) = vL w (d + 1) := vL_out i v (by omega)
theorem lOd_29 (w : sm_W) (d : Nat) (i v : Int) : lOK (wsI w (d + 29) i v) (d + 1) = lOK w (d + 1) := lOK_out i v (by omega)
theorem vLd_30 (w : sm_W) (d : Nat) (i v : Int) : vL (wsI w (d + 30) i v) (d + 1) = vL w (d + 1) := vL_out i v (by omega)
theorem lOd_30 (w : sm_W) (d : Nat) (i v : Int) : lOK (wsI w (d + 30) i v) (d + 1) = lOK w (d + 1) := lOK_out i v (by omega)
theorem vLd_31 (w : sm_W) (d : Nat) (i v : Int) : vL (wsI w (d + 31) i v) (d + 1) = vL w (d + 1) := vL_out i v (by omega)
theorem lOd_31 (w : sm_W) (d : Nat) (i v : Int) : lOK (wsI w (d + 31) i v) (d + 1) = lOK w (d + 1) := lOK_out i v (by omega)
theorem vLd_32 (w : sm_W) (d : Nat) (i v : Int) : vL (wsI w (d + 32) i v) (d + 1) = vL w (d + 1) := vL_out i v (by omega)
theorem lOd_32 (w : sm_W) (d : Nat) (i v : Int) : lOK (wsI w (d + 32) i v) (d + 1) = lOK w (d + 1) := lOK_out i v (by omega)
theorem vLd_0 (w : sm_W) (d : Nat) (i v : Int) : vL (wsI w d i v) (d + 1) = vL w (d + 1) := vL_out i v (by omega)
theorem lOd_0 (w : sm_W) (d : Nat) (i v : Int) : lOK (wsI w d i v) (d + 1) = lOK w (d + 1) := lOK_out i v (by omega)
theorem vLd_C (w : sm_W) (d : Nat) (x i v : Int) : vL (wsI w (dC d x) i v) (d + 1) = vL w (d + 1) := vL_out i v (by unfold dC; omega)
theorem lOd_C (w : sm_W) (d : Nat) (x i v : Int) : lOK (wsI w (dC d x) i v) (d + 1) = lOK w (d + 1) := lOK_out i v (by unfold dC; omega)
theorem vLd_V (w : sm_W) (d : Nat) (x i v : Int) : vL (wsI w (dV d x) i v) (d + 1) = vL w (d + 1) := vL_out i v (by unfold dV; omega)
theorem lOd_V (w : sm_W) (d : Nat) (x i v : Int) : lOK (wsI w (dV d x) i v) (d + 1) = lOK w (d + 1) := lOK_out i v (by unfold dV; omega)
def dSt (w : sm_W) (d : Nat) (x : Int) : Int := wI w (d + 27) x
def dOK (w : sm_W) (d : Nat) : Prop := sm_isD d ∧ lOK w (d + 1)
theorem dOK_n {w : sm_W} {d : Nat} (h : dOK w d) : 0 ≤ wI w (d + 1) 7 ∧ wI w (d + 1) 7 ≤ 8 := lOK_n h.2
def p_X0_isAtEnd : List sm_V → sm_W → Prop
  | [.inr (.inl d), .inl x], w => dOK w d ∧ 0 ≤ x ∧ x < 8
  | _, _ => False
def f_X0_isAtEnd : sm_F
  | [.inr (.inl d), .inl x], w => (some (.inl (if wI w (d + 27) x = wI w (d + 1 + 4) x then 1 else 0)), w)
  | _, w => (none, w)
def tb_X0_isAtEnd : List (Nat × List sm_O) := [(0, [oA 0, oGr 0 11 5, oI 1, oIl, oA 0, oGr 0 11 0, oGr 2 9 3, oI 1, oIl, oNe 22, oK 1, oGo 23]),
  (22, [oK 0, oGo 23]),
  (23, [oZr])]
set_option maxRecDepth 100000 in
theorem sb_X0_isAtEnd_0 (l : Launch) : sm_SndB l RX0 "isAtEnd" cX0_isAtEnd 2 2 0 0 [oA 0, oGr 0 11 5, oI 1, oIl, oA 0, oGr 0 11 0, oGr 2 9 3, oI 1, oIl, oNe 22, oK 1, oGo 23] := sb_cons (sd_aload_n (by decide +kernel : decode cX0_isAtEnd 0 = .ok (.aload_n 0, 1)) rfl) (sb_cons (sd_getr (k := 5) kl_0 (by decide) rfl wm_83 (by decide +kernel : decode cX0_isAtEnd 1 = .ok (.getfield 26, 3))) (sb_cons (sd_iload_n (by decide +kernel : decode cX0_isAtEnd 4 = .ok (.iload_n 1, 1)) rfl) (sb_cons (sd_iaload (by decide +kernel : decode cX0_isAtEnd 5 = .ok (.iaload, 1))) (sb_cons (sd_aload_n (by decide +kernel : decode cX0_isAtEnd 6 = .ok (.aload_n 0, 1)) rfl) (sb_cons (sd_getr (k := 0) kl_0 (by decide) rfl wm_68 (by decide +kernel : decode cX0_isAtEnd 7 = .ok (.getfield 12, 3))) (sb_cons (sd_getr (k := 3) kl_2 (by decide) rfl wm_48 (by decide +kernel : decode cX0_isAtEnd 10 = .ok (.getfield 97, 3))) (sb_cons (sd_iload_n (by decide +kernel : decode cX0_isAtEnd 13 = .ok (.iload_n 1, 1)) rfl) (sb_cons (sd_iaload (by decide +kernel : decode cX0_isAtEnd 14 = .ok (.iaload, 1))) (sb_cons (sd_ne (by decide +kernel : decode cX0_isAtEnd 15 = .ok (.if_icmp .ne 7, 3)) (by decide)) (sb_cons (sd_iconst (by decide +kernel : decode cX0_isAtEnd 18 = .ok (.iconst 1, 1)) ⟨by decide, by decide⟩) (sb_cons (sd_goto (x := 0) (by decide +kernel : decode cX0_isAtEnd 19 = .ok (.goto 4, 3)) (by decide)) sb_nil)))))))))))
set_option maxRecDepth 100000 in
theorem sb_X0_isAtEnd_22 (l : Launch) : sm_SndB l RX0 "isAtEnd" cX0_isAtEnd 2 2 0 22 [oK 0, oGo 23] := sb_cons (sd_iconst (by decide +kernel : decode cX0_isAtEnd 22 = .ok (.iconst 0, 1)) ⟨by decide, by decide⟩) (sb_cons (sd_fall (x := 0)) sb_nil)
set_option maxRecDepth 100000 in
theorem sb_X0_isAtEnd_23 (l : Launch) : sm_SndB l RX0 "isAtEnd" cX0_isAtEnd 2 2 0 23 [oZr] := sb_cons (sd_zreturn (x := 0) rfl (by decide +kernel : decode cX0_isAtEnd 23 = .ok (.ireturn, 1))) sb_nil
theorem sn_X0_isAtEnd (l : Launch) : sm_SndT l RX0 "isAtEnd" cX0_isAtEnd 2 2 0 tb_X0_isAtEnd := st_cons (sb_X0_isAtEnd_0 l) (st_cons (sb_X0_isAtEnd_22 l) (st_cons (sb_X0_isAtEnd_23 l) (st_nil)))
set_option maxRecDepth 100000 in
set_option maxHeartbeats 4000000 in
theorem ok_X0_isAtEnd : sm_Ok tb_X0_isAtEnd 2 0 0 p_X0_isAtEnd f_X0_isAtEnd := by
  intro as w hp ha hw
  match as, hp with
  | [.inr (.inl d), .inl x], hp =>
  refine ⟨Nat.le_of_ble_eq_true rfl, fun Z hZ => ?_⟩
  obtain ⟨hD, x0, x1⟩ := hp
  obtain ⟨d0, d9, d18, d27, d28, d29, d30, d31, d32, s0, s1, s2, s5, s6, s7, s8, s9, s10⟩ := dS hD.2.1 hD.1
  obtain ⟨l0, l1, l2, l3, l4, l5, l6, l7, r0, r1, r2, r3, r4, r5, r6⟩ := lS hD.2.1 (dL hD.1)
  refine hZ (fun _ => false) 16 0 _ _ _ _ _ ?_
  simp only [sm_run, sm_blk, sm_get, sm_ent, sm_ents, sm_wds, sm_wd, sm_nl, sm_pop, sm_back, sm_cases, oK, oLK, oL, oI, oA, oJ, oIs, oAs, oJs, oInc, oAdd, oSub, oMul, oDiv, oRem, oNeg, oAnd, oAndB, oOr, oShl, oI2c, oI2l, oL2i, oLand, oLor, oLshl, oLshr, oLushr, oLcmp, oDup, oDup2, oPop, oGo, oFg, oEq, oNe, oLt, oGe, oGt, oLe, oEq0, oNe0, oLt0, oGe0, oGt0, oLe0, oSw, oGi, oGr, oPi, oPz, oPr, oLen, oIl, oZl, oCl, oRl, oIst, oZst, oCst, oRst, oCopy, oNew, oNa, oNa2, oObj, oCs, oCv, oCi, oIr, oZr, oVr, Nat.beq, List.getElem?_cons_zero, List.getElem?_cons_succ, List.set_cons_zero, List.set_cons_succ, List.length_cons, List.length_nil, List.nil_append, List.cons_append, List.append_nil, List.replicate_succ, List.replicate_zero, Nat.reduceAdd, Nat.reduceSub, Nat.reduceLT, Nat.reduceLeDiff, Nat.reduceBEq, true_and, and_true, Nat.zero_add, Nat.add_zero, Nat.le_refl, Option.some.injEq, exists_eq_left', true_or, or_true, or_false, false_or, reduceCtorEq, Prod.mk.injEq, Sum.inl.injEq, and_self, false_and, and_false, not_true_eq_false, not_false_eq_true, false_implies, true_implies, sm_r, Int.add_zero, Int.zero_add, wI_wsI, wS_wsI, wR_wsI, wI_wCp, wS_wCp, wR_wCp, Nat.reduceEqDiff, reduceIte, sT_iff, sT_iffC, wIf_ne, ne_eq, Bool.false_or, Bool.true_or, Bool.or_false, Bool.or_true, Bool.or_self, Nat.left_eq_add, Nat.add_eq_left, Nat.add_left_inj, tb_X0_isAtEnd, p_X0_isAtEnd, f_X0_isAtEnd, d0, s5, d27, s0, l0, r3, l4]
  repeat' (first | exact True.intro | with_reducible assumption | with_reducible refine And.intro ?_ ?_ | intro _)
  all_goals first
    | omega
    | assumption
    | rfl
    | (split <;> omega)
    | skip
theorem met_X0_isAtEnd (l : Launch) : sm_Met l yX0_isAtEnd cX0_isAtEnd 2 (some .boolean) 0 0 0 p_X0_isAtEnd f_X0_isAtEnd := sm_met 2 (Or.inr (Or.inr ⟨rfl, rfl⟩)) (by decide +kernel) (sn_X0_isAtEnd l) ok_X0_isAtEnd
def xSt0 (d : Nat) (x p r : Int) (w : sm_W) : sm_W := wsI (wsI (wsI (wsI w (d + 27) x p) (d + 28) x 0) (d + 29) x r) (d + 30) x 0
def xStand (d : Nat) (x p r : Int) (w : sm_W) : sm_W := if wI w (d + 1) 8 = 1 then wsI (xSt0 d x p r w) (d + 30) x (-r) else (if wI w (d + 1) 8 = 2 then wsI (xSt0 d x p r w) (d + 30) x (vTime (vL w (d + 1)) x p) else xSt0 d x p r w)
def p_X0_stand : List sm_V → sm_W → Prop
  | [.inr (.inl d), .inl x, .inl p, .inl r], w => dOK w d ∧ 0 ≤ x ∧ x < wI w (d + 1) 7 ∧ 0 ≤ p ∧ p < 8 ∧ 0 ≤ r ∧ r ≤ 1000000
  | _, _ => False
def f_X0_stand : sm_F
  | [.inr (.inl d), .inl x, .inl p, .inl r], w => (none, xStand d x p r w)
  | _, w => (none, w)
def tb_X0_stand : List (Nat × List sm_O) := [(0, [oA 0, oGr 0 11 5, oI 1, oI 2, oIst, oA 0, oGr 0 11 6, oI 1, oK 0, oZst, oA 0, oGr 0 11 7, oI 1, oI 3, oIst, oA 0, oGr 0 11 8, oI 1, oK 0, oIst, oA 0, oGr 0 11 0, oGi 2 9 8, oK 1, oNe 47, oA 0, oGr 0 11 8, oI 1, oI 3, oNeg, oIst, oGo 47]),
  (47, [oA 0, oGr 0 11 0, oGi 2 9 8, oK 2, oNe 73, oA 0, oGr 0 11 8, oI 1, oA 0, oGr 0 11 0, oI 1, oI 2, oCv 2 9 p_X2_wayLeft f_X2_wayLeft 0 0 3, oIst, oGo 73]),
  (73, [oVr])]
set_option maxRecDepth 100000 in
theorem sb_X0_stand_0 (l : Launch) : sm_SndB l RX0 "stand" cX0_stand 4 0 2 0 [oA 0, oGr 0 11 5, oI 1, oI 2, oIst, oA 0, oGr 0 11 6, oI 1, oK 0, oZst, oA 0, oGr 0 11 7, oI 1, oI 3, oIst, oA 0, oGr 0 11 8, oI 1, oK 0, oIst, oA 0, oGr 0 11 0, oGi 2 9 8, oK 1, oNe 47, oA 0, oGr 0 11 8, oI 1, oI 3, oNeg, oIst, oGo 47] := sb_cons (sd_aload_n (by decide +kernel : decode cX0_stand 0 = .ok (.aload_n 0, 1)) rfl) (sb_cons (sd_getr (k := 5) kl_0 (by decide) rfl wm_83 (by decide +kernel : decode cX0_stand 1 = .ok (.getfield 26, 3))) (sb_cons (sd_iload_n (by decide +kernel : decode cX0_stand 4 = .ok (.iload_n 1, 1)) rfl) (sb_cons (sd_iload_n (by decide +kernel : decode cX0_stand 5 = .ok (.iload_n 2, 1)) rfl) (sb_cons (sd_iastore (by decide +kernel : decode cX0_stand 6 = .ok (.iastore, 1))) (sb_cons (sd_aload_n (by decide +kernel : decode cX0_stand 7 = .ok (.aload_n 0, 1)) rfl) (sb_cons (sd_getr (k := 6) kl_0 (by decide) rfl wm_84 (by decide +kernel : decode cX0_stand 8 = .ok (.getfield 30, 3))) (sb_cons (sd_iload_n (by decide +kernel : decode cX0_stand 11 = .ok (.iload_n 1, 1)) rfl) (sb_cons (sd_iconst (by decide +kernel : decode cX0_stand 12 = .ok (.iconst 0, 1)) ⟨by decide, by decide⟩) (sb_cons (sd_bastore (by decide +kernel : decode cX0_stand 13 = .ok (.bastore, 1))) (sb_cons (sd_aload_n (by decide +kernel : decode cX0_stand 14 = .ok (.aload_n 0, 1)) rfl) (sb_cons (sd_getr (k := 7) kl_0 (by decide) rfl wm_85 (by decide +kernel : decode cX0_stand 15 = .ok (.getfield 34, 3))) (sb_cons (sd_iload_n (by decide +kernel : decode cX0_stand 18 = .ok (.iload_n 1, 1)) rfl) (sb_cons (sd_iload_n (by decide +kernel : decode cX0_stand 19 = .ok (.iload_n 3, 1)) rfl) (sb_cons (sd_iastore (by decide +kernel : decode cX0_stand 20 = .ok (.iastore, 1))) (sb_cons (sd_aload_n (by decide +kernel : decode cX0_stand 21 = .ok (.aload_n 0, 1)) rfl) (sb_cons (sd_getr (k := 8) kl_0 (by decide) rfl wm_86 (by decide +kernel : decode cX0_stand 22 = .ok (.getfield 37, 3))) (sb_cons (sd_iload_n (by decide +kernel : decode cX0_stand 25 = .ok (.iload_n 1, 1)) rfl) (sb_cons (sd_iconst (by decide +kernel : decode cX0_stand 26 = .ok (.iconst 0, 1)) ⟨by decide, by decide⟩) (sb_cons (sd_iastore (by decide +kernel : decode cX0_stand 27 = .ok (.iastore, 1))) (sb_cons (sd_aload_n (by decide +kernel : decode cX0_stand 28 = .ok (.aload_n 0, 1)) rfl) (sb_cons (sd_getr (k := 0) kl_0 (by decide) rfl wm_68 (by decide +kernel : decode cX0_stand 29 = .ok (.getfield 12, 3))) (sb_cons (sd_geti (k := 8) kl_2 (by decide) rfl wm_64 (by decide +kernel : decode cX0_stand 32 = .ok (.getfield 90, 3))) (sb_cons (sd_iconst (by decide +kernel : decode cX0_stand 35 = .ok (.iconst 1, 1)) ⟨by decide, by decide⟩) (sb_cons (sd_ne (by decide +kernel : decode cX0_stand 36 = .ok (.if_icmp .ne 11, 3)) (by decide)) (sb_cons (sd_aload_n (by decide +kernel : decode cX0_stand 39 = .ok (.aload_n 0, 1)) rfl) (sb_cons (sd_getr (k := 8) kl_0 (by decide) rfl wm_86 (by decide +kernel : decode cX0_stand 40 = .ok (.getfield 37, 3))) (sb_cons (sd_iload_n (by decide +kernel : decode cX0_stand 43 = .ok (.iload_n 1, 1)) rfl) (sb_cons (sd_iload_n (by decide +kernel : decode cX0_stand 44 = .ok (.iload_n 3, 1)) rfl) (sb_cons (sd_ineg (by decide +kernel : decode cX0_stand 45 = .ok (.ineg, 1))) (sb_cons (sd_iastore (by decide +kernel : decode cX0_stand 46 = .ok (.iastore, 1))) (sb_cons (sd_fall (x := 0)) sb_nil)))))))))))))))))))))))))))))))
set_option maxRecDepth 100000 in
theorem sb_X0_stand_47 (l : Launch) : sm_SndB l RX0 "stand" cX0_stand 4 0 2 47 [oA 0, oGr 0 11 0, oGi 2 9 8, oK 2, oNe 73, oA 0, oGr 0 11 8, oI 1, oA 0, oGr 0 11 0, oI 1, oI 2, oCv 2 9 p_X2_wayLeft f_X2_wayLeft 0 0 3, oIst, oGo 73] := sb_cons (sd_aload_n (by decide +kernel : decode cX0_stand 47 = .ok (.aload_n 0, 1)) rfl) (sb_cons (sd_getr (k := 0) kl_0 (by decide) rfl wm_68 (by decide +kernel : decode cX0_stand 48 = .ok (.getfield 12, 3))) (sb_cons (sd_geti (k := 8) kl_2 (by decide) rfl wm_64 (by decide +kernel : decode cX0_stand 51 = .ok (.getfield 90, 3))) (sb_cons (sd_iconst (by decide +kernel : decode cX0_stand 54 = .ok (.iconst 2, 1)) ⟨by decide, by decide⟩) (sb_cons (sd_ne (by decide +kernel : decode cX0_stand 55 = .ok (.if_icmp .ne 18, 3)) (by decide)) (sb_cons (sd_aload_n (by decide +kernel : decode cX0_stand 58 = .ok (.aload_n 0, 1)) rfl) (sb_cons (sd_getr (k := 8) kl_0 (by decide) rfl wm_86 (by decide +kernel : decode cX0_stand 59 = .ok (.getfield 37, 3))) (sb_cons (sd_iload_n (by decide +kernel : decode cX0_stand 62 = .ok (.iload_n 1, 1)) rfl) (sb_cons (sd_aload_n (by decide +kernel : decode cX0_stand 63 = .ok (.aload_n 0, 1)) rfl) (sb_cons (sd_getr (k := 0) kl_0 (by decide) rfl wm_68 (by decide +kernel : decode cX0_stand 64 = .ok (.getfield 12, 3))) (sb_cons (sd_iload_n (by decide +kernel : decode cX0_stand 67 = .ok (.iload_n 1, 1)) rfl) (sb_cons (sd_iload_n (by decide +kernel : decode cX0_stand 68 = .ok (.iload_n 2, 1)) rfl) (sb_cons (sd_callv (n := 2) (met_X2_wayLeft l) (by decide) (by decide) wm_274 wm_298 wm_3 ⟨by decide +kernel, by decide +kernel, by decide +kernel⟩ kl_2 wm_272 wm_273 (by decide +kernel : decode cX0_stand 69 = .ok (.invokevirtual 93, 3))) (sb_cons (sd_iastore (by decide +kernel : decode cX0_stand 72 = .ok (.iastore, 1))) (sb_cons (sd_fall (x := 0)) sb_nil))))))))))))))
set_option maxRecDepth 100000 in
theorem sb_X0_stand_73 (l : Launch) : sm_SndB l RX0 "stand" cX0_stand 4 0 2 73 [oVr] := sb_cons (sd_return (x := 0) rfl (by decide +kernel : decode cX0_stand 73 = .ok (.return_, 1))) sb_nil
theorem sn_X0_stand (l : Launch) : sm_SndT l RX0 "stand" cX0_stand 4 0 2 tb_X0_stand := st_cons (sb_X0_stand_0 l) (st_cons (sb_X0_stand_47 l) (st_cons (sb_X0_stand_73 l) (st_nil)))
set_option maxRecDepth 100000 in
set_option maxHeartbeats 4000000 in
theorem ok_X0_stand : sm_Ok tb_X0_stand 4 0 0 p_X0_stand f_X0_stand := by
  intro as w hp ha hw
  match as, hp with
  | [.inr (.inl d), .inl x, .inl p, .inl r], hp =>
  refine ⟨Nat.le_of_ble_eq_true rfl, fun Z hZ => ?_⟩
  obtain ⟨hD, x0, x1, p0, p1, z0, z1⟩ := hp
  obtain ⟨d0, d9, d18, d27, d28, d29, d30, d31, d32, s0, s1, s2, s5, s6, s7, s8, s9, s10⟩ := dS hD.2.1 hD.1
  obtain ⟨l0, l1, l2, l3, l4, l5, l6, l7, r0, r1, r2, r3, r4, r5, r6⟩ := lS hD.2.1 (dL hD.1)
  have hn := dOK_n hD
  have hO := hD.2
  by_cases c1 : wI w (d + 1) 8 = 1
  · have e : xStand d x p r w = wsI (xSt0 d x p r w) (d + 30) x (-r) := if_pos c1
    unfold xSt0 at e
    refine hZ (fun _ => false) 16 0 _ _ _ _ _ ?_
    simp only [sm_run, sm_blk, sm_get, sm_ent, sm_ents, sm_wds, sm_wd, sm_nl, sm_pop, sm_back, sm_cases, oK, oLK, oL, oI, oA, oJ, oIs, oAs, oJs, oInc, oAdd, oSub, oMul, oDiv, oRem, oNeg, oAnd, oAndB, oOr, oShl, oI2c, oI2l, oL2i, oLand, oLor, oLshl, oLshr, oLushr, oLcmp, oDup, oDup2, oPop, oGo, oFg, oEq, oNe, oLt, oGe, oGt, oLe, oEq0, oNe0, oLt0, oGe0, oGt0, oLe0, oSw, oGi, oGr, oPi, oPz, oPr, oLen, oIl, oZl, oCl, oRl, oIst, oZst, oCst, oRst, oCopy, oNew, oNa, oNa2, oObj, oCs, oCv, oCi, oIr, oZr, oVr, Nat.beq, List.getElem?_cons_zero, List.getElem?_cons_succ, List.set_cons_zero, List.set_cons_succ, List.length_cons, List.length_nil, List.nil_append, List.cons_append, List.append_nil, List.replicate_succ, List.replicate_zero, Nat.reduceAdd, Nat.reduceSub, Nat.reduceLT, Nat.reduceLeDiff, Nat.reduceBEq, true_and, and_true, Nat.zero_add, Nat.add_zero, Nat.le_refl, Option.some.injEq, exists_eq_left', true_or, or_true, or_false, false_or, reduceCtorEq, Prod.mk.injEq, Sum.inl.injEq, and_self, false_and, and_false, not_true_eq_false, not_false_eq_true, false_implies, true_implies, sm_r, Int.add_zero, Int.zero_add, wI_wsI, wS_wsI, wR_wsI, wI_wCp, wS_wCp, wR_wCp, Nat.reduceEqDiff, reduceIte, sT_iff, sT_iffC, wIf_ne, ne_eq, Bool.false_or, Bool.true_or, Bool.or_false, Bool.or_true, Bool.or_self, Nat.left_eq_add, Nat.add_eq_left, Nat.add_left_inj, tb_X0_stand, p_X2_wayLeft, f_X2_wayLeft, p_X0_stand, f_X0_stand, d0, s5, d27, s6, d28, s7, d29, s8, d30, s0, l0, e, c1]
    repeat' (first | exact True.intro | with_reducible assumption | with_reducible refine And.intro ?_ ?_ | intro _)
    all_goals first
      | omega
      | assumption
      | rfl
      | (split <;> omega)
      | grind
      | skip
  · by_cases c2 : wI w (d + 1) 8 = 2
    · have e : xStand d x p r w = wsI (xSt0 d x p r w) (d + 30) x (vTime (vL w (d + 1)) x p) := by unfold xStand; rw [if_neg c1, if_pos c2]
      unfold xSt0 at e
      refine hZ (fun _ => false) 16 0 _ _ _ _ _ ?_
      simp only [sm_run, sm_blk, sm_get, sm_ent, sm_ents, sm_wds, sm_wd, sm_nl, sm_pop, sm_back, sm_cases, oK, oLK, oL, oI, oA, oJ, oIs, oAs, oJs, oInc, oAdd, oSub, oMul, oDiv, oRem, oNeg, oAnd, oAndB, oOr, oShl, oI2c, oI2l, oL2i, oLand, oLor, oLshl, oLshr, oLushr, oLcmp, oDup, oDup2, oPop, oGo, oFg, oEq, oNe, oLt, oGe, oGt, oLe, oEq0, oNe0, oLt0, oGe0, oGt0, oLe0, oSw, oGi, oGr, oPi, oPz, oPr, oLen, oIl, oZl, oCl, oRl, oIst, oZst, oCst, oRst, oCopy, oNew, oNa, oNa2, oObj, oCs, oCv, oCi, oIr, oZr, oVr, Nat.beq, List.getElem?_cons_zero, List.getElem?_cons_succ, List.set_cons_zero, List.set_cons_succ, List.length_cons, List.length_nil, List.nil_append, List.cons_append, List.append_nil, List.replicate_succ, List.replicate_zero, Nat.reduceAdd, Nat.reduceSub, Nat.reduceLT, Nat.reduceLeDiff, Nat.reduceBEq, true_and, and_true, Nat.zero_add, Nat.add_zero, Nat.le_refl, Option.some.injEq, exists_eq_left', true_or, or_true, or_false, false_or, reduceCtorEq, Prod.mk.injEq, Sum.inl.injEq, and_self, false_and, and_false, not_true_eq_false, not_false_eq_true, false_implies, true_implies, sm_r, Int.add_zero, Int.zero_add, wI_wsI, wS_wsI, wR_wsI, wI_wCp, wS_wCp, wR_wCp, Nat.reduceEqDiff, reduceIte, sT_iff, sT_iffC, wIf_ne, ne_eq, Bool.false_or, Bool.true_or, Bool.or_false, Bool.or_true, Bool.or_self, Nat.left_eq_add, Nat.add_eq_left, Nat.add_left_inj, tb_X0_stand, p_X2_wayLeft, f_X2_wayLeft, p_X0_stand, f_X0_stand, d0, s5, d27, s6, d28, s7, d29, s8, d30, s0, l0, e, c2, hO, vLd_27, vLd_28, vLd_29, vLd_30, lOd_27, lOd_28, lOd_29, lOd_30]
      repeat' (first | exact True.intro | with_reducible assumption | with_reducible refine And.intro ?_ ?_ | intro _)
      all_goals first
        | omega
        | assumption
        | rfl
        | (split <;> omega)
        | grind
        | skip
    · have e : xStand d x p r w = xSt0 d x p r w := by unfold xStand; rw [if_neg c1, if_neg c2]
      unfold xSt0 at e
      refine hZ (fun _ => false) 16 0 _ _ _ _ _ ?_
      simp only [sm_run, sm_blk, sm_get, sm_ent, sm_ents, sm_wds, sm_wd, sm_nl, sm_pop, sm_back, sm_cases, oK, oLK, oL, oI, oA, oJ, oIs, oAs, oJs, oInc, oAdd, oSub, oMul, oDiv, oRem, oNeg, oAnd, oAndB, oOr, oShl, oI2c, oI2l, oL2i, oLand, oLor, oLshl, oLshr, oLushr, oLcmp, oDup, oDup2, oPop, oGo, oFg, oEq, oNe, oLt, oGe, oGt, oLe, oEq0, oNe0, oLt0, oGe0, oGt0, oLe0, oSw, oGi, oGr, oPi, oPz, oPr, oLen, oIl, oZl, oCl, oRl, oIst, oZst, oCst, oRst, oCopy, oNew, oNa, oNa2, oObj, oCs, oCv, oCi, oIr, oZr, oVr, Nat.beq, List.getElem?_cons_zero, List.getElem?_cons_succ, List.set_cons_zero, List.set_cons_succ, List.length_cons, List.length_nil, List.nil_append, List.cons_append, List.append_nil, List.replicate_succ, List.replicate_zero, Nat.reduceAdd, Nat.reduceSub, Nat.reduceLT, Nat.reduceLeDiff, Nat.reduceBEq, true_and, and_true, Nat.zero_add, Nat.add_zero, Nat.le_refl, Option.some.injEq, exists_eq_left', true_or, or_true, or_false, false_or, reduceCtorEq, Prod.mk.injEq, Sum.inl.injEq, and_self, false_and, and_false, not_true_eq_false, not_false_eq_true, false_implies, true_implies, sm_r, Int.add_zero, Int.zero_add, wI_wsI, wS_wsI, wR_wsI, wI_wCp, wS_wCp, wR_wCp, Nat.reduceEqDiff, reduceIte, sT_iff, sT_iffC, wIf_ne, ne_eq, Bool.false_or, Bool.true_or, Bool.or_false, Bool.or_true, Bool.or_self, Nat.left_eq_add, Nat.add_eq_left, Nat.add_left_inj, tb_X0_stand, p_X2_wayLeft, f_X2_wayLeft, p_X0_stand, f_X0_stand, d0, s5, d27, s6, d28, s7, d29, s8, d30, s0, l0, e]
      repeat' (first | exact True.intro | with_reducible assumption | with_reducible refine And.intro ?_ ?_ | intro _)
      all_goals first
        | omega
        | assumption
        | rfl
        | (split <;> omega)
        | grind
        | skip
theorem met_X0_stand (l : Launch) : sm_Met l yX0_stand cX0_stand 4 none 2 0 0 p_X0_stand f_X0_stand := sm_met 0 (Or.inl ⟨rfl, rfl⟩) (by decide +kernel) (sn_X0_stand l) ok_X0_stand
/-- the cells of a day of the class, but its line's -/
def sDy (d : Nat) (a : Nat) (_ _ : Int) : Prop := a = d ∨ (d + 10 ≤ a ∧ a ≤ d + 32)
theorem sDy_v {d : Nat} {w u : sm_W} (h : sFr (sDy d) w u) : vL u (d + 1) = vL w (d + 1) := vL_cong (fun k hk => h.outA (fun i v hs => by unfold sDy at hs; omega))
theorem sDy_l {d : Nat} {w u : sm_W} (h : sFr (sDy d) w u) {k : Nat} (hk : k ≤ 7) : wI u (d + 1 + k) = wI w (d + 1 + k) := h.outA (fun i v hs => by unfold sDy at hs; omega)
theorem sDy_l0 {d : Nat} {w u : sm_W} (h : sFr (sDy d) w u) : wI u (d + 1) = wI w (d + 1) := h.outA (fun i v hs => by unfold sDy at hs; omega)
theorem sDy_ok {d : Nat} {w u : sm_W} (h : sFr (sDy d) w u) (hD : dOK w d) : dOK u d := ⟨hD.1, sFr_sT h hD.2.1, hD.2.2.1, by rw [sDy_v h]; exact hD.2.2.2⟩
theorem xSt0_fr (d : Nat) (x p r : Int) (w : sm_W) : sFr (sDy d) w (xSt0 d x p r w) := ((((sFr.refl w).st (by unfold sDy; omega)).st (by unfold sDy; omega)).st (by unfold sDy; omega)).st (by unfold sDy; omega)
theorem xStand_fr (d : Nat) (x p r : Int) (w : sm_W) : sFr (sDy d) w (xStand d x p r w) := by
  unfold xStand
  split
  · exact (xSt0_fr d x p r w).st (by unfold sDy; omega)
  · split
    · exact (xSt0_fr d x p r w).st (by unfold sDy; omega)
    · exact xSt0_fr d x p r w
def xUrg (w : sm_W) (d : Nat) (x p r : Int) : Int := if wI w (d + 1) 8 = 1 then -r else (if wI w (d + 1) 8 = 2 then vTime (vL w (d + 1)) x p else 0)
/-- what standing does -/
theorem xStand_in (d : Nat) (x p r : Int) (w : sm_W) : (∀ y, wI (xStand d x p r w) (d + 27) y = if y = x then p else wI w (d + 27) y) ∧ (∀ y, wI (xStand d x p r w) (d + 28) y = if y = x then 0 else wI w (d + 28) y) ∧ (∀ y, wI (xStand d x p r w) (d + 29) y = if y = x then r else wI w (d + 29) y) ∧ (∀ y, wI (xStand d x p r w) (d + 30) y = if y = x then xUrg w d x p r else wI w (d + 30) y) ∧ (∀ a, (a < d + 27 ∨ d + 30 < a) → wI (xStand d x p r w) a = wI w a) := by
  have o : ∀ a, (a < d + 27 ∨ d + 30 < a) → wI (xSt0 d x p r w) a = wI w a := fun a h => by
    unfold xSt0
    rw [wIf_ne (by omega), wIf_ne (by omega), wIf_ne (by omega), wIf_ne (by omega)]
  have a27 : wI (xSt0 d x p r w) (d + 27) = wI (wsI w (d + 27) x p) (d + 27) := by
    unfold xSt0
    rw [wIf_ne (by omega), wIf_ne (by omega), wIf_ne (by omega)]
  have a28 : wI (xSt0 d x p r w) (d + 28) = wI (wsI (wsI w (d + 27) x p) (d + 28) x 0) (d + 28) := by
    unfold xSt0
    rw [wIf_ne (by omega), wIf_ne (by omega)]
  have a29 : wI (xSt0 d x p r w) (d + 29) = wI (wsI (wsI (wsI w (d + 27) x p) (d + 28) x 0) (d + 29) x r) (d + 29) := by
    unfold xSt0
    rw [wIf_ne (by omega)]
  have b27 : ∀ y, wI (xSt0 d x p r w) (d + 27) y = if y = x then p else wI w (d + 27) y := fun y => by rw [a27, wI_wsI]; simp only [true_and]
  have b28 : ∀ y, wI (xSt0 d x p r w) (d + 28) y = if y = x then 0 else wI w (d + 28) y := fun y => by rw [a28, wI_wsI, wIf_ne (show ¬ d + 28 = d + 27 by omega)]; simp only [true_and]
  have b29 : ∀ y, wI (xSt0 d x p r w) (d + 29) y = if y = x then r else wI w (d + 29) y := fun y => by rw [a29, wI_wsI, wIf_ne (show ¬ d + 29 = d + 28 by omega), wIf_ne (show ¬ d + 29 = d + 27 by omega)]; simp only [true_and]
  have b30 : ∀ y, wI (xSt0 d x p r w) (d + 30) y = if y = x then 0 else wI w (d + 30) y := fun y => by
    unfold xSt0
    rw [wI_wsI, wIf_ne (show ¬ d + 30 = d + 29 by omega), wIf_ne (show ¬ d + 30 = d + 28 by omega), wIf_ne (show ¬ d + 30 = d + 27 by omega)]
    simp only [true_and]
  have st : ∀ z, (∀ a, a ≠ d + 30 → wI (wsI (xSt0 d x p r w) (d + 30) x z) a = wI (xSt0 d x p r w) a) ∧ ∀ y, wI (wsI (xSt0 d x p r w) (d + 30) x z) (d + 30) y = if y = x then z else wI w (d + 30) y := fun z => ⟨fun a h => wIf_ne h, fun y => by
    rw [wI_wsI, b30]
    by_cases c : y = x
    · rw [if_pos ⟨rfl, c⟩, if_pos c]
    · rw [if_neg (fun h => c h.2), if_neg c, if_neg c]⟩
  unfold xStand xUrg
  split
  · obtain ⟨s1, s2⟩ := st (-r)
    refine ⟨fun y => ?_, fun y => ?_, fun y => ?_, s2, fun a h => ?_⟩
    · rw [s1 _ (by omega)]; exact b27 y
    · rw [s1 _ (by omega)]; exact b28 y
    · rw [s1 _ (by omega)]; exact b29 y
    · rw [s1 _ (by omega)]; exact o a h
  · split
    · obtain ⟨s1, s2⟩ := st (vTime (vL w (d + 1)) x p)
      refine ⟨fun y => ?_, fun y => ?_, fun y => ?_, s2, fun a h => ?_⟩
      · rw [s1 _ (by omega)]; exact b27 y
      · rw [s1 _ (by omega)]; exact b28 y
      · rw [s1 _ (by omega)]; exact b29 y
      · rw [s1 _ (by omega)]; exact o a h
    · exact ⟨b27, b28, b29, b30, o⟩
/-- where a shuttle of the class's day is -/
def xSh (w : sm_W) (d : Nat) (x : Int) : Prop := (0 ≤ wI w (d + 27) x ∧ wI w (d + 27) x < 8) ∧ (wI w (d + 28) x = 0 ∨ wI w (d + 28) x = 1) ∧ (wI w (d + 1 + 3) x < wI w (d + 1 + 4) x → wI w (d + 1 + 3) x ≤ wI w (d + 27) x ∧ wI w (d + 27) x ≤ wI w (d + 1 + 4) x) ∧ (wI w (d + 1 + 4) x ≤ wI w (d + 1 + 3) x → wI w (d + 1 + 4) x ≤ wI w (d + 27) x ∧ wI w (d + 27) x ≤ wI w (d + 1 + 3) x) ∧ (wI w (d + 28) x = 1 → wI w (d + 27) x ≠ wI w (d + 1 + 4) x)
def xDay (w : sm_W) (d : Nat) : Prop := dOK w d ∧ ∀ x, 0 ≤ x → x < wI w (d + 1) 7 → xSh w d x
def xCan (w : sm_W) (d : Nat) (x t : Int) : Int := if wI w (d + 27) x = wI w (d + 1 + 4) x then 0 else (if wI w (d + 28) x = 0 then (if wI w (d + 29) x ≤ t then (if wI w (d + 31) (sFrom (wI w (d + 27) x) (mWay (vL w (d + 1)) x)) = 0 then (if wI w (d + 27) x + mWay (vL w (d + 1)) x = wI w (d + 1 + 4) x then 1 else (if wI w (d + 32) (wI w (d + 27) x + mWay (vL w (d + 1)) x) < wI w (d + 1 + 1) (wI w (d + 27) x + mWay (vL w (d + 1)) x) then 1 else 0)) else 0) else 0) else 0)
def p_X0_canLeave : List sm_V → sm_W → Prop
  | [.inr (.inl d), .inl x, .inl t], w => xDay w d ∧ 0 ≤ x ∧ x < wI w (d + 1) 7
  | _, _ => False
def f_X0_canLeave : sm_F
  | [.inr (.inl d), .inl x, .inl t], w => (some (.inl (xCan w d x t)), w)
  | _, w => (none, w)
def tb_X0_canLeave : List (Nat × List sm_O) := [(0, [oA 0, oI 1, oCv 0 11 p_X0_isAtEnd f_X0_isAtEnd 0 0 2, oNe0 27, oA 0, oGr 0 11 6, oI 1, oZl, oNe0 27, oA 0, oGr 0 11 7, oI 1, oIl, oI 2, oLe 29, oGo 27]),
  (27, [oK 0, oZr]),
  (29, [oA 0, oGr 0 11 9, oA 0, oGr 0 11 0, oI 1, oA 0, oGr 0 11 5, oI 1, oIl, oCv 2 9 p_X2_stretchAhead f_X2_stretchAhead 0 0 3, oZl, oEq0 53, oK 0, oZr]),
  (53, [oA 0, oGr 0 11 0, oI 1, oA 0, oGr 0 11 5, oI 1, oIl, oCv 2 9 p_X2_nextStation f_X2_nextStation 0 0 3, oIs 3, oI 3, oA 0, oGr 0 11 0, oGr 2 9 3, oI 1, oIl, oEq 99, oA 0, oGr 0 11 10, oI 3, oIl, oA 0, oGr 0 11 0, oGr 2 9 0, oI 3, oIl, oGe 103, oGo 99]),
  (99, [oK 1, oGo 104]),
  (103, [oK 0, oGo 104]),
  (104, [oZr])]
set_option maxRecDepth 100000 in
theorem sb_X0_canLeave_0 (l : Launch) : sm_SndB l RX0 "canLeave" cX0_canLeave 4 2 2 0 [oA 0, oI 1, oCv 0 11 p_X0_isAtEnd f_X0_isAtEnd 0 0 2, oNe0 27, oA 0, oGr 0 11 6, oI 1, oZl, oNe0 27, oA 0, oGr 0 11 7, oI 1, oIl, oI 2, oLe 29, oGo 27] := sb_cons (sd_aload_n (by decide +kernel : decode cX0_canLeave 0 = .ok (.aload_n 0, 1)) rfl) (sb_cons (sd_iload_n (by decide +kernel : decode cX0_canLeave 1 = .ok (.iload_n 1, 1)) rfl) (sb_cons (sd_callv (n := 1) (met_X0_isAtEnd l) (by decide) (by decide) wm_332 wm_330 wm_2 ⟨by decide +kernel, by decide +kernel, by decide +kernel⟩ kl_0 wm_331 wm_1085 (by decide +kernel : decode cX0_canLeave 2 = .ok (.invokevirtual 123, 3))) (sb_cons (sd_ne0 (by decide +kernel : decode cX0_canLeave 5 = .ok (.ifCond .ne 22, 3)) (by decide)) (sb_cons (sd_aload_n (by decide +kernel : decode cX0_canLeave 8 = .ok (.aload_n 0, 1)) rfl) (sb_cons (sd_getr (k := 6) kl_0 (by decide) rfl wm_84 (by decide +kernel : decode cX0_canLeave 9 = .ok (.getfield 30, 3))) (sb_cons (sd_iload_n (by decide +kernel : decode cX0_canLeave 12 = .ok (.iload_n 1, 1)) rfl) (sb_cons (sd_baload (by decide +kernel : decode cX0_canLeave 13 = .ok (.baload, 1))) (sb_cons (sd_ne0 (by decide +kernel : decode cX0_canLeave 14 = .ok (.ifCond .ne 13, 3)) (by decide)) (sb_cons (sd_aload_n (by decide +kernel : decode cX0_canLeave 17 = .ok (.aload_n 0, 1)) rfl) (sb_cons (sd_getr (k := 7) kl_0 (by decide) rfl wm_85 (by decide +kernel : decode cX0_canLeave 18 = .ok (.getfield 34, 3))) (sb_cons (sd_iload_n (by decide +kernel : decode cX0_canLeave 21 = .ok (.iload_n 1, 1)) rfl) (sb_cons (sd_iaload (by decide +kernel : decode cX0_canLeave 22 = .ok (.iaload, 1))) (sb_cons (sd_iload_n (by decide +kernel : decode cX0_canLeave 23 = .ok (.iload_n 2, 1)) rfl) (sb_cons (sd_le (by decide +kernel : decode cX0_canLeave 24 = .ok (.if_icmp .le 5, 3)) (by decide)) (sb_cons (sd_fall (x := 0)) sb_nil)))))))))))))))
set_option maxRecDepth 100000 in
theorem sb_X0_canLeave_27 (l : Launch) : sm_SndB l RX0 "canLeave" cX0_canLeave 4 2 2 27 [oK 0, oZr] := sb_cons (sd_iconst (by decide +kernel : decode cX0_canLeave 27 = .ok (.iconst 0, 1)) ⟨by decide, by decide⟩) (sb_cons (sd_zreturn (x := 0) rfl (by decide +kernel : decode cX0_canLeave 28 = .ok (.ireturn, 1))) sb_nil)
set_option maxRecDepth 100000 in
theorem sb_X0_canLeave_29 (l : Launch) : sm_SndB l RX0 "canLeave" cX0_canLeave 4 2 2 29 [oA 0, oGr 0 11 9, oA 0, oGr 0 11 0, oI 1, oA 0, oGr 0 11 5, oI 1, oIl, oCv 2 9 p_X2_stretchAhead f_X2_stretchAhead 0 0 3, oZl, oEq0 53, oK 0, oZr] := sb_cons (sd_aload_n (by decide +kernel : decode cX0_canLeave 29 = .ok (.aload_n 0, 1)) rfl) (sb_cons (sd_getr (k := 9) kl_0 (by decide) rfl wm_87 (by decide +kernel : decode cX0_canLeave 30 = .ok (.getfield 40, 3))) (sb_cons (sd_aload_n (by decide +kernel : decode cX0_canLeave 33 = .ok (.aload_n 0, 1)) rfl) (sb_cons (sd_getr (k := 0) kl_0 (by decide) rfl wm_68 (by decide +kernel : decode cX0_canLeave 34 = .ok (.getfield 12, 3))) (sb_cons (sd_iload_n (by decide +kernel : decode cX0_canLeave 37 = .ok (.iload_n 1, 1)) rfl) (sb_cons (sd_aload_n (by decide +kernel : decode cX0_canLeave 38 = .ok (.aload_n 0, 1)) rfl) (sb_cons (sd_getr (k := 5) kl_0 (by decide) rfl wm_83 (by decide +kernel : decode cX0_canLeave 39 = .ok (.getfield 26, 3))) (sb_cons (sd_iload_n (by decide +kernel : decode cX0_canLeave 42 = .ok (.iload_n 1, 1)) rfl) (sb_cons (sd_iaload (by decide +kernel : decode cX0_canLeave 43 = .ok (.iaload, 1))) (sb_cons (sd_callv (n := 2) (met_X2_stretchAhead l) (by decide) (by decide) wm_316 wm_313 wm_3 ⟨by decide +kernel, by decide +kernel, by decide +kernel⟩ kl_2 wm_314 wm_315 (by decide +kernel : decode cX0_canLeave 44 = .ok (.invokevirtual 103, 3))) (sb_cons (sd_baload (by decide +kernel : decode cX0_canLeave 47 = .ok (.baload, 1))) (sb_cons (sd_eq0 (by decide +kernel : decode cX0_canLeave 48 = .ok (.ifCond .eq 5, 3)) (by decide)) (sb_cons (sd_iconst (by decide +kernel : decode cX0_canLeave 51 = .ok (.iconst 0, 1)) ⟨by decide, by decide⟩) (sb_cons (sd_zreturn (x := 0) rfl (by decide +kernel : decode cX0_canLeave 52 = .ok (.ireturn, 1))) sb_nil)))))))))))))
set_option maxRecDepth 100000 in
theorem sb_X0_canLeave_53 (l : Launch) : sm_SndB l RX0 "canLeave" cX0_canLeave 4 2 2 53 [oA 0, oGr 0 11 0, oI 1, oA 0, oGr 0 11 5, oI 1, oIl, oCv 2 9 p_X2_nextStation f_X2_nextStation 0 0 3, oIs 3, oI 3, oA 0, oGr 0 11 0, oGr 2 9 3, oI 1, oIl, oEq 99, oA 0, oGr 0 11 10, oI 3, oIl, oA 0, oGr 0 11 0, oGr 2 9 0, oI 3, oIl, oGe 103, oGo 99] := sb_cons (sd_aload_n (by decide +kernel : decode cX0_canLeave 53 = .ok (.aload_n 0, 1)) rfl) (sb_cons (sd_getr (k := 0) kl_0 (by decide) rfl wm_68 (by decide +kernel : decode cX0_canLeave 54 = .ok (.getfield 12, 3))) (sb_cons (sd_iload_n (by decide +kernel : decode cX0_canLeave 57 = .ok (.iload_n 1, 1)) rfl) (sb_cons (sd_aload_n (by decide +kernel : decode cX0_canLeave 58 = .ok (.aload_n 0, 1)) rfl) (sb_cons (sd_getr (k := 5) kl_0 (by decide) rfl wm_83 (by decide +kernel : decode cX0_canLeave 59 = .ok (.getfield 26, 3))) (sb_cons (sd_iload_n (by decide +kernel : decode cX0_canLeave 62 = .ok (.iload_n 1, 1)) rfl) (sb_cons (sd_iaload (by decide +kernel : decode cX0_canLeave 63 = .ok (.iaload, 1))) (sb_cons (sd_callv (n := 2) (met_X2_nextStation l) (by decide) (by decide) wm_306 wm_303 wm_3 ⟨by decide +kernel, by decide +kernel, by decide +kernel⟩ kl_2 wm_304 wm_305 (by decide +kernel : decode cX0_canLeave 64 = .ok (.invokevirtual 100, 3))) (sb_cons (sd_istore_n (by decide +kernel : decode cX0_canLeave 67 = .ok (.istore_n 3, 1)) rfl) (sb_cons (sd_iload_n (by decide +kernel : decode cX0_canLeave 68 = .ok (.iload_n 3, 1)) rfl) (sb_cons (sd_aload_n (by decide +kernel : decode cX0_canLeave 69 = .ok (.aload_n 0, 1)) rfl) (sb_cons (sd_getr (k := 0) kl_0 (by decide) rfl wm_68 (by decide +kernel : decode cX0_canLeave 70 = .ok (.getfield 12, 3))) (sb_cons (sd_getr (k := 3) kl_2 (by decide) rfl wm_48 (by decide +kernel : decode cX0_canLeave 73 = .ok (.getfield 97, 3))) (sb_cons (sd_iload_n (by decide +kernel : decode cX0_canLeave 76 = .ok (.iload_n 1, 1)) rfl) (sb_cons (sd_iaload (by decide +kernel : decode cX0_canLeave 77 = .ok (.iaload, 1))) (sb_cons (sd_eq (by decide +kernel : decode cX0_canLeave 78 = .ok (.if_icmp .eq 21, 3)) (by decide)) (sb_cons (sd_aload_n (by decide +kernel : decode cX0_canLeave 81 = .ok (.aload_n 0, 1)) rfl) (sb_cons (sd_getr (k := 10) kl_0 (by decide) rfl wm_88 (by decide +kernel : decode cX0_canLeave 82 = .ok (.getfield 43, 3))) (sb_cons (sd_iload_n (by decide +kernel : decode cX0_canLeave 85 = .ok (.iload_n 3, 1)) rfl) (sb_cons (sd_iaload (by decide +kernel : decode cX0_canLeave 86 = .ok (.iaload, 1))) (sb_cons (sd_aload_n (by decide +kernel : decode cX0_canLeave 87 = .ok (.aload_n 0, 1)) rfl) (sb_cons (sd_getr (k := 0) kl_0 (by decide) rfl wm_68 (by decide +kernel : decode cX0_canLeave 88 = .ok (.getfield 12, 3))) (sb_cons (sd_getr (k := 0) kl_2 (by decide) rfl wm_40 (by decide +kernel : decode cX0_canLeave 91 = .ok (.getfield 127, 3))) (sb_cons (sd_iload_n (by decide +kernel : decode cX0_canLeave 94 = .ok (.iload_n 3, 1)) rfl) (sb_cons (sd_iaload (by decide +kernel : decode cX0_canLeave 95 = .ok (.iaload, 1))) (sb_cons (sd_ge (by decide +kernel : decode cX0_canLeave 96 = .ok (.if_icmp .ge 7, 3)) (by decide)) (sb_cons (sd_fall (x := 0)) sb_nil))))))))))))))))))))))))))
set_option maxRecDepth 100000 in
theorem sb_X0_canLeave_99 (l : Launch) : sm_SndB l RX0 "canLeave" cX0_canLeave 4 2 2 99 [oK 1, oGo 104] := sb_cons (sd_iconst (by decide +kernel : decode cX0_canLeave 99 = .ok (.iconst 1, 1)) ⟨by decide, by decide⟩) (sb_cons (sd_goto (x := 0) (by decide +kernel : decode cX0_canLeave 100 = .ok (.goto 4, 3)) (by decide)) sb_nil)
set_option maxRecDepth 100000 in
theorem sb_X0_canLeave_103 (l : Launch) : sm_SndB l RX0 "canLeave" cX0_canLeave 4 2 2 103 [oK 0, oGo 104] := sb_cons (sd_iconst (by decide +kernel : decode cX0_canLeave 103 = .ok (.iconst 0, 1)) ⟨by decide, by decide⟩) (sb_cons (sd_fall (x := 0)) sb_nil)
set_option maxRecDepth 100000 in
theorem sb_X0_canLeave_104 (l : Launch) : sm_SndB l RX0 "canLeave" cX0_canLeave 4 2 2 104 [oZr] := sb_cons (sd_zreturn (x := 0) rfl (by decide +kernel : decode cX0_canLeave 104 = .ok (.ireturn, 1))) sb_nil
theorem sn_X0_canLeave (l : Launch) : sm_SndT l RX0 "canLeave" cX0_canLeave 4 2 2 tb_X0_canLeave := st_cons (sb_X0_canLeave_0 l) (st_cons (sb_X0_canLeave_27 l) (st_cons (sb_X0_canLeave_29 l) (st_cons (sb_X0_canLeave_53 l) (st_cons (sb_X0_canLeave_99 l) (st_cons (sb_X0_canLeave_103 l) (st_cons (sb_X0_canLeave_104 l) (st_nil)))))))
set_option maxRecDepth 100000 in
set_option maxHeartbeats 4000000 in
theorem ok_X0_canLeave : sm_Ok tb_X0_canLeave 4 0 0 p_X0_canLeave f_X0_canLeave := by
  intro as w hp ha hw
  match as, hp with
  | [.inr (.inl d), .inl x, .inl t], hp =>
  refine ⟨Nat.le_of_ble_eq_true rfl, fun Z hZ => ?_⟩
  obtain ⟨hX, x0, x1⟩ := hp
  have hD := hX.1
  obtain ⟨d0, d9, d18, d27, d28, d29, d30, d31, d32, s0, s1, s2, s5, s6, s7, s8, s9, s10⟩ := dS hD.2.1 hD.1
  obtain ⟨l0, l1, l2, l3, l4, l5, l6, l7, r0, r1, r2, r3, r4, r5, r6⟩ := lS hD.2.1 (dL hD.1)
  have hn := dOK_n hD
  have hT := hD.2.1
  have hL := hD.2.2.1
  have hs := hX.2 x x0 x1
  unfold xSh at hs
  have hq := lOK_s hD.2 x0 x1
  have hw := lWay (w := w) (a := d + 1) x0
  have hsf : (0 < mWay (vL w (d + 1)) x → sFrom (wI w (d + 27) x) (mWay (vL w (d + 1)) x) = wI w (d + 27) x) ∧ (¬ 0 < mWay (vL w (d + 1)) x → sFrom (wI w (d + 27) x) (mWay (vL w (d + 1)) x) = wI w (d + 27) x - 1) := ⟨fun h => if_pos h, fun h => if_neg h⟩
  obtain ⟨z, hz⟩ : ∃ z, z = xCan w d x t := ⟨_, rfl⟩
  have hze : xCan w d x t = z := hz.symm
  unfold xCan at hz
  generalize hSe : sFrom (wI w (d + 27) x) (mWay (vL w (d + 1)) x) = S at *
  generalize hWe : mWay (vL w (d + 1)) x = W at *
  refine hZ (fun _ => false) 16 0 _ _ _ _ _ ?_
  simp only [sm_run, sm_blk, sm_get, sm_ent, sm_ents, sm_wds, sm_wd, sm_nl, sm_pop, sm_back, sm_cases, oK, oLK, oL, oI, oA, oJ, oIs, oAs, oJs, oInc, oAdd, oSub, oMul, oDiv, oRem, oNeg, oAnd, oAndB, oOr, oShl, oI2c, oI2l, oL2i, oLand, oLor, oLshl, oLshr, oLushr, oLcmp, oDup, oDup2, oPop, oGo, oFg, oEq, oNe, oLt, oGe, oGt, oLe, oEq0, oNe0, oLt0, oGe0, oGt0, oLe0, oSw, oGi, oGr, oPi, oPz, oPr, oLen, oIl, oZl, oCl, oRl, oIst, oZst, oCst, oRst, oCopy, oNew, oNa, oNa2, oObj, oCs, oCv, oCi, oIr, oZr, oVr, Nat.beq, List.getElem?_cons_zero, List.getElem?_cons_succ, List.set_cons_zero, List.set_cons_succ, List.length_cons, List.length_nil, List.nil_append, List.cons_append, List.append_nil, List.replicate_succ, List.replicate_zero, Nat.reduceAdd, Nat.reduceSub, Nat.reduceLT, Nat.reduceLeDiff, Nat.reduceBEq, true_and, and_true, Nat.zero_add, Nat.add_zero, Nat.le_refl, Option.some.injEq, exists_eq_left', true_or, or_true, or_false, false_or, reduceCtorEq, Prod.mk.injEq, Sum.inl.injEq, and_self, false_and, and_false, not_true_eq_false, not_false_eq_true, false_implies, true_implies, sm_r, Int.add_zero, Int.zero_add, wI_wsI, wS_wsI, wR_wsI, wI_wCp, wS_wCp, wR_wCp, Nat.reduceEqDiff, reduceIte, sT_iff, sT_iffC, wIf_ne, ne_eq, Bool.false_or, Bool.true_or, Bool.or_false, Bool.or_true, Bool.or_self, Nat.left_eq_add, Nat.add_eq_left, Nat.add_left_inj, tb_X0_canLeave, p_X0_isAtEnd, p_X2_nextStation, p_X2_stretchAhead, f_X0_isAtEnd, f_X2_nextStation, f_X2_stretchAhead, p_X0_canLeave, f_X0_canLeave, d0, s0, s5, s6, s7, s9, s10, d27, d28, d29, d31, d32, l0, r3, l4, r0, l1, hD, hT, hL, hze, hWe, hSe]
  repeat' (first | exact True.intro | with_reducible assumption | with_reducible refine And.intro ?_ ?_ | intro _)
  all_goals first
    | omega
    | assumption
    | rfl
    | (split <;> omega)
    | grind
    | skip
theorem met_X0_canLeave (l : Launch) : sm_Met l yX0_canLeave cX0_canLeave 4 (some .boolean) 2 0 0 p_X0_canLeave f_X0_canLeave := sm_met 2 (Or.inr (Or.inr ⟨rfl, rfl⟩)) (by decide +kernel) (sn_X0_canLeave l) ok_X0_canLeave
def xBef (w : sm_W) (d : Nat) (x y : Int) : Int := if wI w (d + 30) x = wI w (d + 30) y then (if wI w (d + 1 + 7) y < wI w (d + 1 + 7) x then 1 else 0) else (if wI w (d + 30) y < wI w (d + 30) x then 1 else 0)
def p_X0_goesBefore : List sm_V → sm_W → Prop
  | [.inr (.inl d), .inl x, .inl y], w => dOK w d ∧ 0 ≤ x ∧ x < 8 ∧ 0 ≤ y ∧ y < 8
  | _, _ => False
def f_X0_goesBefore : sm_F
  | [.inr (.inl d), .inl x, .inl y], w => (some (.inl (xBef w d x y)), w)
  | _, w => (none, w)
def tb_X0_goesBefore : List (Nat × List sm_O) := [(0, [oA 0, oGr 0 11 8, oI 1, oIl, oA 0, oGr 0 11 8, oI 2, oIl, oEq 36, oA 0, oGr 0 11 8, oI 1, oIl, oA 0, oGr 0 11 8, oI 2, oIl, oLe 34, oK 1, oGo 35]),
  (34, [oK 0, oGo 35]),
  (35, [oZr]),
  (36, [oA 0, oGr 0 11 0, oGr 2 9 6, oI 1, oIl, oA 0, oGr 0 11 0, oGr 2 9 6, oI 2, oIl, oLe 61, oK 1, oGo 62]),
  (61, [oK 0, oGo 62]),
  (62, [oZr])]
set_option maxRecDepth 100000 in
theorem sb_X0_goesBefore_0 (l : Launch) : sm_SndB l RX0 "goesBefore" cX0_goesBefore 3 2 0 0 [oA 0, oGr 0 11 8, oI 1, oIl, oA 0, oGr 0 11 8, oI 2, oIl, oEq 36, oA 0, oGr 0 11 8, oI 1, oIl, oA 0, oGr 0 11 8, oI 2, oIl, oLe 34, oK 1, oGo 35] := sb_cons (sd_aload_n (by decide +kernel : decode cX0_goesBefore 0 = .ok (.aload_n 0, 1)) rfl) (sb_cons (sd_getr (k := 8) kl_0 (by decide) rfl wm_86 (by decide +kernel : decode cX0_goesBefore 1 = .ok (.getfield 37, 3))) (sb_cons (sd_iload_n (by decide +kernel : decode cX0_goesBefore 4 = .ok (.iload_n 1, 1)) rfl) (sb_cons (sd_iaload (by decide +kernel : decode cX0_goesBefore 5 = .ok (.iaload, 1))) (sb_cons (sd_aload_n (by decide +kernel : decode cX0_goesBefore 6 = .ok (.aload_n 0, 1)) rfl) (sb_cons (sd_getr (k := 8) kl_0 (by decide) rfl wm_86 (by decide +kernel : decode cX0_goesBefore 7 = .ok (.getfield 37, 3))) (sb_cons (sd_iload_n (by decide +kernel : decode cX0_goesBefore 10 = .ok (.iload_n 2, 1)) rfl) (sb_cons (sd_iaload (by decide +kernel : decode cX0_goesBefore 11 = .ok (.iaload, 1))) (sb_cons (sd_eq (by decide +kernel : decode cX0_goesBefore 12 = .ok (.if_icmp .eq 24, 3)) (by decide)) (sb_cons (sd_aload_n (by decide +kernel : decode cX0_goesBefore 15 = .ok (.aload_n 0, 1)) rfl) (sb_cons (sd_getr (k := 8) kl_0 (by decide) rfl wm_86 (by decide +kernel : decode cX0_goesBefore 16 = .ok (.getfield 37, 3))) (sb_cons (sd_iload_n (by decide +kernel : decode cX0_goesBefore 19 = .ok (.iload_n 1, 1)) rfl) (sb_cons (sd_iaload (by decide +kernel : decode cX0_goesBefore 20 = .ok (.iaload, 1))) (sb_cons (sd_aload_n (by decide +kernel : decode cX0_goesBefore 21 = .ok (.aload_n 0, 1)) rfl) (sb_cons (sd_getr (k := 8) kl_0 (by decide) rfl wm_86 (by decide +kernel : decode cX0_goesBefore 22 = .ok (.getfield 37, 3))) (sb_cons (sd_iload_n (by decide +kernel : decode cX0_goesBefore 25 = .ok (.iload_n 2, 1)) rfl) (sb_cons (sd_iaload (by decide +kernel : decode cX0_goesBefore 26 = .ok (.iaload, 1))) (sb_cons (sd_le (by decide +kernel : decode cX0_goesBefore 27 = .ok (.if_icmp .le 7, 3)) (by decide)) (sb_cons (sd_iconst (by decide +kernel : decode cX0_goesBefore 30 = .ok (.iconst 1, 1)) ⟨by decide, by decide⟩) (sb_cons (sd_goto (x := 0) (by decide +kernel : decode cX0_goesBefore 31 = .ok (.goto 4, 3)) (by decide)) sb_nil)))))))))))))))))))
set_option maxRecDepth 100000 in
theorem sb_X0_goesBefore_34 (l : Launch) : sm_SndB l RX0 "goesBefore" cX0_goesBefore 3 2 0 34 [oK 0, oGo 35] := sb_cons (sd_iconst (by decide +kernel : decode cX0_goesBefore 34 = .ok (.iconst 0, 1)) ⟨by decide, by decide⟩) (sb_cons (sd_fall (x := 0)) sb_nil)
set_option maxRecDepth 100000 in
theorem sb_X0_goesBefore_35 (l : Launch) : sm_SndB l RX0 "goesBefore" cX0_goesBefore 3 2 0 35 [oZr] := sb_cons (sd_zreturn (x := 0) rfl (by decide +kernel : decode cX0_goesBefore 35 = .ok (.ireturn, 1))) sb_nil
set_option maxRecDepth 100000 in
theorem sb_X0_goesBefore_36 (l : Launch) : sm_SndB l RX0 "goesBefore" cX0_goesBefore 3 2 0 36 [oA 0, oGr 0 11 0, oGr 2 9 6, oI 1, oIl, oA 0, oGr 0 11 0, oGr 2 9 6, oI 2, oIl, oLe 61, oK 1, oGo 62] := sb_cons (sd_aload_n (by decide +kernel : decode cX0_goesBefore 36 = .ok (.aload_n 0, 1)) rfl) (sb_cons (sd_getr (k := 0) kl_0 (by decide) rfl wm_68 (by decide +kernel : decode cX0_goesBefore 37 = .ok (.getfield 12, 3))) (sb_cons (sd_getr (k := 6) kl_2 (by decide) rfl wm_55 (by decide +kernel : decode cX0_goesBefore 40 = .ok (.getfield 130, 3))) (sb_cons (sd_iload_n (by decide +kernel : decode cX0_goesBefore 43 = .ok (.iload_n 1, 1)) rfl) (sb_cons (sd_iaload (by decide +kernel : decode cX0_goesBefore 44 = .ok (.iaload, 1))) (sb_cons (sd_aload_n (by decide +kernel : decode cX0_goesBefore 45 = .ok (.aload_n 0, 1)) rfl) (sb_cons (sd_getr (k := 0) kl_0 (by decide) rfl wm_68 (by decide +kernel : decode cX0_goesBefore 46 = .ok (.getfield 12, 3))) (sb_cons (sd_getr (k := 6) kl_2 (by decide) rfl wm_55 (by decide +kernel : decode cX0_goesBefore 49 = .ok (.getfield 130, 3))) (sb_cons (sd_iload_n (by decide +kernel : decode cX0_goesBefore 52 = .ok (.iload_n 2, 1)) rfl) (sb_cons (sd_iaload (by decide +kernel : decode cX0_goesBefore 53 = .ok (.iaload, 1))) (sb_cons (sd_le (by decide +kernel : decode cX0_goesBefore 54 = .ok (.if_icmp .le 7, 3)) (by decide)) (sb_cons (sd_iconst (by decide +kernel : decode cX0_goesBefore 57 = .ok (.iconst 1, 1)) ⟨by decide, by decide⟩) (sb_cons (sd_goto (x := 0) (by decide +kernel : decode cX0_goesBefore 58 = .ok (.goto 4, 3)) (by decide)) sb_nil))))))))))))
set_option maxRecDepth 100000 in
theorem sb_X0_goesBefore_61 (l : Launch) : sm_SndB l RX0 "goesBefore" cX0_goesBefore 3 2 0 61 [oK 0, oGo 62] := sb_cons (sd_iconst (by decide +kernel : decode cX0_goesBefore 61 = .ok (.iconst 0, 1)) ⟨by decide, by decide⟩) (sb_cons (sd_fall (x := 0)) sb_nil)
set_option maxRecDepth 100000 in
theorem sb_X0_goesBefore_62 (l : Launch) : sm_SndB l RX0 "goesBefore" cX0_goesBefore 3 2 0 62 [oZr] := sb_cons (sd_zreturn (x := 0) rfl (by decide +kernel : decode cX0_goesBefore 62 = .ok (.ireturn, 1))) sb_nil
theorem sn_X0_goesBefore (l : Launch) : sm_SndT l RX0 "goesBefore" cX0_goesBefore 3 2 0 tb_X0_goesBefore := st_cons (sb_X0_goesBefore_0 l) (st_cons (sb_X0_goesBefore_34 l) (st_cons (sb_X0_goesBefore_35 l) (st_cons (sb_X0_goesBefore_36 l) (st_cons (sb_X0_goesBefore_61 l) (st_cons (sb_X0_goesBefore_62 l) (st_nil))))))
set_option maxRecDepth 100000 in
set_option maxHeartbeats 4000000 in
theorem ok_X0_goesBefore : sm_Ok tb_X0_goesBefore 3 0 0 p_X0_goesBefore f_X0_goesBefore := by
  intro as w hp ha hw
  match as, hp with
  | [.inr (.inl d), .inl x, .inl y], hp =>
  refine ⟨Nat.le_of_ble_eq_true rfl, fun Z hZ => ?_⟩
  obtain ⟨hD, x0, x1, y0, y1⟩ := hp
  obtain ⟨d0, d9, d18, d27, d28, d29, d30, d31, d32, s0, s1, s2, s5, s6, s7, s8, s9, s10⟩ := dS hD.2.1 hD.1
  obtain ⟨l0, l1, l2, l3, l4, l5, l6, l7, r0, r1, r2, r3, r4, r5, r6⟩ := lS hD.2.1 (dL hD.1)
  refine hZ (fun _ => false) 16 0 _ _ _ _ _ ?_
  simp only [sm_run, sm_blk, sm_get, sm_ent, sm_ents, sm_wds, sm_wd, sm_nl, sm_pop, sm_back, sm_cases, oK, oLK, oL, oI, oA, oJ, oIs, oAs, oJs, oInc, oAdd, oSub, oMul, oDiv, oRem, oNeg, oAnd, oAndB, oOr, oShl, oI2c, oI2l, oL2i, oLand, oLor, oLshl, oLshr, oLushr, oLcmp, oDup, oDup2, oPop, oGo, oFg, oEq, oNe, oLt, oGe, oGt, oLe, oEq0, oNe0, oLt0, oGe0, oGt0, oLe0, oSw, oGi, oGr, oPi, oPz, oPr, oLen, oIl, oZl, oCl, oRl, oIst, oZst, oCst, oRst, oCopy, oNew, oNa, oNa2, oObj, oCs, oCv, oCi, oIr, oZr, oVr, Nat.beq, List.getElem?_cons_zero, List.getElem?_cons_succ, List.set_cons_zero, List.set_cons_succ, List.length_cons, List.length_nil, List.nil_append, List.cons_append, List.append_nil, List.replicate_succ, List.replicate_zero, Nat.reduceAdd, Nat.reduceSub, Nat.reduceLT, Nat.reduceLeDiff, Nat.reduceBEq, true_and, and_true, Nat.zero_add, Nat.add_zero, Nat.le_refl, Option.some.injEq, exists_eq_left', true_or, or_true, or_false, false_or, reduceCtorEq, Prod.mk.injEq, Sum.inl.injEq, and_self, false_and, and_false, not_true_eq_false, not_false_eq_true, false_implies, true_implies, sm_r, Int.add_zero, Int.zero_add, wI_wsI, wS_wsI, wR_wsI, wI_wCp, wS_wCp, wR_wCp, Nat.reduceEqDiff, reduceIte, sT_iff, sT_iffC, wIf_ne, ne_eq, Bool.false_or, Bool.true_or, Bool.or_false, Bool.or_true, Bool.or_self, Nat.left_eq_add, Nat.add_eq_left, Nat.add_left_inj, tb_X0_goesBefore, p_X0_goesBefore, f_X0_goesBefore, d0, s0, s8, d30, l0, r6, l7]
  repeat' (first | exact True.intro | with_reducible assumption | with_reducible refine And.intro ?_ ?_ | intro _)
  all_goals first
    | omega
    | assumption
    | rfl
    | (split <;> omega)
    | grind [xBef]
    | skip
theorem met_X0_goesBefore (l : Launch) : sm_Met l yX0_goesBefore cX0_goesBefore 3 (some .boolean) 0 0 0 p_X0_goesBefore f_X0_goesBefore := sm_met 2 (Or.inr (Or.inr ⟨rfl, rfl⟩)) (by decide +kernel) (sn_X0_goesBefore l) ok_X0_goesBefore
def xNx (w : sm_W) (d : Nat) (t x best : Int) : Int := if xCan w d x t = 1 then (if best < 0 then x else (if xBef w d x best = 1 then x else best)) else best
def xFirst (w : sm_W) (d : Nat) (t : Int) : Int → Int := itI (xNx w d t) (-6)
theorem xCan_01 (w : sm_W) (d : Nat) (x t : Int) : xCan w d x t = 0 ∨ xCan w d x t = 1 := by
  unfold xCan
  grind
theorem xBef_01 (w : sm_W) (d : Nat) (x y : Int) : xBef w d x y = 0 ∨ xBef w d x y = 1 := by
  unfold xBef
  grind
theorem xFirst_in (w : sm_W) (d : Nat) (t n : Int) (hn : 0 ≤ n) : xFirst w d t n = -6 ∨ (0 ≤ xFirst w d t n ∧ xFirst w d t n < n ∧ xCan w d (xFirst w d t n) t = 1) := by
  refine itI_ind (fun i r => r = -6 ∨ (0 ≤ r ∧ r < i ∧ xCan w d r t = 1)) n (Or.inl rfl) (fun i r h0 h1 h => ?_) n hn (Int.le_refl _)
  unfold xNx
  grind
def p_X0_firstToLeave : List sm_V → sm_W → Prop
  | [.inr (.inl d), .inl t], w => xDay w d
  | _, _ => False
def f_X0_firstToLeave : sm_F
  | [.inr (.inl d), .inl t], w => (some (.inl (xFirst w d t (wI w (d + 1) 7))), w)
  | _, w => (none, w)
def tb_X0_firstToLeave : List (Nat × List sm_O) := [(0, [oK (-6), oIs 2, oK 0, oIs 3, oGo 5]),
  (5, [oI 3, oA 0, oGr 0 11 0, oGi 2 9 7, oGe 46, oA 0, oI 3, oI 1, oCv 0 11 p_X0_canLeave f_X0_canLeave 0 0 3, oEq0 40, oI 2, oLt0 38, oA 0, oI 3, oI 2, oCv 0 11 p_X0_goesBefore f_X0_goesBefore 0 0 3, oEq0 40, oGo 38]),
  (38, [oI 3, oIs 2, oGo 40]),
  (40, [oInc 3 1, oGo 5]),
  (46, [oI 2, oIr])]
set_option maxRecDepth 100000 in
theorem sb_X0_firstToLeave_0 (l : Launch) : sm_SndB l RX0 "firstToLeave" cX0_firstToLeave 4 1 3 0 [oK (-6), oIs 2, oK 0, oIs 3, oGo 5] := sb_cons (sd_bipush (by decide +kernel : decode cX0_firstToLeave 0 = .ok (.bipush (-6), 2)) ⟨by decide, by decide⟩ (by decide)) (sb_cons (sd_istore_n (by decide +kernel : decode cX0_firstToLeave 2 = .ok (.istore_n 2, 1)) rfl) (sb_cons (sd_iconst (by decide +kernel : decode cX0_firstToLeave 3 = .ok (.iconst 0, 1)) ⟨by decide, by decide⟩) (sb_cons (sd_istore_n (by decide +kernel : decode cX0_firstToLeave 4 = .ok (.istore_n 3, 1)) rfl) (sb_cons (sd_fall (x := 0)) sb_nil))))
set_option maxRecDepth 100000 in
theorem sb_X0_firstToLeave_5 (l : Launch) : sm_SndB l RX0 "firstToLeave" cX0_firstToLeave 4 1 3 5 [oI 3, oA 0, oGr 0 11 0, oGi 2 9 7, oGe 46, oA 0, oI 3, oI 1, oCv 0 11 p_X0_canLeave f_X0_canLeave 0 0 3, oEq0 40, oI 2, oLt0 38, oA 0, oI 3, oI 2, oCv 0 11 p_X0_goesBefore f_X0_goesBefore 0 0 3, oEq0 40, oGo 38] := sb_cons (sd_iload_n (by decide +kernel : decode cX0_firstToLeave 5 = .ok (.iload_n 3, 1)) rfl) (sb_cons (sd_aload_n (by decide +kernel : decode cX0_firstToLeave 6 = .ok (.aload_n 0, 1)) rfl) (sb_cons (sd_getr (k := 0) kl_0 (by decide) rfl wm_68 (by decide +kernel : decode cX0_firstToLeave 7 = .ok (.getfield 12, 3))) (sb_cons (sd_geti (k := 7) kl_2 (by decide) rfl wm_59 (by decide +kernel : decode cX0_firstToLeave 10 = .ok (.getfield 77, 3))) (sb_cons (sd_ge (by decide +kernel : decode cX0_firstToLeave 13 = .ok (.if_icmp .ge 33, 3)) (by decide)) (sb_cons (sd_aload_n (by decide +kernel : decode cX0_firstToLeave 16 = .ok (.aload_n 0, 1)) rfl) (sb_cons (sd_iload_n (by decide +kernel : decode cX0_firstToLeave 17 = .ok (.iload_n 3, 1)) rfl) (sb_cons (sd_iload_n (by decide +kernel : decode cX0_firstToLeave 18 = .ok (.iload_n 1, 1)) rfl) (sb_cons (sd_callv (n := 2) (met_X0_canLeave l) (by decide) (by decide) wm_328 wm_326 wm_2 ⟨by decide +kernel, by decide +kernel, by decide +kernel⟩ kl_0 wm_327 wm_1084 (by decide +kernel : decode cX0_firstToLeave 19 = .ok (.invokevirtual 116, 3))) (sb_cons (sd_eq0 (by decide +kernel : decode cX0_firstToLeave 22 = .ok (.ifCond .eq 18, 3)) (by decide)) (sb_cons (sd_iload_n (by decide +kernel : decode cX0_firstToLeave 25 = .ok (.iload_n 2, 1)) rfl) (sb_cons (sd_lt0 (by decide +kernel : decode cX0_firstToLeave 26 = .ok (.ifCond .lt 12, 3)) (by decide)) (sb_cons (sd_aload_n (by decide +kernel : decode cX0_firstToLeave 29 = .ok (.aload_n 0, 1)) rfl) (sb_cons (sd_iload_n (by decide +kernel : decode cX0_firstToLeave 30 = .ok (.iload_n 3, 1)) rfl) (sb_cons (sd_iload_n (by decide +kernel : decode cX0_firstToLeave 31 = .ok (.iload_n 2, 1)) rfl) (sb_cons (sd_callv (n := 2) (met_X0_goesBefore l) (by decide) (by decide) wm_336 wm_334 wm_2 ⟨by decide +kernel, by decide +kernel, by decide +kernel⟩ kl_0 wm_335 wm_1086 (by decide +kernel : decode cX0_firstToLeave 32 = .ok (.invokevirtual 120, 3))) (sb_cons (sd_eq0 (by decide +kernel : decode cX0_firstToLeave 35 = .ok (.ifCond .eq 5, 3)) (by decide)) (sb_cons (sd_fall (x := 0)) sb_nil)))))))))))))))))
set_option maxRecDepth 100000 in
theorem sb_X0_firstToLeave_38 (l : Launch) : sm_SndB l RX0 "firstToLeave" cX0_firstToLeave 4 1 3 38 [oI 3, oIs 2, oGo 40] := sb_cons (sd_iload_n (by decide +kernel : decode cX0_firstToLeave 38 = .ok (.iload_n 3, 1)) rfl) (sb_cons (sd_istore_n (by decide +kernel : decode cX0_firstToLeave 39 = .ok (.istore_n 2, 1)) rfl) (sb_cons (sd_fall (x := 0)) sb_nil))
set_option maxRecDepth 100000 in
theorem sb_X0_firstToLeave_40 (l : Launch) : sm_SndB l RX0 "firstToLeave" cX0_firstToLeave 4 1 3 40 [oInc 3 1, oGo 5] := sb_cons (sd_iinc (by decide +kernel : decode cX0_firstToLeave 40 = .ok (.iinc 3 1, 3))) (sb_cons (sd_goto (x := 0) (by decide +kernel : decode cX0_firstToLeave 43 = .ok (.goto (-38), 3)) (by decide)) sb_nil)
set_option maxRecDepth 100000 in
theorem sb_X0_firstToLeave_46 (l : Launch) : sm_SndB l RX0 "firstToLeave" cX0_firstToLeave 4 1 3 46 [oI 2, oIr] := sb_cons (sd_iload_n (by decide +kernel : decode cX0_firstToLeave 46 = .ok (.iload_n 2, 1)) rfl) (sb_cons (sd_ireturn (x := 0) rfl (by decide +kernel : decode cX0_firstToLeave 47 = .ok (.ireturn, 1))) sb_nil)
theorem sn_X0_firstToLeave (l : Launch) : sm_SndT l RX0 "firstToLeave" cX0_firstToLeave 4 1 3 tb_X0_firstToLeave := st_cons (sb_X0_firstToLeave_0 l) (st_cons (sb_X0_firstToLeave_5 l) (st_cons (sb_X0_firstToLeave_38 l) (st_cons (sb_X0_firstToLeave_40 l) (st_cons (sb_X0_firstToLeave_46 l) (st_nil)))))
set_option maxRecDepth 100000 in
set_option maxHeartbeats 4000000 in
theorem ok_X0_firstToLeave : sm_Ok tb_X0_firstToLeave 4 0 0 p_X0_firstToLeave f_X0_firstToLeave := by
  intro as w hp ha hw
  match as, hp with
  | [.inr (.inl d), .inl t], hp =>
  refine ⟨Nat.le_of_ble_eq_true rfl, fun Z hZ => ?_⟩
  have hX := hp
  have hD := hX.1
  obtain ⟨d0, d9, d18, d27, d28, d29, d30, d31, d32, s0, s1, s2, s5, s6, s7, s8, s9, s10⟩ := dS hD.2.1 hD.1
  obtain ⟨l0, l1, l2, l3, l4, l5, l6, l7, r0, r1, r2, r3, r4, r5, r6⟩ := lS hD.2.1 (dL hD.1)
  have hn := dOK_n hD
  have hl := sm_loopI Z 5 0 (wI w (d + 1) 7) (fun i => [some (.inr (.inl d)), some (.inl t), some (.inl (xFirst w d t i)), some (.inl i)]) (fun _ => w) 0 0 hn.1 (fun i h0 h1 ih => by
    have hb := xFirst_in w d t i h0
    have hc := xCan_01 w d i t
    have ha := xBef_01 w d i (xFirst w d t i)
    have hu : xFirst w d t (i + 1) = xNx w d t i (xFirst w d t i) := itI_s _ _ h0
    have he : i = wI w (d + 1) 7 → xFirst w d t i = xFirst w d t (wI w (d + 1) 7) := fun e => by rw [← e]
    rw [hu] at ih
    generalize xFirst w d t i = b at *
    unfold xNx at ih
    rcases hc with c | c
    · rw [if_neg (by omega)] at ih
      refine hZ (fun u => Nat.beq u 5) 14 5 _ _ _ _ _ ?_
      simp only [sm_run, sm_blk, sm_get, sm_ent, sm_ents, sm_wds, sm_wd, sm_nl, sm_pop, sm_back, sm_cases, oK, oLK, oL, oI, oA, oJ, oIs, oAs, oJs, oInc, oAdd, oSub, oMul, oDiv, oRem, oNeg, oAnd, oAndB, oOr, oShl, oI2c, oI2l, oL2i, oLand, oLor, oLshl, oLshr, oLushr, oLcmp, oDup, oDup2, oPop, oGo, oFg, oEq, oNe, oLt, oGe, oGt, oLe, oEq0, oNe0, oLt0, oGe0, oGt0, oLe0, oSw, oGi, oGr, oPi, oPz, oPr, oLen, oIl, oZl, oCl, oRl, oIst, oZst, oCst, oRst, oCopy, oNew, oNa, oNa2, oObj, oCs, oCv, oCi, oIr, oZr, oVr, Nat.beq, List.getElem?_cons_zero, List.getElem?_cons_succ, List.set_cons_zero, List.set_cons_succ, List.length_cons, List.length_nil, List.nil_append, List.cons_append, List.append_nil, List.replicate_succ, List.replicate_zero, Nat.reduceAdd, Nat.reduceSub, Nat.reduceLT, Nat.reduceLeDiff, Nat.reduceBEq, true_and, and_true, Nat.zero_add, Nat.add_zero, Nat.le_refl, Option.some.injEq, exists_eq_left', true_or, or_true, or_false, false_or, reduceCtorEq, Prod.mk.injEq, Sum.inl.injEq, and_self, false_and, and_false, not_true_eq_false, not_false_eq_true, false_implies, true_implies, sm_r, Int.add_zero, Int.zero_add, wI_wsI, wS_wsI, wR_wsI, wI_wCp, wS_wCp, wR_wCp, Nat.reduceEqDiff, reduceIte, sT_iff, sT_iffC, wIf_ne, ne_eq, Bool.false_or, Bool.true_or, Bool.or_false, Bool.or_true, Bool.or_self, Nat.left_eq_add, Nat.add_eq_left, Nat.add_left_inj, tb_X0_firstToLeave, p_X0_canLeave, p_X0_goesBefore, f_X0_canLeave, f_X0_goesBefore, p_X0_firstToLeave, f_X0_firstToLeave, d0, s0, l0, hX, hD, c]
      repeat' (first | exact True.intro | with_reducible assumption | with_reducible refine And.intro ?_ ?_ | intro _)
      all_goals first
        | omega
        | assumption
        | rfl
        | (split <;> omega)
        | (have k9 := ih (by omega)
           (repeat' split at k9) <;> first | exact k9 | omega)
        | (have k9 := ih2 (by omega)
           (repeat' split at k9) <;> first | exact k9 | omega)
        | exact he (by omega)
        | ((with_reducible congr 1) <;> omega)
        | (rw [if_pos (by omega)] at he; exact he)
        | exact hD1 (by omega)
        | exact hD2 (by omega)
        | grind
        | skip
    · rw [if_pos c] at ih
      by_cases c2 : b < 0
      · rw [if_pos c2] at ih
        refine hZ (fun u => Nat.beq u 5) 14 5 _ _ _ _ _ ?_
        simp only [sm_run, sm_blk, sm_get, sm_ent, sm_ents, sm_wds, sm_wd, sm_nl, sm_pop, sm_back, sm_cases, oK, oLK, oL, oI, oA, oJ, oIs, oAs, oJs, oInc, oAdd, oSub, oMul, oDiv, oRem, oNeg, oAnd, oAndB, oOr, oShl, oI2c, oI2l, oL2i, oLand, oLor, oLshl, oLshr, oLushr, oLcmp, oDup, oDup2, oPop, oGo, oFg, oEq, oNe, oLt, oGe, oGt, oLe, oEq0, oNe0, oLt0, oGe0, oGt0, oLe0, oSw, oGi, oGr, oPi, oPz, oPr, oLen, oIl, oZl, oCl, oRl, oIst, oZst, oCst, oRst, oCopy, oNew, oNa, oNa2, oObj, oCs, oCv, oCi, oIr, oZr, oVr, Nat.beq, List.getElem?_cons_zero, List.getElem?_cons_succ, List.set_cons_zero, List.set_cons_succ, List.length_cons, List.length_nil, List.nil_append, List.cons_append, List.append_nil, List.replicate_succ, List.replicate_zero, Nat.reduceAdd, Nat.reduceSub, Nat.reduceLT, Nat.reduceLeDiff, Nat.reduceBEq, true_and, and_true, Nat.zero_add, Nat.add_zero, Nat.le_refl, Option.some.injEq, exists_eq_left', true_or, or_true, or_false, false_or, reduceCtorEq, Prod.mk.injEq, Sum.inl.injEq, and_self, false_and, and_false, not_true_eq_false, not_false_eq_true, false_implies, true_implies, sm_r, Int.add_zero, Int.zero_add, wI_wsI, wS_wsI, wR_wsI, wI_wCp, wS_wCp, wR_wCp, Nat.reduceEqDiff, reduceIte, sT_iff, sT_iffC, wIf_ne, ne_eq, Bool.false_or, Bool.true_or, Bool.or_false, Bool.or_true, Bool.or_self, Nat.left_eq_add, Nat.add_eq_left, Nat.add_left_inj, tb_X0_firstToLeave, p_X0_canLeave, p_X0_goesBefore, f_X0_canLeave, f_X0_goesBefore, p_X0_firstToLeave, f_X0_firstToLeave, d0, s0, l0, hX, hD, c]
        repeat' (first | exact True.intro | with_reducible assumption | with_reducible refine And.intro ?_ ?_ | intro _)
        all_goals first
          | omega
          | assumption
          | rfl
          | (split <;> omega)
          | (have k9 := ih (by omega)
             (repeat' split at k9) <;> first | exact k9 | omega)
          | (have k9 := ih2 (by omega)
             (repeat' split at k9) <;> first | exact k9 | omega)
          | exact he (by omega)
          | ((with_reducible congr 1) <;> omega)
          | (rw [if_pos (by omega)] at he; exact he)
          | exact hD1 (by omega)
          | exact hD2 (by omega)
          | grind
          | skip
      · rw [if_neg c2] at ih
        rcases ha with a | a
        · rw [if_neg (by omega)] at ih
          refine hZ (fun u => Nat.beq u 5) 14 5 _ _ _ _ _ ?_
          simp only [sm_run, sm_blk, sm_get, sm_ent, sm_ents, sm_wds, sm_wd, sm_nl, sm_pop, sm_back, sm_cases, oK, oLK, oL, oI, oA, oJ, oIs, oAs, oJs, oInc, oAdd, oSub, oMul, oDiv, oRem, oNeg, oAnd, oAndB, oOr, oShl, oI2c, oI2l, oL2i, oLand, oLor, oLshl, oLshr, oLushr, oLcmp, oDup, oDup2, oPop, oGo, oFg, oEq, oNe, oLt, oGe, oGt, oLe, oEq0, oNe0, oLt0, oGe0, oGt0, oLe0, oSw, oGi, oGr, oPi, oPz, oPr, oLen, oIl, oZl, oCl, oRl, oIst, oZst, oCst, oRst, oCopy, oNew, oNa, oNa2, oObj, oCs, oCv, oCi, oIr, oZr, oVr, Nat.beq, List.getElem?_cons_zero, List.getElem?_cons_succ, List.set_cons_zero, List.set_cons_succ, List.length_cons, List.length_nil, List.nil_append, List.cons_append, List.append_nil, List.replicate_succ, List.replicate_zero, Nat.reduceAdd, Nat.reduceSub, Nat.reduceLT, Nat.reduceLeDiff, Nat.reduceBEq, true_and, and_true, Nat.zero_add, Nat.add_zero, Nat.le_refl, Option.some.injEq, exists_eq_left', true_or, or_true, or_false, false_or, reduceCtorEq, Prod.mk.injEq, Sum.inl.injEq, and_self, false_and, and_false, not_true_eq_false, not_false_eq_true, false_implies, true_implies, sm_r, Int.add_zero, Int.zero_add, wI_wsI, wS_wsI, wR_wsI, wI_wCp, wS_wCp, wR_wCp, Nat.reduceEqDiff, reduceIte, sT_iff, sT_iffC, wIf_ne, ne_eq, Bool.false_or, Bool.true_or, Bool.or_false, Bool.or_true, Bool.or_self, Nat.left_eq_add, Nat.add_eq_left, Nat.add_left_inj, tb_X0_firstToLeave, p_X0_canLeave, p_X0_goesBefore, f_X0_canLeave, f_X0_goesBefore, p_X0_firstToLeave, f_X0_firstToLeave, d0, s0, l0, hX, hD, c, a]
          repeat' (first | exact True.intro | with_reducible assumption | with_reducible refine And.intro ?_ ?_ | intro _)
          all_goals first
            | omega
            | assumption
            | rfl
            | (split <;> omega)
            | (have k9 := ih (by omega)
               (repeat' split at k9) <;> first | exact k9 | omega)
            | (have k9 := ih2 (by omega)
               (repeat' split at k9) <;> first | exact k9 | omega)
            | exact he (by omega)
            | ((with_reducible congr 1) <;> omega)
            | (rw [if_pos (by omega)] at he; exact he)
            | exact hD1 (by omega)
            | exact hD2 (by omega)
            | grind
            | skip
        · rw [if_pos a] at ih
          refine hZ (fun u => Nat.beq u 5) 14 5 _ _ _ _ _ ?_
          simp only [sm_run, sm_blk, sm_get, sm_ent, sm_ents, sm_wds, sm_wd, sm_nl, sm_pop, sm_back, sm_cases, oK, oLK, oL, oI, oA, oJ, oIs, oAs, oJs, oInc, oAdd, oSub, oMul, oDiv, oRem, oNeg, oAnd, oAndB, oOr, oShl, oI2c, oI2l, oL2i, oLand, oLor, oLshl, oLshr, oLushr, oLcmp, oDup, oDup2, oPop, oGo, oFg, oEq, oNe, oLt, oGe, oGt, oLe, oEq0, oNe0, oLt0, oGe0, oGt0, oLe0, oSw, oGi, oGr, oPi, oPz, oPr, oLen, oIl, oZl, oCl, oRl, oIst, oZst, oCst, oRst, oCopy, oNew, oNa, oNa2, oObj, oCs, oCv, oCi, oIr, oZr, oVr, Nat.beq, List.getElem?_cons_zero, List.getElem?_cons_succ, List.set_cons_zero, List.set_cons_succ, List.length_cons, List.length_nil, List.nil_append, List.cons_append, List.append_nil, List.replicate_succ, List.replicate_zero, Nat.reduceAdd, Nat.reduceSub, Nat.reduceLT, Nat.reduceLeDiff, Nat.reduceBEq, true_and, and_true, Nat.zero_add, Nat.add_zero, Nat.le_refl, Option.some.injEq, exists_eq_left', true_or, or_true, or_false, false_or, reduceCtorEq, Prod.mk.injEq, Sum.inl.injEq, and_self, false_and, and_false, not_true_eq_false, not_false_eq_true, false_implies, true_implies, sm_r, Int.add_zero, Int.zero_add, wI_wsI, wS_wsI, wR_wsI, wI_wCp, wS_wCp, wR_wCp, Nat.reduceEqDiff, reduceIte, sT_iff, sT_iffC, wIf_ne, ne_eq, Bool.false_or, Bool.true_or, Bool.or_false, Bool.or_true, Bool.or_self, Nat.left_eq_add, Nat.add_eq_left, Nat.add_left_inj, tb_X0_firstToLeave, p_X0_canLeave, p_X0_goesBefore, f_X0_canLeave, f_X0_goesBefore, p_X0_firstToLeave, f_X0_firstToLeave, d0, s0, l0, hX, hD, c, a]
          repeat' (first | exact True.intro | with_reducible assumption | with_reducible refine And.intro ?_ ?_ | intro _)
          all_goals first
            | omega
            | assumption
            | rfl
            | (split <;> omega)
            | (have k9 := ih (by omega)
               (repeat' split at k9) <;> first | exact k9 | omega)
            | (have k9 := ih2 (by omega)
               (repeat' split at k9) <;> first | exact k9 | omega)
            | exact he (by omega)
            | ((with_reducible congr 1) <;> omega)
            | (rw [if_pos (by omega)] at he; exact he)
            | exact hD1 (by omega)
            | exact hD2 (by omega)
            | grind
            | skip
    )
  refine hZ (fun u => Nat.beq u 5) 14 0 _ _ _ _ _ ?_
  simp only [sm_run, sm_blk, sm_get, sm_ent, sm_ents, sm_wds, sm_wd, sm_nl, sm_pop, sm_back, sm_cases, oK, oLK, oL, oI, oA, oJ, oIs, oAs, oJs, oInc, oAdd, oSub, oMul, oDiv, oRem, oNeg, oAnd, oAndB, oOr, oShl, oI2c, oI2l, oL2i, oLand, oLor, oLshl, oLshr, oLushr, oLcmp, oDup, oDup2, oPop, oGo, oFg, oEq, oNe, oLt, oGe, oGt, oLe, oEq0, oNe0, oLt0, oGe0, oGt0, oLe0, oSw, oGi, oGr, oPi, oPz, oPr, oLen, oIl, oZl, oCl, oRl, oIst, oZst, oCst, oRst, oCopy, oNew, oNa, oNa2, oObj, oCs, oCv, oCi, oIr, oZr, oVr, Nat.beq, List.getElem?_cons_zero, List.getElem?_cons_succ, List.set_cons_zero, List.set_cons_succ, List.length_cons, List.length_nil, List.nil_append, List.cons_append, List.append_nil, List.replicate_succ, List.replicate_zero, Nat.reduceAdd, Nat.reduceSub, Nat.reduceLT, Nat.reduceLeDiff, Nat.reduceBEq, true_and, and_true, Nat.zero_add, Nat.add_zero, Nat.le_refl, Option.some.injEq, exists_eq_left', true_or, or_true, or_false, false_or, reduceCtorEq, Prod.mk.injEq, Sum.inl.injEq, and_self, false_and, and_false, not_true_eq_false, not_false_eq_true, false_implies, true_implies, sm_r, Int.add_zero, Int.zero_add, wI_wsI, wS_wsI, wR_wsI, wI_wCp, wS_wCp, wR_wCp, Nat.reduceEqDiff, reduceIte, sT_iff, sT_iffC, wIf_ne, ne_eq, Bool.false_or, Bool.true_or, Bool.or_false, Bool.or_true, Bool.or_self, Nat.left_eq_add, Nat.add_eq_left, Nat.add_left_inj, tb_X0_firstToLeave, p_X0_canLeave, p_X0_goesBefore, f_X0_canLeave, f_X0_goesBefore, p_X0_firstToLeave, f_X0_firstToLeave]
  repeat' (first | exact True.intro | with_reducible assumption | with_reducible refine And.intro ?_ ?_ | intro _)
  all_goals first
    | omega
    | assumption
    | rfl
    | (split <;> omega)
    | (have k9 := ih (by omega)
       (repeat' split at k9) <;> first | exact k9 | omega)
    | (have k9 := ih2 (by omega)
       (repeat' split at k9) <;> first | exact k9 | omega)
    | exact he (by omega)
    | ((with_reducible congr 1) <;> omega)
    | (rw [if_pos (by omega)] at he; exact he)
    | exact hD1 (by omega)
    | exact hD2 (by omega)
    | skip
theorem met_X0_firstToLeave (l : Launch) : sm_Met l yX0_firstToLeave cX0_firstToLeave 4 (some .int) 3 0 0 p_X0_firstToLeave f_X0_firstToLeave := sm_met 1 (Or.inr (Or.inl ⟨rfl, rfl⟩)) (by decide +kernel) (sn_X0_firstToLeave l) ok_X0_firstToLeave
def xNe1 (w : sm_W) (d : Nat) (t x r : Int) : Int := if wI w (d + 27) x = wI w (d + 1 + 4) x then r else (if wI w (d + 29) x ≤ t then r else (if r < 0 then wI w (d + 29) x else (if wI w (d + 29) x < r then wI w (d + 29) x else r)))
def xNext (w : sm_W) (d : Nat) (t : Int) : Int → Int := itI (xNe1 w d t) (-6)
def p_X0_nextEvent : List sm_V → sm_W → Prop
  | [.inr (.inl d), .inl t], w => dOK w d
  | _, _ => False
def f_X0_nextEvent : sm_F
  | [.inr (.inl d), .inl t], w => (some (.inl (xNext w d t (wI w (d + 1) 7))), w)
  | _, w => (none, w)
def tb_X0_nextEvent : List (Nat × List sm_O) := [(0, [oK (-6), oIs 2, oK 0, oIs 3, oGo 5]),
  (5, [oI 3, oA 0, oGr 0 11 0, oGi 2 9 7, oGe 61, oA 0, oI 3, oCv 0 11 p_X0_isAtEnd f_X0_isAtEnd 0 0 2, oNe0 55, oA 0, oGr 0 11 7, oI 3, oIl, oI 1, oLe 55, oI 2, oLt0 48, oA 0, oGr 0 11 7, oI 3, oIl, oI 2, oGe 55, oGo 48]),
  (48, [oA 0, oGr 0 11 7, oI 3, oIl, oIs 2, oGo 55]),
  (55, [oInc 3 1, oGo 5]),
  (61, [oI 2, oIr])]
set_option maxRecDepth 100000 in
theorem sb_X0_nextEvent_0 (l : Launch) : sm_SndB l RX0 "nextEvent" cX0_nextEvent 4 1 1 0 [oK (-6), oIs 2, oK 0, oIs 3, oGo 5] := sb_cons (sd_bipush (by decide +kernel : decode cX0_nextEvent 0 = .ok (.bipush (-6), 2)) ⟨by decide, by decide⟩ (by decide)) (sb_cons (sd_istore_n (by decide +kernel : decode cX0_nextEvent 2 = .ok (.istore_n 2, 1)) rfl) (sb_cons (sd_iconst (by decide +kernel : decode cX0_nextEvent 3 = .ok (.iconst 0, 1)) ⟨by decide, by decide⟩) (sb_cons (sd_istore_n (by decide +kernel : decode cX0_nextEvent 4 = .ok (.istore_n 3, 1)) rfl) (sb_cons (sd_fall (x := 0)) sb_nil))))
set_option maxRecDepth 100000 in
theorem sb_X0_nextEvent_5 (l : Launch) : sm_SndB l RX0 "nextEvent" cX0_nextEvent 4 1 1 5 [oI 3, oA 0, oGr 0 11 0, oGi 2 9 7, oGe 61, oA 0, oI 3, oCv 0 11 p_X0_isAtEnd f_X0_isAtEnd 0 0 2, oNe0 55, oA 0, oGr 0 11 7, oI 3, oIl, oI 1, oLe 55, oI 2, oLt0 48, oA 0, oGr 0 11 7, oI 3, oIl, oI 2, oGe 55, oGo 48] := sb_cons (sd_iload_n (by decide +kernel : decode cX0_nextEvent 5 = .ok (.iload_n 3, 1)) rfl) (sb_cons (sd_aload_n (by decide +kernel : decode cX0_nextEvent 6 = .ok (.aload_n 0, 1)) rfl) (sb_cons (sd_getr (k := 0) kl_0 (by decide) rfl wm_68 (by decide +kernel : decode cX0_nextEvent 7 = .ok (.getfield 12, 3))) (sb_cons (sd_geti (k := 7) kl_2 (by decide) rfl wm_59 (by decide +kernel : decode cX0_nextEvent 10 = .ok (.getfield 77, 3))) (sb_cons (sd_ge (by decide +kernel : decode cX0_nextEvent 13 = .ok (.if_icmp .ge 48, 3)) (by decide)) (sb_cons (sd_aload_n (by decide +kernel : decode cX0_nextEvent 16 = .ok (.aload_n 0, 1)) rfl) (sb_cons (sd_iload_n (by decide +kernel : decode cX0_nextEvent 17 = .ok (.iload_n 3, 1)) rfl) (sb_cons (sd_callv (n := 1) (met_X0_isAtEnd l) (by decide) (by decide) wm_332 wm_330 wm_2 ⟨by decide +kernel, by decide +kernel, by decide +kernel⟩ kl_0 wm_331 wm_1085 (by decide +kernel : decode cX0_nextEvent 18 = .ok (.invokevirtual 123, 3))) (sb_cons (sd_ne0 (by decide +kernel : decode cX0_nextEvent 21 = .ok (.ifCond .ne 34, 3)) (by decide)) (sb_cons (sd_aload_n (by decide +kernel : decode cX0_nextEvent 24 = .ok (.aload_n 0, 1)) rfl) (sb_cons (sd_getr (k := 7) kl_0 (by decide) rfl wm_85 (by decide +kernel : decode cX0_nextEvent 25 = .ok (.getfield 34, 3))) (sb_cons (sd_iload_n (by decide +kernel : decode cX0_nextEvent 28 = .ok (.iload_n 3, 1)) rfl) (sb_cons (sd_iaload (by decide +kernel : decode cX0_nextEvent 29 = .ok (.iaload, 1))) (sb_cons (sd_iload_n (by decide +kernel : decode cX0_nextEvent 30 = .ok (.iload_n 1, 1)) rfl) (sb_cons (sd_le (by decide +kernel : decode cX0_nextEvent 31 = .ok (.if_icmp .le 24, 3)) (by decide)) (sb_cons (sd_iload_n (by decide +kernel : decode cX0_nextEvent 34 = .ok (.iload_n 2, 1)) rfl) (sb_cons (sd_lt0 (by decide +kernel : decode cX0_nextEvent 35 = .ok (.ifCond .lt 13, 3)) (by decide)) (sb_cons (sd_aload_n (by decide +kernel : decode cX0_nextEvent 38 = .ok (.aload_n 0, 1)) rfl) (sb_cons (sd_getr (k := 7) kl_0 (by decide) rfl wm_85 (by decide +kernel : decode cX0_nextEvent 39 = .ok (.getfield 34, 3))) (sb_cons (sd_iload_n (by decide +kernel : decode cX0_nextEvent 42 = .ok (.iload_n 3, 1)) rfl) (sb_cons (sd_iaload (by decide +kernel : decode cX0_nextEvent 43 = .ok (.iaload, 1))) (sb_cons (sd_iload_n (by decide +kernel : decode cX0_nextEvent 44 = .ok (.iload_n 2, 1)) rfl) (sb_cons (sd_ge (by decide +kernel : decode cX0_nextEvent 45 = .ok (.if_icmp .ge 10, 3)) (by decide)) (sb_cons (sd_fall (x := 0)) sb_nil)))))))))))))))))))))))
set_option maxRecDepth 100000 in
theorem sb_X0_nextEvent_48 (l : Launch) : sm_SndB l RX0 "nextEvent" cX0_nextEvent 4 1 1 48 [oA 0, oGr 0 11 7, oI 3, oIl, oIs 2, oGo 55] := sb_cons (sd_aload_n (by decide +kernel : decode cX0_nextEvent 48 = .ok (.aload_n 0, 1)) rfl) (sb_cons (sd_getr (k := 7) kl_0 (by decide) rfl wm_85 (by decide +kernel : decode cX0_nextEvent 49 = .ok (.getfield 34, 3))) (sb_cons (sd_iload_n (by decide +kernel : decode cX0_nextEvent 52 = .ok (.iload_n 3, 1)) rfl) (sb_cons (sd_iaload (by decide +kernel : decode cX0_nextEvent 53 = .ok (.iaload, 1))) (sb_cons (sd_istore_n (by decide +kernel : decode cX0_nextEvent 54 = .ok (.istore_n 2, 1)) rfl) (sb_cons (sd_fall (x := 0)) sb_nil)))))
set_option maxRecDepth 100000 in
theorem sb_X0_nextEvent_55 (l : Launch) : sm_SndB l RX0 "nextEvent" cX0_nextEvent 4 1 1 55 [oInc 3 1, oGo 5] := sb_cons (sd_iinc (by decide +kernel : decode cX0_nextEvent 55 = .ok (.iinc 3 1, 3))) (sb_cons (sd_goto (x := 0) (by decide +kernel : decode cX0_nextEvent 58 = .ok (.goto (-53), 3)) (by decide)) sb_nil)
set_option maxRecDepth 100000 in
theorem sb_X0_nextEvent_61 (l : Launch) : sm_SndB l RX0 "nextEvent" cX0_nextEvent 4 1 1 61 [oI 2, oIr] := sb_cons (sd_iload_n (by decide +kernel : decode cX0_nextEvent 61 = .ok (.iload_n 2, 1)) rfl) (sb_cons (sd_ireturn (x := 0) rfl (by decide +kernel : decode cX0_nextEvent 62 = .ok (.ireturn, 1))) sb_nil)
theorem sn_X0_nextEvent (l : Launch) : sm_SndT l RX0 "nextEvent" cX0_nextEvent 4 1 1 tb_X0_nextEvent := st_cons (sb_X0_nextEvent_0 l) (st_cons (sb_X0_nextEvent_5 l) (st_cons (sb_X0_nextEvent_48 l) (st_cons (sb_X0_nextEvent_55 l) (st_cons (sb_X0_nextEvent_61 l) (st_nil)))))
set_option maxRecDepth 100000 in
set_option maxHeartbeats 4000000 in
theorem ok_X0_nextEvent : sm_Ok tb_X0_nextEvent 4 0 0 p_X0_nextEvent f_X0_nextEvent := by
  intro as w hp ha hw
  match as, hp with
  | [.inr (.inl d), .inl t], hp =>
  refine ⟨Nat.le_of_ble_eq_true rfl, fun Z hZ => ?_⟩
  have hD := hp
  obtain ⟨d0, d9, d18, d27, d28, d29, d30, d31, d32, s0, s1, s2, s5, s6, s7, s8, s9, s10⟩ := dS hD.2.1 hD.1
  obtain ⟨l0, l1, l2, l3, l4, l5, l6, l7, r0, r1, r2, r3, r4, r5, r6⟩ := lS hD.2.1 (dL hD.1)
  have hn := dOK_n hD
  have hl := sm_loopI Z 5 0 (wI w (d + 1) 7) (fun i => [some (.inr (.inl d)), some (.inl t), some (.inl (xNext w d t i)), some (.inl i)]) (fun _ => w) 0 0 hn.1 (fun i h0 h1 ih => by
    have hu : xNext w d t (i + 1) = xNe1 w d t i (xNext w d t i) := itI_s _ _ h0
    have he : i = wI w (d + 1) 7 → xNext w d t i = xNext w d t (wI w (d + 1) 7) := fun e => by rw [← e]
    rw [hu] at ih
    generalize xNext w d t i = b at *
    unfold xNe1 at ih
    refine hZ (fun u => Nat.beq u 5) 14 5 _ _ _ _ _ ?_
    simp only [sm_run, sm_blk, sm_get, sm_ent, sm_ents, sm_wds, sm_wd, sm_nl, sm_pop, sm_back, sm_cases, oK, oLK, oL, oI, oA, oJ, oIs, oAs, oJs, oInc, oAdd, oSub, oMul, oDiv, oRem, oNeg, oAnd, oAndB, oOr, oShl, oI2c, oI2l, oL2i, oLand, oLor, oLshl, oLshr, oLushr, oLcmp, oDup, oDup2, oPop, oGo, oFg, oEq, oNe, oLt, oGe, oGt, oLe, oEq0, oNe0, oLt0, oGe0, oGt0, oLe0, oSw, oGi, oGr, oPi, oPz, oPr, oLen, oIl, oZl, oCl, oRl, oIst, oZst, oCst, oRst, oCopy, oNew, oNa, oNa2, oObj, oCs, oCv, oCi, oIr, oZr, oVr, Nat.beq, List.getElem?_cons_zero, List.getElem?_cons_succ, List.set_cons_zero, List.set_cons_succ, List.length_cons, List.length_nil, List.nil_append, List.cons_append, List.append_nil, List.replicate_succ, List.replicate_zero, Nat.reduceAdd, Nat.reduceSub, Nat.reduceLT, Nat.reduceLeDiff, Nat.reduceBEq, true_and, and_true, Nat.zero_add, Nat.add_zero, Nat.le_refl, Option.some.injEq, exists_eq_left', true_or, or_true, or_false, false_or, reduceCtorEq, Prod.mk.injEq, Sum.inl.injEq, and_self, false_and, and_false, not_true_eq_false, not_false_eq_true, false_implies, true_implies, sm_r, Int.add_zero, Int.zero_add, wI_wsI, wS_wsI, wR_wsI, wI_wCp, wS_wCp, wR_wCp, Nat.reduceEqDiff, reduceIte, sT_iff, sT_iffC, wIf_ne, ne_eq, Bool.false_or, Bool.true_or, Bool.or_false, Bool.or_true, Bool.or_self, Nat.left_eq_add, Nat.add_eq_left, Nat.add_left_inj, tb_X0_nextEvent, p_X0_isAtEnd, f_X0_isAtEnd, p_X0_nextEvent, f_X0_nextEvent, d0, s0, s5, d27, s7, d29, l0, r3, l4, hD]
    repeat' (first | exact True.intro | with_reducible assumption | with_reducible refine And.intro ?_ ?_ | intro _)
    all_goals first
      | omega
      | assumption
      | rfl
      | (split <;> omega)
      | (have k9 := ih (by omega)
         (repeat' split at k9) <;> first | exact k9 | omega)
      | (have k9 := ih2 (by omega)
         (repeat' split at k9) <;> first | exact k9 | omega)
      | exact he (by omega)
      | ((with_reducible congr 1) <;> omega)
      | (rw [if_pos (by omega)] at he; exact he)
      | exact hD1 (by omega)
      | exact hD2 (by omega)
      | grind
      | skip
    )
  refine hZ (fun u => Nat.beq u 5) 14 0 _ _ _ _ _ ?_
  simp only [sm_run, sm_blk, sm_get, sm_ent, sm_ents, sm_wds, sm_wd, sm_nl, sm_pop, sm_back, sm_cases, oK, oLK, oL, oI, oA, oJ, oIs, oAs, oJs, oInc, oAdd, oSub, oMul, oDiv, oRem, oNeg, oAnd, oAndB, oOr, oShl, oI2c, oI2l, oL2i, oLand, oLor, oLshl, oLshr, oLushr, oLcmp, oDup, oDup2, oPop, oGo, oFg, oEq, oNe, oLt, oGe, oGt, oLe, oEq0, oNe0, oLt0, oGe0, oGt0, oLe0, oSw, oGi, oGr, oPi, oPz, oPr, oLen, oIl, oZl, oCl, oRl, oIst, oZst, oCst, oRst, oCopy, oNew, oNa, oNa2, oObj, oCs, oCv, oCi, oIr, oZr, oVr, Nat.beq, List.getElem?_cons_zero, List.getElem?_cons_succ, List.set_cons_zero, List.set_cons_succ, List.length_cons, List.length_nil, List.nil_append, List.cons_append, List.append_nil, List.replicate_succ, List.replicate_zero, Nat.reduceAdd, Nat.reduceSub, Nat.reduceLT, Nat.reduceLeDiff, Nat.reduceBEq, true_and, and_true, Nat.zero_add, Nat.add_zero, Nat.le_refl, Option.some.injEq, exists_eq_left', true_or, or_true, or_false, false_or, reduceCtorEq, Prod.mk.injEq, Sum.inl.injEq, and_self, false_and, and_false, not_true_eq_false, not_false_eq_true, false_implies, true_implies, sm_r, Int.add_zero, Int.zero_add, wI_wsI, wS_wsI, wR_wsI, wI_wCp, wS_wCp, wR_wCp, Nat.reduceEqDiff, reduceIte, sT_iff, sT_iffC, wIf_ne, ne_eq, Bool.false_or, Bool.true_or, Bool.or_false, Bool.or_true, Bool.or_self, Nat.left_eq_add, Nat.add_eq_left, Nat.add_left_inj, tb_X0_nextEvent, p_X0_isAtEnd, f_X0_isAtEnd, p_X0_nextEvent, f_X0_nextEvent]
  repeat' (first | exact True.intro | with_reducible assumption | with_reducible refine And.intro ?_ ?_ | intro _)
  all_goals first
    | omega
    | assumption
    | rfl
    | (split <;> omega)
    | (have k9 := ih (by omega)
       (repeat' split at k9) <;> first | exact k9 | omega)
    | (have k9 := ih2 (by omega)
       (repeat' split at k9) <;> first | exact k9 | omega)
    | exact he (by omega)
    | ((with_reducible congr 1) <;> omega)
    | (rw [if_pos (by omega)] at he; exact he)
    | exact hD1 (by omega)
    | exact hD2 (by omega)
    | skip
theorem met_X0_nextEvent (l : Launch) : sm_Met l yX0_nextEvent cX0_nextEvent 4 (some .int) 1 0 0 p_X0_nextEvent f_X0_nextEvent := sm_met 1 (Or.inr (Or.inl ⟨rfl, rfl⟩)) (by decide +kernel) (sn_X0_nextEvent l) ok_X0_nextEvent
def xLf (w : sm_W) (d : Nat) (x r : Int) : Int := if wI w (d + 27) x = wI w (d + 1 + 4) x then r else orI r (p2 x)
def xLeft (w : sm_W) (d : Nat) : Int → Int := itI (xLf w d) 0
theorem xLeft_b (w : sm_W) (d : Nat) (n : Int) (h0 : 0 ≤ n) (h8 : n ≤ 8) : 0 ≤ xLeft w d n ∧ xLeft w d n < 256 := by
  refine itI_ind (fun i r => 0 ≤ r ∧ r < 256) n ⟨by decide, by decide⟩ (fun i r i0 i1 hr => ?_) n h0 (Int.le_refl _)
  unfold xLf
  split
  · exact hr
  · exact orI_b hr.2 (p2_b (by omega)).2
def p_X0_notAtEnd : List sm_V → sm_W → Prop
  | [.inr (.inl d)], w => dOK w d
  | _, _ => False
def f_X0_notAtEnd : sm_F
  | [.inr (.inl d)], w => (some (.inl (xLeft w d (wI w (d + 1) 7))), w)
  | _, w => (none, w)
def tb_X0_notAtEnd : List (Nat × List sm_O) := [(0, [oK 0, oIs 1, oK 0, oIs 2, oGo 4]),
  (4, [oI 2, oA 0, oGr 0 11 0, oGi 2 9 7, oGe 35, oA 0, oI 2, oCv 0 11 p_X0_isAtEnd f_X0_isAtEnd 0 0 2, oNe0 29, oI 1, oK 1, oI 2, oShl, oOr, oIs 1, oGo 29]),
  (29, [oInc 2 1, oGo 4]),
  (35, [oI 1, oIr])]
set_option maxRecDepth 100000 in
theorem sb_X0_notAtEnd_0 (l : Launch) : sm_SndB l RX0 "notAtEnd" cX0_notAtEnd 3 1 1 0 [oK 0, oIs 1, oK 0, oIs 2, oGo 4] := sb_cons (sd_iconst (by decide +kernel : decode cX0_notAtEnd 0 = .ok (.iconst 0, 1)) ⟨by decide, by decide⟩) (sb_cons (sd_istore_n (by decide +kernel : decode cX0_notAtEnd 1 = .ok (.istore_n 1, 1)) rfl) (sb_cons (sd_iconst (by decide +kernel : decode cX0_notAtEnd 2 = .ok (.iconst 0, 1)) ⟨by decide, by decide⟩) (sb_cons (sd_istore_n (by decide +kernel : decode cX0_notAtEnd 3 = .ok (.istore_n 2, 1)) rfl) (sb_cons (sd_fall (x := 0)) sb_nil))))
set_option maxRecDepth 100000 in
theorem sb_X0_notAtEnd_4 (l : Launch) : sm_SndB l RX0 "notAtEnd" cX0_notAtEnd 3 1 1 4 [oI 2, oA 0, oGr 0 11 0, oGi 2 9 7, oGe 35, oA 0, oI 2, oCv 0 11 p_X0_isAtEnd f_X0_isAtEnd 0 0 2, oNe0 29, oI 1, oK 1, oI 2, oShl, oOr, oIs 1, oGo 29] := sb_cons (sd_iload_n (by decide +kernel : decode cX0_notAtEnd 4 = .ok (.iload_n 2, 1)) rfl) (sb_cons (sd_aload_n (by decide +kernel : decode cX0_notAtEnd 5 = .ok (.aload_n 0, 1)) rfl) (sb_cons (sd_getr (k := 0) kl_0 (by decide) rfl wm_68 (by decide +kernel : decode cX0_notAtEnd 6 = .ok (.getfield 12, 3))) (sb_cons (sd_geti (k := 7) kl_2 (by decide) rfl wm_59 (by decide +kernel : decode cX0_notAtEnd 9 = .ok (.getfield 77, 3))) (sb_cons (sd_ge (by decide +kernel : decode cX0_notAtEnd 12 = .ok (.if_icmp .ge 23, 3)) (by decide)) (sb_cons (sd_aload_n (by decide +kernel : decode cX0_notAtEnd 15 = .ok (.aload_n 0, 1)) rfl) (sb_cons (sd_iload_n (by decide +kernel : decode cX0_notAtEnd 16 = .ok (.iload_n 2, 1)) rfl) (sb_cons (sd_callv (n := 1) (met_X0_isAtEnd l) (by decide) (by decide) wm_332 wm_330 wm_2 ⟨by decide +kernel, by decide +kernel, by decide +kernel⟩ kl_0 wm_331 wm_1085 (by decide +kernel : decode cX0_notAtEnd 17 = .ok (.invokevirtual 123, 3))) (sb_cons (sd_ne0 (by decide +kernel : decode cX0_notAtEnd 20 = .ok (.ifCond .ne 9, 3)) (by decide)) (sb_cons (sd_iload_n (by decide +kernel : decode cX0_notAtEnd 23 = .ok (.iload_n 1, 1)) rfl) (sb_cons (sd_iconst (by decide +kernel : decode cX0_notAtEnd 24 = .ok (.iconst 1, 1)) ⟨by decide, by decide⟩) (sb_cons (sd_iload_n (by decide +kernel : decode cX0_notAtEnd 25 = .ok (.iload_n 2, 1)) rfl) (sb_cons (sd_ishl (by decide +kernel : decode cX0_notAtEnd 26 = .ok (.ishl, 1))) (sb_cons (sd_ior (by decide +kernel : decode cX0_notAtEnd 27 = .ok (.ior, 1))) (sb_cons (sd_istore_n (by decide +kernel : decode cX0_notAtEnd 28 = .ok (.istore_n 1, 1)) rfl) (sb_cons (sd_fall (x := 0)) sb_nil)))))))))))))))
set_option maxRecDepth 100000 in
theorem sb_X0_notAtEnd_29 (l : Launch) : sm_SndB l RX0 "notAtEnd" cX0_notAtEnd 3 1 1 29 [oInc 2 1, oGo 4] := sb_cons (sd_iinc (by decide +kernel : decode cX0_notAtEnd 29 = .ok (.iinc 2 1, 3))) (sb_cons (sd_goto (x := 0) (by decide +kernel : decode cX0_notAtEnd 32 = .ok (.goto (-28), 3)) (by decide)) sb_nil)
set_option maxRecDepth 100000 in
theorem sb_X0_notAtEnd_35 (l : Launch) : sm_SndB l RX0 "notAtEnd" cX0_notAtEnd 3 1 1 35 [oI 1, oIr] := sb_cons (sd_iload_n (by decide +kernel : decode cX0_notAtEnd 35 = .ok (.iload_n 1, 1)) rfl) (sb_cons (sd_ireturn (x := 0) rfl (by decide +kernel : decode cX0_notAtEnd 36 = .ok (.ireturn, 1))) sb_nil)
theorem sn_X0_notAtEnd (l : Launch) : sm_SndT l RX0 "notAtEnd" cX0_notAtEnd 3 1 1 tb_X0_notAtEnd := st_cons (sb_X0_notAtEnd_0 l) (st_cons (sb_X0_notAtEnd_4 l) (st_cons (sb_X0_notAtEnd_29 l) (st_cons (sb_X0_notAtEnd_35 l) (st_nil))))
set_option maxRecDepth 100000 in
set_option maxHeartbeats 4000000 in
theorem ok_X0_notAtEnd : sm_Ok tb_X0_notAtEnd 3 0 0 p_X0_notAtEnd f_X0_notAtEnd := by
  intro as w hp ha hw
  match as, hp with
  | [.inr (.inl d)], hp =>
  refine ⟨Nat.le_of_ble_eq_true rfl, fun Z hZ => ?_⟩
  have hD := hp
  obtain ⟨d0, d9, d18, d27, d28, d29, d30, d31, d32, s0, s1, s2, s5, s6, s7, s8, s9, s10⟩ := dS hD.2.1 hD.1
  obtain ⟨l0, l1, l2, l3, l4, l5, l6, l7, r0, r1, r2, r3, r4, r5, r6⟩ := lS hD.2.1 (dL hD.1)
  have hn := dOK_n hD
  have hl := sm_loopI Z 4 0 (wI w (d + 1) 7) (fun i => [some (.inr (.inl d)), some (.inl (xLeft w d i)), some (.inl i)]) (fun _ => w) 0 0 hn.1 (fun i h0 h1 ih => by
    have hb := xLeft_b w d i h0 (by omega)
    have hp2 := fun hlt : i < 8 => p2_b hlt
    have hu : xLeft w d (i + 1) = xLf w d i (xLeft w d i) := itI_s _ _ h0
    have he : i = wI w (d + 1) 7 → xLeft w d i = xLeft w d (wI w (d + 1) 7) := fun e => by rw [← e]
    rw [hu] at ih
    generalize xLeft w d i = b at *
    unfold xLf at ih
    refine hZ (fun u => Nat.beq u 4) 14 4 _ _ _ _ _ ?_
    simp only [sm_run, sm_blk, sm_get, sm_ent, sm_ents, sm_wds, sm_wd, sm_nl, sm_pop, sm_back, sm_cases, oK, oLK, oL, oI, oA, oJ, oIs, oAs, oJs, oInc, oAdd, oSub, oMul, oDiv, oRem, oNeg, oAnd, oAndB, oOr, oShl, oI2c, oI2l, oL2i, oLand, oLor, oLshl, oLshr, oLushr, oLcmp, oDup, oDup2, oPop, oGo, oFg, oEq, oNe, oLt, oGe, oGt, oLe, oEq0, oNe0, oLt0, oGe0, oGt0, oLe0, oSw, oGi, oGr, oPi, oPz, oPr, oLen, oIl, oZl, oCl, oRl, oIst, oZst, oCst, oRst, oCopy, oNew, oNa, oNa2, oObj, oCs, oCv, oCi, oIr, oZr, oVr, Nat.beq, List.getElem?_cons_zero, List.getElem?_cons_succ, List.set_cons_zero, List.set_cons_succ, List.length_cons, List.length_nil, List.nil_append, List.cons_append, List.append_nil, List.replicate_succ, List.replicate_zero, Nat.reduceAdd, Nat.reduceSub, Nat.reduceLT, Nat.reduceLeDiff, Nat.reduceBEq, true_and, and_true, Nat.zero_add, Nat.add_zero, Nat.le_refl, Option.some.injEq, exists_eq_left', true_or, or_true, or_false, false_or, reduceCtorEq, Prod.mk.injEq, Sum.inl.injEq, and_self, false_and, and_false, not_true_eq_false, not_false_eq_true, false_implies, true_implies, sm_r, Int.add_zero, Int.zero_add, wI_wsI, wS_wsI, wR_wsI, wI_wCp, wS_wCp, wR_wCp, Nat.reduceEqDiff, reduceIte, sT_iff, sT_iffC, wIf_ne, ne_eq, Bool.false_or, Bool.true_or, Bool.or_false, Bool.or_true, Bool.or_self, Nat.left_eq_add, Nat.add_eq_left, Nat.add_left_inj, tb_X0_notAtEnd, p_X0_isAtEnd, f_X0_isAtEnd, p_X0_notAtEnd, f_X0_notAtEnd, d0, s0, l0, hD, orI_def, p2_def]
    repeat' (first | exact True.intro | with_reducible assumption | with_reducible refine And.intro ?_ ?_ | intro _)
    all_goals first
      | omega
      | assumption
      | rfl
      | (split <;> omega)
      | (have k9 := ih (by omega)
         (repeat' split at k9) <;> first | exact k9 | omega)
      | (have k9 := ih2 (by omega)
         (repeat' split at k9) <;> first | exact k9 | omega)
      | exact he (by omega)
      | ((with_reducible congr 1) <;> omega)
      | (rw [if_pos (by omega)] at he; exact he)
      | exact hD1 (by omega)
      | exact hD2 (by omega)
      | grind
      | skip
    )
  refine hZ (fun u => Nat.beq u 4) 14 0 _ _ _ _ _ ?_
  simp only [sm_run, sm_blk, sm_get, sm_ent, sm_ents, sm_wds, sm_wd, sm_nl, sm_pop, sm_back, sm_cases, oK, oLK, oL, oI, oA, oJ, oIs, oAs, oJs, oInc, oAdd, oSub, oMul, oDiv, oRem, oNeg, oAnd, oAndB, oOr, oShl, oI2c, oI2l, oL2i, oLand, oLor, oLshl, oLshr, oLushr, oLcmp, oDup, oDup2, oPop, oGo, oFg, oEq, oNe, oLt, oGe, oGt, oLe, oEq0, oNe0, oLt0, oGe0, oGt0, oLe0, oSw, oGi, oGr, oPi, oPz, oPr, oLen, oIl, oZl, oCl, oRl, oIst, oZst, oCst, oRst, oCopy, oNew, oNa, oNa2, oObj, oCs, oCv, oCi, oIr, oZr, oVr, Nat.beq, List.getElem?_cons_zero, List.getElem?_cons_succ, List.set_cons_zero, List.set_cons_succ, List.length_cons, List.length_nil, List.nil_append, List.cons_append, List.append_nil, List.replicate_succ, List.replicate_zero, Nat.reduceAdd, Nat.reduceSub, Nat.reduceLT, Nat.reduceLeDiff, Nat.reduceBEq, true_and, and_true, Nat.zero_add, Nat.add_zero, Nat.le_refl, Option.some.injEq, exists_eq_left', true_or, or_true, or_false, false_or, reduceCtorEq, Prod.mk.injEq, Sum.inl.injEq, and_self, false_and, and_false, not_true_eq_false, not_false_eq_true, false_implies, true_implies, sm_r, Int.add_zero, Int.zero_add, wI_wsI, wS_wsI, wR_wsI, wI_wCp, wS_wCp, wR_wCp, Nat.reduceEqDiff, reduceIte, sT_iff, sT_iffC, wIf_ne, ne_eq, Bool.false_or, Bool.true_or, Bool.or_false, Bool.or_true, Bool.or_self, Nat.left_eq_add, Nat.add_eq_left, Nat.add_left_inj, tb_X0_notAtEnd, p_X0_isAtEnd, f_X0_isAtEnd, p_X0_notAtEnd, f_X0_notAtEnd]
  repeat' (first | exact True.intro | with_reducible assumption | with_reducible refine And.intro ?_ ?_ | intro _)
  all_goals first
    | omega
    | assumption
    | rfl
    | (split <;> omega)
    | (have k9 := ih (by omega)
       (repeat' split at k9) <;> first | exact k9 | omega)
    | (have k9 := ih2 (by omega)
       (repeat' split at k9) <;> first | exact k9 | omega)
    | exact he (by omega)
    | ((with_reducible congr 1) <;> omega)
    | (rw [if_pos (by omega)] at he; exact he)
    | exact hD1 (by omega)
    | exact hD2 (by omega)
    | skip

theorem met_X0_notAtEnd (l : Launch) : sm_Met l yX0_notAtEnd cX0_notAtEnd 3 (some .int) 1 0 0 p_X0_notAtEnd f_X0_notAtEnd := sm_met 1 (Or.inr (Or.inl ⟨rfl, rfl⟩)) (by decide +kernel) (sn_X0_notAtEnd l) ok_X0_notAtEnd