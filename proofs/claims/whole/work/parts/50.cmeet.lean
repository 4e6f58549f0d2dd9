/-! THE CLASS: meetings -/
def xThr (w : sm_W) (d : Nat) (x p t : Int) : Int := if wI w (dV d x) p < 0 then 1 else (if wI w (dV d x) p < t then 0 else 1)
def p_X3_isThere : List sm_V → sm_W → Prop
  | [.inr (.inl d), .inl x, .inl p, .inl t], w => dOK w d ∧ 0 ≤ x ∧ x < 8 ∧ 0 ≤ p ∧ p < 8
  | _, _ => False
def f_X3_isThere : sm_F
  | [.inr (.inl d), .inl x, .inl p, .inl t], w => (some (.inl (xThr w d x p t)), w)
  | _, w => (none, w)
def tb_X3_isThere : List (Nat × List sm_O) := [(0, [oA 0, oGr 0 11 2, oI 1, oRl, oI 2, oIl, oLt0 23, oA 0, oGr 0 11 2, oI 1, oRl, oI 2, oIl, oI 3, oLt 27, oGo 23]),
  (23, [oK 1, oGo 28]),
  (27, [oK 0, oGo 28]),
  (28, [oZr])]
set_option maxRecDepth 100000 in
theorem sb_X3_isThere_0 (l : Launch) : sm_SndB l RX3 "isThere" cX3_isThere 4 2 0 0 [oA 0, oGr 0 11 2, oI 1, oRl, oI 2, oIl, oLt0 23, oA 0, oGr 0 11 2, oI 1, oRl, oI 2, oIl, oI 3, oLt 27, oGo 23] := sb_cons (sd_aload_n (by decide +kernel : decode cX3_isThere 0 = .ok (.aload_n 0, 1)) rfl) (sb_cons (sd_getr (k := 2) kl_0 (by decide) rfl wm_77 (by decide +kernel : decode cX3_isThere 1 = .ok (.getfield 60, 3))) (sb_cons (sd_iload_n (by decide +kernel : decode cX3_isThere 4 = .ok (.iload_n 1, 1)) rfl) (sb_cons (sd_aaload (by decide +kernel : decode cX3_isThere 5 = .ok (.aaload, 1))) (sb_cons (sd_iload_n (by decide +kernel : decode cX3_isThere 6 = .ok (.iload_n 2, 1)) rfl) (sb_cons (sd_iaload (by decide +kernel : decode cX3_isThere 7 = .ok (.iaload, 1))) (sb_cons (sd_lt0 (by decide +kernel : decode cX3_isThere 8 = .ok (.ifCond .lt 15, 3)) (by decide)) (sb_cons (sd_aload_n (by decide +kernel : decode cX3_isThere 11 = .ok (.aload_n 0, 1)) rfl) (sb_cons (sd_getr (k := 2) kl_0 (by decide) rfl wm_77 (by decide +kernel : decode cX3_isThere 12 = .ok (.getfield 60, 3))) (sb_cons (sd_iload_n (by decide +kernel : decode cX3_isThere 15 = .ok (.iload_n 1, 1)) rfl) (sb_cons (sd_aaload (by decide +kernel : decode cX3_isThere 16 = .ok (.aaload, 1))) (sb_cons (sd_iload_n (by decide +kernel : decode cX3_isThere 17 = .ok (.iload_n 2, 1)) rfl) (sb_cons (sd_iaload (by decide +kernel : decode cX3_isThere 18 = .ok (.iaload, 1))) (sb_cons (sd_iload_n (by decide +kernel : decode cX3_isThere 19 = .ok (.iload_n 3, 1)) rfl) (sb_cons (sd_lt (by decide +kernel : decode cX3_isThere 20 = .ok (.if_icmp .lt 7, 3)) (by decide)) (sb_cons (sd_fall (x := 0)) sb_nil)))))))))))))))
set_option maxRecDepth 100000 in
theorem sb_X3_isThere_23 (l : Launch) : sm_SndB l RX3 "isThere" cX3_isThere 4 2 0 23 [oK 1, oGo 28] := sb_cons (sd_iconst (by decide +kernel : decode cX3_isThere 23 = .ok (.iconst 1, 1)) ⟨by decide, by decide⟩) (sb_cons (sd_goto (x := 0) (by decide +kernel : decode cX3_isThere 24 = .ok (.goto 4, 3)) (by decide)) sb_nil)
set_option maxRecDepth 100000 in
theorem sb_X3_isThere_27 (l : Launch) : sm_SndB l RX3 "isThere" cX3_isThere 4 2 0 27 [oK 0, oGo 28] := sb_cons (sd_iconst (by decide +kernel : decode cX3_isThere 27 = .ok (.iconst 0, 1)) ⟨by decide, by decide⟩) (sb_cons (sd_fall (x := 0)) sb_nil)
set_option maxRecDepth 100000 in
theorem sb_X3_isThere_28 (l : Launch) : sm_SndB l RX3 "isThere" cX3_isThere 4 2 0 28 [oZr] := sb_cons (sd_zreturn (x := 0) rfl (by decide +kernel : decode cX3_isThere 28 = .ok (.ireturn, 1))) sb_nil
theorem sn_X3_isThere (l : Launch) : sm_SndT l RX3 "isThere" cX3_isThere 4 2 0 tb_X3_isThere := st_cons (sb_X3_isThere_0 l) (st_cons (sb_X3_isThere_23 l) (st_cons (sb_X3_isThere_27 l) (st_cons (sb_X3_isThere_28 l) (st_nil))))
set_option maxRecDepth 100000 in
set_option maxHeartbeats 4000000 in
theorem ok_X3_isThere : sm_Ok tb_X3_isThere 4 0 0 p_X3_isThere f_X3_isThere := by
  intro as w hp ha hw
  match as, hp with
  | [.inr (.inl d), .inl x, .inl p, .inl t], hp =>
  refine ⟨Nat.le_of_ble_eq_true rfl, fun Z hZ => ?_⟩
  obtain ⟨hD, x0, x1, p0, p1⟩ := hp
  obtain ⟨d0, d9, d18, d27, d28, d29, d30, d31, d32, s0, s1, s2, s5, s6, s7, s8, s9, s10⟩ := dS hD.2.1 hD.1
  obtain ⟨c9, c18, cC, cV⟩ := dRC hD.2.1 hD.1 x0 x1
  refine hZ (fun _ => false) 16 0 _ _ _ _ _ ?_
  simp only [sm_run, sm_blk, sm_get, sm_ent, sm_ents, sm_wds, sm_wd, sm_nl, sm_pop, sm_back, sm_cases, oK, oLK, oL, oI, oA, oJ, oIs, oAs, oJs, oInc, oAdd, oSub, oMul, oDiv, oRem, oNeg, oAnd, oAndB, oOr, oShl, oI2c, oI2l, oL2i, oLand, oLor, oLshl, oLshr, oLushr, oLcmp, oDup, oDup2, oPop, oGo, oFg, oEq, oNe, oLt, oGe, oGt, oLe, oEq0, oNe0, oLt0, oGe0, oGt0, oLe0, oSw, oGi, oGr, oPi, oPz, oPr, oLen, oIl, oZl, oCl, oRl, oIst, oZst, oCst, oRst, oCopy, oNew, oNa, oNa2, oObj, oCs, oCv, oCi, oIr, oZr, oVr, Nat.beq, List.getElem?_cons_zero, List.getElem?_cons_succ, List.set_cons_zero, List.set_cons_succ, List.length_cons, List.length_nil, List.nil_append, List.cons_append, List.append_nil, List.replicate_succ, List.replicate_zero, Nat.reduceAdd, Nat.reduceSub, Nat.reduceLT, Nat.reduceLeDiff, Nat.reduceBEq, true_and, and_true, Nat.zero_add, Nat.add_zero, Nat.le_refl, Option.some.injEq, exists_eq_left', true_or, or_true, or_false, false_or, reduceCtorEq, Prod.mk.injEq, Sum.inl.injEq, and_self, false_and, and_false, not_true_eq_false, not_false_eq_true, false_implies, true_implies, sm_r, Int.add_zero, Int.zero_add, wI_wsI, wS_wsI, wR_wsI, wI_wCp, wS_wCp, wR_wCp, Nat.reduceEqDiff, reduceIte, sT_iff, sT_iffC, wIf_ne, ne_eq, Bool.false_or, Bool.true_or, Bool.or_false, Bool.or_true, Bool.or_self, Nat.left_eq_add, Nat.add_eq_left, Nat.add_left_inj, oMax, oMin, oAbs, tb_X3_isThere, p_X3_isThere, f_X3_isThere, d0, s2, d18, c18, cV]
  repeat' (first | exact True.intro | with_reducible assumption | with_reducible refine And.intro ?_ ?_ | intro _)
  all_goals first
    | omega
    | assumption
    | rfl
    | (split <;> omega)
    | grind [xThr]
    | skip
theorem met_X3_isThere (l : Launch) : sm_Met l yX3_isThere cX3_isThere 4 (some .boolean) 0 0 0 p_X3_isThere f_X3_isThere := sm_met 2 (Or.inr (Or.inr ⟨rfl, rfl⟩)) (by decide +kernel) (sn_X3_isThere l) ok_X3_isThere
theorem xThr_01 (w : sm_W) (d : Nat) (x p t : Int) : xThr w d x p t = 0 ∨ xThr w d x p t = 1 := by
  unfold xThr
  grind
def sMt (a : Nat) (i _ : Int) : Prop := (a = 78 ∧ i = 1) ∨ a = 79
theorem sMt_d {d : Nat} (hd : sm_isD d) : ∀ a i v, sMt a i v → a < d ∨ d + 32 < a := fun a i v h => by
  unfold sMt at h
  unfold sm_isD at hd
  omega
def mInL : Nat → sm_W → Int → sm_W
  | 0, w, row => wsI w 79 0 row
  | n + 1, w, row => if row < wI w 79 n then mInL n (wsI w 79 ((n + 1 : Nat) : Int) (wI w 79 n)) row else wsI w 79 ((n + 1 : Nat) : Int) row
theorem mInL_s (n : Nat) (w : sm_W) (row : Int) : mInL (n + 1) w row = if row < wI w 79 n then mInL n (wsI w 79 ((n + 1 : Nat) : Int) (wI w 79 n)) row else wsI w 79 ((n + 1 : Nat) : Int) row := rfl
def mInF (w : sm_W) (k : Int) : sm_W := wsI w 78 1 k
def mIns (w : sm_W) (row : Int) : sm_W := if 64 ≤ wI w 78 1 then w else mInF (mInL (wI w 78 1).toNat w row) (wI w 78 1 + 1)
theorem mInL_fr (row : Int) : ∀ (n : Nat) (w : sm_W), sFr (fun a _ _ => a = 79) w (mInL n w row)
  | 0, w => (sFr.refl w).st rfl
  | n + 1, w => by
    rw [mInL_s]
    split
    · exact ((sFr.refl w).st rfl).trans (mInL_fr row n _)
    · exact (sFr.refl w).st rfl
theorem mIns_fr (w : sm_W) (row : Int) : sFr sMt w (mIns w row) := by
  unfold mIns
  split
  · exact sFr.refl w
  · exact ((mInL_fr row _ w).mono (fun a i v h => Or.inr h)).st (Or.inl ⟨rfl, rfl⟩)
def p_X3_insert : List sm_V → sm_W → Prop
  | [.inr (.inl o), .inl row], w => o = 78 ∧ sT w ∧ 0 ≤ wI w 78 1 ∧ wI w 78 1 ≤ 64
  | _, _ => False
def f_X3_insert : sm_F
  | [.inr (.inl o), .inl row], w => (none, mIns w row)
  | _, w => (none, w)
def tb_X3_insert : List (Nat × List sm_O) := [(0, [oA 0, oGi 3 2 1, oA 0, oGr 3 2 0, oLen, oLt 13, oVr]),
  (13, [oA 0, oGi 3 2 1, oIs 2, oGo 18]),
  (18, [oI 2, oLe0 54, oA 0, oGr 3 2 0, oI 2, oK 1, oSub, oIl, oI 1, oLe 54, oA 0, oGr 3 2 0, oI 2, oA 0, oGr 3 2 0, oI 2, oK 1, oSub, oIl, oIst, oInc 2 (-1), oGo 18]),
  (54, [oA 0, oGr 3 2 0, oI 2, oI 1, oIst, oA 0, oDup, oGi 3 2 1, oK 1, oAdd, oPi 3 2 1, oVr])]
set_option maxRecDepth 100000 in
theorem sb_X3_insert_0 (l : Launch) : sm_SndB l RX3 "insert" cX3_insert 3 0 0 0 [oA 0, oGi 3 2 1, oA 0, oGr 3 2 0, oLen, oLt 13, oVr] := sb_cons (sd_aload_n (by decide +kernel : decode cX3_insert 0 = .ok (.aload_n 0, 1)) rfl) (sb_cons (sd_geti (k := 1) kl_3 (by decide) rfl wm_107 (by decide +kernel : decode cX3_insert 1 = .ok (.getfield 15, 3))) (sb_cons (sd_aload_n (by decide +kernel : decode cX3_insert 4 = .ok (.aload_n 0, 1)) rfl) (sb_cons (sd_getr (k := 0) kl_3 (by decide) rfl wm_106 (by decide +kernel : decode cX3_insert 5 = .ok (.getfield 9, 3))) (sb_cons (sd_len (by decide +kernel : decode cX3_insert 8 = .ok (.arraylength, 1))) (sb_cons (sd_lt (by decide +kernel : decode cX3_insert 9 = .ok (.if_icmp .lt 4, 3)) (by decide)) (sb_cons (sd_return (x := 0) rfl (by decide +kernel : decode cX3_insert 12 = .ok (.return_, 1))) sb_nil))))))
set_option maxRecDepth 100000 in
theorem sb_X3_insert_13 (l : Launch) : sm_SndB l RX3 "insert" cX3_insert 3 0 0 13 [oA 0, oGi 3 2 1, oIs 2, oGo 18] := sb_cons (sd_aload_n (by decide +kernel : decode cX3_insert 13 = .ok (.aload_n 0, 1)) rfl) (sb_cons (sd_geti (k := 1) kl_3 (by decide) rfl wm_107 (by decide +kernel : decode cX3_insert 14 = .ok (.getfield 15, 3))) (sb_cons (sd_istore_n (by decide +kernel : decode cX3_insert 17 = .ok (.istore_n 2, 1)) rfl) (sb_cons (sd_fall (x := 0)) sb_nil)))
set_option maxRecDepth 100000 in
theorem sb_X3_insert_18 (l : Launch) : sm_SndB l RX3 "insert" cX3_insert 3 0 0 18 [oI 2, oLe0 54, oA 0, oGr 3 2 0, oI 2, oK 1, oSub, oIl, oI 1, oLe 54, oA 0, oGr 3 2 0, oI 2, oA 0, oGr 3 2 0, oI 2, oK 1, oSub, oIl, oIst, oInc 2 (-1), oGo 18] := sb_cons (sd_iload_n (by decide +kernel : decode cX3_insert 18 = .ok (.iload_n 2, 1)) rfl) (sb_cons (sd_le0 (by decide +kernel : decode cX3_insert 19 = .ok (.ifCond .le 35, 3)) (by decide)) (sb_cons (sd_aload_n (by decide +kernel : decode cX3_insert 22 = .ok (.aload_n 0, 1)) rfl) (sb_cons (sd_getr (k := 0) kl_3 (by decide) rfl wm_106 (by decide +kernel : decode cX3_insert 23 = .ok (.getfield 9, 3))) (sb_cons (sd_iload_n (by decide +kernel : decode cX3_insert 26 = .ok (.iload_n 2, 1)) rfl) (sb_cons (sd_iconst (by decide +kernel : decode cX3_insert 27 = .ok (.iconst 1, 1)) ⟨by decide, by decide⟩) (sb_cons (sd_isub (by decide +kernel : decode cX3_insert 28 = .ok (.isub, 1))) (sb_cons (sd_iaload (by decide +kernel : decode cX3_insert 29 = .ok (.iaload, 1))) (sb_cons (sd_iload_n (by decide +kernel : decode cX3_insert 30 = .ok (.iload_n 1, 1)) rfl) (sb_cons (sd_le (by decide +kernel : decode cX3_insert 31 = .ok (.if_icmp .le 23, 3)) (by decide)) (sb_cons (sd_aload_n (by decide +kernel : decode cX3_insert 34 = .ok (.aload_n 0, 1)) rfl) (sb_cons (sd_getr (k := 0) kl_3 (by decide) rfl wm_106 (by decide +kernel : decode cX3_insert 35 = .ok (.getfield 9, 3))) (sb_cons (sd_iload_n (by decide +kernel : decode cX3_insert 38 = .ok (.iload_n 2, 1)) rfl) (sb_cons (sd_aload_n (by decide +kernel : decode cX3_insert 39 = .ok (.aload_n 0, 1)) rfl) (sb_cons (sd_getr (k := 0) kl_3 (by decide) rfl wm_106 (by decide +kernel : decode cX3_insert 40 = .ok (.getfield 9, 3))) (sb_cons (sd_iload_n (by decide +kernel : decode cX3_insert 43 = .ok (.iload_n 2, 1)) rfl) (sb_cons (sd_iconst (by decide +kernel : decode cX3_insert 44 = .ok (.iconst 1, 1)) ⟨by decide, by decide⟩) (sb_cons (sd_isub (by decide +kernel : decode cX3_insert 45 = .ok (.isub, 1))) (sb_cons (sd_iaload (by decide +kernel : decode cX3_insert 46 = .ok (.iaload, 1))) (sb_cons (sd_iastore (by decide +kernel : decode cX3_insert 47 = .ok (.iastore, 1))) (sb_cons (sd_iinc (by decide +kernel : decode cX3_insert 48 = .ok (.iinc 2 (-1), 3))) (sb_cons (sd_goto (x := 0) (by decide +kernel : decode cX3_insert 51 = .ok (.goto (-33), 3)) (by decide)) sb_nil)))))))))))))))))))))
set_option maxRecDepth 100000 in
theorem sb_X3_insert_54 (l : Launch) : sm_SndB l RX3 "insert" cX3_insert 3 0 0 54 [oA 0, oGr 3 2 0, oI 2, oI 1, oIst, oA 0, oDup, oGi 3 2 1, oK 1, oAdd, oPi 3 2 1, oVr] := sb_cons (sd_aload_n (by decide +kernel : decode cX3_insert 54 = .ok (.aload_n 0, 1)) rfl) (sb_cons (sd_getr (k := 0) kl_3 (by decide) rfl wm_106 (by decide +kernel : decode cX3_insert 55 = .ok (.getfield 9, 3))) (sb_cons (sd_iload_n (by decide +kernel : decode cX3_insert 58 = .ok (.iload_n 2, 1)) rfl) (sb_cons (sd_iload_n (by decide +kernel : decode cX3_insert 59 = .ok (.iload_n 1, 1)) rfl) (sb_cons (sd_iastore (by decide +kernel : decode cX3_insert 60 = .ok (.iastore, 1))) (sb_cons (sd_aload_n (by decide +kernel : decode cX3_insert 61 = .ok (.aload_n 0, 1)) rfl) (sb_cons (sd_dup (by decide +kernel : decode cX3_insert 62 = .ok (.dup, 1))) (sb_cons (sd_geti (k := 1) kl_3 (by decide) rfl wm_107 (by decide +kernel : decode cX3_insert 63 = .ok (.getfield 15, 3))) (sb_cons (sd_iconst (by decide +kernel : decode cX3_insert 66 = .ok (.iconst 1, 1)) ⟨by decide, by decide⟩) (sb_cons (sd_iadd (by decide +kernel : decode cX3_insert 67 = .ok (.iadd, 1))) (sb_cons (sd_puti (k := 1) kl_3 (by decide) rfl (Or.inl rfl) wm_107 (by decide +kernel : decode cX3_insert 68 = .ok (.putfield 15, 3))) (sb_cons (sd_return (x := 0) rfl (by decide +kernel : decode cX3_insert 71 = .ok (.return_, 1))) sb_nil)))))))))))
theorem sn_X3_insert (l : Launch) : sm_SndT l RX3 "insert" cX3_insert 3 0 0 tb_X3_insert := st_cons (sb_X3_insert_0 l) (st_cons (sb_X3_insert_13 l) (st_cons (sb_X3_insert_18 l) (st_cons (sb_X3_insert_54 l) (st_nil))))
set_option maxRecDepth 100000 in
set_option maxHeartbeats 4000000 in
theorem ok_X3_insert : sm_Ok tb_X3_insert 3 0 0 p_X3_insert f_X3_insert := by
  intro as w hp ha hw
  match as, hp with
  | [.inr (.inl o), .inl row], hp =>
  refine ⟨Nat.le_of_ble_eq_true rfl, fun Z hZ => ?_⟩
  obtain ⟨rfl, hT, n0, n1⟩ := hp
  by_cases c : 64 ≤ wI w 78 1
  · have key : mIns w row = w := if_pos c
    refine hZ (fun u => Nat.beq u 18) 14 0 _ _ _ _ _ ?_
    simp only [sm_run, sm_blk, sm_get, sm_ent, sm_ents, sm_wds, sm_wd, sm_nl, sm_pop, sm_back, sm_cases, oK, oLK, oL, oI, oA, oJ, oIs, oAs, oJs, oInc, oAdd, oSub, oMul, oDiv, oRem, oNeg, oAnd, oAndB, oOr, oShl, oI2c, oI2l, oL2i, oLand, oLor, oLshl, oLshr, oLushr, oLcmp, oDup, oDup2, oPop, oGo, oFg, oEq, oNe, oLt, oGe, oGt, oLe, oEq0, oNe0, oLt0, oGe0, oGt0, oLe0, oSw, oGi, oGr, oPi, oPz, oPr, oLen, oIl, oZl, oCl, oRl, oIst, oZst, oCst, oRst, oCopy, oNew, oNa, oNa2, oObj, oCs, oCv, oCi, oIr, oZr, oVr, Nat.beq, List.getElem?_cons_zero, List.getElem?_cons_succ, List.set_cons_zero, List.set_cons_succ, List.length_cons, List.length_nil, List.nil_append, List.cons_append, List.append_nil, List.replicate_succ, List.replicate_zero, Nat.reduceAdd, Nat.reduceSub, Nat.reduceLT, Nat.reduceLeDiff, Nat.reduceBEq, true_and, and_true, Nat.zero_add, Nat.add_zero, Nat.le_refl, Option.some.injEq, exists_eq_left', true_or, or_true, or_false, false_or, reduceCtorEq, Prod.mk.injEq, Sum.inl.injEq, and_self, false_and, and_false, not_true_eq_false, not_false_eq_true, false_implies, true_implies, sm_r, Int.add_zero, Int.zero_add, wI_wsI, wS_wsI, wR_wsI, wI_wCp, wS_wCp, wR_wCp, Nat.reduceEqDiff, reduceIte, sT_iff, sT_iffC, wIf_ne, ne_eq, Bool.false_or, Bool.true_or, Bool.or_false, Bool.or_true, Bool.or_self, Nat.left_eq_add, Nat.add_eq_left, Nat.add_left_inj, oMax, oMin, oAbs, tb_X3_insert, p_X3_insert, f_X3_insert, sS_78 hT, sR_78_0 hT, sS_79 hT, key]
    repeat' (first | exact True.intro | with_reducible assumption | with_reducible refine And.intro ?_ ?_ | intro _)
    all_goals first
      | omega
      | assumption
      | rfl
      | (split <;> omega)
      | (have k9 := ih (by omega)
         (repeat' split at k9) <;> first | exact k9 | omega)
      | (have k9 := ih2 (by omega)
         (repeat' split at k9) <;> first | exact k9 | omega)
      | exact he (by omega)
      | ((with_reducible congr 1) <;> omega)
      | (rw [if_pos (by omega)] at he; exact he)
      | exact hD1 (by omega)
      | exact hD2 (by omega)
      | grind
      | skip
  · have key : mInF (mInL (wI w 78 1).toNat w row) (wI w 78 1 + 1) = mIns w row := (if_neg c).symm
    generalize hE : mIns w row = E at *
    generalize hN : wI w 78 1 = N at *
    have hl := sm_loopM (S := Nat × sm_W) Z 18 (fun s => s.1) (fun s => (s.1 : Int) ≤ N ∧ sT s.2 ∧ wI s.2 78 1 = N ∧ mInF (mInL s.1 s.2 row) (N + 1) = E) (fun s => [some (.inr (.inl 78)), some (.inl row), some (.inl (s.1 : Int))]) (fun s => s.2) 0 0 (fun s hI ih => by
      obtain ⟨n, u⟩ := s
      dsimp only at hI ih ⊢
      obtain ⟨i1, hT, h1, he⟩ := hI
      cases n with
      | zero =>
        have he : wsI (wsI u 79 0 row) 78 1 (N + 1) = E := he
        clear ih
        refine hZ (fun u => Nat.beq u 18) 14 18 _ _ _ _ _ ?_
        simp only [sm_run, sm_blk, sm_get, sm_ent, sm_ents, sm_wds, sm_wd, sm_nl, sm_pop, sm_back, sm_cases, oK, oLK, oL, oI, oA, oJ, oIs, oAs, oJs, oInc, oAdd, oSub, oMul, oDiv, oRem, oNeg, oAnd, oAndB, oOr, oShl, oI2c, oI2l, oL2i, oLand, oLor, oLshl, oLshr, oLushr, oLcmp, oDup, oDup2, oPop, oGo, oFg, oEq, oNe, oLt, oGe, oGt, oLe, oEq0, oNe0, oLt0, oGe0, oGt0, oLe0, oSw, oGi, oGr, oPi, oPz, oPr, oLen, oIl, oZl, oCl, oRl, oIst, oZst, oCst, oRst, oCopy, oNew, oNa, oNa2, oObj, oCs, oCv, oCi, oIr, oZr, oVr, Nat.beq, List.getElem?_cons_zero, List.getElem?_cons_succ, List.set_cons_zero, List.set_cons_succ, List.length_cons, List.length_nil, List.nil_append, List.cons_append, List.append_nil, List.replicate_succ, List.replicate_zero, Nat.reduceAdd, Nat.reduceSub, Nat.reduceLT, Nat.reduceLeDiff, Nat.reduceBEq, true_and, and_true, Nat.zero_add, Nat.add_zero, Nat.le_refl, Option.some.injEq, exists_eq_left', true_or, or_true, or_false, false_or, reduceCtorEq, Prod.mk.injEq, Sum.inl.injEq, and_self, false_and, and_false, not_true_eq_false, not_false_eq_true, false_implies, true_implies, sm_r, Int.add_zero, Int.zero_add, wI_wsI, wS_wsI, wR_wsI, wI_wCp, wS_wCp, wR_wCp, Nat.reduceEqDiff, reduceIte, sT_iff, sT_iffC, wIf_ne, ne_eq, Bool.false_or, Bool.true_or, Bool.or_false, Bool.or_true, Bool.or_self, Nat.left_eq_add, Nat.add_eq_left, Nat.add_left_inj, oMax, oMin, oAbs, tb_X3_insert, p_X3_insert, f_X3_insert, sS_78 hT, sR_78_0 hT, sS_79 hT, h1, hE, Int.cast_ofNat_Int]
        repeat' (first | exact True.intro | with_reducible assumption | with_reducible refine And.intro ?_ ?_ | intro _)
        all_goals first
          | omega
          | assumption
          | rfl
          | (split <;> omega)
          | (have k9 := ih (by omega)
             (repeat' split at k9) <;> first | exact k9 | omega)
          | (have k9 := ih2 (by omega)
             (repeat' split at k9) <;> first | exact k9 | omega)
          | exact he (by omega)
          | ((with_reducible congr 1) <;> omega)
          | (rw [if_pos (by omega)] at he; exact he)
          | exact hD1 (by omega)
          | exact hD2 (by omega)
          | grind
          | skip
      | succ n =>
        rw [mInL_s] at he
        have hc1 : ((n + 1 : Nat) : Int) - 1 = (n : Int) := by omega
        have hc2 : ((n + 1 : Nat) : Int) + -1 = (n : Int) := by omega
        by_cases c3 : row < wI u 79 n
        · rw [if_pos c3] at he
          have ih := ih (n, wsI u 79 ((n + 1 : Nat) : Int) (wI u 79 n)) ⟨by dsimp only; omega, sT_wsI hT, (congrFun (wIf_ne (by decide)) 1).trans h1, he⟩ (Nat.lt_succ_self n)
          dsimp only at ih
          refine hZ (fun u => Nat.beq u 18) 14 18 _ _ _ _ _ ?_
          simp only [sm_run, sm_blk, sm_get, sm_ent, sm_ents, sm_wds, sm_wd, sm_nl, sm_pop, sm_back, sm_cases, oK, oLK, oL, oI, oA, oJ, oIs, oAs, oJs, oInc, oAdd, oSub, oMul, oDiv, oRem, oNeg, oAnd, oAndB, oOr, oShl, oI2c, oI2l, oL2i, oLand, oLor, oLshl, oLshr, oLushr, oLcmp, oDup, oDup2, oPop, oGo, oFg, oEq, oNe, oLt, oGe, oGt, oLe, oEq0, oNe0, oLt0, oGe0, oGt0, oLe0, oSw, oGi, oGr, oPi, oPz, oPr, oLen, oIl, oZl, oCl, oRl, oIst, oZst, oCst, oRst, oCopy, oNew, oNa, oNa2, oObj, oCs, oCv, oCi, oIr, oZr, oVr, Nat.beq, List.getElem?_cons_zero, List.getElem?_cons_succ, List.set_cons_zero, List.set_cons_succ, List.length_cons, List.length_nil, List.nil_append, List.cons_append, List.append_nil, List.replicate_succ, List.replicate_zero, Nat.reduceAdd, Nat.reduceSub, Nat.reduceLT, Nat.reduceLeDiff, Nat.reduceBEq, true_and, and_true, Nat.zero_add, Nat.add_zero, Nat.le_refl, Option.some.injEq, exists_eq_left', true_or, or_true, or_false, false_or, reduceCtorEq, Prod.mk.injEq, Sum.inl.injEq, and_self, false_and, and_false, not_true_eq_false, not_false_eq_true, false_implies, true_implies, sm_r, Int.add_zero, Int.zero_add, wI_wsI, wS_wsI, wR_wsI, wI_wCp, wS_wCp, wR_wCp, Nat.reduceEqDiff, reduceIte, sT_iff, sT_iffC, wIf_ne, ne_eq, Bool.false_or, Bool.true_or, Bool.or_false, Bool.or_true, Bool.or_self, Nat.left_eq_add, Nat.add_eq_left, Nat.add_left_inj, oMax, oMin, oAbs, tb_X3_insert, p_X3_insert, f_X3_insert, sS_78 hT, sR_78_0 hT, sS_79 hT, h1, hc1, hc2]
          repeat' (first | exact True.intro | with_reducible assumption | with_reducible refine And.intro ?_ ?_ | intro _)
          all_goals first
            | omega
            | assumption
            | rfl
            | (split <;> omega)
            | (have k9 := ih (by omega)
               (repeat' split at k9) <;> first | exact k9 | omega)
            | (have k9 := ih2 (by omega)
               (repeat' split at k9) <;> first | exact k9 | omega)
            | exact he (by omega)
            | ((with_reducible congr 1) <;> omega)
            | (rw [if_pos (by omega)] at he; exact he)
            | exact hD1 (by omega)
            | exact hD2 (by omega)
            | grind
            | skip
        · rw [if_neg c3] at he
          unfold mInF at he
          clear ih
          refine hZ (fun u => Nat.beq u 18) 14 18 _ _ _ _ _ ?_
          simp only [sm_run, sm_blk, sm_get, sm_ent, sm_ents, sm_wds, sm_wd, sm_nl, sm_pop, sm_back, sm_cases, oK, oLK, oL, oI, oA, oJ, oIs, oAs, oJs, oInc, oAdd, oSub, oMul, oDiv, oRem, oNeg, oAnd, oAndB, oOr, oShl, oI2c, oI2l, oL2i, oLand, oLor, oLshl, oLshr, oLushr, oLcmp, oDup, oDup2, oPop, oGo, oFg, oEq, oNe, oLt, oGe, oGt, oLe, oEq0, oNe0, oLt0, oGe0, oGt0, oLe0, oSw, oGi, oGr, oPi, oPz, oPr, oLen, oIl, oZl, oCl, oRl, oIst, oZst, oCst, oRst, oCopy, oNew, oNa, oNa2, oObj, oCs, oCv, oCi, oIr, oZr, oVr, Nat.beq, List.getElem?_cons_zero, List.getElem?_cons_succ, List.set_cons_zero, List.set_cons_succ, List.length_cons, List.length_nil, List.nil_append, List.cons_append, List.append_nil, List.replicate_succ, List.replicate_zero, Nat.reduceAdd, Nat.reduceSub, Nat.reduceLT, Nat.reduceLeDiff, Nat.reduceBEq, true_and, and_true, Nat.zero_add, Nat.add_zero, Nat.le_refl, Option.some.injEq, exists_eq_left', true_or, or_true, or_false, false_or, reduceCtorEq, Prod.mk.injEq, Sum.inl.injEq, and_self, false_and, and_false, not_true_eq_false, not_false_eq_true, false_implies, true_implies, sm_r, Int.add_zero, Int.zero_add, wI_wsI, wS_wsI, wR_wsI, wI_wCp, wS_wCp, wR_wCp, Nat.reduceEqDiff, reduceIte, sT_iff, sT_iffC, wIf_ne, ne_eq, Bool.false_or, Bool.true_or, Bool.or_false, Bool.or_true, Bool.or_self, Nat.left_eq_add, Nat.add_eq_left, Nat.add_left_inj, oMax, oMin, oAbs, tb_X3_insert, p_X3_insert, f_X3_insert, sS_78 hT, sR_78_0 hT, sS_79 hT, h1, hc1, hc2, hE]
          repeat' (first | exact True.intro | with_reducible assumption | with_reducible refine And.intro ?_ ?_ | intro _)
          all_goals first
            | omega
            | assumption
            | rfl
            | (split <;> omega)
            | (have k9 := ih (by omega)
               (repeat' split at k9) <;> first | exact k9 | omega)
            | (have k9 := ih2 (by omega)
               (repeat' split at k9) <;> first | exact k9 | omega)
            | exact he (by omega)
            | ((with_reducible congr 1) <;> omega)
            | (rw [if_pos (by omega)] at he; exact he)
            | exact hD1 (by omega)
            | exact hD2 (by omega)
            | grind
            | skip
      )
    have h9 := hl (N.toNat, w) ⟨by dsimp only; omega, hT, hN, key⟩
    dsimp only at h9
    rw [show ((N.toNat : Nat) : Int) = N by omega] at h9
    refine hZ (fun u => Nat.beq u 18) 14 0 _ _ _ _ _ ?_
    simp only [sm_run, sm_blk, sm_get, sm_ent, sm_ents, sm_wds, sm_wd, sm_nl, sm_pop, sm_back, sm_cases, oK, oLK, oL, oI, oA, oJ, oIs, oAs, oJs, oInc, oAdd, oSub, oMul, oDiv, oRem, oNeg, oAnd, oAndB, oOr, oShl, oI2c, oI2l, oL2i, oLand, oLor, oLshl, oLshr, oLushr, oLcmp, oDup, oDup2, oPop, oGo, oFg, oEq, oNe, oLt, oGe, oGt, oLe, oEq0, oNe0, oLt0, oGe0, oGt0, oLe0, oSw, oGi, oGr, oPi, oPz, oPr, oLen, oIl, oZl, oCl, oRl, oIst, oZst, oCst, oRst, oCopy, oNew, oNa, oNa2, oObj, oCs, oCv, oCi, oIr, oZr, oVr, Nat.beq, List.getElem?_cons_zero, List.getElem?_cons_succ, List.set_cons_zero, List.set_cons_succ, List.length_cons, List.length_nil, List.nil_append, List.cons_append, List.append_nil, List.replicate_succ, List.replicate_zero, Nat.reduceAdd, Nat.reduceSub, Nat.reduceLT, Nat.reduceLeDiff, Nat.reduceBEq, true_and, and_true, Nat.zero_add, Nat.add_zero, Nat.le_refl, Option.some.injEq, exists_eq_left', true_or, or_true, or_false, false_or, reduceCtorEq, Prod.mk.injEq, Sum.inl.injEq, and_self, false_and, and_false, not_true_eq_false, not_false_eq_true, false_implies, true_implies, sm_r, Int.add_zero, Int.zero_add, wI_wsI, wS_wsI, wR_wsI, wI_wCp, wS_wCp, wR_wCp, Nat.reduceEqDiff, reduceIte, sT_iff, sT_iffC, wIf_ne, ne_eq, Bool.false_or, Bool.true_or, Bool.or_false, Bool.or_true, Bool.or_self, Nat.left_eq_add, Nat.add_eq_left, Nat.add_left_inj, oMax, oMin, oAbs, tb_X3_insert, p_X3_insert, f_X3_insert, sS_78 hT, sR_78_0 hT, sS_79 hT, hN]
    repeat' (first | exact True.intro | with_reducible assumption | with_reducible refine And.intro ?_ ?_ | intro _)
    all_goals first
      | omega
      | assumption
      | rfl
      | (split <;> omega)
      | (have k9 := ih (by omega)
         (repeat' split at k9) <;> first | exact k9 | omega)
      | (have k9 := ih2 (by omega)
         (repeat' split at k9) <;> first | exact k9 | omega)
      | exact he (by omega)
      | ((with_reducible congr 1) <;> omega)
      | (rw [if_pos (by omega)] at he; exact he)
      | exact hD1 (by omega)
      | exact hD2 (by omega)
      | skip
theorem met_X3_insert (l : Launch) : sm_Met l yX3_insert cX3_insert 3 none 0 0 0 p_X3_insert f_X3_insert := sm_met 0 (Or.inl ⟨rfl, rfl⟩) (by decide +kernel) (sn_X3_insert l) ok_X3_insert
def mPm (w : sm_W) (d : Nat) (lo hi p : Int) : Int := if wI w (dC d lo) p < wI w (dC d hi) p then wI w (dC d hi) p else wI w (dC d lo) p
def mPk (w : sm_W) (d : Nat) (lo hi p : Int) : Int := if xWas w d lo p = 0 then 0 else (if xWas w d hi p = 0 then 0 else (if xThr w d lo p (mPm w d lo hi p) = 0 then 0 else xThr w d hi p (mPm w d lo hi p)))
def mP1 (w : sm_W) (d : Nat) (lo hi p : Int) (r : sm_W) : sm_W := if mPk w d lo hi p = 0 then r else mIns r (((mPm w d lo hi p * 8 + p) * 8 + lo) * 8 + hi)
def mPr (w r : sm_W) (d : Nat) (lo hi : Int) : Int → sm_W := itI (mP1 w d lo hi) r
/-- so many rows, none below 0 -/
def mNm (w : sm_W) : Prop := (0 ≤ wI w 78 1 ∧ wI w 78 1 ≤ 64) ∧ ∀ m, 0 ≤ m → m < wI w 78 1 → 0 ≤ wI w 79 m
theorem mInL_nn {row : Int} (hr : 0 ≤ row) : ∀ (n : Nat) (w : sm_W) (N : Int), (n : Int) ≤ N → (∀ m, 0 ≤ m → m < N + 1 → m ≠ n → 0 ≤ wI w 79 m) → ∀ m, 0 ≤ m → m < N + 1 → 0 ≤ wI (mInL n w row) 79 m
  | 0, w, N, hn, h, m, m0, m1 => by
    show 0 ≤ wI (wsI w 79 0 row) 79 m
    rw [wI_wsI]
    split
    · exact hr
    · next c => exact h m m0 m1 (fun e => c ⟨rfl, by omega⟩)
  | n + 1, w, N, hn, h, m, m0, m1 => by
    rw [mInL_s]
    split
    · refine mInL_nn hr n _ N (by omega) (fun k k0 k1 k2 => ?_) m m0 m1
      rw [wI_wsI]
      split
      · exact h n (by omega) (by omega) (by omega)
      · next c => exact h k k0 k1 (fun e => c ⟨rfl, by omega⟩)
    · rw [wI_wsI]
      split
      · exact hr
      · next c => exact h m m0 m1 (fun e => c ⟨rfl, by omega⟩)
theorem mIns_nm {w : sm_W} {row : Int} (h : mNm w) (hr : 0 ≤ row) : mNm (mIns w row) := by
  unfold mIns
  split
  · exact h
  · next c =>
    have h1 : wI (mInF (mInL (wI w 78 1).toNat w row) (wI w 78 1 + 1)) 78 1 = wI w 78 1 + 1 := by
      unfold mInF
      rw [wI_wsI, if_pos ⟨rfl, rfl⟩]
    have h9 : wI (mInF (mInL (wI w 78 1).toNat w row) (wI w 78 1 + 1)) 79 = wI (mInL (wI w 78 1).toNat w row) 79 := wIf_ne (by decide)
    have hn := h.1
    refine ⟨by rw [h1]; omega, fun m m0 m1 => ?_⟩
    rw [h1] at m1
    rw [h9]
    exact mInL_nn hr _ w (wI w 78 1) (by omega) (fun k k0 k1 k2 => h.2 k k0 (by omega)) m m0 m1
theorem dSm_Thr {d : Nat} {w u : sm_W} (h : dSm d w u) {x : Int} (x1 : x < 8) (p t : Int) : xThr u d x p t = xThr w d x p t := by
  unfold xThr
  rw [dSm_V h x1]
theorem dSm_Pm {d : Nat} {w u : sm_W} (h : dSm d w u) {lo hi : Int} (x1 : lo < 8) (x2 : hi < 8) (p : Int) : mPm u d lo hi p = mPm w d lo hi p := by
  unfold mPm
  rw [dSm_C h x1, dSm_C h x2]
theorem dSm_Pk {d : Nat} {w u : sm_W} (h : dSm d w u) {lo hi : Int} (x1 : lo < 8) (x2 : hi < 8) (p : Int) : mPk u d lo hi p = mPk w d lo hi p := by
  unfold mPk
  rw [dSm_Was h x1, dSm_Was h x2, dSm_Pm h x1 x2, dSm_Thr h x1, dSm_Thr h x2]
theorem dSm_P1 {d : Nat} {w u : sm_W} (h : dSm d w u) {lo hi : Int} (x1 : lo < 8) (x2 : hi < 8) : mP1 u d lo hi = mP1 w d lo hi := by
  funext p r
  unfold mP1
  rw [dSm_Pk h x1 x2, dSm_Pm h x1 x2]
theorem mPm_b {w : sm_W} {d : Nat} {lo hi p : Int} (hX : xOK w d) (l0 : 0 ≤ lo) (l1 : lo < wI w (d + 1) 7) (h0 : 0 ≤ hi) (h1 : hi < wI w (d + 1) 7) (p0 : 0 ≤ p) (p1 : p < 8) : mPm w d lo hi p ≤ 100000 ∧ (mPk w d lo hi p ≠ 0 → 0 ≤ mPm w d lo hi p) := by
  have a := xOK_c hX l0 l1 p0 p1
  have b := xOK_c hX h0 h1 p0 p1
  refine ⟨by unfold mPm; split <;> omega, fun h => ?_⟩
  unfold mPk at h
  by_cases c : xWas w d lo p = 0
  · rw [if_pos c] at h; exact absurd rfl h
  · have : 0 ≤ wI w (dC d lo) p := by
      unfold xWas at c
      by_cases e : wI w (dC d lo) p < 0
      · rw [if_pos e] at c; exact absurd rfl c
      · omega
    unfold mPm
    split <;> omega
theorem mPr_inv {w r : sm_W} {d : Nat} {lo hi : Int} (hX : xOK w d) (l0 : 0 ≤ lo) (l1 : lo < wI w (d + 1) 7) (h0 : 0 ≤ hi) (h1 : hi < wI w (d + 1) 7) (hN : mNm r) (n : Int) (n0 : 0 ≤ n) (n1 : n ≤ 8) : sFr sMt r (mPr w r d lo hi n) ∧ mNm (mPr w r d lo hi n) := by
  refine itI_ind (f := mP1 w d lo hi) (fun _ q => sFr sMt r q ∧ mNm q) n ⟨sFr.refl r, hN⟩ (fun i q i0 i1 hq => ?_) n n0 (Int.le_refl _)
  have hb := mPm_b hX l0 l1 h0 h1 i0 (show i < 8 by omega)
  unfold mP1
  split
  · exact hq
  · next c => exact ⟨hq.1.trans (mIns_fr _ _), mIns_nm hq.2 (by have := hb.2 c; omega)⟩
def p_X3_gatherPair : List sm_V → sm_W → Prop
  | [.inr (.inl o), .inr (.inl d), .inl lo, .inl hi], w => o = 78 ∧ xOK w d ∧ mNm w ∧ 0 ≤ lo ∧ lo < wI w (d + 1) 7 ∧ 0 ≤ hi ∧ hi < wI w (d + 1) 7
  | _, _ => False
def f_X3_gatherPair : sm_F
  | [.inr (.inl o), .inr (.inl d), .inl lo, .inl hi], w => (none, mPr w w d lo hi 8)
  | _, w => (none, w)
def tb_X3_gatherPair : List (Nat × List sm_O) := [(0, [oK 0, oIs 4, oFg 5, oGo 3]),
  (3, [oI 4, oK 8, oGe 105, oA 1, oI 2, oI 4, oCv 0 11 p_X0_wasOnTrack f_X0_wasOnTrack 0 0 3, oEq0 99, oA 1, oI 3, oI 4, oCv 0 11 p_X0_wasOnTrack f_X0_wasOnTrack 0 0 3, oEq0 99, oA 1, oGr 0 11 1, oI 2, oRl, oI 4, oIl, oA 1, oGr 0 11 1, oI 3, oRl, oI 4, oIl, oMax, oIs 5, oA 1, oI 2, oI 4, oI 5, oCs p_X3_isThere f_X3_isThere 0 0 4, oEq0 99, oA 1, oI 3, oI 4, oI 5, oCs p_X3_isThere f_X3_isThere 0 0 4, oEq0 99, oA 0, oI 5, oK 8, oMul, oI 4, oAdd, oK 8, oMul, oI 2, oAdd, oK 8, oMul, oI 3, oAdd, oCv 3 2 p_X3_insert f_X3_insert 0 0 2, oGo 99]),
  (99, [oInc 4 1, oFg 5, oGo 3]),
  (105, [oVr])]
set_option maxRecDepth 100000 in
theorem sb_X3_gatherPair_0 (l : Launch) : sm_SndB l RX3 "gatherPair" cX3_gatherPair 6 0 1 0 [oK 0, oIs 4, oFg 5, oGo 3] := sb_cons (sd_iconst (by decide +kernel : decode cX3_gatherPair 0 = .ok (.iconst 0, 1)) ⟨by decide, by decide⟩) (sb_cons (sd_istore (by decide +kernel : decode cX3_gatherPair 1 = .ok (.istore 4, 2))) (sb_cons (sd_fg) (sb_cons (sd_fall (x := 0)) sb_nil)))
set_option maxRecDepth 100000 in
theorem sb_X3_gatherPair_3 (l : Launch) : sm_SndB l RX3 "gatherPair" cX3_gatherPair 6 0 1 3 [oI 4, oK 8, oGe 105, oA 1, oI 2, oI 4, oCv 0 11 p_X0_wasOnTrack f_X0_wasOnTrack 0 0 3, oEq0 99, oA 1, oI 3, oI 4, oCv 0 11 p_X0_wasOnTrack f_X0_wasOnTrack 0 0 3, oEq0 99, oA 1, oGr 0 11 1, oI 2, oRl, oI 4, oIl, oA 1, oGr 0 11 1, oI 3, oRl, oI 4, oIl, oMax, oIs 5, oA 1, oI 2, oI 4, oI 5, oCs p_X3_isThere f_X3_isThere 0 0 4, oEq0 99, oA 1, oI 3, oI 4, oI 5, oCs p_X3_isThere f_X3_isThere 0 0 4, oEq0 99, oA 0, oI 5, oK 8, oMul, oI 4, oAdd, oK 8, oMul, oI 2, oAdd, oK 8, oMul, oI 3, oAdd, oCv 3 2 p_X3_insert f_X3_insert 0 0 2, oGo 99] := sb_cons (sd_iload (by decide +kernel : decode cX3_gatherPair 3 = .ok (.iload 4, 2))) (sb_cons (sd_bipush (by decide +kernel : decode cX3_gatherPair 5 = .ok (.bipush 8, 2)) ⟨by decide, by decide⟩ (by decide)) (sb_cons (sd_ge (by decide +kernel : decode cX3_gatherPair 7 = .ok (.if_icmp .ge 98, 3)) (by decide)) (sb_cons (sd_aload_n (by decide +kernel : decode cX3_gatherPair 10 = .ok (.aload_n 1, 1)) rfl) (sb_cons (sd_iload_n (by decide +kernel : decode cX3_gatherPair 11 = .ok (.iload_n 2, 1)) rfl) (sb_cons (sd_iload (by decide +kernel : decode cX3_gatherPair 12 = .ok (.iload 4, 2))) (sb_cons (sd_callv (n := 2) (met_X0_wasOnTrack l) (by decide) (by decide) wm_375 wm_446 wm_2 ⟨by decide +kernel, by decide +kernel, by decide +kernel⟩ kl_0 wm_373 wm_374 (by decide +kernel : decode cX3_gatherPair 14 = .ok (.invokevirtual 38, 3))) (sb_cons (sd_eq0 (by decide +kernel : decode cX3_gatherPair 17 = .ok (.ifCond .eq 82, 3)) (by decide)) (sb_cons (sd_aload_n (by decide +kernel : decode cX3_gatherPair 20 = .ok (.aload_n 1, 1)) rfl) (sb_cons (sd_iload_n (by decide +kernel : decode cX3_gatherPair 21 = .ok (.iload_n 3, 1)) rfl) (sb_cons (sd_iload (by decide +kernel : decode cX3_gatherPair 22 = .ok (.iload 4, 2))) (sb_cons (sd_callv (n := 2) (met_X0_wasOnTrack l) (by decide) (by decide) wm_375 wm_446 wm_2 ⟨by decide +kernel, by decide +kernel, by decide +kernel⟩ kl_0 wm_373 wm_374 (by decide +kernel : decode cX3_gatherPair 24 = .ok (.invokevirtual 38, 3))) (sb_cons (sd_eq0 (by decide +kernel : decode cX3_gatherPair 27 = .ok (.ifCond .eq 72, 3)) (by decide)) (sb_cons (sd_aload_n (by decide +kernel : decode cX3_gatherPair 30 = .ok (.aload_n 1, 1)) rfl) (sb_cons (sd_getr (k := 1) kl_0 (by decide) rfl wm_74 (by decide +kernel : decode cX3_gatherPair 31 = .ok (.getfield 42, 3))) (sb_cons (sd_iload_n (by decide +kernel : decode cX3_gatherPair 34 = .ok (.iload_n 2, 1)) rfl) (sb_cons (sd_aaload (by decide +kernel : decode cX3_gatherPair 35 = .ok (.aaload, 1))) (sb_cons (sd_iload (by decide +kernel : decode cX3_gatherPair 36 = .ok (.iload 4, 2))) (sb_cons (sd_iaload (by decide +kernel : decode cX3_gatherPair 38 = .ok (.iaload, 1))) (sb_cons (sd_aload_n (by decide +kernel : decode cX3_gatherPair 39 = .ok (.aload_n 1, 1)) rfl) (sb_cons (sd_getr (k := 1) kl_0 (by decide) rfl wm_74 (by decide +kernel : decode cX3_gatherPair 40 = .ok (.getfield 42, 3))) (sb_cons (sd_iload_n (by decide +kernel : decode cX3_gatherPair 43 = .ok (.iload_n 3, 1)) rfl) (sb_cons (sd_aaload (by decide +kernel : decode cX3_gatherPair 44 = .ok (.aaload, 1))) (sb_cons (sd_iload (by decide +kernel : decode cX3_gatherPair 45 = .ok (.iload 4, 2))) (sb_cons (sd_iaload (by decide +kernel : decode cX3_gatherPair 47 = .ok (.iaload, 1))) (sb_cons (sd_max (by decide) wm_447 wm_281 wm_12 wm_282 (by decide +kernel : decode cX3_gatherPair 48 = .ok (.invokestatic 46, 3))) (sb_cons (sd_istore (by decide +kernel : decode cX3_gatherPair 51 = .ok (.istore 5, 2))) (sb_cons (sd_aload_n (by decide +kernel : decode cX3_gatherPair 53 = .ok (.aload_n 1, 1)) rfl) (sb_cons (sd_iload_n (by decide +kernel : decode cX3_gatherPair 54 = .ok (.iload_n 2, 1)) rfl) (sb_cons (sd_iload (by decide +kernel : decode cX3_gatherPair 55 = .ok (.iload 4, 2))) (sb_cons (sd_iload (by decide +kernel : decode cX3_gatherPair 57 = .ok (.iload 5, 2))) (sb_cons (sd_calls (n := 4) (met_X3_isThere l) (by decide) (by decide) wm_450 wm_448 wm_6 ⟨by decide +kernel, by decide +kernel, by decide +kernel⟩ wm_449 (by decide +kernel : decode cX3_gatherPair 59 = .ok (.invokestatic 52, 3))) (sb_cons (sd_eq0 (by decide +kernel : decode cX3_gatherPair 62 = .ok (.ifCond .eq 37, 3)) (by decide)) (sb_cons (sd_aload_n (by decide +kernel : decode cX3_gatherPair 65 = .ok (.aload_n 1, 1)) rfl) (sb_cons (sd_iload_n (by decide +kernel : decode cX3_gatherPair 66 = .ok (.iload_n 3, 1)) rfl) (sb_cons (sd_iload (by decide +kernel : decode cX3_gatherPair 67 = .ok (.iload 4, 2))) (sb_cons (sd_iload (by decide +kernel : decode cX3_gatherPair 69 = .ok (.iload 5, 2))) (sb_cons (sd_calls (n := 4) (met_X3_isThere l) (by decide) (by decide) wm_450 wm_448 wm_6 ⟨by decide +kernel, by decide +kernel, by decide +kernel⟩ wm_449 (by decide +kernel : decode cX3_gatherPair 71 = .ok (.invokestatic 52, 3))) (sb_cons (sd_eq0 (by decide +kernel : decode cX3_gatherPair 74 = .ok (.ifCond .eq 25, 3)) (by decide)) (sb_cons (sd_aload_n (by decide +kernel : decode cX3_gatherPair 77 = .ok (.aload_n 0, 1)) rfl) (sb_cons (sd_iload (by decide +kernel : decode cX3_gatherPair 78 = .ok (.iload 5, 2))) (sb_cons (sd_bipush (by decide +kernel : decode cX3_gatherPair 80 = .ok (.bipush 8, 2)) ⟨by decide, by decide⟩ (by decide)) (sb_cons (sd_imul (by decide +kernel : decode cX3_gatherPair 82 = .ok (.imul, 1))) (sb_cons (sd_iload (by decide +kernel : decode cX3_gatherPair 83 = .ok (.iload 4, 2))) (sb_cons (sd_iadd (by decide +kernel : decode cX3_gatherPair 85 = .ok (.iadd, 1))) (sb_cons (sd_bipush (by decide +kernel : decode cX3_gatherPair 86 = .ok (.bipush 8, 2)) ⟨by decide, by decide⟩ (by decide)) (sb_cons (sd_imul (by decide +kernel : decode cX3_gatherPair 88 = .ok (.imul, 1))) (sb_cons (sd_iload_n (by decide +kernel : decode cX3_gatherPair 89 = .ok (.iload_n 2, 1)) rfl) (sb_cons (sd_iadd (by decide +kernel : decode cX3_gatherPair 90 = .ok (.iadd, 1))) (sb_cons (sd_bipush (by decide +kernel : decode cX3_gatherPair 91 = .ok (.bipush 8, 2)) ⟨by decide, by decide⟩ (by decide)) (sb_cons (sd_imul (by decide +kernel : decode cX3_gatherPair 93 = .ok (.imul, 1))) (sb_cons (sd_iload_n (by decide +kernel : decode cX3_gatherPair 94 = .ok (.iload_n 3, 1)) rfl) (sb_cons (sd_iadd (by decide +kernel : decode cX3_gatherPair 95 = .ok (.iadd, 1))) (sb_cons (sd_callv (n := 1) (met_X3_insert l) (by decide) (by decide) wm_454 wm_452 wm_6 ⟨by decide +kernel, by decide +kernel, by decide +kernel⟩ kl_3 wm_453 wm_1092 (by decide +kernel : decode cX3_gatherPair 96 = .ok (.invokevirtual 56, 3))) (sb_cons (sd_fall (x := 0)) sb_nil))))))))))))))))))))))))))))))))))))))))))))))))))))))
set_option maxRecDepth 100000 in
theorem sb_X3_gatherPair_99 (l : Launch) : sm_SndB l RX3 "gatherPair" cX3_gatherPair 6 0 1 99 [oInc 4 1, oFg 5, oGo 3] := sb_cons (sd_iinc (by decide +kernel : decode cX3_gatherPair 99 = .ok (.iinc 4 1, 3))) (sb_cons (sd_fg) (sb_cons (sd_goto (x := 0) (by decide +kernel : decode cX3_gatherPair 102 = .ok (.goto (-99), 3)) (by decide)) sb_nil))
set_option maxRecDepth 100000 in
theorem sb_X3_gatherPair_105 (l : Launch) : sm_SndB l RX3 "gatherPair" cX3_gatherPair 6 0 1 105 [oVr] := sb_cons (sd_return (x := 0) rfl (by decide +kernel : decode cX3_gatherPair 105 = .ok (.return_, 1))) sb_nil
theorem sn_X3_gatherPair (l : Launch) : sm_SndT l RX3 "gatherPair" cX3_gatherPair 6 0 1 tb_X3_gatherPair := st_cons (sb_X3_gatherPair_0 l) (st_cons (sb_X3_gatherPair_3 l) (st_cons (sb_X3_gatherPair_99 l) (st_cons (sb_X3_gatherPair_105 l) (st_nil))))
set_option maxRecDepth 100000 in
set_option maxHeartbeats 4000000 in
theorem ok_X3_gatherPair : sm_Ok tb_X3_gatherPair 6 0 0 p_X3_gatherPair f_X3_gatherPair := by
  intro as w hp ha hw
  match as, hp with
  | [.inr (.inl o), .inr (.inl d), .inl lo, .inl hi], hp =>
  refine ⟨Nat.le_of_ble_eq_true rfl, fun Z hZ => ?_⟩
  obtain ⟨rfl, hX, hN, lo0, lo1, hi0, hi1⟩ := hp
  have hD := hX.1
  have hT := hD.2.1
  have hn := dOK_n hD
  generalize hE : mPr w w d lo hi 8 = E at *
  have hl := sm_loopI Z 3 0 8 (fun i => [some (.inr (.inl 78)), some (.inr (.inl d)), some (.inl lo), some (.inl hi), some (.inl i), none]) (fun i => mPr w w d lo hi i) 0 0 (by decide) (fun i h0 h1 ih => by
    have hI := mPr_inv hX lo0 lo1 hi0 hi1 hN i h0 h1
    have hu : mPr w w d lo hi (i + 1) = mP1 w d lo hi i (mPr w w d lo hi i) := itI_s _ _ h0
    have he : i = 8 → mPr w w d lo hi i = E := fun e => by rw [← hE, e]
    rw [hu] at ih
    generalize mPr w w d lo hi i = u at *
    obtain ⟨hf, hNu⟩ := hI
    have hTu := sFr_sT hf hT
    have hS := dSm_fr hf (sMt_d hD.1)
    have hXu := dSm_x hS hTu hX
    have hDu := hXu.1
    obtain ⟨d0, d9, d18, d27, d28, d29, d30, d31, d32, s0, s1, s2, s5, s6, s7, s8, s9, s10⟩ := dS hTu hD.1
    by_cases e : i = 8
    · have he := he e
      clear ih
      refine hZ (fun u => Nat.beq u 3) 14 3 _ _ _ _ _ ?_
      simp only [sm_run, sm_blk, sm_get, sm_ent, sm_ents, sm_wds, sm_wd, sm_nl, sm_pop, sm_back, sm_cases, oK, oLK, oL, oI, oA, oJ, oIs, oAs, oJs, oInc, oAdd, oSub, oMul, oDiv, oRem, oNeg, oAnd, oAndB, oOr, oShl, oI2c, oI2l, oL2i, oLand, oLor, oLshl, oLshr, oLushr, oLcmp, oDup, oDup2, oPop, oGo, oFg, oEq, oNe, oLt, oGe, oGt, oLe, oEq0, oNe0, oLt0, oGe0, oGt0, oLe0, oSw, oGi, oGr, oPi, oPz, oPr, oLen, oIl, oZl, oCl, oRl, oIst, oZst, oCst, oRst, oCopy, oNew, oNa, oNa2, oObj, oCs, oCv, oCi, oIr, oZr, oVr, Nat.beq, List.getElem?_cons_zero, List.getElem?_cons_succ, List.set_cons_zero, List.set_cons_succ, List.length_cons, List.length_nil, List.nil_append, List.cons_append, List.append_nil, List.replicate_succ, List.replicate_zero, Nat.reduceAdd, Nat.reduceSub, Nat.reduceLT, Nat.reduceLeDiff, Nat.reduceBEq, true_and, and_true, Nat.zero_add, Nat.add_zero, Nat.le_refl, Option.some.injEq, exists_eq_left', true_or, or_true, or_false, false_or, reduceCtorEq, Prod.mk.injEq, Sum.inl.injEq, and_self, false_and, and_false, not_true_eq_false, not_false_eq_true, false_implies, true_implies, sm_r, Int.add_zero, Int.zero_add, wI_wsI, wS_wsI, wR_wsI, wI_wCp, wS_wCp, wR_wCp, Nat.reduceEqDiff, reduceIte, sT_iff, sT_iffC, wIf_ne, ne_eq, Bool.false_or, Bool.true_or, Bool.or_false, Bool.or_true, Bool.or_self, Nat.left_eq_add, Nat.add_eq_left, Nat.add_left_inj, oMax, oMin, oAbs, tb_X3_gatherPair, p_X0_wasOnTrack, p_X3_insert, p_X3_isThere, f_X0_wasOnTrack, f_X3_insert, f_X3_isThere, p_X3_gatherPair, f_X3_gatherPair, hE]
      repeat' (first | exact True.intro | with_reducible assumption | with_reducible refine And.intro ?_ ?_ | intro _)
      all_goals first
        | omega
        | assumption
        | rfl
        | (split <;> omega)
        | (have k9 := ih (by omega)
           (repeat' split at k9) <;> first | exact k9 | omega)
        | (have k9 := ih2 (by omega)
           (repeat' split at k9) <;> first | exact k9 | omega)
        | exact he (by omega)
        | ((with_reducible congr 1) <;> omega)
        | (rw [if_pos (by omega)] at he; exact he)
        | exact hD1 (by omega)
        | exact hD2 (by omega)
        | grind
        | skip
    · have ih := ih (by omega)
      clear he
      have hi8 : i < 8 := by omega
      obtain ⟨c9, c18, cC, cV⟩ := dRC hTu hD.1 lo0 (show lo < 8 by omega)
      obtain ⟨e9, e18, eC, eV⟩ := dRC hTu hD.1 hi0 (show hi < 8 by omega)
      have a1 := dSm_Was hS (show lo < 8 by omega) i
      have a2 := dSm_Was hS (show hi < 8 by omega) i
      have a3 := dSm_Thr hS (show lo < 8 by omega) i
      have a4 := dSm_Thr hS (show hi < 8 by omega) i
      have a5 := dSm_Pm hS (show lo < 8 by omega) (show hi < 8 by omega) i
      have hb := mPm_b hX lo0 lo1 hi0 hi1 h0 hi8
      have hmx : (if wI u (dC d lo) i < wI u (dC d hi) i then wI u (dC d hi) i else wI u (dC d lo) i) = mPm w d lo hi i := a5
      have b1 := xWas_01 w d lo i
      have b2 := xWas_01 w d hi i
      have b3 := xThr_01 w d lo i (mPm w d lo hi i)
      have b4 := xThr_01 w d hi i (mPm w d lo hi i)
      have hPk : mPk w d lo hi i = if xWas w d lo i = 0 then 0 else (if xWas w d hi i = 0 then 0 else (if xThr w d lo i (mPm w d lo hi i) = 0 then 0 else xThr w d hi i (mPm w d lo hi i))) := rfl
      unfold mP1 at ih
      generalize mPk w d lo hi i = K at *
      generalize mPm w d lo hi i = M at *
      have hNu1 := hNu.1
      rcases b1 with q1 | q1
      · rw [if_pos q1] at hPk
        rw [if_pos hPk] at ih
        refine hZ (fun u => Nat.beq u 3) 14 3 _ _ _ _ _ ?_
        simp only [sm_run, sm_blk, sm_get, sm_ent, sm_ents, sm_wds, sm_wd, sm_nl, sm_pop, sm_back, sm_cases, oK, oLK, oL, oI, oA, oJ, oIs, oAs, oJs, oInc, oAdd, oSub, oMul, oDiv, oRem, oNeg, oAnd, oAndB, oOr, oShl, oI2c, oI2l, oL2i, oLand, oLor, oLshl, oLshr, oLushr, oLcmp, oDup, oDup2, oPop, oGo, oFg, oEq, oNe, oLt, oGe, oGt, oLe, oEq0, oNe0, oLt0, oGe0, oGt0, oLe0, oSw, oGi, oGr, oPi, oPz, oPr, oLen, oIl, oZl, oCl, oRl, oIst, oZst, oCst, oRst, oCopy, oNew, oNa, oNa2, oObj, oCs, oCv, oCi, oIr, oZr, oVr, Nat.beq, List.getElem?_cons_zero, List.getElem?_cons_succ, List.set_cons_zero, List.set_cons_succ, List.length_cons, List.length_nil, List.nil_append, List.cons_append, List.append_nil, List.replicate_succ, List.replicate_zero, Nat.reduceAdd, Nat.reduceSub, Nat.reduceLT, Nat.reduceLeDiff, Nat.reduceBEq, true_and, and_true, Nat.zero_add, Nat.add_zero, Nat.le_refl, Option.some.injEq, exists_eq_left', true_or, or_true, or_false, false_or, reduceCtorEq, Prod.mk.injEq, Sum.inl.injEq, and_self, false_and, and_false, not_true_eq_false, not_false_eq_true, false_implies, true_implies, sm_r, Int.add_zero, Int.zero_add, wI_wsI, wS_wsI, wR_wsI, wI_wCp, wS_wCp, wR_wCp, Nat.reduceEqDiff, reduceIte, sT_iff, sT_iffC, wIf_ne, ne_eq, Bool.false_or, Bool.true_or, Bool.or_false, Bool.or_true, Bool.or_self, Nat.left_eq_add, Nat.add_eq_left, Nat.add_left_inj, oMax, oMin, oAbs, tb_X3_gatherPair, p_X0_wasOnTrack, p_X3_insert, p_X3_isThere, f_X0_wasOnTrack, f_X3_insert, f_X3_isThere, p_X3_gatherPair, f_X3_gatherPair, d0, hDu, a1, q1]
        repeat' (first | exact True.intro | with_reducible assumption | with_reducible refine And.intro ?_ ?_ | intro _)
        all_goals first
          | omega
          | assumption
          | rfl
          | (split <;> omega)
          | (have k9 := ih (by omega)
             (repeat' split at k9) <;> first | exact k9 | omega)
          | (have k9 := ih2 (by omega)
             (repeat' split at k9) <;> first | exact k9 | omega)
          | exact he (by omega)
          | ((with_reducible congr 1) <;> omega)
          | (rw [if_pos (by omega)] at he; exact he)
          | exact hD1 (by omega)
          | exact hD2 (by omega)
          | grind
          | skip
      · rw [if_neg (by omega)] at hPk
        rcases b2 with q2 | q2
        · rw [if_pos q2] at hPk
          rw [if_pos hPk] at ih
          refine hZ (fun u => Nat.beq u 3) 14 3 _ _ _ _ _ ?_
          simp only [sm_run, sm_blk, sm_get, sm_ent, sm_ents, sm_wds, sm_wd, sm_nl, sm_pop, sm_back, sm_cases, oK, oLK, oL, oI, oA, oJ, oIs, oAs, oJs, oInc, oAdd, oSub, oMul, oDiv, oRem, oNeg, oAnd, oAndB, oOr, oShl, oI2c, oI2l, oL2i, oLand, oLor, oLshl, oLshr, oLushr, oLcmp, oDup, oDup2, oPop, oGo, oFg, oEq, oNe, oLt, oGe, oGt, oLe, oEq0, oNe0, oLt0, oGe0, oGt0, oLe0, oSw, oGi, oGr, oPi, oPz, oPr, oLen, oIl, oZl, oCl, oRl, oIst, oZst, oCst, oRst, oCopy, oNew, oNa, oNa2, oObj, oCs, oCv, oCi, oIr, oZr, oVr, Nat.beq, List.getElem?_cons_zero, List.getElem?_cons_succ, List.set_cons_zero, List.set_cons_succ, List.length_cons, List.length_nil, List.nil_append, List.cons_append, List.append_nil, List.replicate_succ, List.replicate_zero, Nat.reduceAdd, Nat.reduceSub, Nat.reduceLT, Nat.reduceLeDiff, Nat.reduceBEq, true_and, and_true, Nat.zero_add, Nat.add_zero, Nat.le_refl, Option.some.injEq, exists_eq_left', true_or, or_true, or_false, false_or, reduceCtorEq, Prod.mk.injEq, Sum.inl.injEq, and_self, false_and, and_false, not_true_eq_false, not_false_eq_true, false_implies, true_implies, sm_r, Int.add_zero, Int.zero_add, wI_wsI, wS_wsI, wR_wsI, wI_wCp, wS_wCp, wR_wCp, Nat.reduceEqDiff, reduceIte, sT_iff, sT_iffC, wIf_ne, ne_eq, Bool.false_or, Bool.true_or, Bool.or_false, Bool.or_true, Bool.or_self, Nat.left_eq_add, Nat.add_eq_left, Nat.add_left_inj, oMax, oMin, oAbs, tb_X3_gatherPair, p_X0_wasOnTrack, p_X3_insert, p_X3_isThere, f_X0_wasOnTrack, f_X3_insert, f_X3_isThere, p_X3_gatherPair, f_X3_gatherPair, d0, hDu, a1, q1, a2, q2]
          repeat' (first | exact True.intro | with_reducible assumption | with_reducible refine And.intro ?_ ?_ | intro _)
          all_goals first
            | omega
            | assumption
            | rfl
            | (split <;> omega)
            | (have k9 := ih (by omega)
               (repeat' split at k9) <;> first | exact k9 | omega)
            | (have k9 := ih2 (by omega)
               (repeat' split at k9) <;> first | exact k9 | omega)
            | exact he (by omega)
            | ((with_reducible congr 1) <;> omega)
            | (rw [if_pos (by omega)] at he; exact he)
            | exact hD1 (by omega)
            | exact hD2 (by omega)
            | grind
            | skip
        · rw [if_neg (by omega)] at hPk
          rcases b3 with q3 | q3
          · rw [if_pos q3] at hPk
            rw [if_pos hPk] at ih
            refine hZ (fun u => Nat.beq u 3) 14 3 _ _ _ _ _ ?_
            simp only [sm_run, sm_blk, sm_get, sm_ent, sm_ents, sm_wds, sm_wd, sm_nl, sm_pop, sm_back, sm_cases, oK, oLK, oL, oI, oA, oJ, oIs, oAs, oJs, oInc, oAdd, oSub, oMul, oDiv, oRem, oNeg, oAnd, oAndB, oOr, oShl, oI2c, oI2l, oL2i, oLand, oLor, oLshl, oLshr, oLushr, oLcmp, oDup, oDup2, oPop, oGo, oFg, oEq, oNe, oLt, oGe, oGt, oLe, oEq0, oNe0, oLt0, oGe0, oGt0, oLe0, oSw, oGi, oGr, oPi, oPz, oPr, oLen, oIl, oZl, oCl, oRl, oIst, oZst, oCst, oRst, oCopy, oNew, oNa, oNa2, oObj, oCs, oCv, oCi, oIr, oZr, oVr, Nat.beq, List.getElem?_cons_zero, List.getElem?_cons_succ, List.set_cons_zero, List.set_cons_succ, List.length_cons, List.length_nil, List.nil_append, List.cons_append, List.append_nil, List.replicate_succ, List.replicate_zero, Nat.reduceAdd, Nat.reduceSub, Nat.reduceLT, Nat.reduceLeDiff, Nat.reduceBEq, true_and, and_true, Nat.zero_add, Nat.add_zero, Nat.le_refl, Option.some.injEq, exists_eq_left', true_or, or_true, or_false, false_or, reduceCtorEq, Prod.mk.injEq, Sum.inl.injEq, and_self, false_and, and_false, not_true_eq_false, not_false_eq_true, false_implies, true_implies, sm_r, Int.add_zero, Int.zero_add, wI_wsI, wS_wsI, wR_wsI, wI_wCp, wS_wCp, wR_wCp, Nat.reduceEqDiff, reduceIte, sT_iff, sT_iffC, wIf_ne, ne_eq, Bool.false_or, Bool.true_or, Bool.or_false, Bool.or_true, Bool.or_self, Nat.left_eq_add, Nat.add_eq_left, Nat.add_left_inj, oMax, oMin, oAbs, tb_X3_gatherPair, p_X0_wasOnTrack, p_X3_insert, p_X3_isThere, f_X0_wasOnTrack, f_X3_insert, f_X3_isThere, p_X3_gatherPair, f_X3_gatherPair, d0, hDu, a1, q1, a2, q2, s1, d9, c9, cC, e9, eC, hmx, a3, q3]
            repeat' (first | exact True.intro | with_reducible assumption | with_reducible refine And.intro ?_ ?_ | intro _)
            all_goals first
              | omega
              | assumption
              | rfl
              | (split <;> omega)
              | (have k9 := ih (by omega)
                 (repeat' split at k9) <;> first | exact k9 | omega)
              | (have k9 := ih2 (by omega)
                 (repeat' split at k9) <;> first | exact k9 | omega)
              | exact he (by omega)
              | ((with_reducible congr 1) <;> omega)
              | (rw [if_pos (by omega)] at he; exact he)
              | exact hD1 (by omega)
              | exact hD2 (by omega)
              | grind
              | skip
          · rw [if_neg (by omega)] at hPk
            rcases b4 with q4 | q4
            · rw [if_pos (by omega)] at ih
              refine hZ (fun u => Nat.beq u 3) 14 3 _ _ _ _ _ ?_
              simp only [sm_run, sm_blk, sm_get, sm_ent, sm_ents, sm_wds, sm_wd, sm_nl, sm_pop, sm_back, sm_cases, oK, oLK, oL, oI, oA, oJ, oIs, oAs, oJs, oInc, oAdd, oSub, oMul, oDiv, oRem, oNeg, oAnd, oAndB, oOr, oShl, oI2c, oI2l, oL2i, oLand, oLor, oLshl, oLshr, oLushr, oLcmp, oDup, oDup2, oPop, oGo, oFg, oEq, oNe, oLt, oGe, oGt, oLe, oEq0, oNe0, oLt0, oGe0, oGt0, oLe0, oSw, oGi, oGr, oPi, oPz, oPr, oLen, oIl, oZl, oCl, oRl, oIst, oZst, oCst, oRst, oCopy, oNew, oNa, oNa2, oObj, oCs, oCv, oCi, oIr, oZr, oVr, Nat.beq, List.getElem?_cons_zero, List.getElem?_cons_succ, List.set_cons_zero, List.set_cons_succ, List.length_cons, List.length_nil, List.nil_append, List.cons_append, List.append_nil, List.replicate_succ, List.replicate_zero, Nat.reduceAdd, Nat.reduceSub, Nat.reduceLT, Nat.reduceLeDiff, Nat.reduceBEq, true_and, and_true, Nat.zero_add, Nat.add_zero, Nat.le_refl, Option.some.injEq, exists_eq_left', true_or, or_true, or_false, false_or, reduceCtorEq, Prod.mk.injEq, Sum.inl.injEq, and_self, false_and, and_false, not_true_eq_false, not_false_eq_true, false_implies, true_implies, sm_r, Int.add_zero, Int.zero_add, wI_wsI, wS_wsI, wR_wsI, wI_wCp, wS_wCp, wR_wCp, Nat.reduceEqDiff, reduceIte, sT_iff, sT_iffC, wIf_ne, ne_eq, Bool.false_or, Bool.true_or, Bool.or_false, Bool.or_true, Bool.or_self, Nat.left_eq_add, Nat.add_eq_left, Nat.add_left_inj, oMax, oMin, oAbs, tb_X3_gatherPair, p_X0_wasOnTrack, p_X3_insert, p_X3_isThere, f_X0_wasOnTrack, f_X3_insert, f_X3_isThere, p_X3_gatherPair, f_X3_gatherPair, d0, hDu, a1, q1, a2, q2, s1, d9, c9, cC, e9, eC, hmx, a3, q3, a4, q4]
              repeat' (first | exact True.intro | with_reducible assumption | with_reducible refine And.intro ?_ ?_ | intro _)
              all_goals first
                | omega
                | assumption
                | rfl
                | (split <;> omega)
                | (have k9 := ih (by omega)
                   (repeat' split at k9) <;> first | exact k9 | omega)
                | (have k9 := ih2 (by omega)
                   (repeat' split at k9) <;> first | exact k9 | omega)
                | exact he (by omega)
                | ((with_reducible congr 1) <;> omega)
                | (rw [if_pos (by omega)] at he; exact he)
                | exact hD1 (by omega)
                | exact hD2 (by omega)
                | grind
                | skip
            · rw [if_neg (by omega)] at ih
              have hb2 := hb.2 (by omega)
              refine hZ (fun u => Nat.beq u 3) 14 3 _ _ _ _ _ ?_
              simp only [sm_run, sm_blk, sm_get, sm_ent, sm_ents, sm_wds, sm_wd, sm_nl, sm_pop, sm_back, sm_cases, oK, oLK, oL, oI, oA, oJ, oIs, oAs, oJs, oInc, oAdd, oSub, oMul, oDiv, oRem, oNeg, oAnd, oAndB, oOr, oShl, oI2c, oI2l, oL2i, oLand, oLor, oLshl, oLshr, oLushr, oLcmp, oDup, oDup2, oPop, oGo, oFg, oEq, oNe, oLt, oGe, oGt, oLe, oEq0, oNe0, oLt0, oGe0, oGt0, oLe0, oSw, oGi, oGr, oPi, oPz, oPr, oLen, oIl, oZl, oCl, oRl, oIst, oZst, oCst, oRst, oCopy, oNew, oNa, oNa2, oObj, oCs, oCv, oCi, oIr, oZr, oVr, Nat.beq, List.getElem?_cons_zero, List.getElem?_cons_succ, List.set_cons_zero, List.set_cons_succ, List.length_cons, List.length_nil, List.nil_append, List.cons_append, List.append_nil, List.replicate_succ, List.replicate_zero, Nat.reduceAdd, Nat.reduceSub, Nat.reduceLT, Nat.reduceLeDiff, Nat.reduceBEq, true_and, and_true, Nat.zero_add, Nat.add_zero, Nat.le_refl, Option.some.injEq, exists_eq_left', true_or, or_true, or_false, false_or, reduceCtorEq, Prod.mk.injEq, Sum.inl.injEq, and_self, false_and, and_false, not_true_eq_false, not_false_eq_true, false_implies, true_implies, sm_r, Int.add_zero, Int.zero_add, wI_wsI, wS_wsI, wR_wsI, wI_wCp, wS_wCp, wR_wCp, Nat.reduceEqDiff, reduceIte, sT_iff, sT_iffC, wIf_ne, ne_eq, Bool.false_or, Bool.true_or, Bool.or_false, Bool.or_true, Bool.or_self, Nat.left_eq_add, Nat.add_eq_left, Nat.add_left_inj, oMax, oMin, oAbs, tb_X3_gatherPair, p_X0_wasOnTrack, p_X3_insert, p_X3_isThere, f_X0_wasOnTrack, f_X3_insert, f_X3_isThere, p_X3_gatherPair, f_X3_gatherPair, d0, hDu, a1, q1, a2, q2, s1, d9, c9, cC, e9, eC, hmx, a3, q3, a4, q4, sS_78 hTu, hTu]
              repeat' (first | exact True.intro | with_reducible assumption | with_reducible refine And.intro ?_ ?_ | intro _)
              all_goals first
                | omega
                | assumption
                | rfl
                | (split <;> omega)
                | (have k9 := ih (by omega)
                   (repeat' split at k9) <;> first | exact k9 | omega)
                | (have k9 := ih2 (by omega)
                   (repeat' split at k9) <;> first | exact k9 | omega)
                | exact he (by omega)
                | ((with_reducible congr 1) <;> omega)
                | (rw [if_pos (by omega)] at he; exact he)
                | exact hD1 (by omega)
                | exact hD2 (by omega)
                | grind
                | skip
    )
  have e0 : mPr w w d lo hi 0 = w := rfl
  rw [e0] at hl
  refine hZ (fun u => Nat.beq u 3) 14 0 _ _ _ _ _ ?_
  simp only [sm_run, sm_blk, sm_get, sm_ent, sm_ents, sm_wds, sm_wd, sm_nl, sm_pop, sm_back, sm_cases, oK, oLK, oL, oI, oA, oJ, oIs, oAs, oJs, oInc, oAdd, oSub, oMul, oDiv, oRem, oNeg, oAnd, oAndB, oOr, oShl, oI2c, oI2l, oL2i, oLand, oLor, oLshl, oLshr, oLushr, oLcmp, oDup, oDup2, oPop, oGo, oFg, oEq, oNe, oLt, oGe, oGt, oLe, oEq0, oNe0, oLt0, oGe0, oGt0, oLe0, oSw, oGi, oGr, oPi, oPz, oPr, oLen, oIl, oZl, oCl, oRl, oIst, oZst, oCst, oRst, oCopy, oNew, oNa, oNa2, oObj, oCs, oCv, oCi, oIr, oZr, oVr, Nat.beq, List.getElem?_cons_zero, List.getElem?_cons_succ, List.set_cons_zero, List.set_cons_succ, List.length_cons, List.length_nil, List.nil_append, List.cons_append, List.append_nil, List.replicate_succ, List.replicate_zero, Nat.reduceAdd, Nat.reduceSub, Nat.reduceLT, Nat.reduceLeDiff, Nat.reduceBEq, true_and, and_true, Nat.zero_add, Nat.add_zero, Nat.le_refl, Option.some.injEq, exists_eq_left', true_or, or_true, or_false, false_or, reduceCtorEq, Prod.mk.injEq, Sum.inl.injEq, and_self, false_and, and_false, not_true_eq_false, not_false_eq_true, false_implies, true_implies, sm_r, Int.add_zero, Int.zero_add, wI_wsI, wS_wsI, wR_wsI, wI_wCp, wS_wCp, wR_wCp, Nat.reduceEqDiff, reduceIte, sT_iff, sT_iffC, wIf_ne, ne_eq, Bool.false_or, Bool.true_or, Bool.or_false, Bool.or_true, Bool.or_self, Nat.left_eq_add, Nat.add_eq_left, Nat.add_left_inj, oMax, oMin, oAbs, tb_X3_gatherPair, p_X0_wasOnTrack, p_X3_insert, p_X3_isThere, f_X0_wasOnTrack, f_X3_insert, f_X3_isThere, p_X3_gatherPair, f_X3_gatherPair]
  repeat' (first | exact True.intro | with_reducible assumption | with_reducible refine And.intro ?_ ?_ | intro _)
  all_goals first
    | omega
    | assumption
    | rfl
    | (split <;> omega)
    | (have k9 := ih (by omega)
       (repeat' split at k9) <;> first | exact k9 | omega)
    | (have k9 := ih2 (by omega)
       (repeat' split at k9) <;> first | exact k9 | omega)
    | exact he (by omega)
    | ((with_reducible congr 1) <;> omega)
    | (rw [if_pos (by omega)] at he; exact he)
    | exact hD1 (by omega)
    | exact hD2 (by omega)
    | skip
theorem met_X3_gatherPair (l : Launch) : sm_Met l yX3_gatherPair cX3_gatherPair 6 none 1 0 0 p_X3_gatherPair f_X3_gatherPair := sm_met 0 (Or.inl ⟨rfl, rfl⟩) (by decide +kernel) (sn_X3_gatherPair l) ok_X3_gatherPair
def mGa2 (w : sm_W) (d : Nat) (lo j : Int) (r : sm_W) : sm_W := if mWay (vL w (d + 1)) lo = mWay (vL w (d + 1)) (lo + 1 + j) then r else mPr w r d lo (lo + 1 + j) 8
def mGaR (w : sm_W) (d : Nat) (lo : Int) (r : sm_W) : Int → sm_W := itI (mGa2 w d lo) r
def mGaL (w : sm_W) (d : Nat) : Int → sm_W := itI (fun lo r => mGaR w d lo r (wI w (d + 1) 7 - (lo + 1))) (wsI w 78 1 0)
def mGa (w : sm_W) (d : Nat) : sm_W := mGaL w d (wI w (d + 1) 7)
theorem mGaR_inv {w r : sm_W} {d : Nat} {lo : Int} (hX : xOK w d) (l0 : 0 ≤ lo) (l1 : lo < wI w (d + 1) 7) (hN : mNm r) (n : Int) (n0 : 0 ≤ n) (n1 : lo + 1 + n ≤ wI w (d + 1) 7) : sFr sMt r (mGaR w d lo r n) ∧ mNm (mGaR w d lo r n) := by
  refine itI_ind (f := mGa2 w d lo) (fun _ q => sFr sMt r q ∧ mNm q) n ⟨sFr.refl r, hN⟩ (fun i q i0 i1 hq => ?_) n n0 (Int.le_refl _)
  unfold mGa2
  split
  · exact hq
  · have := mPr_inv (r := q) hX l0 l1 (hi := lo + 1 + i) (by omega) (by omega) hq.2 8 (by decide) (by decide)
    exact ⟨hq.1.trans this.1, this.2⟩
theorem mGaL_inv {w : sm_W} {d : Nat} (hX : xOK w d) (n : Int) (n0 : 0 ≤ n) (n1 : n ≤ wI w (d + 1) 7) : sFr sMt w (mGaL w d n) ∧ mNm (mGaL w d n) := by
  have e1 : wI (wsI w 78 1 0) 78 1 = 0 := by rw [wI_wsI, if_pos ⟨rfl, rfl⟩]
  refine itI_ind (f := fun lo r => mGaR w d lo r (wI w (d + 1) 7 - (lo + 1))) (fun _ q => sFr sMt w q ∧ mNm q) n ⟨(sFr.refl w).st (Or.inl ⟨rfl, rfl⟩), by rw [e1]; omega, fun m m0 m1 => by rw [e1] at m1; omega⟩ (fun i q i0 i1 hq => ?_) n n0 (Int.le_refl _)
  have := mGaR_inv (r := q) hX i0 (show i < wI w (d + 1) 7 by omega) hq.2 (wI w (d + 1) 7 - (i + 1)) (by omega) (by omega)
  exact ⟨hq.1.trans this.1, this.2⟩
def p_X3_gather : List sm_V → sm_W → Prop
  | [.inr (.inl o), .inr (.inl d)], w => o = 78 ∧ xOK w d
  | _, _ => False
def f_X3_gather : sm_F
  | [.inr (.inl o), .inr (.inl d)], w => (none, mGa w d)
  | _, w => (none, w)
def tb_X3_gather : List (Nat × List sm_O) := [(0, [oA 0, oK 0, oPi 3 2 1, oK 0, oIs 2, oFg 3, oGo 7]),
  (7, [oI 2, oA 1, oGr 0 11 0, oGi 2 9 7, oGe 71, oI 2, oK 1, oAdd, oIs 3, oGo 22]),
  (22, [oI 3, oA 1, oGr 0 11 0, oGi 2 9 7, oGe 65, oA 1, oGr 0 11 0, oI 2, oCv 2 9 p_X2_goesUp f_X2_goesUp 0 0 2, oA 1, oGr 0 11 0, oI 3, oCv 2 9 p_X2_goesUp f_X2_goesUp 0 0 2, oEq 59, oA 0, oA 1, oI 2, oI 3, oCv 3 2 p_X3_gatherPair f_X3_gatherPair 0 0 4, oGo 59]),
  (59, [oInc 3 1, oGo 22]),
  (65, [oInc 2 1, oFg 3, oGo 7]),
  (71, [oVr])]
set_option maxRecDepth 100000 in
theorem sb_X3_gather_0 (l : Launch) : sm_SndB l RX3 "gather" cX3_gather 4 0 2 0 [oA 0, oK 0, oPi 3 2 1, oK 0, oIs 2, oFg 3, oGo 7] := sb_cons (sd_aload_n (by decide +kernel : decode cX3_gather 0 = .ok (.aload_n 0, 1)) rfl) (sb_cons (sd_iconst (by decide +kernel : decode cX3_gather 1 = .ok (.iconst 0, 1)) ⟨by decide, by decide⟩) (sb_cons (sd_puti (k := 1) kl_3 (by decide) rfl (Or.inl rfl) wm_107 (by decide +kernel : decode cX3_gather 2 = .ok (.putfield 15, 3))) (sb_cons (sd_iconst (by decide +kernel : decode cX3_gather 5 = .ok (.iconst 0, 1)) ⟨by decide, by decide⟩) (sb_cons (sd_istore_n (by decide +kernel : decode cX3_gather 6 = .ok (.istore_n 2, 1)) rfl) (sb_cons (sd_fg) (sb_cons (sd_fall (x := 0)) sb_nil))))))
set_option maxRecDepth 100000 in
theorem sb_X3_gather_7 (l : Launch) : sm_SndB l RX3 "gather" cX3_gather 4 0 2 7 [oI 2, oA 1, oGr 0 11 0, oGi 2 9 7, oGe 71, oI 2, oK 1, oAdd, oIs 3, oGo 22] := sb_cons (sd_iload_n (by decide +kernel : decode cX3_gather 7 = .ok (.iload_n 2, 1)) rfl) (sb_cons (sd_aload_n (by decide +kernel : decode cX3_gather 8 = .ok (.aload_n 1, 1)) rfl) (sb_cons (sd_getr (k := 0) kl_0 (by decide) rfl wm_71 (by decide +kernel : decode cX3_gather 9 = .ok (.getfield 19, 3))) (sb_cons (sd_geti (k := 7) kl_2 (by decide) rfl wm_57 (by decide +kernel : decode cX3_gather 12 = .ok (.getfield 25, 3))) (sb_cons (sd_ge (by decide +kernel : decode cX3_gather 15 = .ok (.if_icmp .ge 56, 3)) (by decide)) (sb_cons (sd_iload_n (by decide +kernel : decode cX3_gather 18 = .ok (.iload_n 2, 1)) rfl) (sb_cons (sd_iconst (by decide +kernel : decode cX3_gather 19 = .ok (.iconst 1, 1)) ⟨by decide, by decide⟩) (sb_cons (sd_iadd (by decide +kernel : decode cX3_gather 20 = .ok (.iadd, 1))) (sb_cons (sd_istore_n (by decide +kernel : decode cX3_gather 21 = .ok (.istore_n 3, 1)) rfl) (sb_cons (sd_fall (x := 0)) sb_nil)))))))))
set_option maxRecDepth 100000 in
theorem sb_X3_gather_22 (l : Launch) : sm_SndB l RX3 "gather" cX3_gather 4 0 2 22 [oI 3, oA 1, oGr 0 11 0, oGi 2 9 7, oGe 65, oA 1, oGr 0 11 0, oI 2, oCv 2 9 p_X2_goesUp f_X2_goesUp 0 0 2, oA 1, oGr 0 11 0, oI 3, oCv 2 9 p_X2_goesUp f_X2_goesUp 0 0 2, oEq 59, oA 0, oA 1, oI 2, oI 3, oCv 3 2 p_X3_gatherPair f_X3_gatherPair 0 0 4, oGo 59] := sb_cons (sd_iload_n (by decide +kernel : decode cX3_gather 22 = .ok (.iload_n 3, 1)) rfl) (sb_cons (sd_aload_n (by decide +kernel : decode cX3_gather 23 = .ok (.aload_n 1, 1)) rfl) (sb_cons (sd_getr (k := 0) kl_0 (by decide) rfl wm_71 (by decide +kernel : decode cX3_gather 24 = .ok (.getfield 19, 3))) (sb_cons (sd_geti (k := 7) kl_2 (by decide) rfl wm_57 (by decide +kernel : decode cX3_gather 27 = .ok (.getfield 25, 3))) (sb_cons (sd_ge (by decide +kernel : decode cX3_gather 30 = .ok (.if_icmp .ge 35, 3)) (by decide)) (sb_cons (sd_aload_n (by decide +kernel : decode cX3_gather 33 = .ok (.aload_n 1, 1)) rfl) (sb_cons (sd_getr (k := 0) kl_0 (by decide) rfl wm_71 (by decide +kernel : decode cX3_gather 34 = .ok (.getfield 19, 3))) (sb_cons (sd_iload_n (by decide +kernel : decode cX3_gather 37 = .ok (.iload_n 2, 1)) rfl) (sb_cons (sd_callv (n := 1) (met_X2_goesUp l) (by decide) (by decide) wm_311 wm_441 wm_3 ⟨by decide +kernel, by decide +kernel, by decide +kernel⟩ kl_2 wm_309 wm_310 (by decide +kernel : decode cX3_gather 38 = .ok (.invokevirtual 30, 3))) (sb_cons (sd_aload_n (by decide +kernel : decode cX3_gather 41 = .ok (.aload_n 1, 1)) rfl) (sb_cons (sd_getr (k := 0) kl_0 (by decide) rfl wm_71 (by decide +kernel : decode cX3_gather 42 = .ok (.getfield 19, 3))) (sb_cons (sd_iload_n (by decide +kernel : decode cX3_gather 45 = .ok (.iload_n 3, 1)) rfl) (sb_cons (sd_callv (n := 1) (met_X2_goesUp l) (by decide) (by decide) wm_311 wm_441 wm_3 ⟨by decide +kernel, by decide +kernel, by decide +kernel⟩ kl_2 wm_309 wm_310 (by decide +kernel : decode cX3_gather 46 = .ok (.invokevirtual 30, 3))) (sb_cons (sd_eq (by decide +kernel : decode cX3_gather 49 = .ok (.if_icmp .eq 10, 3)) (by decide)) (sb_cons (sd_aload_n (by decide +kernel : decode cX3_gather 52 = .ok (.aload_n 0, 1)) rfl) (sb_cons (sd_aload_n (by decide +kernel : decode cX3_gather 53 = .ok (.aload_n 1, 1)) rfl) (sb_cons (sd_iload_n (by decide +kernel : decode cX3_gather 54 = .ok (.iload_n 2, 1)) rfl) (sb_cons (sd_iload_n (by decide +kernel : decode cX3_gather 55 = .ok (.iload_n 3, 1)) rfl) (sb_cons (sd_callv (n := 3) (met_X3_gatherPair l) (by decide) (by decide) wm_444 wm_442 wm_6 ⟨by decide +kernel, by decide +kernel, by decide +kernel⟩ kl_3 wm_443 wm_1091 (by decide +kernel : decode cX3_gather 56 = .ok (.invokevirtual 34, 3))) (sb_cons (sd_fall (x := 0)) sb_nil)))))))))))))))))))
set_option maxRecDepth 100000 in
theorem sb_X3_gather_59 (l : Launch) : sm_SndB l RX3 "gather" cX3_gather 4 0 2 59 [oInc 3 1, oGo 22] := sb_cons (sd_iinc (by decide +kernel : decode cX3_gather 59 = .ok (.iinc 3 1, 3))) (sb_cons (sd_goto (x := 0) (by decide +kernel : decode cX3_gather 62 = .ok (.goto (-40), 3)) (by decide)) sb_nil)
set_option maxRecDepth 100000 in
theorem sb_X3_gather_65 (l : Launch) : sm_SndB l RX3 "gather" cX3_gather 4 0 2 65 [oInc 2 1, oFg 3, oGo 7] := sb_cons (sd_iinc (by decide +kernel : decode cX3_gather 65 = .ok (.iinc 2 1, 3))) (sb_cons (sd_fg) (sb_cons (sd_goto (x := 0) (by decide +kernel : decode cX3_gather 68 = .ok (.goto (-61), 3)) (by decide)) sb_nil))
set_option maxRecDepth 100000 in
theorem sb_X3_gather_71 (l : Launch) : sm_SndB l RX3 "gather" cX3_gather 4 0 2 71 [oVr] := sb_cons (sd_return (x := 0) rfl (by decide +kernel : decode cX3_gather 71 = .ok (.return_, 1))) sb_nil
theorem sn_X3_gather (l : Launch) : sm_SndT l RX3 "gather" cX3_gather 4 0 2 tb_X3_gather := st_cons (sb_X3_gather_0 l) (st_cons (sb_X3_gather_7 l) (st_cons (sb_X3_gather_22 l) (st_cons (sb_X3_gather_59 l) (st_cons (sb_X3_gather_65 l) (st_cons (sb_X3_gather_71 l) (st_nil))))))
set_option maxRecDepth 100000 in
set_option maxHeartbeats 4000000 in
theorem ok_X3_gather : sm_Ok tb_X3_gather 4 0 0 p_X3_gather f_X3_gather := by
  intro as w hp ha hw
  match as, hp with
  | [.inr (.inl o), .inr (.inl d)], hp =>
  refine ⟨Nat.le_of_ble_eq_true rfl, fun Z hZ => ?_⟩
  obtain ⟨rfl, hX⟩ := hp
  have hD := hX.1
  have hT := hD.2.1
  have hn := dOK_n hD
  have hE0 : mGaL w d (wI w (d + 1) 7) = mGa w d := rfl
  generalize hE : mGa w d = E at *
  have hl := sm_loopI Z 7 0 (wI w (d + 1) 7) (fun i => [some (.inr (.inl 78)), some (.inr (.inl d)), some (.inl i), none]) (fun i => mGaL w d i) 0 0 hn.1 (fun i h0 h1 ih => by
    have hI := mGaL_inv hX i h0 h1
    have hu : mGaL w d (i + 1) = mGaR w d i (mGaL w d i) (wI w (d + 1) 7 - (i + 1)) := itI_s _ _ h0
    have he : i = wI w (d + 1) 7 → mGaL w d i = E := fun e => by rw [← hE0, e]
    rw [hu] at ih
    generalize mGaL w d i = u at *
    obtain ⟨hf, hNu⟩ := hI
    have hTu := sFr_sT hf hT
    have hS := dSm_fr hf (sMt_d hD.1)
    have e7 : wI u (d + 1) 7 = wI w (d + 1) 7 := by rw [hS _ (by omega) (by omega)]
    obtain ⟨d0, d9, d18, d27, d28, d29, d30, d31, d32, s0, s1, s2, s5, s6, s7, s8, s9, s10⟩ := dS hTu hD.1
    obtain ⟨l0, l1, l2, l3, l4, l5, l6, l7, r0, r1, r2, r3, r4, r5, r6⟩ := lS hTu (dL hD.1)
    by_cases e : i = wI w (d + 1) 7
    · have he := he e
      clear ih
      refine hZ (fun u => Nat.beq u 7 || Nat.beq u 22) 14 7 _ _ _ _ _ ?_
      simp only [sm_run, sm_blk, sm_get, sm_ent, sm_ents, sm_wds, sm_wd, sm_nl, sm_pop, sm_back, sm_cases, oK, oLK, oL, oI, oA, oJ, oIs, oAs, oJs, oInc, oAdd, oSub, oMul, oDiv, oRem, oNeg, oAnd, oAndB, oOr, oShl, oI2c, oI2l, oL2i, oLand, oLor, oLshl, oLshr, oLushr, oLcmp, oDup, oDup2, oPop, oGo, oFg, oEq, oNe, oLt, oGe, oGt, oLe, oEq0, oNe0, oLt0, oGe0, oGt0, oLe0, oSw, oGi, oGr, oPi, oPz, oPr, oLen, oIl, oZl, oCl, oRl, oIst, oZst, oCst, oRst, oCopy, oNew, oNa, oNa2, oObj, oCs, oCv, oCi, oIr, oZr, oVr, Nat.beq, List.getElem?_cons_zero, List.getElem?_cons_succ, List.set_cons_zero, List.set_cons_succ, List.length_cons, List.length_nil, List.nil_append, List.cons_append, List.append_nil, List.replicate_succ, List.replicate_zero, Nat.reduceAdd, Nat.reduceSub, Nat.reduceLT, Nat.reduceLeDiff, Nat.reduceBEq, true_and, and_true, Nat.zero_add, Nat.add_zero, Nat.le_refl, Option.some.injEq, exists_eq_left', true_or, or_true, or_false, false_or, reduceCtorEq, Prod.mk.injEq, Sum.inl.injEq, and_self, false_and, and_false, not_true_eq_false, not_false_eq_true, false_implies, true_implies, sm_r, Int.add_zero, Int.zero_add, wI_wsI, wS_wsI, wR_wsI, wI_wCp, wS_wCp, wR_wCp, Nat.reduceEqDiff, reduceIte, sT_iff, sT_iffC, wIf_ne, ne_eq, Bool.false_or, Bool.true_or, Bool.or_false, Bool.or_true, Bool.or_self, Nat.left_eq_add, Nat.add_eq_left, Nat.add_left_inj, oMax, oMin, oAbs, tb_X3_gather, p_X2_goesUp, p_X3_gatherPair, f_X2_goesUp, f_X3_gatherPair, p_X3_gather, f_X3_gather, d0, s0, l0, e7, hE]
      repeat' (first | exact True.intro | with_reducible assumption | with_reducible refine And.intro ?_ ?_ | intro _)
      all_goals first
        | omega
        | assumption
        | rfl
        | (split <;> omega)
        | (have k9 := ih (by omega)
           (repeat' split at k9) <;> first | exact k9 | omega)
        | (have k9 := ih2 (by omega)
           (repeat' split at k9) <;> first | exact k9 | omega)
        | exact he (by omega)
        | ((with_reducible congr 1) <;> omega)
        | (rw [if_pos (by omega)] at he; exact he)
        | exact hD1 (by omega)
        | exact hD2 (by omega)
        | grind
        | skip
    · have hlt : i < wI w (d + 1) 7 := by omega
      have ih := ih hlt
      clear he hE0
      have hl2 := sm_loopI Z 22 0 (wI w (d + 1) 7 - (i + 1)) (fun j => [some (.inr (.inl 78)), some (.inr (.inl d)), some (.inl i), some (.inl (i + 1 + j))]) (fun j => mGaR w d i u j) 0 0 (by omega) (fun j g0 g1 ih2 => by
        have hJ := mGaR_inv (r := u) hX h0 hlt hNu j g0 (by omega)
        have hv : mGaR w d i u (j + 1) = mGa2 w d i j (mGaR w d i u j) := itI_s _ _ g0
        rw [hv] at ih2
        have ih : j = wI w (d + 1) 7 - (i + 1) → Z 7 [some (.inr (.inl 78)), some (.inr (.inl d)), some (.inl (i + 1)), none] [] (mGaR w d i u j) 0 0 := fun e => by rw [e]; exact ih
        generalize mGaR w d i u j = v at *
        obtain ⟨hfv, hNv⟩ := hJ
        have hf2 := hf.trans hfv
        have hTv := sFr_sT hf2 hT
        have hSv := dSm_fr hf2 (sMt_d hD.1)
        have hXv := dSm_x hSv hTv hX
        have e7v : wI v (d + 1) 7 = wI w (d + 1) 7 := by rw [hSv _ (by omega) (by omega)]
        have hvv := dSm_v hSv
        obtain ⟨d0, d9, d18, d27, d28, d29, d30, d31, d32, s0, s1, s2, s5, s6, s7, s8, s9, s10⟩ := dS hTv hD.1
        obtain ⟨l0, l1, l2, l3, l4, l5, l6, l7, r0, r1, r2, r3, r4, r5, r6⟩ := lS hTv (dL hD.1)
        by_cases e2 : j = wI w (d + 1) 7 - (i + 1)
        · have ih := ih e2
          clear ih2
          refine hZ (fun u => Nat.beq u 7 || Nat.beq u 22) 14 22 _ _ _ _ _ ?_
          simp only [sm_run, sm_blk, sm_get, sm_ent, sm_ents, sm_wds, sm_wd, sm_nl, sm_pop, sm_back, sm_cases, oK, oLK, oL, oI, oA, oJ, oIs, oAs, oJs, oInc, oAdd, oSub, oMul, oDiv, oRem, oNeg, oAnd, oAndB, oOr, oShl, oI2c, oI2l, oL2i, oLand, oLor, oLshl, oLshr, oLushr, oLcmp, oDup, oDup2, oPop, oGo, oFg, oEq, oNe, oLt, oGe, oGt, oLe, oEq0, oNe0, oLt0, oGe0, oGt0, oLe0, oSw, oGi, oGr, oPi, oPz, oPr, oLen, oIl, oZl, oCl, oRl, oIst, oZst, oCst, oRst, oCopy, oNew, oNa, oNa2, oObj, oCs, oCv, oCi, oIr, oZr, oVr, Nat.beq, List.getElem?_cons_zero, List.getElem?_cons_succ, List.set_cons_zero, List.set_cons_succ, List.length_cons, List.length_nil, List.nil_append, List.cons_append, List.append_nil, List.replicate_succ, List.replicate_zero, Nat.reduceAdd, Nat.reduceSub, Nat.reduceLT, Nat.reduceLeDiff, Nat.reduceBEq, true_and, and_true, Nat.zero_add, Nat.add_zero, Nat.le_refl, Option.some.injEq, exists_eq_left', true_or, or_true, or_false, false_or, reduceCtorEq, Prod.mk.injEq, Sum.inl.injEq, and_self, false_and, and_false, not_true_eq_false, not_false_eq_true, false_implies, true_implies, sm_r, Int.add_zero, Int.zero_add, wI_wsI, wS_wsI, wR_wsI, wI_wCp, wS_wCp, wR_wCp, Nat.reduceEqDiff, reduceIte, sT_iff, sT_iffC, wIf_ne, ne_eq, Bool.false_or, Bool.true_or, Bool.or_false, Bool.or_true, Bool.or_self, Nat.left_eq_add, Nat.add_eq_left, Nat.add_left_inj, oMax, oMin, oAbs, tb_X3_gather, p_X2_goesUp, p_X3_gatherPair, f_X2_goesUp, f_X3_gatherPair, p_X3_gather, f_X3_gather, d0, s0, l0, e7v]
          repeat' (first | exact True.intro | with_reducible assumption | with_reducible refine And.intro ?_ ?_ | intro _)
          all_goals first
            | omega
            | assumption
            | rfl
            | (split <;> omega)
            | (have k9 := ih (by omega)
               (repeat' split at k9) <;> first | exact k9 | omega)
            | (have k9 := ih2 (by omega)
               (repeat' split at k9) <;> first | exact k9 | omega)
            | exact he (by omega)
            | ((with_reducible congr 1) <;> omega)
            | (rw [if_pos (by omega)] at he; exact he)
            | exact hD1 (by omega)
            | exact hD2 (by omega)
            | grind
            | skip
        · have ih2 := ih2 (by omega)
          clear ih
          have hP1 : mPr v v d i (i + 1 + j) 8 = mPr w v d i (i + 1 + j) 8 := by
            unfold mPr
            rw [dSm_P1 hSv (by omega) (by omega)]
          have hLv := hXv.1.2.2.1
          have w1 := lWay (w := v) (a := d + 1) h0
          have w2 := lWay (w := v) (a := d + 1) (s := i + 1 + j) (by omega)
          rw [hvv] at w1 w2
          unfold mGa2 at ih2
          rw [show i + 1 + (j + 1) = i + 1 + j + 1 by omega] at ih2
          by_cases c : mWay (vL w (d + 1)) i = mWay (vL w (d + 1)) (i + 1 + j)
          · rw [if_pos c] at ih2
            have c2 : (if wI v (d + 1 + 3) i < wI v (d + 1 + 4) i then (1 : Int) else 0) = (if wI v (d + 1 + 3) (i + 1 + j) < wI v (d + 1 + 4) (i + 1 + j) then 1 else 0) := by split <;> split <;> omega
            refine hZ (fun u => Nat.beq u 7 || Nat.beq u 22) 14 22 _ _ _ _ _ ?_
            simp only [sm_run, sm_blk, sm_get, sm_ent, sm_ents, sm_wds, sm_wd, sm_nl, sm_pop, sm_back, sm_cases, oK, oLK, oL, oI, oA, oJ, oIs, oAs, oJs, oInc, oAdd, oSub, oMul, oDiv, oRem, oNeg, oAnd, oAndB, oOr, oShl, oI2c, oI2l, oL2i, oLand, oLor, oLshl, oLshr, oLushr, oLcmp, oDup, oDup2, oPop, oGo, oFg, oEq, oNe, oLt, oGe, oGt, oLe, oEq0, oNe0, oLt0, oGe0, oGt0, oLe0, oSw, oGi, oGr, oPi, oPz, oPr, oLen, oIl, oZl, oCl, oRl, oIst, oZst, oCst, oRst, oCopy, oNew, oNa, oNa2, oObj, oCs, oCv, oCi, oIr, oZr, oVr, Nat.beq, List.getElem?_cons_zero, List.getElem?_cons_succ, List.set_cons_zero, List.set_cons_succ, List.length_cons, List.length_nil, List.nil_append, List.cons_append, List.append_nil, List.replicate_succ, List.replicate_zero, Nat.reduceAdd, Nat.reduceSub, Nat.reduceLT, Nat.reduceLeDiff, Nat.reduceBEq, true_and, and_true, Nat.zero_add, Nat.add_zero, Nat.le_refl, Option.some.injEq, exists_eq_left', true_or, or_true, or_false, false_or, reduceCtorEq, Prod.mk.injEq, Sum.inl.injEq, and_self, false_and, and_false, not_true_eq_false, not_false_eq_true, false_implies, true_implies, sm_r, Int.add_zero, Int.zero_add, wI_wsI, wS_wsI, wR_wsI, wI_wCp, wS_wCp, wR_wCp, Nat.reduceEqDiff, reduceIte, sT_iff, sT_iffC, wIf_ne, ne_eq, Bool.false_or, Bool.true_or, Bool.or_false, Bool.or_true, Bool.or_self, Nat.left_eq_add, Nat.add_eq_left, Nat.add_left_inj, oMax, oMin, oAbs, tb_X3_gather, p_X2_goesUp, p_X3_gatherPair, f_X2_goesUp, f_X3_gatherPair, p_X3_gather, f_X3_gather, d0, s0, l0, e7v, hTv, hLv]
            repeat' (first | exact True.intro | with_reducible assumption | with_reducible refine And.intro ?_ ?_ | intro _)
            all_goals first
              | omega
              | assumption
              | rfl
              | (split <;> omega)
              | (have k9 := ih (by omega)
                 (repeat' split at k9) <;> first | exact k9 | omega)
              | (have k9 := ih2 (by omega)
                 (repeat' split at k9) <;> first | exact k9 | omega)
              | exact he (by omega)
              | ((with_reducible congr 1) <;> omega)
              | (rw [if_pos (by omega)] at he; exact he)
              | exact hD1 (by omega)
              | exact hD2 (by omega)
              | grind
              | skip
          · rw [if_neg c] at ih2
            have c2 : ¬ (if wI v (d + 1 + 3) i < wI v (d + 1 + 4) i then (1 : Int) else 0) = (if wI v (d + 1 + 3) (i + 1 + j) < wI v (d + 1 + 4) (i + 1 + j) then 1 else 0) := by split <;> split <;> omega
            refine hZ (fun u => Nat.beq u 7 || Nat.beq u 22) 14 22 _ _ _ _ _ ?_
            simp only [sm_run, sm_blk, sm_get, sm_ent, sm_ents, sm_wds, sm_wd, sm_nl, sm_pop, sm_back, sm_cases, oK, oLK, oL, oI, oA, oJ, oIs, oAs, oJs, oInc, oAdd, oSub, oMul, oDiv, oRem, oNeg, oAnd, oAndB, oOr, oShl, oI2c, oI2l, oL2i, oLand, oLor, oLshl, oLshr, oLushr, oLcmp, oDup, oDup2, oPop, oGo, oFg, oEq, oNe, oLt, oGe, oGt, oLe, oEq0, oNe0, oLt0, oGe0, oGt0, oLe0, oSw, oGi, oGr, oPi, oPz, oPr, oLen, oIl, oZl, oCl, oRl, oIst, oZst, oCst, oRst, oCopy, oNew, oNa, oNa2, oObj, oCs, oCv, oCi, oIr, oZr, oVr, Nat.beq, List.getElem?_cons_zero, List.getElem?_cons_succ, List.set_cons_zero, List.set_cons_succ, List.length_cons, List.length_nil, List.nil_append, List.cons_append, List.append_nil, List.replicate_succ, List.replicate_zero, Nat.reduceAdd, Nat.reduceSub, Nat.reduceLT, Nat.reduceLeDiff, Nat.reduceBEq, true_and, and_true, Nat.zero_add, Nat.add_zero, Nat.le_refl, Option.some.injEq, exists_eq_left', true_or, or_true, or_false, false_or, reduceCtorEq, Prod.mk.injEq, Sum.inl.injEq, and_self, false_and, and_false, not_true_eq_false, not_false_eq_true, false_implies, true_implies, sm_r, Int.add_zero, Int.zero_add, wI_wsI, wS_wsI, wR_wsI, wI_wCp, wS_wCp, wR_wCp, Nat.reduceEqDiff, reduceIte, sT_iff, sT_iffC, wIf_ne, ne_eq, Bool.false_or, Bool.true_or, Bool.or_false, Bool.or_true, Bool.or_self, Nat.left_eq_add, Nat.add_eq_left, Nat.add_left_inj, oMax, oMin, oAbs, tb_X3_gather, p_X2_goesUp, p_X3_gatherPair, f_X2_goesUp, f_X3_gatherPair, p_X3_gather, f_X3_gather, d0, s0, l0, e7v, hTv, hLv, hXv, hNv, hP1, sS_78 hTv]
            repeat' (first | exact True.intro | with_reducible assumption | with_reducible refine And.intro ?_ ?_ | intro _)
            all_goals first
              | omega
              | assumption
              | rfl
              | (split <;> omega)
              | (have k9 := ih (by omega)
                 (repeat' split at k9) <;> first | exact k9 | omega)
              | (have k9 := ih2 (by omega)
                 (repeat' split at k9) <;> first | exact k9 | omega)
              | exact he (by omega)
              | ((with_reducible congr 1) <;> omega)
              | (rw [if_pos (by omega)] at he; exact he)
              | exact hD1 (by omega)
              | exact hD2 (by omega)
              | grind
              | skip
        )
      rw [Int.add_zero] at hl2
      have e0 : mGaR w d i u 0 = u := rfl
      rw [e0] at hl2
      clear ih
      refine hZ (fun u => Nat.beq u 7 || Nat.beq u 22) 14 7 _ _ _ _ _ ?_
      simp only [sm_run, sm_blk, sm_get, sm_ent, sm_ents, sm_wds, sm_wd, sm_nl, sm_pop, sm_back, sm_cases, oK, oLK, oL, oI, oA, oJ, oIs, oAs, oJs, oInc, oAdd, oSub, oMul, oDiv, oRem, oNeg, oAnd, oAndB, oOr, oShl, oI2c, oI2l, oL2i, oLand, oLor, oLshl, oLshr, oLushr, oLcmp, oDup, oDup2, oPop, oGo, oFg, oEq, oNe, oLt, oGe, oGt, oLe, oEq0, oNe0, oLt0, oGe0, oGt0, oLe0, oSw, oGi, oGr, oPi, oPz, oPr, oLen, oIl, oZl, oCl, oRl, oIst, oZst, oCst, oRst, oCopy, oNew, oNa, oNa2, oObj, oCs, oCv, oCi, oIr, oZr, oVr, Nat.beq, List.getElem?_cons_zero, List.getElem?_cons_succ, List.set_cons_zero, List.set_cons_succ, List.length_cons, List.length_nil, List.nil_append, List.cons_append, List.append_nil, List.replicate_succ, List.replicate_zero, Nat.reduceAdd, Nat.reduceSub, Nat.reduceLT, Nat.reduceLeDiff, Nat.reduceBEq, true_and, and_true, Nat.zero_add, Nat.add_zero, Nat.le_refl, Option.some.injEq, exists_eq_left', true_or, or_true, or_false, false_or, reduceCtorEq, Prod.mk.injEq, Sum.inl.injEq, and_self, false_and, and_false, not_true_eq_false, not_false_eq_true, false_implies, true_implies, sm_r, Int.add_zero, Int.zero_add, wI_wsI, wS_wsI, wR_wsI, wI_wCp, wS_wCp, wR_wCp, Nat.reduceEqDiff, reduceIte, sT_iff, sT_iffC, wIf_ne, ne_eq, Bool.false_or, Bool.true_or, Bool.or_false, Bool.or_true, Bool.or_self, Nat.left_eq_add, Nat.add_eq_left, Nat.add_left_inj, oMax, oMin, oAbs, tb_X3_gather, p_X2_goesUp, p_X3_gatherPair, f_X2_goesUp, f_X3_gatherPair, p_X3_gather, f_X3_gather, d0, s0, l0, e7]
      repeat' (first | exact True.intro | with_reducible assumption | with_reducible refine And.intro ?_ ?_ | intro _)
      all_goals first
        | omega
        | assumption
        | rfl
        | (split <;> omega)
        | (have k9 := ih (by omega)
           (repeat' split at k9) <;> first | exact k9 | omega)
        | (have k9 := ih2 (by omega)
           (repeat' split at k9) <;> first | exact k9 | omega)
        | exact he (by omega)
        | ((with_reducible congr 1) <;> omega)
        | (rw [if_pos (by omega)] at he; exact he)
        | exact hD1 (by omega)
        | exact hD2 (by omega)
        | grind
        | skip
    )
  have e0 : mGaL w d 0 = wsI w 78 1 0 := rfl
  rw [e0] at hl
  refine hZ (fun u => Nat.beq u 7 || Nat.beq u 22) 14 0 _ _ _ _ _ ?_
  simp only [sm_run, sm_blk, sm_get, sm_ent, sm_ents, sm_wds, sm_wd, sm_nl, sm_pop, sm_back, sm_cases, oK, oLK, oL, oI, oA, oJ, oIs, oAs, oJs, oInc, oAdd, oSub, oMul, oDiv, oRem, oNeg, oAnd, oAndB, oOr, oShl, oI2c, oI2l, oL2i, oLand, oLor, oLshl, oLshr, oLushr, oLcmp, oDup, oDup2, oPop, oGo, oFg, oEq, oNe, oLt, oGe, oGt, oLe, oEq0, oNe0, oLt0, oGe0, oGt0, oLe0, oSw, oGi, oGr, oPi, oPz, oPr, oLen, oIl, oZl, oCl, oRl, oIst, oZst, oCst, oRst, oCopy, oNew, oNa, oNa2, oObj, oCs, oCv, oCi, oIr, oZr, oVr, Nat.beq, List.getElem?_cons_zero, List.getElem?_cons_succ, List.set_cons_zero, List.set_cons_succ, List.length_cons, List.length_nil, List.nil_append, List.cons_append, List.append_nil, List.replicate_succ, List.replicate_zero, Nat.reduceAdd, Nat.reduceSub, Nat.reduceLT, Nat.reduceLeDiff, Nat.reduceBEq, true_and, and_true, Nat.zero_add, Nat.add_zero, Nat.le_refl, Option.some.injEq, exists_eq_left', true_or, or_true, or_false, false_or, reduceCtorEq, Prod.mk.injEq, Sum.inl.injEq, and_self, false_and, and_false, not_true_eq_false, not_false_eq_true, false_implies, true_implies, sm_r, Int.add_zero, Int.zero_add, wI_wsI, wS_wsI, wR_wsI, wI_wCp, wS_wCp, wR_wCp, Nat.reduceEqDiff, reduceIte, sT_iff, sT_iffC, wIf_ne, ne_eq, Bool.false_or, Bool.true_or, Bool.or_false, Bool.or_true, Bool.or_self, Nat.left_eq_add, Nat.add_eq_left, Nat.add_left_inj, oMax, oMin, oAbs, tb_X3_gather, p_X2_goesUp, p_X3_gatherPair, f_X2_goesUp, f_X3_gatherPair, p_X3_gather, f_X3_gather, sS_78 hT]
  repeat' (first | exact True.intro | with_reducible assumption | with_reducible refine And.intro ?_ ?_ | intro _)
  all_goals first
    | omega
    | assumption
    | rfl
    | (split <;> omega)
    | (have k9 := ih (by omega)
       (repeat' split at k9) <;> first | exact k9 | omega)
    | (have k9 := ih2 (by omega)
       (repeat' split at k9) <;> first | exact k9 | omega)
    | exact he (by omega)
    | ((with_reducible congr 1) <;> omega)
    | (rw [if_pos (by omega)] at he; exact he)
    | exact hD1 (by omega)
    | exact hD2 (by omega)
    | skip
theorem met_X3_gather (l : Launch) : sm_Met l yX3_gather cX3_gather 4 none 2 0 0 p_X3_gather f_X3_gather := sm_met 0 (Or.inl ⟨rfl, rfl⟩) (by decide +kernel) (sn_X3_gather l) ok_X3_gather
def mPart (row k : Int) : Int := if k = 0 then row / 512 else (if k = 1 then row / 64 % 8 else (if k = 2 then row / 8 % 8 else row % 8))
def p_X3_part : List sm_V → sm_W → Prop
  | [.inr (.inl o), .inl m, .inl k], w => o = 78 ∧ sT w ∧ 0 ≤ m ∧ m < 64 ∧ 0 ≤ wI w 79 m
  | _, _ => False
def f_X3_part : sm_F
  | [.inr (.inl o), .inl m, .inl k], w => (some (.inl (mPart (wI w 79 m) k)), w)
  | _, w => (none, w)
def tb_X3_part : List (Nat × List sm_O) := [(0, [oA 0, oGr 3 2 0, oI 1, oIl, oIs 3, oI 2, oSw 0 [36, 42, 50] 58]),
  (36, [oI 3, oK 512, oDiv, oIr]),
  (42, [oI 3, oK 64, oDiv, oK 8, oRem, oIr]),
  (50, [oI 3, oK 8, oDiv, oK 8, oRem, oIr]),
  (58, [oI 3, oK 8, oRem, oIr])]
set_option maxRecDepth 100000 in
theorem sb_X3_part_0 (l : Launch) : sm_SndB l RX3 "part" cX3_part 4 1 0 0 [oA 0, oGr 3 2 0, oI 1, oIl, oIs 3, oI 2, oSw 0 [36, 42, 50] 58] := sb_cons (sd_aload_n (by decide +kernel : decode cX3_part 0 = .ok (.aload_n 0, 1)) rfl) (sb_cons (sd_getr (k := 0) kl_3 (by decide) rfl wm_106 (by decide +kernel : decode cX3_part 1 = .ok (.getfield 9, 3))) (sb_cons (sd_iload_n (by decide +kernel : decode cX3_part 4 = .ok (.iload_n 1, 1)) rfl) (sb_cons (sd_iaload (by decide +kernel : decode cX3_part 5 = .ok (.iaload, 1))) (sb_cons (sd_istore_n (by decide +kernel : decode cX3_part 6 = .ok (.istore_n 3, 1)) rfl) (sb_cons (sd_iload_n (by decide +kernel : decode cX3_part 7 = .ok (.iload_n 2, 1)) rfl) (sb_cons (sd_sw (x := 0) (by decide +kernel : decode cX3_part 8 = .ok (.tableswitch 50 0 2 #[28, 34, 42], 28)) (by decide) (by decide) (by decide)) sb_nil))))))
set_option maxRecDepth 100000 in
theorem sb_X3_part_36 (l : Launch) : sm_SndB l RX3 "part" cX3_part 4 1 0 36 [oI 3, oK 512, oDiv, oIr] := sb_cons (sd_iload_n (by decide +kernel : decode cX3_part 36 = .ok (.iload_n 3, 1)) rfl) (sb_cons (sd_sipush (by decide +kernel : decode cX3_part 37 = .ok (.sipush 512, 3)) ⟨by decide, by decide⟩ (by decide)) (sb_cons (sd_idiv (by decide +kernel : decode cX3_part 40 = .ok (.idiv, 1))) (sb_cons (sd_ireturn (x := 0) rfl (by decide +kernel : decode cX3_part 41 = .ok (.ireturn, 1))) sb_nil)))
set_option maxRecDepth 100000 in
theorem sb_X3_part_42 (l : Launch) : sm_SndB l RX3 "part" cX3_part 4 1 0 42 [oI 3, oK 64, oDiv, oK 8, oRem, oIr] := sb_cons (sd_iload_n (by decide +kernel : decode cX3_part 42 = .ok (.iload_n 3, 1)) rfl) (sb_cons (sd_bipush (by decide +kernel : decode cX3_part 43 = .ok (.bipush 64, 2)) ⟨by decide, by decide⟩ (by decide)) (sb_cons (sd_idiv (by decide +kernel : decode cX3_part 45 = .ok (.idiv, 1))) (sb_cons (sd_bipush (by decide +kernel : decode cX3_part 46 = .ok (.bipush 8, 2)) ⟨by decide, by decide⟩ (by decide)) (sb_cons (sd_irem (by decide +kernel : decode cX3_part 48 = .ok (.irem, 1))) (sb_cons (sd_ireturn (x := 0) rfl (by decide +kernel : decode cX3_part 49 = .ok (.ireturn, 1))) sb_nil)))))
set_option maxRecDepth 100000 in
theorem sb_X3_part_50 (l : Launch) : sm_SndB l RX3 "part" cX3_part 4 1 0 50 [oI 3, oK 8, oDiv, oK 8, oRem, oIr] := sb_cons (sd_iload_n (by decide +kernel : decode cX3_part 50 = .ok (.iload_n 3, 1)) rfl) (sb_cons (sd_bipush (by decide +kernel : decode cX3_part 51 = .ok (.bipush 8, 2)) ⟨by decide, by decide⟩ (by decide)) (sb_cons (sd_idiv (by decide +kernel : decode cX3_part 53 = .ok (.idiv, 1))) (sb_cons (sd_bipush (by decide +kernel : decode cX3_part 54 = .ok (.bipush 8, 2)) ⟨by decide, by decide⟩ (by decide)) (sb_cons (sd_irem (by decide +kernel : decode cX3_part 56 = .ok (.irem, 1))) (sb_cons (sd_ireturn (x := 0) rfl (by decide +kernel : decode cX3_part 57 = .ok (.ireturn, 1))) sb_nil)))))
set_option maxRecDepth 100000 in
theorem sb_X3_part_58 (l : Launch) : sm_SndB l RX3 "part" cX3_part 4 1 0 58 [oI 3, oK 8, oRem, oIr] := sb_cons (sd_iload_n (by decide +kernel : decode cX3_part 58 = .ok (.iload_n 3, 1)) rfl) (sb_cons (sd_bipush (by decide +kernel : decode cX3_part 59 = .ok (.bipush 8, 2)) ⟨by decide, by decide⟩ (by decide)) (sb_cons (sd_irem (by decide +kernel : decode cX3_part 61 = .ok (.irem, 1))) (sb_cons (sd_ireturn (x := 0) rfl (by decide +kernel : decode cX3_part 62 = .ok (.ireturn, 1))) sb_nil)))
theorem sn_X3_part (l : Launch) : sm_SndT l RX3 "part" cX3_part 4 1 0 tb_X3_part := st_cons (sb_X3_part_0 l) (st_cons (sb_X3_part_36 l) (st_cons (sb_X3_part_42 l) (st_cons (sb_X3_part_50 l) (st_cons (sb_X3_part_58 l) (st_nil)))))
set_option maxRecDepth 100000 in
set_option maxHeartbeats 4000000 in
theorem ok_X3_part : sm_Ok tb_X3_part 4 0 0 p_X3_part f_X3_part := by
  intro as w hp ha hw
  match as, hp with
  | [.inr (.inl o), .inl m, .inl k], hp =>
  refine ⟨Nat.le_of_ble_eq_true rfl, fun Z hZ => ?_⟩
  obtain ⟨rfl, hT, m0, m1, hr⟩ := hp
  obtain ⟨z, hz⟩ : ∃ z, z = mPart (wI w 79 m) k := ⟨_, rfl⟩
  have hze : mPart (wI w 79 m) k = z := hz.symm
  unfold mPart at hz
  refine hZ (fun _ => false) 16 0 _ _ _ _ _ ?_
  simp only [sm_run, sm_blk, sm_get, sm_ent, sm_ents, sm_wds, sm_wd, sm_nl, sm_pop, sm_back, sm_cases, oK, oLK, oL, oI, oA, oJ, oIs, oAs, oJs, oInc, oAdd, oSub, oMul, oDiv, oRem, oNeg, oAnd, oAndB, oOr, oShl, oI2c, oI2l, oL2i, oLand, oLor, oLshl, oLshr, oLushr, oLcmp, oDup, oDup2, oPop, oGo, oFg, oEq, oNe, oLt, oGe, oGt, oLe, oEq0, oNe0, oLt0, oGe0, oGt0, oLe0, oSw, oGi, oGr, oPi, oPz, oPr, oLen, oIl, oZl, oCl, oRl, oIst, oZst, oCst, oRst, oCopy, oNew, oNa, oNa2, oObj, oCs, oCv, oCi, oIr, oZr, oVr, Nat.beq, List.getElem?_cons_zero, List.getElem?_cons_succ, List.set_cons_zero, List.set_cons_succ, List.length_cons, List.length_nil, List.nil_append, List.cons_append, List.append_nil, List.replicate_succ, List.replicate_zero, Nat.reduceAdd, Nat.reduceSub, Nat.reduceLT, Nat.reduceLeDiff, Nat.reduceBEq, true_and, and_true, Nat.zero_add, Nat.add_zero, Nat.le_refl, Option.some.injEq, exists_eq_left', true_or, or_true, or_false, false_or, reduceCtorEq, Prod.mk.injEq, Sum.inl.injEq, and_self, false_and, and_false, not_true_eq_false, not_false_eq_true, false_implies, true_implies, sm_r, Int.add_zero, Int.zero_add, wI_wsI, wS_wsI, wR_wsI, wI_wCp, wS_wCp, wR_wCp, Nat.reduceEqDiff, reduceIte, sT_iff, sT_iffC, wIf_ne, ne_eq, Bool.false_or, Bool.true_or, Bool.or_false, Bool.or_true, Bool.or_self, Nat.left_eq_add, Nat.add_eq_left, Nat.add_left_inj, oMax, oMin, oAbs, tb_X3_part, p_X3_part, f_X3_part, sS_78 hT, sR_78_0 hT, sS_79 hT, hze]
  repeat' (first | exact True.intro | with_reducible assumption | with_reducible refine And.intro ?_ ?_ | intro _)
  all_goals first
    | omega
    | assumption
    | rfl
    | (split <;> omega)
    | grind
    | skip

theorem met_X3_part (l : Launch) : sm_Met l yX3_part cX3_part 4 (some .int) 0 0 0 p_X3_part f_X3_part := sm_met 1 (Or.inr (Or.inl ⟨rfl, rfl⟩)) (by decide +kernel) (sn_X3_part l) ok_X3_part