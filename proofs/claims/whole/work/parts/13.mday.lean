/-! THE REFERENCE: who can leave, and who goes first -/
/-- where a shuttle is, is somewhere on its way -/
def mSh (w : sm_W) (x : Int) : Prop := (0 ≤ wI w 162 x ∧ wI w 162 x ≤ 100000) ∧ (0 ≤ wI w 161 x ∧ wI w 161 x ≤ 7) ∧ (0 ≤ wI w 160 x ∧ wI w 160 x ≤ 3) ∧
  (wI w 160 x ≤ 1 → (wI w 155 (17 + 5 * x) < wI w 155 (17 + 5 * x + 1) → wI w 155 (17 + 5 * x) ≤ wI w 161 x ∧ wI w 161 x < wI w 155 (17 + 5 * x + 1)) ∧ (wI w 155 (17 + 5 * x + 1) < wI w 155 (17 + 5 * x) → wI w 155 (17 + 5 * x + 1) < wI w 161 x ∧ wI w 161 x ≤ wI w 155 (17 + 5 * x))) ∧
  (wI w 160 x = 2 → (wI w 155 (17 + 5 * x) < wI w 155 (17 + 5 * x + 1) → wI w 155 (17 + 5 * x) ≤ wI w 161 x ∧ wI w 161 x < wI w 155 (17 + 5 * x + 1)) ∧ (wI w 155 (17 + 5 * x + 1) < wI w 155 (17 + 5 * x) → wI w 155 (17 + 5 * x + 1) ≤ wI w 161 x ∧ wI w 161 x < wI w 155 (17 + 5 * x))) ∧
  (wI w 160 x = 3 → wI w 161 x = wI w 155 (17 + 5 * x + 1))
def mDay (w : sm_W) : Prop := mOK w ∧ ∀ x, 0 ≤ x → x < wI w 155 1 → mSh w x
theorem mWay_pm (v : Int → Int) (x : Int) : (mWay v x = 1 ∧ v (17 + 5 * x) < v (17 + 5 * x + 1)) ∨ (mWay v x = -1 ∧ ¬ v (17 + 5 * x) < v (17 + 5 * x + 1)) := by
  unfold mWay
  split
  · next h => exact Or.inl ⟨rfl, h⟩
  · next h => exact Or.inr ⟨rfl, h⟩
/-- the station to which a shuttle on a stretch goes -/
def mTo (w : sm_W) (x : Int) : Int := if wI w 160 x = 2 then (if 0 < mWay (wI w 155) x then wI w 161 x + 1 else wI w 161 x) else -6
def mTk (w : sm_W) (st : Int) (x n : Int) : Int := if (wI w 160 x = 1 ∧ wI w 161 x = st) ∨ (mTo w x = st ∧ mTo w x ≠ wI w 155 (17 + 5 * x + 1)) then n + 1 else n
def mTaken (w : sm_W) (st : Int) : Int → Int := itI (mTk w st) 0
theorem mTaken_le (w : sm_W) (st n : Int) (hn : 0 ≤ n) : 0 ≤ mTaken w st n ∧ mTaken w st n ≤ n := by
  refine itI_ind (fun i r => 0 ≤ r ∧ r ≤ i) n ⟨Int.le_refl _, Int.le_refl _⟩ (fun i r h0 h1 h => ?_) n hn (Int.le_refl _)
  unfold mTk
  split <;> omega
def p_X8_taken : List sm_V → sm_W → Prop
  | [.inr (.inl m), .inl st], w => m = 154 ∧ mDay w
  | _, _ => False
def f_X8_taken : sm_F
  | [.inr (.inl m), .inl st], w => (some (.inl (mTaken w st (wI w 155 1))), w)
  | _, w => (none, w)
def tb_X8_taken : List (Nat × List sm_O) := [(0, [oK 0, oIs 2, oK 0, oIs 3, oFg 4, oGo 4]),
  (4, [oI 3, oA 0, oGr 8 30 0, oK 1, oIl, oGe 107, oA 0, oGr 8 30 7, oI 3, oIl, oK 2, oNe 52, oA 0, oI 3, oCv 8 30 p_X8_way f_X8_way 0 0 2, oLe0 43, oA 0, oGr 8 30 8, oI 3, oIl, oK 1, oAdd, oGo 54]),
  (43, [oA 0, oGr 8 30 8, oI 3, oIl, oGo 54]),
  (52, [oK (-6), oGo 54]),
  (54, [oIs 4, oI 2, oA 0, oGr 8 30 7, oI 3, oIl, oK 1, oNe 77, oA 0, oGr 8 30 8, oI 3, oIl, oI 1, oEq 94, oGo 77]),
  (77, [oI 4, oI 1, oNe 98, oI 4, oA 0, oI 3, oK 1, oCv 8 30 p_X8_of f_X8_of 0 0 3, oEq 98, oGo 94]),
  (94, [oK 1, oGo 99]),
  (98, [oK 0, oGo 99]),
  (99, [oAdd, oIs 2, oInc 3 1, oFg 4, oGo 4]),
  (107, [oI 2, oIr])]
set_option maxRecDepth 100000 in
theorem sb_X8_taken_0 (l : Launch) : sm_SndB l RX8 "taken" cX8_taken 5 1 2 0 [oK 0, oIs 2, oK 0, oIs 3, oFg 4, oGo 4] := sb_cons (sd_iconst (by decide +kernel : decode cX8_taken 0 = .ok (.iconst 0, 1)) ⟨by decide, by decide⟩) (sb_cons (sd_istore_n (by decide +kernel : decode cX8_taken 1 = .ok (.istore_n 2, 1)) rfl) (sb_cons (sd_iconst (by decide +kernel : decode cX8_taken 2 = .ok (.iconst 0, 1)) ⟨by decide, by decide⟩) (sb_cons (sd_istore_n (by decide +kernel : decode cX8_taken 3 = .ok (.istore_n 3, 1)) rfl) (sb_cons (sd_fg) (sb_cons (sd_fall (x := 0)) sb_nil)))))
set_option maxRecDepth 100000 in
theorem sb_X8_taken_4 (l : Launch) : sm_SndB l RX8 "taken" cX8_taken 5 1 2 4 [oI 3, oA 0, oGr 8 30 0, oK 1, oIl, oGe 107, oA 0, oGr 8 30 7, oI 3, oIl, oK 2, oNe 52, oA 0, oI 3, oCv 8 30 p_X8_way f_X8_way 0 0 2, oLe0 43, oA 0, oGr 8 30 8, oI 3, oIl, oK 1, oAdd, oGo 54] := sb_cons (sd_iload_n (by decide +kernel : decode cX8_taken 4 = .ok (.iload_n 3, 1)) rfl) (sb_cons (sd_aload_n (by decide +kernel : decode cX8_taken 5 = .ok (.aload_n 0, 1)) rfl) (sb_cons (sd_getr (k := 0) kl_8 (by decide) rfl wm_673 (by decide +kernel : decode cX8_taken 6 = .ok (.getfield 7, 3))) (sb_cons (sd_iconst (by decide +kernel : decode cX8_taken 9 = .ok (.iconst 1, 1)) ⟨by decide, by decide⟩) (sb_cons (sd_iaload (by decide +kernel : decode cX8_taken 10 = .ok (.iaload, 1))) (sb_cons (sd_ge (by decide +kernel : decode cX8_taken 11 = .ok (.if_icmp .ge 96, 3)) (by decide)) (sb_cons (sd_aload_n (by decide +kernel : decode cX8_taken 14 = .ok (.aload_n 0, 1)) rfl) (sb_cons (sd_getr (k := 7) kl_8 (by decide) rfl wm_680 (by decide +kernel : decode cX8_taken 15 = .ok (.getfield 26, 3))) (sb_cons (sd_iload_n (by decide +kernel : decode cX8_taken 18 = .ok (.iload_n 3, 1)) rfl) (sb_cons (sd_iaload (by decide +kernel : decode cX8_taken 19 = .ok (.iaload, 1))) (sb_cons (sd_iconst (by decide +kernel : decode cX8_taken 20 = .ok (.iconst 2, 1)) ⟨by decide, by decide⟩) (sb_cons (sd_ne (by decide +kernel : decode cX8_taken 21 = .ok (.if_icmp .ne 31, 3)) (by decide)) (sb_cons (sd_aload_n (by decide +kernel : decode cX8_taken 24 = .ok (.aload_n 0, 1)) rfl) (sb_cons (sd_iload_n (by decide +kernel : decode cX8_taken 25 = .ok (.iload_n 3, 1)) rfl) (sb_cons (sd_callv (n := 1) (met_X8_way l) (by decide) (by decide) wm_821 wm_819 wm_10 ⟨by decide +kernel, by decide +kernel, by decide +kernel⟩ kl_8 wm_820 wm_1120 (by decide +kernel : decode cX8_taken 26 = .ok (.invokevirtual 95, 3))) (sb_cons (sd_le0 (by decide +kernel : decode cX8_taken 29 = .ok (.ifCond .le 14, 3)) (by decide)) (sb_cons (sd_aload_n (by decide +kernel : decode cX8_taken 32 = .ok (.aload_n 0, 1)) rfl) (sb_cons (sd_getr (k := 8) kl_8 (by decide) rfl wm_681 (by decide +kernel : decode cX8_taken 33 = .ok (.getfield 29, 3))) (sb_cons (sd_iload_n (by decide +kernel : decode cX8_taken 36 = .ok (.iload_n 3, 1)) rfl) (sb_cons (sd_iaload (by decide +kernel : decode cX8_taken 37 = .ok (.iaload, 1))) (sb_cons (sd_iconst (by decide +kernel : decode cX8_taken 38 = .ok (.iconst 1, 1)) ⟨by decide, by decide⟩) (sb_cons (sd_iadd (by decide +kernel : decode cX8_taken 39 = .ok (.iadd, 1))) (sb_cons (sd_goto (x := 0) (by decide +kernel : decode cX8_taken 40 = .ok (.goto 14, 3)) (by decide)) sb_nil))))))))))))))))))))))
set_option maxRecDepth 100000 in
theorem sb_X8_taken_43 (l : Launch) : sm_SndB l RX8 "taken" cX8_taken 5 1 2 43 [oA 0, oGr 8 30 8, oI 3, oIl, oGo 54] := sb_cons (sd_aload_n (by decide +kernel : decode cX8_taken 43 = .ok (.aload_n 0, 1)) rfl) (sb_cons (sd_getr (k := 8) kl_8 (by decide) rfl wm_681 (by decide +kernel : decode cX8_taken 44 = .ok (.getfield 29, 3))) (sb_cons (sd_iload_n (by decide +kernel : decode cX8_taken 47 = .ok (.iload_n 3, 1)) rfl) (sb_cons (sd_iaload (by decide +kernel : decode cX8_taken 48 = .ok (.iaload, 1))) (sb_cons (sd_goto (x := 0) (by decide +kernel : decode cX8_taken 49 = .ok (.goto 5, 3)) (by decide)) sb_nil))))
set_option maxRecDepth 100000 in
theorem sb_X8_taken_52 (l : Launch) : sm_SndB l RX8 "taken" cX8_taken 5 1 2 52 [oK (-6), oGo 54] := sb_cons (sd_bipush (by decide +kernel : decode cX8_taken 52 = .ok (.bipush (-6), 2)) ⟨by decide, by decide⟩ (by decide)) (sb_cons (sd_fall (x := 0)) sb_nil)
set_option maxRecDepth 100000 in
theorem sb_X8_taken_54 (l : Launch) : sm_SndB l RX8 "taken" cX8_taken 5 1 2 54 [oIs 4, oI 2, oA 0, oGr 8 30 7, oI 3, oIl, oK 1, oNe 77, oA 0, oGr 8 30 8, oI 3, oIl, oI 1, oEq 94, oGo 77] := sb_cons (sd_istore (by decide +kernel : decode cX8_taken 54 = .ok (.istore 4, 2))) (sb_cons (sd_iload_n (by decide +kernel : decode cX8_taken 56 = .ok (.iload_n 2, 1)) rfl) (sb_cons (sd_aload_n (by decide +kernel : decode cX8_taken 57 = .ok (.aload_n 0, 1)) rfl) (sb_cons (sd_getr (k := 7) kl_8 (by decide) rfl wm_680 (by decide +kernel : decode cX8_taken 58 = .ok (.getfield 26, 3))) (sb_cons (sd_iload_n (by decide +kernel : decode cX8_taken 61 = .ok (.iload_n 3, 1)) rfl) (sb_cons (sd_iaload (by decide +kernel : decode cX8_taken 62 = .ok (.iaload, 1))) (sb_cons (sd_iconst (by decide +kernel : decode cX8_taken 63 = .ok (.iconst 1, 1)) ⟨by decide, by decide⟩) (sb_cons (sd_ne (by decide +kernel : decode cX8_taken 64 = .ok (.if_icmp .ne 13, 3)) (by decide)) (sb_cons (sd_aload_n (by decide +kernel : decode cX8_taken 67 = .ok (.aload_n 0, 1)) rfl) (sb_cons (sd_getr (k := 8) kl_8 (by decide) rfl wm_681 (by decide +kernel : decode cX8_taken 68 = .ok (.getfield 29, 3))) (sb_cons (sd_iload_n (by decide +kernel : decode cX8_taken 71 = .ok (.iload_n 3, 1)) rfl) (sb_cons (sd_iaload (by decide +kernel : decode cX8_taken 72 = .ok (.iaload, 1))) (sb_cons (sd_iload_n (by decide +kernel : decode cX8_taken 73 = .ok (.iload_n 1, 1)) rfl) (sb_cons (sd_eq (by decide +kernel : decode cX8_taken 74 = .ok (.if_icmp .eq 20, 3)) (by decide)) (sb_cons (sd_fall (x := 0)) sb_nil))))))))))))))
set_option maxRecDepth 100000 in
theorem sb_X8_taken_77 (l : Launch) : sm_SndB l RX8 "taken" cX8_taken 5 1 2 77 [oI 4, oI 1, oNe 98, oI 4, oA 0, oI 3, oK 1, oCv 8 30 p_X8_of f_X8_of 0 0 3, oEq 98, oGo 94] := sb_cons (sd_iload (by decide +kernel : decode cX8_taken 77 = .ok (.iload 4, 2))) (sb_cons (sd_iload_n (by decide +kernel : decode cX8_taken 79 = .ok (.iload_n 1, 1)) rfl) (sb_cons (sd_ne (by decide +kernel : decode cX8_taken 80 = .ok (.if_icmp .ne 18, 3)) (by decide)) (sb_cons (sd_iload (by decide +kernel : decode cX8_taken 83 = .ok (.iload 4, 2))) (sb_cons (sd_aload_n (by decide +kernel : decode cX8_taken 85 = .ok (.aload_n 0, 1)) rfl) (sb_cons (sd_iload_n (by decide +kernel : decode cX8_taken 86 = .ok (.iload_n 3, 1)) rfl) (sb_cons (sd_iconst (by decide +kernel : decode cX8_taken 87 = .ok (.iconst 1, 1)) ⟨by decide, by decide⟩) (sb_cons (sd_callv (n := 2) (met_X8_of l) (by decide) (by decide) wm_778 wm_776 wm_10 ⟨by decide +kernel, by decide +kernel, by decide +kernel⟩ kl_8 wm_777 wm_1113 (by decide +kernel : decode cX8_taken 88 = .ok (.invokevirtual 78, 3))) (sb_cons (sd_eq (by decide +kernel : decode cX8_taken 91 = .ok (.if_icmp .eq 7, 3)) (by decide)) (sb_cons (sd_fall (x := 0)) sb_nil)))))))))
set_option maxRecDepth 100000 in
theorem sb_X8_taken_94 (l : Launch) : sm_SndB l RX8 "taken" cX8_taken 5 1 2 94 [oK 1, oGo 99] := sb_cons (sd_iconst (by decide +kernel : decode cX8_taken 94 = .ok (.iconst 1, 1)) ⟨by decide, by decide⟩) (sb_cons (sd_goto (x := 0) (by decide +kernel : decode cX8_taken 95 = .ok (.goto 4, 3)) (by decide)) sb_nil)
set_option maxRecDepth 100000 in
theorem sb_X8_taken_98 (l : Launch) : sm_SndB l RX8 "taken" cX8_taken 5 1 2 98 [oK 0, oGo 99] := sb_cons (sd_iconst (by decide +kernel : decode cX8_taken 98 = .ok (.iconst 0, 1)) ⟨by decide, by decide⟩) (sb_cons (sd_fall (x := 0)) sb_nil)
set_option maxRecDepth 100000 in
theorem sb_X8_taken_99 (l : Launch) : sm_SndB l RX8 "taken" cX8_taken 5 1 2 99 [oAdd, oIs 2, oInc 3 1, oFg 4, oGo 4] := sb_cons (sd_iadd (by decide +kernel : decode cX8_taken 99 = .ok (.iadd, 1))) (sb_cons (sd_istore_n (by decide +kernel : decode cX8_taken 100 = .ok (.istore_n 2, 1)) rfl) (sb_cons (sd_iinc (by decide +kernel : decode cX8_taken 101 = .ok (.iinc 3 1, 3))) (sb_cons (sd_fg) (sb_cons (sd_goto (x := 0) (by decide +kernel : decode cX8_taken 104 = .ok (.goto (-100), 3)) (by decide)) sb_nil))))
set_option maxRecDepth 100000 in
theorem sb_X8_taken_107 (l : Launch) : sm_SndB l RX8 "taken" cX8_taken 5 1 2 107 [oI 2, oIr] := sb_cons (sd_iload_n (by decide +kernel : decode cX8_taken 107 = .ok (.iload_n 2, 1)) rfl) (sb_cons (sd_ireturn (x := 0) rfl (by decide +kernel : decode cX8_taken 108 = .ok (.ireturn, 1))) sb_nil)
theorem sn_X8_taken (l : Launch) : sm_SndT l RX8 "taken" cX8_taken 5 1 2 tb_X8_taken := st_cons (sb_X8_taken_0 l) (st_cons (sb_X8_taken_4 l) (st_cons (sb_X8_taken_43 l) (st_cons (sb_X8_taken_52 l) (st_cons (sb_X8_taken_54 l) (st_cons (sb_X8_taken_77 l) (st_cons (sb_X8_taken_94 l) (st_cons (sb_X8_taken_98 l) (st_cons (sb_X8_taken_99 l) (st_cons (sb_X8_taken_107 l) (st_nil))))))))))
set_option maxRecDepth 100000 in
set_option maxHeartbeats 4000000 in
theorem ok_X8_taken : sm_Ok tb_X8_taken 5 0 0 p_X8_taken f_X8_taken := by
  intro as w hp ha hw
  match as, hp with
  | [.inr (.inl m), .inl st], hp =>
  refine ⟨Nat.le_of_ble_eq_true rfl, fun Z hZ => ?_⟩
  obtain ⟨rfl, ⟨hT, hv⟩, hd⟩ := hp
  have hm := vOK_many hv
  have hl := sm_loopI Z 4 0 (wI w 155 1) (fun i => [some (.inr (.inl 154)), some (.inl st), some (.inl (mTaken w st i)), some (.inl i), none]) (fun _ => w) 0 0 hm.1 (fun i h0 h1 ih => by
  have hx := fun hlt => hd i h0 hlt
  have hb := mTaken_le w st i h0
  have hu : mTaken w st (i + 1) = mTk w st i (mTaken w st i) := itI_s _ _ h0
  rw [hu] at ih
  unfold mTk mTo at ih
  have hwp := mWay_pm (wI w 155) i
  simp only [mSh] at hx
  refine hZ (fun u => Nat.beq u 4) 40 4 _ _ _ _ _ ?_
  simp only [sm_run, sm_blk, sm_get, sm_ent, sm_ents, sm_wds, sm_wd, sm_nl, sm_pop, sm_back, sm_cases, oK, oLK, oL, oI, oA, oJ, oIs, oAs, oJs, oInc, oAdd, oSub, oMul, oDiv, oRem, oNeg, oAnd, oOr, oShl, oI2c, oI2l, oL2i, oLand, oLor, oLshl, oLshr, oLushr, oLcmp, oDup, oDup2, oPop, oGo, oFg, oEq, oNe, oLt, oGe, oGt, oLe, oEq0, oNe0, oLt0, oGe0, oGt0, oLe0, oSw, oGi, oGr, oPi, oPz, oPr, oLen, oIl, oZl, oCl, oRl, oIst, oZst, oCst, oRst, oCopy, oNew, oNa, oNa2, oObj, oCs, oCv, oCi, oIr, oZr, oVr, Nat.beq, List.getElem?_cons_zero, List.getElem?_cons_succ, List.set_cons_zero, List.set_cons_succ, List.length_cons, List.length_nil, List.nil_append, List.cons_append, List.append_nil, List.replicate_succ, List.replicate_zero, Nat.reduceAdd, Nat.reduceSub, Nat.reduceLT, Nat.reduceLeDiff, Nat.reduceBEq, true_and, and_true, Nat.zero_add, Nat.add_zero, Nat.le_refl, Option.some.injEq, exists_eq_left', true_or, or_true, or_false, false_or, reduceCtorEq, Prod.mk.injEq, Sum.inl.injEq, and_self, false_and, and_false, not_true_eq_false, not_false_eq_true, false_implies, true_implies, sm_r, Int.add_zero, Int.zero_add, wI_wsI, wS_wsI, wR_wsI, wI_wCp, wS_wCp, wR_wCp, Nat.reduceEqDiff, reduceIte, sT_iff, sT_iffC, wIf_ne, ne_eq, tb_X8_taken, p_X8_of, p_X8_way, f_X8_of, f_X8_way, p_X8_taken, f_X8_taken, sS_154 hT, sR_154_0 hT, sS_155 hT, sR_154_7 hT, sS_160 hT, sR_154_8 hT, sS_161 hT]
  repeat' (first | assumption | with_reducible refine And.intro ?_ ?_ | intro _)
  all_goals first
    | omega
    | rfl
    | (split <;> omega)
    | (have k9 := ih (by omega)
       (repeat' split at k9) <;> first | exact k9 | omega)
    | (congr 1; omega)
    | skip
  )
  refine hZ (fun u => Nat.beq u 4) 40 0 _ _ _ _ _ ?_
  simp only [sm_run, sm_blk, sm_get, sm_ent, sm_ents, sm_wds, sm_wd, sm_nl, sm_pop, sm_back, sm_cases, oK, oLK, oL, oI, oA, oJ, oIs, oAs, oJs, oInc, oAdd, oSub, oMul, oDiv, oRem, oNeg, oAnd, oOr, oShl, oI2c, oI2l, oL2i, oLand, oLor, oLshl, oLshr, oLushr, oLcmp, oDup, oDup2, oPop, oGo, oFg, oEq, oNe, oLt, oGe, oGt, oLe, oEq0, oNe0, oLt0, oGe0, oGt0, oLe0, oSw, oGi, oGr, oPi, oPz, oPr, oLen, oIl, oZl, oCl, oRl, oIst, oZst, oCst, oRst, oCopy, oNew, oNa, oNa2, oObj, oCs, oCv, oCi, oIr, oZr, oVr, Nat.beq, List.getElem?_cons_zero, List.getElem?_cons_succ, List.set_cons_zero, List.set_cons_succ, List.length_cons, List.length_nil, List.nil_append, List.cons_append, List.append_nil, List.replicate_succ, List.replicate_zero, Nat.reduceAdd, Nat.reduceSub, Nat.reduceLT, Nat.reduceLeDiff, Nat.reduceBEq, true_and, and_true, Nat.zero_add, Nat.add_zero, Nat.le_refl, Option.some.injEq, exists_eq_left', true_or, or_true, or_false, false_or, reduceCtorEq, Prod.mk.injEq, Sum.inl.injEq, and_self, false_and, and_false, not_true_eq_false, not_false_eq_true, false_implies, true_implies, sm_r, Int.add_zero, Int.zero_add, wI_wsI, wS_wsI, wR_wsI, wI_wCp, wS_wCp, wR_wCp, Nat.reduceEqDiff, reduceIte, sT_iff, sT_iffC, wIf_ne, ne_eq, tb_X8_taken, p_X8_of, p_X8_way, f_X8_of, f_X8_way, p_X8_taken, f_X8_taken]
  repeat' (first | assumption | with_reducible refine And.intro ?_ ?_ | intro _)
  all_goals first
    | omega
    | rfl
    | (split <;> omega)
    | (have k9 := ih (by omega)
       (repeat' split at k9) <;> first | exact k9 | omega)
    | (congr 1; omega)
    | skip
theorem met_X8_taken (l : Launch) : sm_Met l yX8_taken cX8_taken 5 (some .int) 2 0 0 p_X8_taken f_X8_taken := sm_met 1 (Or.inr (Or.inl ⟨rfl, rfl⟩)) (by decide +kernel) (sn_X8_taken l) ok_X8_taken
def mCan (w : sm_W) (x t : Int) : Int := if wI w 160 x ≤ 1 ∧ mReady w x ≤ t then (if mWho w (sFrom (wI w 161 x) (mWay (wI w 155) x)) (wI w 155 1) < 0 then (if wI w 161 x + mWay (wI w 155) x = wI w 155 (17 + 5 * x + 1) then 1 else (if mTaken w (wI w 161 x + mWay (wI w 155) x) (wI w 155 1) < wI w 155 (2 + (wI w 161 x + mWay (wI w 155) x)) then 1 else 0)) else 0) else 0
theorem mCan_pre {w : sm_W} {x t : Int} (h : mCan w x t = 1) : wI w 160 x ≤ 1 ∧ mReady w x ≤ t := by
  unfold mCan at h
  split at h
  · assumption
  · omega
def p_X8_canLeave : List sm_V → sm_W → Prop
  | [.inr (.inl m), .inl x, .inl t], w => m = 154 ∧ mDay w ∧ 0 ≤ x ∧ x < wI w 155 1
  | _, _ => False
def f_X8_canLeave : sm_F
  | [.inr (.inl m), .inl x, .inl t], w => (some (.inl (mCan w x t)), w)
  | _, w => (none, w)
def tb_X8_canLeave : List (Nat × List sm_O) := [(0, [oA 0, oI 1, oI 2, oCv 8 30 p_X8_isReady f_X8_isReady 0 0 3, oNe0 11, oK 0, oZr]),
  (11, [oA 0, oGr 8 30 8, oI 1, oIl, oA 0, oI 1, oCv 8 30 p_X8_way f_X8_way 0 0 2, oAdd, oIs 3, oA 0, oA 0, oGr 8 30 8, oI 1, oIl, oA 0, oI 1, oCv 8 30 p_X8_way f_X8_way 0 0 2, oCs p_X8_stretchFrom f_X8_stretchFrom 0 0 2, oCv 8 30 p_X8_whoIsOn f_X8_whoIsOn 0 0 2, oGe0 75, oI 3, oA 0, oI 1, oK 1, oCv 8 30 p_X8_of f_X8_of 0 0 3, oEq 71, oA 0, oI 3, oCv 8 30 p_X8_taken f_X8_taken 0 0 2, oA 0, oGr 8 30 0, oK 2, oI 3, oAdd, oIl, oGe 75, oGo 71]),
  (71, [oK 1, oGo 76]),
  (75, [oK 0, oGo 76]),
  (76, [oZr])]
set_option maxRecDepth 100000 in
theorem sb_X8_canLeave_0 (l : Launch) : sm_SndB l RX8 "canLeave" cX8_canLeave 4 2 3 0 [oA 0, oI 1, oI 2, oCv 8 30 p_X8_isReady f_X8_isReady 0 0 3, oNe0 11, oK 0, oZr] := sb_cons (sd_aload_n (by decide +kernel : decode cX8_canLeave 0 = .ok (.aload_n 0, 1)) rfl) (sb_cons (sd_iload_n (by decide +kernel : decode cX8_canLeave 1 = .ok (.iload_n 1, 1)) rfl) (sb_cons (sd_iload_n (by decide +kernel : decode cX8_canLeave 2 = .ok (.iload_n 2, 1)) rfl) (sb_cons (sd_callv (n := 2) (met_X8_isReady l) (by decide) (by decide) wm_841 wm_839 wm_10 ⟨by decide +kernel, by decide +kernel, by decide +kernel⟩ kl_8 wm_840 wm_1125 (by decide +kernel : decode cX8_canLeave 3 = .ok (.invokevirtual 102, 3))) (sb_cons (sd_ne0 (by decide +kernel : decode cX8_canLeave 6 = .ok (.ifCond .ne 5, 3)) (by decide)) (sb_cons (sd_iconst (by decide +kernel : decode cX8_canLeave 9 = .ok (.iconst 0, 1)) ⟨by decide, by decide⟩) (sb_cons (sd_zreturn (x := 0) rfl (by decide +kernel : decode cX8_canLeave 10 = .ok (.ireturn, 1))) sb_nil))))))
set_option maxRecDepth 100000 in
theorem sb_X8_canLeave_11 (l : Launch) : sm_SndB l RX8 "canLeave" cX8_canLeave 4 2 3 11 [oA 0, oGr 8 30 8, oI 1, oIl, oA 0, oI 1, oCv 8 30 p_X8_way f_X8_way 0 0 2, oAdd, oIs 3, oA 0, oA 0, oGr 8 30 8, oI 1, oIl, oA 0, oI 1, oCv 8 30 p_X8_way f_X8_way 0 0 2, oCs p_X8_stretchFrom f_X8_stretchFrom 0 0 2, oCv 8 30 p_X8_whoIsOn f_X8_whoIsOn 0 0 2, oGe0 75, oI 3, oA 0, oI 1, oK 1, oCv 8 30 p_X8_of f_X8_of 0 0 3, oEq 71, oA 0, oI 3, oCv 8 30 p_X8_taken f_X8_taken 0 0 2, oA 0, oGr 8 30 0, oK 2, oI 3, oAdd, oIl, oGe 75, oGo 71] := sb_cons (sd_aload_n (by decide +kernel : decode cX8_canLeave 11 = .ok (.aload_n 0, 1)) rfl) (sb_cons (sd_getr (k := 8) kl_8 (by decide) rfl wm_681 (by decide +kernel : decode cX8_canLeave 12 = .ok (.getfield 29, 3))) (sb_cons (sd_iload_n (by decide +kernel : decode cX8_canLeave 15 = .ok (.iload_n 1, 1)) rfl) (sb_cons (sd_iaload (by decide +kernel : decode cX8_canLeave 16 = .ok (.iaload, 1))) (sb_cons (sd_aload_n (by decide +kernel : decode cX8_canLeave 17 = .ok (.aload_n 0, 1)) rfl) (sb_cons (sd_iload_n (by decide +kernel : decode cX8_canLeave 18 = .ok (.iload_n 1, 1)) rfl) (sb_cons (sd_callv (n := 1) (met_X8_way l) (by decide) (by decide) wm_821 wm_819 wm_10 ⟨by decide +kernel, by decide +kernel, by decide +kernel⟩ kl_8 wm_820 wm_1120 (by decide +kernel : decode cX8_canLeave 19 = .ok (.invokevirtual 95, 3))) (sb_cons (sd_iadd (by decide +kernel : decode cX8_canLeave 22 = .ok (.iadd, 1))) (sb_cons (sd_istore_n (by decide +kernel : decode cX8_canLeave 23 = .ok (.istore_n 3, 1)) rfl) (sb_cons (sd_aload_n (by decide +kernel : decode cX8_canLeave 24 = .ok (.aload_n 0, 1)) rfl) (sb_cons (sd_aload_n (by decide +kernel : decode cX8_canLeave 25 = .ok (.aload_n 0, 1)) rfl) (sb_cons (sd_getr (k := 8) kl_8 (by decide) rfl wm_681 (by decide +kernel : decode cX8_canLeave 26 = .ok (.getfield 29, 3))) (sb_cons (sd_iload_n (by decide +kernel : decode cX8_canLeave 29 = .ok (.iload_n 1, 1)) rfl) (sb_cons (sd_iaload (by decide +kernel : decode cX8_canLeave 30 = .ok (.iaload, 1))) (sb_cons (sd_aload_n (by decide +kernel : decode cX8_canLeave 31 = .ok (.aload_n 0, 1)) rfl) (sb_cons (sd_iload_n (by decide +kernel : decode cX8_canLeave 32 = .ok (.iload_n 1, 1)) rfl) (sb_cons (sd_callv (n := 1) (met_X8_way l) (by decide) (by decide) wm_821 wm_819 wm_10 ⟨by decide +kernel, by decide +kernel, by decide +kernel⟩ kl_8 wm_820 wm_1120 (by decide +kernel : decode cX8_canLeave 33 = .ok (.invokevirtual 95, 3))) (sb_cons (sd_calls (n := 2) (met_X8_stretchFrom l) (by decide) (by decide) wm_849 wm_847 wm_10 ⟨by decide +kernel, by decide +kernel, by decide +kernel⟩ wm_848 (by decide +kernel : decode cX8_canLeave 36 = .ok (.invokestatic 106, 3))) (sb_cons (sd_callv (n := 1) (met_X8_whoIsOn l) (by decide) (by decide) wm_853 wm_851 wm_10 ⟨by decide +kernel, by decide +kernel, by decide +kernel⟩ kl_8 wm_852 wm_1127 (by decide +kernel : decode cX8_canLeave 39 = .ok (.invokevirtual 109, 3))) (sb_cons (sd_ge0 (by decide +kernel : decode cX8_canLeave 42 = .ok (.ifCond .ge 33, 3)) (by decide)) (sb_cons (sd_iload_n (by decide +kernel : decode cX8_canLeave 45 = .ok (.iload_n 3, 1)) rfl) (sb_cons (sd_aload_n (by decide +kernel : decode cX8_canLeave 46 = .ok (.aload_n 0, 1)) rfl) (sb_cons (sd_iload_n (by decide +kernel : decode cX8_canLeave 47 = .ok (.iload_n 1, 1)) rfl) (sb_cons (sd_iconst (by decide +kernel : decode cX8_canLeave 48 = .ok (.iconst 1, 1)) ⟨by decide, by decide⟩) (sb_cons (sd_callv (n := 2) (met_X8_of l) (by decide) (by decide) wm_778 wm_776 wm_10 ⟨by decide +kernel, by decide +kernel, by decide +kernel⟩ kl_8 wm_777 wm_1113 (by decide +kernel : decode cX8_canLeave 49 = .ok (.invokevirtual 78, 3))) (sb_cons (sd_eq (by decide +kernel : decode cX8_canLeave 52 = .ok (.if_icmp .eq 19, 3)) (by decide)) (sb_cons (sd_aload_n (by decide +kernel : decode cX8_canLeave 55 = .ok (.aload_n 0, 1)) rfl) (sb_cons (sd_iload_n (by decide +kernel : decode cX8_canLeave 56 = .ok (.iload_n 3, 1)) rfl) (sb_cons (sd_callv (n := 1) (met_X8_taken l) (by decide) (by decide) wm_857 wm_855 wm_10 ⟨by decide +kernel, by decide +kernel, by decide +kernel⟩ kl_8 wm_856 wm_1128 (by decide +kernel : decode cX8_canLeave 57 = .ok (.invokevirtual 112, 3))) (sb_cons (sd_aload_n (by decide +kernel : decode cX8_canLeave 60 = .ok (.aload_n 0, 1)) rfl) (sb_cons (sd_getr (k := 0) kl_8 (by decide) rfl wm_673 (by decide +kernel : decode cX8_canLeave 61 = .ok (.getfield 7, 3))) (sb_cons (sd_iconst (by decide +kernel : decode cX8_canLeave 64 = .ok (.iconst 2, 1)) ⟨by decide, by decide⟩) (sb_cons (sd_iload_n (by decide +kernel : decode cX8_canLeave 65 = .ok (.iload_n 3, 1)) rfl) (sb_cons (sd_iadd (by decide +kernel : decode cX8_canLeave 66 = .ok (.iadd, 1))) (sb_cons (sd_iaload (by decide +kernel : decode cX8_canLeave 67 = .ok (.iaload, 1))) (sb_cons (sd_ge (by decide +kernel : decode cX8_canLeave 68 = .ok (.if_icmp .ge 7, 3)) (by decide)) (sb_cons (sd_fall (x := 0)) sb_nil))))))))))))))))))))))))))))))))))))
set_option maxRecDepth 100000 in
theorem sb_X8_canLeave_71 (l : Launch) : sm_SndB l RX8 "canLeave" cX8_canLeave 4 2 3 71 [oK 1, oGo 76] := sb_cons (sd_iconst (by decide +kernel : decode cX8_canLeave 71 = .ok (.iconst 1, 1)) ⟨by decide, by decide⟩) (sb_cons (sd_goto (x := 0) (by decide +kernel : decode cX8_canLeave 72 = .ok (.goto 4, 3)) (by decide)) sb_nil)
set_option maxRecDepth 100000 in
theorem sb_X8_canLeave_75 (l : Launch) : sm_SndB l RX8 "canLeave" cX8_canLeave 4 2 3 75 [oK 0, oGo 76] := sb_cons (sd_iconst (by decide +kernel : decode cX8_canLeave 75 = .ok (.iconst 0, 1)) ⟨by decide, by decide⟩) (sb_cons (sd_fall (x := 0)) sb_nil)
set_option maxRecDepth 100000 in
theorem sb_X8_canLeave_76 (l : Launch) : sm_SndB l RX8 "canLeave" cX8_canLeave 4 2 3 76 [oZr] := sb_cons (sd_zreturn (x := 0) rfl (by decide +kernel : decode cX8_canLeave 76 = .ok (.ireturn, 1))) sb_nil
theorem sn_X8_canLeave (l : Launch) : sm_SndT l RX8 "canLeave" cX8_canLeave 4 2 3 tb_X8_canLeave := st_cons (sb_X8_canLeave_0 l) (st_cons (sb_X8_canLeave_11 l) (st_cons (sb_X8_canLeave_71 l) (st_cons (sb_X8_canLeave_75 l) (st_cons (sb_X8_canLeave_76 l) (st_nil)))))
set_option maxRecDepth 100000 in
set_option maxHeartbeats 4000000 in
theorem ok_X8_canLeave : sm_Ok tb_X8_canLeave 4 0 0 p_X8_canLeave f_X8_canLeave := by
  intro as w hp ha hw
  match as, hp with
  | [.inr (.inl m), .inl x, .inl t], hp =>
  refine ⟨Nat.le_of_ble_eq_true rfl, fun Z hZ => ?_⟩
  obtain ⟨rfl, ⟨⟨hT, hv⟩, hd⟩, h1, h2⟩ := hp
  have hm := vOK_many hv
  have hx := hd x h1 h2
  simp only [mSh] at hx
  have hwp := mWay_pm (wI w 155) x
  have hq := vOK_sh hv h1 h2
  have hD : mDay w := ⟨⟨hT, hv⟩, hd⟩
  have hO : mOK w := ⟨hT, hv⟩
  refine hZ (fun _ => false) 40 0 _ _ _ _ _ ?_
  simp only [sm_run, sm_blk, sm_get, sm_ent, sm_ents, sm_wds, sm_wd, sm_nl, sm_pop, sm_back, sm_cases, oK, oLK, oL, oI, oA, oJ, oIs, oAs, oJs, oInc, oAdd, oSub, oMul, oDiv, oRem, oNeg, oAnd, oOr, oShl, oI2c, oI2l, oL2i, oLand, oLor, oLshl, oLshr, oLushr, oLcmp, oDup, oDup2, oPop, oGo, oFg, oEq, oNe, oLt, oGe, oGt, oLe, oEq0, oNe0, oLt0, oGe0, oGt0, oLe0, oSw, oGi, oGr, oPi, oPz, oPr, oLen, oIl, oZl, oCl, oRl, oIst, oZst, oCst, oRst, oCopy, oNew, oNa, oNa2, oObj, oCs, oCv, oCi, oIr, oZr, oVr, Nat.beq, List.getElem?_cons_zero, List.getElem?_cons_succ, List.set_cons_zero, List.set_cons_succ, List.length_cons, List.length_nil, List.nil_append, List.cons_append, List.append_nil, List.replicate_succ, List.replicate_zero, Nat.reduceAdd, Nat.reduceSub, Nat.reduceLT, Nat.reduceLeDiff, Nat.reduceBEq, true_and, and_true, Nat.zero_add, Nat.add_zero, Nat.le_refl, Option.some.injEq, exists_eq_left', true_or, or_true, or_false, false_or, reduceCtorEq, Prod.mk.injEq, Sum.inl.injEq, and_self, false_and, and_false, not_true_eq_false, not_false_eq_true, false_implies, true_implies, sm_r, Int.add_zero, Int.zero_add, wI_wsI, wS_wsI, wR_wsI, wI_wCp, wS_wCp, wR_wCp, Nat.reduceEqDiff, reduceIte, sT_iff, sT_iffC, wIf_ne, ne_eq, tb_X8_canLeave, p_X8_isReady, p_X8_of, p_X8_stretchFrom, p_X8_taken, p_X8_way, p_X8_whoIsOn, f_X8_isReady, f_X8_of, f_X8_stretchFrom, f_X8_taken, f_X8_way, f_X8_whoIsOn, p_X8_canLeave, f_X8_canLeave, sS_154 hT, sR_154_0 hT, sS_155 hT, sR_154_7 hT, sS_160 hT, sR_154_8 hT, sS_161 hT]
  repeat' (first | assumption | with_reducible refine And.intro ?_ ?_ | intro _)
  all_goals first
    | omega
    | rfl
    | (split <;> omega)
    | grind [mCan]
    | skip
theorem met_X8_canLeave (l : Launch) : sm_Met l yX8_canLeave cX8_canLeave 4 (some .boolean) 3 0 0 p_X8_canLeave f_X8_canLeave := sm_met 2 (Or.inr (Or.inr ⟨rfl, rfl⟩)) (by decide +kernel) (sn_X8_canLeave l) ok_X8_canLeave
/-- the running times from a station a on over n stretches, and the stops between -/
def rsum (v : Int → Int) (a n : Int) : Int := itI (fun i r => r + v (10 + (a + i))) 0 n
theorem rsum_s (v : Int → Int) (a : Int) {n : Int} (h : 0 ≤ n) : rsum v a (n + 1) = rsum v a n + v (10 + (a + n)) := itI_s _ _ h
theorem rsum_p (v : Int → Int) (a : Int) {n : Int} (h : 0 ≤ n) : rsum v (a - 1) (n + 1) = rsum v a n + v (10 + (a - 1)) := by
  obtain ⟨k, rfl⟩ : ∃ k : Nat, n = k := ⟨n.toNat, by omega⟩
  induction k with
  | zero =>
    rw [rsum_s v (a - 1) (by omega)]
    show (0 : Int) + v (10 + (a - 1 + 0)) = 0 + v (10 + (a - 1))
    rw [Int.add_zero]
  | succ k ih =>
    have h1 := rsum_s v (a - 1) (n := ((k + 1 : Nat) : Int)) (by omega)
    have h2 := rsum_s v a (n := (k : Int)) (by omega)
    have h3 := ih (by omega)
    have e : ((k + 1 : Nat) : Int) = (k : Int) + 1 := by omega
    rw [e] at h1 ⊢
    rw [h1, h3, h2, show a - 1 + ((k : Int) + 1) = a + k by omega]
    omega
theorem rsum_b {v : Int → Int} (hv : vOK v) {a n : Int} (ha : 0 ≤ a) (hn : 0 ≤ n) (h : a + n ≤ 7) : 0 ≤ rsum v a n ∧ rsum v a n ≤ 30 * n := by
  refine itI_ind (fun i r => 0 ≤ r ∧ r ≤ 30 * i) n ⟨Int.le_refl _, Int.le_refl _⟩ (fun i r h0 h1 hr => ?_) n hn (Int.le_refl _)
  have := vOK_ru hv (k := a + i) (by omega) (by omega)
  omega
def wT (v : Int → Int) (sp a b : Int) : Int := rsum v a (b - a) + (if a < b then b - a - 1 else 0) * sp
theorem wT_0 (v : Int → Int) (sp a : Int) : wT v sp a a = 0 := by
  unfold wT
  rw [Int.sub_self, if_neg (Int.lt_irrefl _), Int.zero_mul]
  rfl
theorem wT_up (v : Int → Int) (sp : Int) {a b : Int} (h : a ≤ b) : wT v sp a (b + 1) = wT v sp a b + v (10 + b) + (if b = a then 0 else sp) := by
  unfold wT
  rw [show b + 1 - a = (b - a) + 1 by omega, rsum_s v a (by omega), show a + (b - a) = b by omega, if_pos (by omega)]
  by_cases e : b = a
  · subst e
    rw [if_neg (by omega), if_pos rfl, show b - b + 1 - 1 = 0 by omega, Int.zero_mul]
    omega
  · rw [if_pos (by omega), if_neg e, show b - a + 1 - 1 = (b - a - 1) + 1 by omega, Int.add_mul, Int.one_mul]
    omega
theorem wT_dn (v : Int → Int) (sp : Int) {a b : Int} (h : a ≤ b) : wT v sp (a - 1) b = wT v sp a b + v (10 + (a - 1)) + (if a = b then 0 else sp) := by
  unfold wT
  rw [show b - (a - 1) = (b - a) + 1 by omega, rsum_p v a (by omega), if_pos (by omega)]
  by_cases e : a = b
  · subst e
    rw [if_neg (by omega), if_pos rfl, show a - a + 1 - 1 = 0 by omega, Int.zero_mul]
    omega
  · rw [if_pos (by omega), if_neg e, show b - a + 1 - 1 = (b - a - 1) + 1 by omega, Int.add_mul, Int.one_mul]
    omega
theorem mul_b {c sp : Int} (h0 : 0 ≤ c) (h1 : c ≤ 7) (s0 : 0 ≤ sp) (s1 : sp ≤ 20) : 0 ≤ c * sp ∧ c * sp ≤ 140 :=
  ⟨Int.mul_nonneg h0 s0, by have := Int.mul_le_mul h1 s1 s0 (by omega); omega⟩
theorem wT_b {v : Int → Int} (hv : vOK v) {sp a b : Int} (s0 : 0 ≤ sp) (s1 : sp ≤ 20) (ha : 0 ≤ a) (hab : a ≤ b) (hb : b ≤ 7) : 0 ≤ wT v sp a b ∧ wT v sp a b ≤ 400 := by
  unfold wT
  have h1 := rsum_b hv (a := a) (n := b - a) ha (by omega) (by omega)
  have h2 := mul_b (c := if a < b then b - a - 1 else 0) (by split <;> omega) (by split <;> omega) s0 s1
  omega
/-- the time that a shuttle has from a station on -/
def vTime (v : Int → Int) (x fr : Int) : Int := if fr < v (17 + 5 * x + 1) then wT v (v (17 + 5 * x + 3)) fr (v (17 + 5 * x + 1)) else wT v (v (17 + 5 * x + 3)) (v (17 + 5 * x + 1)) fr
theorem vTime_up {v : Int → Int} {x fr : Int} (h : fr ≤ v (17 + 5 * x + 1)) : vTime v x fr = wT v (v (17 + 5 * x + 3)) fr (v (17 + 5 * x + 1)) := by
  unfold vTime
  split
  · rfl
  · rw [show fr = v (17 + 5 * x + 1) by omega]
theorem vTime_dn {v : Int → Int} {x fr : Int} (h : v (17 + 5 * x + 1) ≤ fr) : vTime v x fr = wT v (v (17 + 5 * x + 3)) (v (17 + 5 * x + 1)) fr := by
  unfold vTime
  split
  · omega
  · rfl
theorem sFrom_1 (st : Int) : sFrom st 1 = st := rfl
theorem sFrom_m (st : Int) : sFrom st (-1) = st - 1 := rfl
def p_X8_timeOf : List sm_V → sm_W → Prop
  | [.inr (.inl m), .inl x, .inl fr], w => m = 154 ∧ mOK w ∧ 0 ≤ x ∧ x < wI w 155 1 ∧ 0 ≤ fr ∧ fr ≤ 7 ∧ (wI w 155 (17 + 5 * x) < wI w 155 (17 + 5 * x + 1) → fr ≤ wI w 155 (17 + 5 * x + 1)) ∧ (wI w 155 (17 + 5 * x + 1) < wI w 155 (17 + 5 * x) → wI w 155 (17 + 5 * x + 1) ≤ fr)
  | _, _ => False
def f_X8_timeOf : sm_F
  | [.inr (.inl m), .inl x, .inl fr], w => (some (.inl (vTime (wI w 155) x fr)), w)
  | _, w => (none, w)
def tb_X8_timeOf : List (Nat × List sm_O) := [(0, [oK 0, oIs 3, oI 2, oIs 4, oGo 5]),
  (5, [oI 4, oA 0, oI 1, oK 1, oCv 8 30 p_X8_of f_X8_of 0 0 3, oEq 69, oI 3, oA 0, oGr 8 30 0, oK 10, oI 4, oA 0, oI 1, oCv 8 30 p_X8_way f_X8_way 0 0 2, oCs p_X8_stretchFrom f_X8_stretchFrom 0 0 2, oAdd, oIl, oAdd, oIs 3, oI 3, oI 4, oI 2, oNe 48, oK 0, oGo 54]),
  (48, [oA 0, oI 1, oK 3, oCv 8 30 p_X8_of f_X8_of 0 0 3, oGo 54]),
  (54, [oAdd, oIs 3, oI 4, oA 0, oI 1, oCv 8 30 p_X8_way f_X8_way 0 0 2, oAdd, oIs 4, oGo 5]),
  (69, [oI 3, oIr])]
set_option maxRecDepth 100000 in
theorem sb_X8_timeOf_0 (l : Launch) : sm_SndB l RX8 "timeOf" cX8_timeOf 5 1 2 0 [oK 0, oIs 3, oI 2, oIs 4, oGo 5] := sb_cons (sd_iconst (by decide +kernel : decode cX8_timeOf 0 = .ok (.iconst 0, 1)) ⟨by decide, by decide⟩) (sb_cons (sd_istore_n (by decide +kernel : decode cX8_timeOf 1 = .ok (.istore_n 3, 1)) rfl) (sb_cons (sd_iload_n (by decide +kernel : decode cX8_timeOf 2 = .ok (.iload_n 2, 1)) rfl) (sb_cons (sd_istore (by decide +kernel : decode cX8_timeOf 3 = .ok (.istore 4, 2))) (sb_cons (sd_fall (x := 0)) sb_nil))))
set_option maxRecDepth 100000 in
theorem sb_X8_timeOf_5 (l : Launch) : sm_SndB l RX8 "timeOf" cX8_timeOf 5 1 2 5 [oI 4, oA 0, oI 1, oK 1, oCv 8 30 p_X8_of f_X8_of 0 0 3, oEq 69, oI 3, oA 0, oGr 8 30 0, oK 10, oI 4, oA 0, oI 1, oCv 8 30 p_X8_way f_X8_way 0 0 2, oCs p_X8_stretchFrom f_X8_stretchFrom 0 0 2, oAdd, oIl, oAdd, oIs 3, oI 3, oI 4, oI 2, oNe 48, oK 0, oGo 54] := sb_cons (sd_iload (by decide +kernel : decode cX8_timeOf 5 = .ok (.iload 4, 2))) (sb_cons (sd_aload_n (by decide +kernel : decode cX8_timeOf 7 = .ok (.aload_n 0, 1)) rfl) (sb_cons (sd_iload_n (by decide +kernel : decode cX8_timeOf 8 = .ok (.iload_n 1, 1)) rfl) (sb_cons (sd_iconst (by decide +kernel : decode cX8_timeOf 9 = .ok (.iconst 1, 1)) ⟨by decide, by decide⟩) (sb_cons (sd_callv (n := 2) (met_X8_of l) (by decide) (by decide) wm_778 wm_776 wm_10 ⟨by decide +kernel, by decide +kernel, by decide +kernel⟩ kl_8 wm_777 wm_1113 (by decide +kernel : decode cX8_timeOf 10 = .ok (.invokevirtual 78, 3))) (sb_cons (sd_eq (by decide +kernel : decode cX8_timeOf 13 = .ok (.if_icmp .eq 56, 3)) (by decide)) (sb_cons (sd_iload_n (by decide +kernel : decode cX8_timeOf 16 = .ok (.iload_n 3, 1)) rfl) (sb_cons (sd_aload_n (by decide +kernel : decode cX8_timeOf 17 = .ok (.aload_n 0, 1)) rfl) (sb_cons (sd_getr (k := 0) kl_8 (by decide) rfl wm_673 (by decide +kernel : decode cX8_timeOf 18 = .ok (.getfield 7, 3))) (sb_cons (sd_bipush (by decide +kernel : decode cX8_timeOf 21 = .ok (.bipush 10, 2)) ⟨by decide, by decide⟩ (by decide)) (sb_cons (sd_iload (by decide +kernel : decode cX8_timeOf 23 = .ok (.iload 4, 2))) (sb_cons (sd_aload_n (by decide +kernel : decode cX8_timeOf 25 = .ok (.aload_n 0, 1)) rfl) (sb_cons (sd_iload_n (by decide +kernel : decode cX8_timeOf 26 = .ok (.iload_n 1, 1)) rfl) (sb_cons (sd_callv (n := 1) (met_X8_way l) (by decide) (by decide) wm_821 wm_819 wm_10 ⟨by decide +kernel, by decide +kernel, by decide +kernel⟩ kl_8 wm_820 wm_1120 (by decide +kernel : decode cX8_timeOf 27 = .ok (.invokevirtual 95, 3))) (sb_cons (sd_calls (n := 2) (met_X8_stretchFrom l) (by decide) (by decide) wm_849 wm_847 wm_10 ⟨by decide +kernel, by decide +kernel, by decide +kernel⟩ wm_848 (by decide +kernel : decode cX8_timeOf 30 = .ok (.invokestatic 106, 3))) (sb_cons (sd_iadd (by decide +kernel : decode cX8_timeOf 33 = .ok (.iadd, 1))) (sb_cons (sd_iaload (by decide +kernel : decode cX8_timeOf 34 = .ok (.iaload, 1))) (sb_cons (sd_iadd (by decide +kernel : decode cX8_timeOf 35 = .ok (.iadd, 1))) (sb_cons (sd_istore_n (by decide +kernel : decode cX8_timeOf 36 = .ok (.istore_n 3, 1)) rfl) (sb_cons (sd_iload_n (by decide +kernel : decode cX8_timeOf 37 = .ok (.iload_n 3, 1)) rfl) (sb_cons (sd_iload (by decide +kernel : decode cX8_timeOf 38 = .ok (.iload 4, 2))) (sb_cons (sd_iload_n (by decide +kernel : decode cX8_timeOf 40 = .ok (.iload_n 2, 1)) rfl) (sb_cons (sd_ne (by decide +kernel : decode cX8_timeOf 41 = .ok (.if_icmp .ne 7, 3)) (by decide)) (sb_cons (sd_iconst (by decide +kernel : decode cX8_timeOf 44 = .ok (.iconst 0, 1)) ⟨by decide, by decide⟩) (sb_cons (sd_goto (x := 0) (by decide +kernel : decode cX8_timeOf 45 = .ok (.goto 9, 3)) (by decide)) sb_nil))))))))))))))))))))))))
set_option maxRecDepth 100000 in
theorem sb_X8_timeOf_48 (l : Launch) : sm_SndB l RX8 "timeOf" cX8_timeOf 5 1 2 48 [oA 0, oI 1, oK 3, oCv 8 30 p_X8_of f_X8_of 0 0 3, oGo 54] := sb_cons (sd_aload_n (by decide +kernel : decode cX8_timeOf 48 = .ok (.aload_n 0, 1)) rfl) (sb_cons (sd_iload_n (by decide +kernel : decode cX8_timeOf 49 = .ok (.iload_n 1, 1)) rfl) (sb_cons (sd_iconst (by decide +kernel : decode cX8_timeOf 50 = .ok (.iconst 3, 1)) ⟨by decide, by decide⟩) (sb_cons (sd_callv (n := 2) (met_X8_of l) (by decide) (by decide) wm_778 wm_776 wm_10 ⟨by decide +kernel, by decide +kernel, by decide +kernel⟩ kl_8 wm_777 wm_1113 (by decide +kernel : decode cX8_timeOf 51 = .ok (.invokevirtual 78, 3))) (sb_cons (sd_fall (x := 0)) sb_nil))))
set_option maxRecDepth 100000 in
theorem sb_X8_timeOf_54 (l : Launch) : sm_SndB l RX8 "timeOf" cX8_timeOf 5 1 2 54 [oAdd, oIs 3, oI 4, oA 0, oI 1, oCv 8 30 p_X8_way f_X8_way 0 0 2, oAdd, oIs 4, oGo 5] := sb_cons (sd_iadd (by decide +kernel : decode cX8_timeOf 54 = .ok (.iadd, 1))) (sb_cons (sd_istore_n (by decide +kernel : decode cX8_timeOf 55 = .ok (.istore_n 3, 1)) rfl) (sb_cons (sd_iload (by decide +kernel : decode cX8_timeOf 56 = .ok (.iload 4, 2))) (sb_cons (sd_aload_n (by decide +kernel : decode cX8_timeOf 58 = .ok (.aload_n 0, 1)) rfl) (sb_cons (sd_iload_n (by decide +kernel : decode cX8_timeOf 59 = .ok (.iload_n 1, 1)) rfl) (sb_cons (sd_callv (n := 1) (met_X8_way l) (by decide) (by decide) wm_821 wm_819 wm_10 ⟨by decide +kernel, by decide +kernel, by decide +kernel⟩ kl_8 wm_820 wm_1120 (by decide +kernel : decode cX8_timeOf 60 = .ok (.invokevirtual 95, 3))) (sb_cons (sd_iadd (by decide +kernel : decode cX8_timeOf 63 = .ok (.iadd, 1))) (sb_cons (sd_istore (by decide +kernel : decode cX8_timeOf 64 = .ok (.istore 4, 2))) (sb_cons (sd_goto (x := 0) (by decide +kernel : decode cX8_timeOf 66 = .ok (.goto (-61), 3)) (by decide)) sb_nil))))))))
set_option maxRecDepth 100000 in
theorem sb_X8_timeOf_69 (l : Launch) : sm_SndB l RX8 "timeOf" cX8_timeOf 5 1 2 69 [oI 3, oIr] := sb_cons (sd_iload_n (by decide +kernel : decode cX8_timeOf 69 = .ok (.iload_n 3, 1)) rfl) (sb_cons (sd_ireturn (x := 0) rfl (by decide +kernel : decode cX8_timeOf 70 = .ok (.ireturn, 1))) sb_nil)
theorem sn_X8_timeOf (l : Launch) : sm_SndT l RX8 "timeOf" cX8_timeOf 5 1 2 tb_X8_timeOf := st_cons (sb_X8_timeOf_0 l) (st_cons (sb_X8_timeOf_5 l) (st_cons (sb_X8_timeOf_48 l) (st_cons (sb_X8_timeOf_54 l) (st_cons (sb_X8_timeOf_69 l) (st_nil)))))
set_option maxRecDepth 100000 in
set_option maxHeartbeats 4000000 in
theorem ok_X8_timeOf : sm_Ok tb_X8_timeOf 5 0 0 p_X8_timeOf f_X8_timeOf := by
  intro as w hp ha hw
  match as, hp with
  | [.inr (.inl m), .inl x, .inl fr], hp =>
  refine ⟨Nat.le_of_ble_eq_true rfl, fun Z hZ => ?_⟩
  obtain ⟨rfl, ⟨hT, hv⟩, h1, h2, h3, h4, h5, h6⟩ := hp
  have hm := vOK_many hv
  have hq := vOK_sh hv h1 h2
  rcases mWay_pm (wI w 155) x with ⟨hw1, hw2⟩ | ⟨hw1, hw2⟩
  · have hvt := vTime_up (v := wI w 155) (x := x) (fr := fr) (by omega)
    have hl := sm_loopI Z 5 0 (wI w 155 (17 + 5 * x + 1) - fr) (fun j => [some (.inr (.inl 154)), some (.inl x), some (.inl fr), some (.inl (wT (wI w 155) (wI w 155 (17 + 5 * x + 3)) fr (fr + j))), some (.inl (fr + j))]) (fun _ => w) 0 0 (by omega) (fun j h0 hj ih => by
    have hb := wT_b hv (sp := wI w 155 (17 + 5 * x + 3)) (a := fr) (b := fr + j) (by omega) (by omega) (by omega) (by omega) (by omega)
    have hu := wT_up (wI w 155) (wI w 155 (17 + 5 * x + 3)) (a := fr) (b := fr + j) (by omega)
    have hru := fun hlt => vOK_ru hv (k := fr + j) (by omega) hlt
    rw [← Int.add_assoc, hu] at ih
    refine hZ (fun u => Nat.beq u 5) 40 5 _ _ _ _ _ ?_
    simp only [sm_run, sm_blk, sm_get, sm_ent, sm_ents, sm_wds, sm_wd, sm_nl, sm_pop, sm_back, sm_cases, oK, oLK, oL, oI, oA, oJ, oIs, oAs, oJs, oInc, oAdd, oSub, oMul, oDiv, oRem, oNeg, oAnd, oOr, oShl, oI2c, oI2l, oL2i, oLand, oLor, oLshl, oLshr, oLushr, oLcmp, oDup, oDup2, oPop, oGo, oFg, oEq, oNe, oLt, oGe, oGt, oLe, oEq0, oNe0, oLt0, oGe0, oGt0, oLe0, oSw, oGi, oGr, oPi, oPz, oPr, oLen, oIl, oZl, oCl, oRl, oIst, oZst, oCst, oRst, oCopy, oNew, oNa, oNa2, oObj, oCs, oCv, oCi, oIr, oZr, oVr, Nat.beq, List.getElem?_cons_zero, List.getElem?_cons_succ, List.set_cons_zero, List.set_cons_succ, List.length_cons, List.length_nil, List.nil_append, List.cons_append, List.append_nil, List.replicate_succ, List.replicate_zero, Nat.reduceAdd, Nat.reduceSub, Nat.reduceLT, Nat.reduceLeDiff, Nat.reduceBEq, true_and, and_true, Nat.zero_add, Nat.add_zero, Nat.le_refl, Option.some.injEq, exists_eq_left', true_or, or_true, or_false, false_or, reduceCtorEq, Prod.mk.injEq, Sum.inl.injEq, and_self, false_and, and_false, not_true_eq_false, not_false_eq_true, false_implies, true_implies, sm_r, Int.add_zero, Int.zero_add, wI_wsI, wS_wsI, wR_wsI, wI_wCp, wS_wCp, wR_wCp, Nat.reduceEqDiff, reduceIte, sT_iff, sT_iffC, wIf_ne, ne_eq, tb_X8_timeOf, p_X8_of, p_X8_stretchFrom, p_X8_way, f_X8_of, f_X8_stretchFrom, f_X8_way, p_X8_timeOf, f_X8_timeOf, sS_154 hT, sR_154_0 hT, sS_155 hT, hw1, sFrom_1, hvt]
    repeat' (first | assumption | with_reducible refine And.intro ?_ ?_ | intro _)
    all_goals first
      | omega
      | rfl
      | (split <;> omega)
      | (have k9 := ih (by omega)
         (repeat' split at k9) <;> first | exact k9 | omega)
      | (congr 1; omega)
      | grind
      | skip
    )
    rw [Int.add_zero, wT_0] at hl
    refine hZ (fun u => Nat.beq u 5) 40 0 _ _ _ _ _ ?_
    simp only [sm_run, sm_blk, sm_get, sm_ent, sm_ents, sm_wds, sm_wd, sm_nl, sm_pop, sm_back, sm_cases, oK, oLK, oL, oI, oA, oJ, oIs, oAs, oJs, oInc, oAdd, oSub, oMul, oDiv, oRem, oNeg, oAnd, oOr, oShl, oI2c, oI2l, oL2i, oLand, oLor, oLshl, oLshr, oLushr, oLcmp, oDup, oDup2, oPop, oGo, oFg, oEq, oNe, oLt, oGe, oGt, oLe, oEq0, oNe0, oLt0, oGe0, oGt0, oLe0, oSw, oGi, oGr, oPi, oPz, oPr, oLen, oIl, oZl, oCl, oRl, oIst, oZst, oCst, oRst, oCopy, oNew, oNa, oNa2, oObj, oCs, oCv, oCi, oIr, oZr, oVr, Nat.beq, List.getElem?_cons_zero, List.getElem?_cons_succ, List.set_cons_zero, List.set_cons_succ, List.length_cons, List.length_nil, List.nil_append, List.cons_append, List.append_nil, List.replicate_succ, List.replicate_zero, Nat.reduceAdd, Nat.reduceSub, Nat.reduceLT, Nat.reduceLeDiff, Nat.reduceBEq, true_and, and_true, Nat.zero_add, Nat.add_zero, Nat.le_refl, Option.some.injEq, exists_eq_left', true_or, or_true, or_false, false_or, reduceCtorEq, Prod.mk.injEq, Sum.inl.injEq, and_self, false_and, and_false, not_true_eq_false, not_false_eq_true, false_implies, true_implies, sm_r, Int.add_zero, Int.zero_add, wI_wsI, wS_wsI, wR_wsI, wI_wCp, wS_wCp, wR_wCp, Nat.reduceEqDiff, reduceIte, sT_iff, sT_iffC, wIf_ne, ne_eq, tb_X8_timeOf, p_X8_of, p_X8_stretchFrom, p_X8_way, f_X8_of, f_X8_stretchFrom, f_X8_way, p_X8_timeOf, f_X8_timeOf]
    repeat' (first | assumption | with_reducible refine And.intro ?_ ?_ | intro _)
    all_goals first
      | omega
      | rfl
      | (split <;> omega)
      | (have k9 := ih (by omega)
         (repeat' split at k9) <;> first | exact k9 | omega)
      | (congr 1; omega)
      | skip
  · have hvt := vTime_dn (v := wI w 155) (x := x) (fr := fr) (by omega)
    have hl := sm_loopI Z 5 0 (fr - wI w 155 (17 + 5 * x + 1)) (fun j => [some (.inr (.inl 154)), some (.inl x), some (.inl fr), some (.inl (wT (wI w 155) (wI w 155 (17 + 5 * x + 3)) (fr - j) fr)), some (.inl (fr - j))]) (fun _ => w) 0 0 (by omega) (fun j h0 hj ih => by
    have hb := wT_b hv (sp := wI w 155 (17 + 5 * x + 3)) (a := fr - j) (b := fr) (by omega) (by omega) (by omega) (by omega) (by omega)
    have hu := wT_dn (wI w 155) (wI w 155 (17 + 5 * x + 3)) (a := fr - j) (b := fr) (by omega)
    have hru := fun hlt => vOK_ru hv (k := fr - j - 1) hlt (by omega)
    rw [show fr - (j + 1) = fr - j - 1 by omega, hu] at ih
    refine hZ (fun u => Nat.beq u 5) 40 5 _ _ _ _ _ ?_
    simp only [sm_run, sm_blk, sm_get, sm_ent, sm_ents, sm_wds, sm_wd, sm_nl, sm_pop, sm_back, sm_cases, oK, oLK, oL, oI, oA, oJ, oIs, oAs, oJs, oInc, oAdd, oSub, oMul, oDiv, oRem, oNeg, oAnd, oOr, oShl, oI2c, oI2l, oL2i, oLand, oLor, oLshl, oLshr, oLushr, oLcmp, oDup, oDup2, oPop, oGo, oFg, oEq, oNe, oLt, oGe, oGt, oLe, oEq0, oNe0, oLt0, oGe0, oGt0, oLe0, oSw, oGi, oGr, oPi, oPz, oPr, oLen, oIl, oZl, oCl, oRl, oIst, oZst, oCst, oRst, oCopy, oNew, oNa, oNa2, oObj, oCs, oCv, oCi, oIr, oZr, oVr, Nat.beq, List.getElem?_cons_zero, List.getElem?_cons_succ, List.set_cons_zero, List.set_cons_succ, List.length_cons, List.length_nil, List.nil_append, List.cons_append, List.append_nil, List.replicate_succ, List.replicate_zero, Nat.reduceAdd, Nat.reduceSub, Nat.reduceLT, Nat.reduceLeDiff, Nat.reduceBEq, true_and, and_true, Nat.zero_add, Nat.add_zero, Nat.le_refl, Option.some.injEq, exists_eq_left', true_or, or_true, or_false, false_or, reduceCtorEq, Prod.mk.injEq, Sum.inl.injEq, and_self, false_and, and_false, not_true_eq_false, not_false_eq_true, false_implies, true_implies, sm_r, Int.add_zero, Int.zero_add, wI_wsI, wS_wsI, wR_wsI, wI_wCp, wS_wCp, wR_wCp, Nat.reduceEqDiff, reduceIte, sT_iff, sT_iffC, wIf_ne, ne_eq, tb_X8_timeOf, p_X8_of, p_X8_stretchFrom, p_X8_way, f_X8_of, f_X8_stretchFrom, f_X8_way, p_X8_timeOf, f_X8_timeOf, sS_154 hT, sR_154_0 hT, sS_155 hT, hw1, sFrom_m, hvt]
    repeat' (first | assumption | with_reducible refine And.intro ?_ ?_ | intro _)
    all_goals first
      | omega
      | rfl
      | (split <;> omega)
      | (have k9 := ih (by omega)
         (repeat' split at k9) <;> first | exact k9 | omega)
      | (congr 1; omega)
      | grind
      | skip
    )
    rw [Int.sub_zero, wT_0] at hl
    refine hZ (fun u => Nat.beq u 5) 40 0 _ _ _ _ _ ?_
    simp only [sm_run, sm_blk, sm_get, sm_ent, sm_ents, sm_wds, sm_wd, sm_nl, sm_pop, sm_back, sm_cases, oK, oLK, oL, oI, oA, oJ, oIs, oAs, oJs, oInc, oAdd, oSub, oMul, oDiv, oRem, oNeg, oAnd, oOr, oShl, oI2c, oI2l, oL2i, oLand, oLor, oLshl, oLshr, oLushr, oLcmp, oDup, oDup2, oPop, oGo, oFg, oEq, oNe, oLt, oGe, oGt, oLe, oEq0, oNe0, oLt0, oGe0, oGt0, oLe0, oSw, oGi, oGr, oPi, oPz, oPr, oLen, oIl, oZl, oCl, oRl, oIst, oZst, oCst, oRst, oCopy, oNew, oNa, oNa2, oObj, oCs, oCv, oCi, oIr, oZr, oVr, Nat.beq, List.getElem?_cons_zero, List.getElem?_cons_succ, List.set_cons_zero, List.set_cons_succ, List.length_cons, List.length_nil, List.nil_append, List.cons_append, List.append_nil, List.replicate_succ, List.replicate_zero, Nat.reduceAdd, Nat.reduceSub, Nat.reduceLT, Nat.reduceLeDiff, Nat.reduceBEq, true_and, and_true, Nat.zero_add, Nat.add_zero, Nat.le_refl, Option.some.injEq, exists_eq_left', true_or, or_true, or_false, false_or, reduceCtorEq, Prod.mk.injEq, Sum.inl.injEq, and_self, false_and, and_false, not_true_eq_false, not_false_eq_true, false_implies, true_implies, sm_r, Int.add_zero, Int.zero_add, wI_wsI, wS_wsI, wR_wsI, wI_wCp, wS_wCp, wR_wCp, Nat.reduceEqDiff, reduceIte, sT_iff, sT_iffC, wIf_ne, ne_eq, tb_X8_timeOf, p_X8_of, p_X8_stretchFrom, p_X8_way, f_X8_of, f_X8_stretchFrom, f_X8_way, p_X8_timeOf, f_X8_timeOf]
    repeat' (first | assumption | with_reducible refine And.intro ?_ ?_ | intro _)
    all_goals first
      | omega
      | rfl
      | (split <;> omega)
      | (have k9 := ih (by omega)
         (repeat' split at k9) <;> first | exact k9 | omega)
      | (congr 1; omega)
      | skip

theorem met_X8_timeOf (l : Launch) : sm_Met l yX8_timeOf cX8_timeOf 5 (some .int) 2 0 0 p_X8_timeOf f_X8_timeOf := sm_met 1 (Or.inr (Or.inl ⟨rfl, rfl⟩)) (by decide +kernel) (sn_X8_timeOf l) ok_X8_timeOf
def mAhead (w : sm_W) (x y : Int) : Int := if wI w 155 0 = 1 ∧ mReady w x ≠ mReady w y then (if mReady w x < mReady w y then 1 else 0) else (if wI w 155 0 = 2 ∧ vTime (wI w 155) x (wI w 161 x) ≠ vTime (wI w 155) y (wI w 161 y) then (if vTime (wI w 155) y (wI w 161 y) < vTime (wI w 155) x (wI w 161 x) then 1 else 0) else (if wI w 155 (17 + 5 * x + 4) ≠ wI w 155 (17 + 5 * y + 4) then (if wI w 155 (17 + 5 * y + 4) < wI w 155 (17 + 5 * x + 4) then 1 else 0) else (if x < y then 1 else 0)))
def p_X8_goesAhead : List sm_V → sm_W → Prop
  | [.inr (.inl m), .inl x, .inl y], w => m = 154 ∧ mDay w ∧ 0 ≤ x ∧ x < wI w 155 1 ∧ wI w 160 x ≤ 1 ∧ 0 ≤ y ∧ y < wI w 155 1 ∧ wI w 160 y ≤ 1
  | _, _ => False
def f_X8_goesAhead : sm_F
  | [.inr (.inl m), .inl x, .inl y], w => (some (.inl (mAhead w x y)), w)
  | _, w => (none, w)
def tb_X8_goesAhead : List (Nat × List sm_O) := [(0, [oA 0, oGr 8 30 0, oK 0, oIl, oIs 3, oI 3, oK 1, oNe 44, oA 0, oI 1, oCv 8 30 p_X8_readyAt f_X8_readyAt 0 0 2, oA 0, oI 2, oCv 8 30 p_X8_readyAt f_X8_readyAt 0 0 2, oEq 44, oA 0, oI 1, oCv 8 30 p_X8_readyAt f_X8_readyAt 0 0 2, oA 0, oI 2, oCv 8 30 p_X8_readyAt f_X8_readyAt 0 0 2, oGe 42, oK 1, oGo 43]),
  (42, [oK 0, oGo 43]),
  (43, [oZr]),
  (44, [oI 3, oK 2, oNe 105, oA 0, oI 1, oA 0, oGr 8 30 8, oI 1, oIl, oCv 8 30 p_X8_timeOf f_X8_timeOf 0 0 3, oA 0, oI 2, oA 0, oGr 8 30 8, oI 2, oIl, oCv 8 30 p_X8_timeOf f_X8_timeOf 0 0 3, oEq 105, oA 0, oI 1, oA 0, oGr 8 30 8, oI 1, oIl, oCv 8 30 p_X8_timeOf f_X8_timeOf 0 0 3, oA 0, oI 2, oA 0, oGr 8 30 8, oI 2, oIl, oCv 8 30 p_X8_timeOf f_X8_timeOf 0 0 3, oLe 103, oK 1, oGo 104]),
  (103, [oK 0, oGo 104]),
  (104, [oZr]),
  (105, [oA 0, oI 1, oK 4, oCv 8 30 p_X8_of f_X8_of 0 0 3, oA 0, oI 2, oK 4, oCv 8 30 p_X8_of f_X8_of 0 0 3, oEq 143, oA 0, oI 1, oK 4, oCv 8 30 p_X8_of f_X8_of 0 0 3, oA 0, oI 2, oK 4, oCv 8 30 p_X8_of f_X8_of 0 0 3, oLe 139, oK 1, oGo 153]),
  (139, [oK 0, oGo 153]),
  (143, [oI 1, oI 2, oGe 152, oK 1, oGo 153]),
  (152, [oK 0, oGo 153]),
  (153, [oZr])]
set_option maxRecDepth 100000 in
theorem sb_X8_goesAhead_0 (l : Launch) : sm_SndB l RX8 "goesAhead" cX8_goesAhead 4 2 3 0 [oA 0, oGr 8 30 0, oK 0, oIl, oIs 3, oI 3, oK 1, oNe 44, oA 0, oI 1, oCv 8 30 p_X8_readyAt f_X8_readyAt 0 0 2, oA 0, oI 2, oCv 8 30 p_X8_readyAt f_X8_readyAt 0 0 2, oEq 44, oA 0, oI 1, oCv 8 30 p_X8_readyAt f_X8_readyAt 0 0 2, oA 0, oI 2, oCv 8 30 p_X8_readyAt f_X8_readyAt 0 0 2, oGe 42, oK 1, oGo 43] := sb_cons (sd_aload_n (by decide +kernel : decode cX8_goesAhead 0 = .ok (.aload_n 0, 1)) rfl) (sb_cons (sd_getr (k := 0) kl_8 (by decide) rfl wm_673 (by decide +kernel : decode cX8_goesAhead 1 = .ok (.getfield 7, 3))) (sb_cons (sd_iconst (by decide +kernel : decode cX8_goesAhead 4 = .ok (.iconst 0, 1)) ⟨by decide, by decide⟩) (sb_cons (sd_iaload (by decide +kernel : decode cX8_goesAhead 5 = .ok (.iaload, 1))) (sb_cons (sd_istore_n (by decide +kernel : decode cX8_goesAhead 6 = .ok (.istore_n 3, 1)) rfl) (sb_cons (sd_iload_n (by decide +kernel : decode cX8_goesAhead 7 = .ok (.iload_n 3, 1)) rfl) (sb_cons (sd_iconst (by decide +kernel : decode cX8_goesAhead 8 = .ok (.iconst 1, 1)) ⟨by decide, by decide⟩) (sb_cons (sd_ne (by decide +kernel : decode cX8_goesAhead 9 = .ok (.if_icmp .ne 35, 3)) (by decide)) (sb_cons (sd_aload_n (by decide +kernel : decode cX8_goesAhead 12 = .ok (.aload_n 0, 1)) rfl) (sb_cons (sd_iload_n (by decide +kernel : decode cX8_goesAhead 13 = .ok (.iload_n 1, 1)) rfl) (sb_cons (sd_callv (n := 1) (met_X8_readyAt l) (by decide) (by decide) wm_845 wm_843 wm_10 ⟨by decide +kernel, by decide +kernel, by decide +kernel⟩ kl_8 wm_844 wm_1126 (by decide +kernel : decode cX8_goesAhead 14 = .ok (.invokevirtual 99, 3))) (sb_cons (sd_aload_n (by decide +kernel : decode cX8_goesAhead 17 = .ok (.aload_n 0, 1)) rfl) (sb_cons (sd_iload_n (by decide +kernel : decode cX8_goesAhead 18 = .ok (.iload_n 2, 1)) rfl) (sb_cons (sd_callv (n := 1) (met_X8_readyAt l) (by decide) (by decide) wm_845 wm_843 wm_10 ⟨by decide +kernel, by decide +kernel, by decide +kernel⟩ kl_8 wm_844 wm_1126 (by decide +kernel : decode cX8_goesAhead 19 = .ok (.invokevirtual 99, 3))) (sb_cons (sd_eq (by decide +kernel : decode cX8_goesAhead 22 = .ok (.if_icmp .eq 22, 3)) (by decide)) (sb_cons (sd_aload_n (by decide +kernel : decode cX8_goesAhead 25 = .ok (.aload_n 0, 1)) rfl) (sb_cons (sd_iload_n (by decide +kernel : decode cX8_goesAhead 26 = .ok (.iload_n 1, 1)) rfl) (sb_cons (sd_callv (n := 1) (met_X8_readyAt l) (by decide) (by decide) wm_845 wm_843 wm_10 ⟨by decide +kernel, by decide +kernel, by decide +kernel⟩ kl_8 wm_844 wm_1126 (by decide +kernel : decode cX8_goesAhead 27 = .ok (.invokevirtual 99, 3))) (sb_cons (sd_aload_n (by decide +kernel : decode cX8_goesAhead 30 = .ok (.aload_n 0, 1)) rfl) (sb_cons (sd_iload_n (by decide +kernel : decode cX8_goesAhead 31 = .ok (.iload_n 2, 1)) rfl) (sb_cons (sd_callv (n := 1) (met_X8_readyAt l) (by decide) (by decide) wm_845 wm_843 wm_10 ⟨by decide +kernel, by decide +kernel, by decide +kernel⟩ kl_8 wm_844 wm_1126 (by decide +kernel : decode cX8_goesAhead 32 = .ok (.invokevirtual 99, 3))) (sb_cons (sd_ge (by decide +kernel : decode cX8_goesAhead 35 = .ok (.if_icmp .ge 7, 3)) (by decide)) (sb_cons (sd_iconst (by decide +kernel : decode cX8_goesAhead 38 = .ok (.iconst 1, 1)) ⟨by decide, by decide⟩) (sb_cons (sd_goto (x := 0) (by decide +kernel : decode cX8_goesAhead 39 = .ok (.goto 4, 3)) (by decide)) sb_nil)))))))))))))))))))))))
set_option maxRecDepth 100000 in
theorem sb_X8_goesAhead_42 (l : Launch) : sm_SndB l RX8 "goesAhead" cX8_goesAhead 4 2 3 42 [oK 0, oGo 43] := sb_cons (sd_iconst (by decide +kernel : decode cX8_goesAhead 42 = .ok (.iconst 0, 1)) ⟨by decide, by decide⟩) (sb_cons (sd_fall (x := 0)) sb_nil)
set_option maxRecDepth 100000 in
theorem sb_X8_goesAhead_43 (l : Launch) : sm_SndB l RX8 "goesAhead" cX8_goesAhead 4 2 3 43 [oZr] := sb_cons (sd_zreturn (x := 0) rfl (by decide +kernel : decode cX8_goesAhead 43 = .ok (.ireturn, 1))) sb_nil
set_option maxRecDepth 100000 in
theorem sb_X8_goesAhead_44 (l : Launch) : sm_SndB l RX8 "goesAhead" cX8_goesAhead 4 2 3 44 [oI 3, oK 2, oNe 105, oA 0, oI 1, oA 0, oGr 8 30 8, oI 1, oIl, oCv 8 30 p_X8_timeOf f_X8_timeOf 0 0 3, oA 0, oI 2, oA 0, oGr 8 30 8, oI 2, oIl, oCv 8 30 p_X8_timeOf f_X8_timeOf 0 0 3, oEq 105, oA 0, oI 1, oA 0, oGr 8 30 8, oI 1, oIl, oCv 8 30 p_X8_timeOf f_X8_timeOf 0 0 3, oA 0, oI 2, oA 0, oGr 8 30 8, oI 2, oIl, oCv 8 30 p_X8_timeOf f_X8_timeOf 0 0 3, oLe 103, oK 1, oGo 104] := sb_cons (sd_iload_n (by decide +kernel : decode cX8_goesAhead 44 = .ok (.iload_n 3, 1)) rfl) (sb_cons (sd_iconst (by decide +kernel : decode cX8_goesAhead 45 = .ok (.iconst 2, 1)) ⟨by decide, by decide⟩) (sb_cons (sd_ne (by decide +kernel : decode cX8_goesAhead 46 = .ok (.if_icmp .ne 59, 3)) (by decide)) (sb_cons (sd_aload_n (by decide +kernel : decode cX8_goesAhead 49 = .ok (.aload_n 0, 1)) rfl) (sb_cons (sd_iload_n (by decide +kernel : decode cX8_goesAhead 50 = .ok (.iload_n 1, 1)) rfl) (sb_cons (sd_aload_n (by decide +kernel : decode cX8_goesAhead 51 = .ok (.aload_n 0, 1)) rfl) (sb_cons (sd_getr (k := 8) kl_8 (by decide) rfl wm_681 (by decide +kernel : decode cX8_goesAhead 52 = .ok (.getfield 29, 3))) (sb_cons (sd_iload_n (by decide +kernel : decode cX8_goesAhead 55 = .ok (.iload_n 1, 1)) rfl) (sb_cons (sd_iaload (by decide +kernel : decode cX8_goesAhead 56 = .ok (.iaload, 1))) (sb_cons (sd_callv (n := 2) (met_X8_timeOf l) (by decide) (by decide) wm_865 wm_863 wm_10 ⟨by decide +kernel, by decide +kernel, by decide +kernel⟩ kl_8 wm_864 wm_1130 (by decide +kernel : decode cX8_goesAhead 57 = .ok (.invokevirtual 115, 3))) (sb_cons (sd_aload_n (by decide +kernel : decode cX8_goesAhead 60 = .ok (.aload_n 0, 1)) rfl) (sb_cons (sd_iload_n (by decide +kernel : decode cX8_goesAhead 61 = .ok (.iload_n 2, 1)) rfl) (sb_cons (sd_aload_n (by decide +kernel : decode cX8_goesAhead 62 = .ok (.aload_n 0, 1)) rfl) (sb_cons (sd_getr (k := 8) kl_8 (by decide) rfl wm_681 (by decide +kernel : decode cX8_goesAhead 63 = .ok (.getfield 29, 3))) (sb_cons (sd_iload_n (by decide +kernel : decode cX8_goesAhead 66 = .ok (.iload_n 2, 1)) rfl) (sb_cons (sd_iaload (by decide +kernel : decode cX8_goesAhead 67 = .ok (.iaload, 1))) (sb_cons (sd_callv (n := 2) (met_X8_timeOf l) (by decide) (by decide) wm_865 wm_863 wm_10 ⟨by decide +kernel, by decide +kernel, by decide +kernel⟩ kl_8 wm_864 wm_1130 (by decide +kernel : decode cX8_goesAhead 68 = .ok (.invokevirtual 115, 3))) (sb_cons (sd_eq (by decide +kernel : decode cX8_goesAhead 71 = .ok (.if_icmp .eq 34, 3)) (by decide)) (sb_cons (sd_aload_n (by decide +kernel : decode cX8_goesAhead 74 = .ok (.aload_n 0, 1)) rfl) (sb_cons (sd_iload_n (by decide +kernel : decode cX8_goesAhead 75 = .ok (.iload_n 1, 1)) rfl) (sb_cons (sd_aload_n (by decide +kernel : decode cX8_goesAhead 76 = .ok (.aload_n 0, 1)) rfl) (sb_cons (sd_getr (k := 8) kl_8 (by decide) rfl wm_681 (by decide +kernel : decode cX8_goesAhead 77 = .ok (.getfield 29, 3))) (sb_cons (sd_iload_n (by decide +kernel : decode cX8_goesAhead 80 = .ok (.iload_n 1, 1)) rfl) (sb_cons (sd_iaload (by decide +kernel : decode cX8_goesAhead 81 = .ok (.iaload, 1))) (sb_cons (sd_callv (n := 2) (met_X8_timeOf l) (by decide) (by decide) wm_865 wm_863 wm_10 ⟨by decide +kernel, by decide +kernel, by decide +kernel⟩ kl_8 wm_864 wm_1130 (by decide +kernel : decode cX8_goesAhead 82 = .ok (.invokevirtual 115, 3))) (sb_cons (sd_aload_n (by decide +kernel : decode cX8_goesAhead 85 = .ok (.aload_n 0, 1)) rfl) (sb_cons (sd_iload_n (by decide +kernel : decode cX8_goesAhead 86 = .ok (.iload_n 2, 1)) rfl) (sb_cons (sd_aload_n (by decide +kernel : decode cX8_goesAhead 87 = .ok (.aload_n 0, 1)) rfl) (sb_cons (sd_getr (k := 8) kl_8 (by decide) rfl wm_681 (by decide +kernel : decode cX8_goesAhead 88 = .ok (.getfield 29, 3))) (sb_cons (sd_iload_n (by decide +kernel : decode cX8_goesAhead 91 = .ok (.iload_n 2, 1)) rfl) (sb_cons (sd_iaload (by decide +kernel : decode cX8_goesAhead 92 = .ok (.iaload, 1))) (sb_cons (sd_callv (n := 2) (met_X8_timeOf l) (by decide) (by decide) wm_865 wm_863 wm_10 ⟨by decide +kernel, by decide +kernel, by decide +kernel⟩ kl_8 wm_864 wm_1130 (by decide +kernel : decode cX8_goesAhead 93 = .ok (.invokevirtual 115, 3))) (sb_cons (sd_le (by decide +kernel : decode cX8_goesAhead 96 = .ok (.if_icmp .le 7, 3)) (by decide)) (sb_cons (sd_iconst (by decide +kernel : decode cX8_goesAhead 99 = .ok (.iconst 1, 1)) ⟨by decide, by decide⟩) (sb_cons (sd_goto (x := 0) (by decide +kernel : decode cX8_goesAhead 100 = .ok (.goto 4, 3)) (by decide)) sb_nil))))))))))))))))))))))))))))))))))
set_option maxRecDepth 100000 in
theorem sb_X8_goesAhead_103 (l : Launch) : sm_SndB l RX8 "goesAhead" cX8_goesAhead 4 2 3 103 [oK 0, oGo 104] := sb_cons (sd_iconst (by decide +kernel : decode cX8_goesAhead 103 = .ok (.iconst 0, 1)) ⟨by decide, by decide⟩) (sb_cons (sd_fall (x := 0)) sb_nil)
set_option maxRecDepth 100000 in
theorem sb_X8_goesAhead_104 (l : Launch) : sm_SndB l RX8 "goesAhead" cX8_goesAhead 4 2 3 104 [oZr] := sb_cons (sd_zreturn (x := 0) rfl (by decide +kernel : decode cX8_goesAhead 104 = .ok (.ireturn, 1))) sb_nil
set_option maxRecDepth 100000 in
theorem sb_X8_goesAhead_105 (l : Launch) : sm_SndB l RX8 "goesAhead" cX8_goesAhead 4 2 3 105 [oA 0, oI 1, oK 4, oCv 8 30 p_X8_of f_X8_of 0 0 3, oA 0, oI 2, oK 4, oCv 8 30 p_X8_of f_X8_of 0 0 3, oEq 143, oA 0, oI 1, oK 4, oCv 8 30 p_X8_of f_X8_of 0 0 3, oA 0, oI 2, oK 4, oCv 8 30 p_X8_of f_X8_of 0 0 3, oLe 139, oK 1, oGo 153] := sb_cons (sd_aload_n (by decide +kernel : decode cX8_goesAhead 105 = .ok (.aload_n 0, 1)) rfl) (sb_cons (sd_iload_n (by decide +kernel : decode cX8_goesAhead 106 = .ok (.iload_n 1, 1)) rfl) (sb_cons (sd_iconst (by decide +kernel : decode cX8_goesAhead 107 = .ok (.iconst 4, 1)) ⟨by decide, by decide⟩) (sb_cons (sd_callv (n := 2) (met_X8_of l) (by decide) (by decide) wm_778 wm_776 wm_10 ⟨by decide +kernel, by decide +kernel, by decide +kernel⟩ kl_8 wm_777 wm_1113 (by decide +kernel : decode cX8_goesAhead 108 = .ok (.invokevirtual 78, 3))) (sb_cons (sd_aload_n (by decide +kernel : decode cX8_goesAhead 111 = .ok (.aload_n 0, 1)) rfl) (sb_cons (sd_iload_n (by decide +kernel : decode cX8_goesAhead 112 = .ok (.iload_n 2, 1)) rfl) (sb_cons (sd_iconst (by decide +kernel : decode cX8_goesAhead 113 = .ok (.iconst 4, 1)) ⟨by decide, by decide⟩) (sb_cons (sd_callv (n := 2) (met_X8_of l) (by decide) (by decide) wm_778 wm_776 wm_10 ⟨by decide +kernel, by decide +kernel, by decide +kernel⟩ kl_8 wm_777 wm_1113 (by decide +kernel : decode cX8_goesAhead 114 = .ok (.invokevirtual 78, 3))) (sb_cons (sd_eq (by decide +kernel : decode cX8_goesAhead 117 = .ok (.if_icmp .eq 26, 3)) (by decide)) (sb_cons (sd_aload_n (by decide +kernel : decode cX8_goesAhead 120 = .ok (.aload_n 0, 1)) rfl) (sb_cons (sd_iload_n (by decide +kernel : decode cX8_goesAhead 121 = .ok (.iload_n 1, 1)) rfl) (sb_cons (sd_iconst (by decide +kernel : decode cX8_goesAhead 122 = .ok (.iconst 4, 1)) ⟨by decide, by decide⟩) (sb_cons (sd_callv (n := 2) (met_X8_of l) (by decide) (by decide) wm_778 wm_776 wm_10 ⟨by decide +kernel, by decide +kernel, by decide +kernel⟩ kl_8 wm_777 wm_1113 (by decide +kernel : decode cX8_goesAhead 123 = .ok (.invokevirtual 78, 3))) (sb_cons (sd_aload_n (by decide +kernel : decode cX8_goesAhead 126 = .ok (.aload_n 0, 1)) rfl) (sb_cons (sd_iload_n (by decide +kernel : decode cX8_goesAhead 127 = .ok (.iload_n 2, 1)) rfl) (sb_cons (sd_iconst (by decide +kernel : decode cX8_goesAhead 128 = .ok (.iconst 4, 1)) ⟨by decide, by decide⟩) (sb_cons (sd_callv (n := 2) (met_X8_of l) (by decide) (by decide) wm_778 wm_776 wm_10 ⟨by decide +kernel, by decide +kernel, by decide +kernel⟩ kl_8 wm_777 wm_1113 (by decide +kernel : decode cX8_goesAhead 129 = .ok (.invokevirtual 78, 3))) (sb_cons (sd_le (by decide +kernel : decode cX8_goesAhead 132 = .ok (.if_icmp .le 7, 3)) (by decide)) (sb_cons (sd_iconst (by decide +kernel : decode cX8_goesAhead 135 = .ok (.iconst 1, 1)) ⟨by decide, by decide⟩) (sb_cons (sd_goto (x := 0) (by decide +kernel : decode cX8_goesAhead 136 = .ok (.goto 17, 3)) (by decide)) sb_nil)))))))))))))))))))
set_option maxRecDepth 100000 in
theorem sb_X8_goesAhead_139 (l : Launch) : sm_SndB l RX8 "goesAhead" cX8_goesAhead 4 2 3 139 [oK 0, oGo 153] := sb_cons (sd_iconst (by decide +kernel : decode cX8_goesAhead 139 = .ok (.iconst 0, 1)) ⟨by decide, by decide⟩) (sb_cons (sd_goto (x := 0) (by decide +kernel : decode cX8_goesAhead 140 = .ok (.goto 13, 3)) (by decide)) sb_nil)
set_option maxRecDepth 100000 in
theorem sb_X8_goesAhead_143 (l : Launch) : sm_SndB l RX8 "goesAhead" cX8_goesAhead 4 2 3 143 [oI 1, oI 2, oGe 152, oK 1, oGo 153] := sb_cons (sd_iload_n (by decide +kernel : decode cX8_goesAhead 143 = .ok (.iload_n 1, 1)) rfl) (sb_cons (sd_iload_n (by decide +kernel : decode cX8_goesAhead 144 = .ok (.iload_n 2, 1)) rfl) (sb_cons (sd_ge (by decide +kernel : decode cX8_goesAhead 145 = .ok (.if_icmp .ge 7, 3)) (by decide)) (sb_cons (sd_iconst (by decide +kernel : decode cX8_goesAhead 148 = .ok (.iconst 1, 1)) ⟨by decide, by decide⟩) (sb_cons (sd_goto (x := 0) (by decide +kernel : decode cX8_goesAhead 149 = .ok (.goto 4, 3)) (by decide)) sb_nil))))
set_option maxRecDepth 100000 in
theorem sb_X8_goesAhead_152 (l : Launch) : sm_SndB l RX8 "goesAhead" cX8_goesAhead 4 2 3 152 [oK 0, oGo 153] := sb_cons (sd_iconst (by decide +kernel : decode cX8_goesAhead 152 = .ok (.iconst 0, 1)) ⟨by decide, by decide⟩) (sb_cons (sd_fall (x := 0)) sb_nil)
set_option maxRecDepth 100000 in
theorem sb_X8_goesAhead_153 (l : Launch) : sm_SndB l RX8 "goesAhead" cX8_goesAhead 4 2 3 153 [oZr] := sb_cons (sd_zreturn (x := 0) rfl (by decide +kernel : decode cX8_goesAhead 153 = .ok (.ireturn, 1))) sb_nil
theorem sn_X8_goesAhead (l : Launch) : sm_SndT l RX8 "goesAhead" cX8_goesAhead 4 2 3 tb_X8_goesAhead := st_cons (sb_X8_goesAhead_0 l) (st_cons (sb_X8_goesAhead_42 l) (st_cons (sb_X8_goesAhead_43 l) (st_cons (sb_X8_goesAhead_44 l) (st_cons (sb_X8_goesAhead_103 l) (st_cons (sb_X8_goesAhead_104 l) (st_cons (sb_X8_goesAhead_105 l) (st_cons (sb_X8_goesAhead_139 l) (st_cons (sb_X8_goesAhead_143 l) (st_cons (sb_X8_goesAhead_152 l) (st_cons (sb_X8_goesAhead_153 l) (st_nil)))))))))))
set_option maxRecDepth 100000 in
set_option maxHeartbeats 4000000 in
theorem ok_X8_goesAhead : sm_Ok tb_X8_goesAhead 4 0 0 p_X8_goesAhead f_X8_goesAhead := by
  intro as w hp ha hw
  match as, hp with
  | [.inr (.inl m), .inl x, .inl y], hp =>
  refine ⟨Nat.le_of_ble_eq_true rfl, fun Z hZ => ?_⟩
  obtain ⟨rfl, ⟨⟨hT, hv⟩, hd⟩, h1, h2, h3, h4, h5, h6⟩ := hp
  have hm := vOK_many hv
  have hx := hd x h1 h2
  have hy := hd y h4 h5
  simp only [mSh] at hx hy
  have hq := vOK_sh hv h1 h2
  have hq2 := vOK_sh hv h4 h5
  have hD : mDay w := ⟨⟨hT, hv⟩, hd⟩
  have hO : mOK w := ⟨hT, hv⟩
  refine hZ (fun _ => false) 40 0 _ _ _ _ _ ?_
  simp only [sm_run, sm_blk, sm_get, sm_ent, sm_ents, sm_wds, sm_wd, sm_nl, sm_pop, sm_back, sm_cases, oK, oLK, oL, oI, oA, oJ, oIs, oAs, oJs, oInc, oAdd, oSub, oMul, oDiv, oRem, oNeg, oAnd, oOr, oShl, oI2c, oI2l, oL2i, oLand, oLor, oLshl, oLshr, oLushr, oLcmp, oDup, oDup2, oPop, oGo, oFg, oEq, oNe, oLt, oGe, oGt, oLe, oEq0, oNe0, oLt0, oGe0, oGt0, oLe0, oSw, oGi, oGr, oPi, oPz, oPr, oLen, oIl, oZl, oCl, oRl, oIst, oZst, oCst, oRst, oCopy, oNew, oNa, oNa2, oObj, oCs, oCv, oCi, oIr, oZr, oVr, Nat.beq, List.getElem?_cons_zero, List.getElem?_cons_succ, List.set_cons_zero, List.set_cons_succ, List.length_cons, List.length_nil, List.nil_append, List.cons_append, List.append_nil, List.replicate_succ, List.replicate_zero, Nat.reduceAdd, Nat.reduceSub, Nat.reduceLT, Nat.reduceLeDiff, Nat.reduceBEq, true_and, and_true, Nat.zero_add, Nat.add_zero, Nat.le_refl, Option.some.injEq, exists_eq_left', true_or, or_true, or_false, false_or, reduceCtorEq, Prod.mk.injEq, Sum.inl.injEq, and_self, false_and, and_false, not_true_eq_false, not_false_eq_true, false_implies, true_implies, sm_r, Int.add_zero, Int.zero_add, wI_wsI, wS_wsI, wR_wsI, wI_wCp, wS_wCp, wR_wCp, Nat.reduceEqDiff, reduceIte, sT_iff, sT_iffC, wIf_ne, ne_eq, tb_X8_goesAhead, p_X8_of, p_X8_readyAt, p_X8_timeOf, f_X8_of, f_X8_readyAt, f_X8_timeOf, p_X8_goesAhead, f_X8_goesAhead, sS_154 hT, sR_154_0 hT, sS_155 hT, sR_154_7 hT, sS_160 hT, sR_154_8 hT, sS_161 hT]
  repeat' (first | assumption | with_reducible refine And.intro ?_ ?_ | intro _)
  all_goals first
    | omega
    | rfl
    | (split <;> omega)
    | grind [mAhead]
    | skip
theorem met_X8_goesAhead (l : Launch) : sm_Met l yX8_goesAhead cX8_goesAhead 4 (some .boolean) 3 0 0 p_X8_goesAhead f_X8_goesAhead := sm_met 2 (Or.inr (Or.inr ⟨rfl, rfl⟩)) (by decide +kernel) (sn_X8_goesAhead l) ok_X8_goesAhead
def mNx (w : sm_W) (t x best : Int) : Int := if mCan w x t = 1 then (if best < 0 then x else (if mAhead w x best = 1 then x else best)) else best
def mNext (w : sm_W) (t : Int) : Int → Int := itI (mNx w t) (-6)
theorem mNext_in (w : sm_W) (t n : Int) (hn : 0 ≤ n) : mNext w t n = -6 ∨ (0 ≤ mNext w t n ∧ mNext w t n < n ∧ mCan w (mNext w t n) t = 1) := by
  refine itI_ind (fun i r => r = -6 ∨ (0 ≤ r ∧ r < i ∧ mCan w r t = 1)) n (Or.inl rfl) (fun i r h0 h1 h => ?_) n hn (Int.le_refl _)
  unfold mNx
  grind
theorem mAhead_01 (w : sm_W) (x y : Int) : mAhead w x y = 0 ∨ mAhead w x y = 1 := by
  unfold mAhead
  grind
theorem mCan_01 (w : sm_W) (x t : Int) : mCan w x t = 0 ∨ mCan w x t = 1 := by
  unfold mCan
  grind
def p_X8_nextToLeave : List sm_V → sm_W → Prop
  | [.inr (.inl m), .inl t], w => m = 154 ∧ mDay w
  | _, _ => False
def f_X8_nextToLeave : sm_F
  | [.inr (.inl m), .inl t], w => (some (.inl (mNext w t (wI w 155 1))), w)
  | _, w => (none, w)
def tb_X8_nextToLeave : List (Nat × List sm_O) := [(0, [oK (-6), oIs 2, oK 0, oIs 3, oGo 5]),
  (5, [oI 3, oA 0, oGr 8 30 0, oK 1, oIl, oGe 49, oA 0, oI 3, oI 1, oCv 8 30 p_X8_canLeave f_X8_canLeave 0 0 3, oEq0 41, oI 2, oLt0 37, oA 0, oI 3, oI 2, oCv 8 30 p_X8_goesAhead f_X8_goesAhead 0 0 3, oEq0 41, oGo 37]),
  (37, [oI 3, oGo 42]),
  (41, [oI 2, oGo 42]),
  (42, [oIs 2, oInc 3 1, oGo 5]),
  (49, [oI 2, oIr])]
set_option maxRecDepth 100000 in
theorem sb_X8_nextToLeave_0 (l : Launch) : sm_SndB l RX8 "nextToLeave" cX8_nextToLeave 4 1 4 0 [oK (-6), oIs 2, oK 0, oIs 3, oGo 5] := sb_cons (sd_bipush (by decide +kernel : decode cX8_nextToLeave 0 = .ok (.bipush (-6), 2)) ⟨by decide, by decide⟩ (by decide)) (sb_cons (sd_istore_n (by decide +kernel : decode cX8_nextToLeave 2 = .ok (.istore_n 2, 1)) rfl) (sb_cons (sd_iconst (by decide +kernel : decode cX8_nextToLeave 3 = .ok (.iconst 0, 1)) ⟨by decide, by decide⟩) (sb_cons (sd_istore_n (by decide +kernel : decode cX8_nextToLeave 4 = .ok (.istore_n 3, 1)) rfl) (sb_cons (sd_fall (x := 0)) sb_nil))))
set_option maxRecDepth 100000 in
theorem sb_X8_nextToLeave_5 (l : Launch) : sm_SndB l RX8 "nextToLeave" cX8_nextToLeave 4 1 4 5 [oI 3, oA 0, oGr 8 30 0, oK 1, oIl, oGe 49, oA 0, oI 3, oI 1, oCv 8 30 p_X8_canLeave f_X8_canLeave 0 0 3, oEq0 41, oI 2, oLt0 37, oA 0, oI 3, oI 2, oCv 8 30 p_X8_goesAhead f_X8_goesAhead 0 0 3, oEq0 41, oGo 37] := sb_cons (sd_iload_n (by decide +kernel : decode cX8_nextToLeave 5 = .ok (.iload_n 3, 1)) rfl) (sb_cons (sd_aload_n (by decide +kernel : decode cX8_nextToLeave 6 = .ok (.aload_n 0, 1)) rfl) (sb_cons (sd_getr (k := 0) kl_8 (by decide) rfl wm_673 (by decide +kernel : decode cX8_nextToLeave 7 = .ok (.getfield 7, 3))) (sb_cons (sd_iconst (by decide +kernel : decode cX8_nextToLeave 10 = .ok (.iconst 1, 1)) ⟨by decide, by decide⟩) (sb_cons (sd_iaload (by decide +kernel : decode cX8_nextToLeave 11 = .ok (.iaload, 1))) (sb_cons (sd_ge (by decide +kernel : decode cX8_nextToLeave 12 = .ok (.if_icmp .ge 37, 3)) (by decide)) (sb_cons (sd_aload_n (by decide +kernel : decode cX8_nextToLeave 15 = .ok (.aload_n 0, 1)) rfl) (sb_cons (sd_iload_n (by decide +kernel : decode cX8_nextToLeave 16 = .ok (.iload_n 3, 1)) rfl) (sb_cons (sd_iload_n (by decide +kernel : decode cX8_nextToLeave 17 = .ok (.iload_n 1, 1)) rfl) (sb_cons (sd_callv (n := 2) (met_X8_canLeave l) (by decide) (by decide) wm_837 wm_835 wm_10 ⟨by decide +kernel, by decide +kernel, by decide +kernel⟩ kl_8 wm_836 wm_1124 (by decide +kernel : decode cX8_nextToLeave 18 = .ok (.invokevirtual 118, 3))) (sb_cons (sd_eq0 (by decide +kernel : decode cX8_nextToLeave 21 = .ok (.ifCond .eq 20, 3)) (by decide)) (sb_cons (sd_iload_n (by decide +kernel : decode cX8_nextToLeave 24 = .ok (.iload_n 2, 1)) rfl) (sb_cons (sd_lt0 (by decide +kernel : decode cX8_nextToLeave 25 = .ok (.ifCond .lt 12, 3)) (by decide)) (sb_cons (sd_aload_n (by decide +kernel : decode cX8_nextToLeave 28 = .ok (.aload_n 0, 1)) rfl) (sb_cons (sd_iload_n (by decide +kernel : decode cX8_nextToLeave 29 = .ok (.iload_n 3, 1)) rfl) (sb_cons (sd_iload_n (by decide +kernel : decode cX8_nextToLeave 30 = .ok (.iload_n 2, 1)) rfl) (sb_cons (sd_callv (n := 2) (met_X8_goesAhead l) (by decide) (by decide) wm_861 wm_859 wm_10 ⟨by decide +kernel, by decide +kernel, by decide +kernel⟩ kl_8 wm_860 wm_1129 (by decide +kernel : decode cX8_nextToLeave 31 = .ok (.invokevirtual 121, 3))) (sb_cons (sd_eq0 (by decide +kernel : decode cX8_nextToLeave 34 = .ok (.ifCond .eq 7, 3)) (by decide)) (sb_cons (sd_fall (x := 0)) sb_nil))))))))))))))))))
set_option maxRecDepth 100000 in
theorem sb_X8_nextToLeave_37 (l : Launch) : sm_SndB l RX8 "nextToLeave" cX8_nextToLeave 4 1 4 37 [oI 3, oGo 42] := sb_cons (sd_iload_n (by decide +kernel : decode cX8_nextToLeave 37 = .ok (.iload_n 3, 1)) rfl) (sb_cons (sd_goto (x := 0) (by decide +kernel : decode cX8_nextToLeave 38 = .ok (.goto 4, 3)) (by decide)) sb_nil)
set_option maxRecDepth 100000 in
theorem sb_X8_nextToLeave_41 (l : Launch) : sm_SndB l RX8 "nextToLeave" cX8_nextToLeave 4 1 4 41 [oI 2, oGo 42] := sb_cons (sd_iload_n (by decide +kernel : decode cX8_nextToLeave 41 = .ok (.iload_n 2, 1)) rfl) (sb_cons (sd_fall (x := 0)) sb_nil)
set_option maxRecDepth 100000 in
theorem sb_X8_nextToLeave_42 (l : Launch) : sm_SndB l RX8 "nextToLeave" cX8_nextToLeave 4 1 4 42 [oIs 2, oInc 3 1, oGo 5] := sb_cons (sd_istore_n (by decide +kernel : decode cX8_nextToLeave 42 = .ok (.istore_n 2, 1)) rfl) (sb_cons (sd_iinc (by decide +kernel : decode cX8_nextToLeave 43 = .ok (.iinc 3 1, 3))) (sb_cons (sd_goto (x := 0) (by decide +kernel : decode cX8_nextToLeave 46 = .ok (.goto (-41), 3)) (by decide)) sb_nil))
set_option maxRecDepth 100000 in
theorem sb_X8_nextToLeave_49 (l : Launch) : sm_SndB l RX8 "nextToLeave" cX8_nextToLeave 4 1 4 49 [oI 2, oIr] := sb_cons (sd_iload_n (by decide +kernel : decode cX8_nextToLeave 49 = .ok (.iload_n 2, 1)) rfl) (sb_cons (sd_ireturn (x := 0) rfl (by decide +kernel : decode cX8_nextToLeave 50 = .ok (.ireturn, 1))) sb_nil)
theorem sn_X8_nextToLeave (l : Launch) : sm_SndT l RX8 "nextToLeave" cX8_nextToLeave 4 1 4 tb_X8_nextToLeave := st_cons (sb_X8_nextToLeave_0 l) (st_cons (sb_X8_nextToLeave_5 l) (st_cons (sb_X8_nextToLeave_37 l) (st_cons (sb_X8_nextToLeave_41 l) (st_cons (sb_X8_nextToLeave_42 l) (st_cons (sb_X8_nextToLeave_49 l) (st_nil))))))
set_option maxRecDepth 100000 in
set_option maxHeartbeats 4000000 in
theorem ok_X8_nextToLeave : sm_Ok tb_X8_nextToLeave 4 0 0 p_X8_nextToLeave f_X8_nextToLeave := by
  intro as w hp ha hw
  match as, hp with
  | [.inr (.inl m), .inl t], hp =>
  refine ⟨Nat.le_of_ble_eq_true rfl, fun Z hZ => ?_⟩
  obtain ⟨rfl, ⟨⟨hT, hv⟩, hd⟩⟩ := hp
  have hm := vOK_many hv
  have hD : mDay w := ⟨⟨hT, hv⟩, hd⟩
  have hl := sm_loopI Z 5 0 (wI w 155 1) (fun i => [some (.inr (.inl 154)), some (.inl t), some (.inl (mNext w t i)), some (.inl i)]) (fun _ => w) 0 0 hm.1 (fun i h0 h1 ih => by
    have hb := mNext_in w t i h0
    have hc := mCan_01 w i t
    have hc1 := fun h => mCan_pre (w := w) (x := i) (t := t) h
    have hc2 := fun h => mCan_pre (w := w) (x := mNext w t i) (t := t) h
    have ha := mAhead_01 w i (mNext w t i)
    have hu : mNext w t (i + 1) = mNx w t i (mNext w t i) := itI_s _ _ h0
    rw [hu] at ih
    unfold mNx at ih
    refine hZ (fun u => Nat.beq u 5) 40 5 _ _ _ _ _ ?_
    simp only [sm_run, sm_blk, sm_get, sm_ent, sm_ents, sm_wds, sm_wd, sm_nl, sm_pop, sm_back, sm_cases, oK, oLK, oL, oI, oA, oJ, oIs, oAs, oJs, oInc, oAdd, oSub, oMul, oDiv, oRem, oNeg, oAnd, oOr, oShl, oI2c, oI2l, oL2i, oLand, oLor, oLshl, oLshr, oLushr, oLcmp, oDup, oDup2, oPop, oGo, oFg, oEq, oNe, oLt, oGe, oGt, oLe, oEq0, oNe0, oLt0, oGe0, oGt0, oLe0, oSw, oGi, oGr, oPi, oPz, oPr, oLen, oIl, oZl, oCl, oRl, oIst, oZst, oCst, oRst, oCopy, oNew, oNa, oNa2, oObj, oCs, oCv, oCi, oIr, oZr, oVr, Nat.beq, List.getElem?_cons_zero, List.getElem?_cons_succ, List.set_cons_zero, List.set_cons_succ, List.length_cons, List.length_nil, List.nil_append, List.cons_append, List.append_nil, List.replicate_succ, List.replicate_zero, Nat.reduceAdd, Nat.reduceSub, Nat.reduceLT, Nat.reduceLeDiff, Nat.reduceBEq, true_and, and_true, Nat.zero_add, Nat.add_zero, Nat.le_refl, Option.some.injEq, exists_eq_left', true_or, or_true, or_false, false_or, reduceCtorEq, Prod.mk.injEq, Sum.inl.injEq, and_self, false_and, and_false, not_true_eq_false, not_false_eq_true, false_implies, true_implies, sm_r, Int.add_zero, Int.zero_add, wI_wsI, wS_wsI, wR_wsI, wI_wCp, wS_wCp, wR_wCp, Nat.reduceEqDiff, reduceIte, sT_iff, sT_iffC, wIf_ne, ne_eq, tb_X8_nextToLeave, p_X8_canLeave, p_X8_goesAhead, f_X8_canLeave, f_X8_goesAhead, p_X8_nextToLeave, f_X8_nextToLeave, sS_154 hT, sR_154_0 hT, sS_155 hT]
    repeat' (first | assumption | with_reducible refine And.intro ?_ ?_ | intro _)
    all_goals first
      | omega
      | rfl
      | (split <;> omega)
      | (have k9 := ih (by omega)
         (repeat' split at k9) <;> first | exact k9 | omega)
      | (congr 1; omega)
      | grind
      | skip
    )
  refine hZ (fun u => Nat.beq u 5) 40 0 _ _ _ _ _ ?_
  simp only [sm_run, sm_blk, sm_get, sm_ent, sm_ents, sm_wds, sm_wd, sm_nl, sm_pop, sm_back, sm_cases, oK, oLK, oL, oI, oA, oJ, oIs, oAs, oJs, oInc, oAdd, oSub, oMul, oDiv, oRem, oNeg, oAnd, oOr, oShl, oI2c, oI2l, oL2i, oLand, oLor, oLshl, oLshr, oLushr, oLcmp, oDup, oDup2, oPop, oGo, oFg, oEq, oNe, oLt, oGe, oGt, oLe, oEq0, oNe0, oLt0, oGe0, oGt0, oLe0, oSw, oGi, oGr, oPi, oPz, oPr, oLen, oIl, oZl, oCl, oRl, oIst, oZst, oCst, oRst, oCopy, oNew, oNa, oNa2, oObj, oCs, oCv, oCi, oIr, oZr, oVr, Nat.beq, List.getElem?_cons_zero, List.getElem?_cons_succ, List.set_cons_zero, List.set_cons_succ, List.length_cons, List.length_nil, List.nil_append, List.cons_append, List.append_nil, List.replicate_succ, List.replicate_zero, Nat.reduceAdd, Nat.reduceSub, Nat.reduceLT, Nat.reduceLeDiff, Nat.reduceBEq, true_and, and_true, Nat.zero_add, Nat.add_zero, Nat.le_refl, Option.some.injEq, exists_eq_left', true_or, or_true, or_false, false_or, reduceCtorEq, Prod.mk.injEq, Sum.inl.injEq, and_self, false_and, and_false, not_true_eq_false, not_false_eq_true, false_implies, true_implies, sm_r, Int.add_zero, Int.zero_add, wI_wsI, wS_wsI, wR_wsI, wI_wCp, wS_wCp, wR_wCp, Nat.reduceEqDiff, reduceIte, sT_iff, sT_iffC, wIf_ne, ne_eq, tb_X8_nextToLeave, p_X8_canLeave, p_X8_goesAhead, f_X8_canLeave, f_X8_goesAhead, p_X8_nextToLeave, f_X8_nextToLeave]
  repeat' (first | assumption | with_reducible refine And.intro ?_ ?_ | intro _)
  all_goals first
    | omega
    | rfl
    | (split <;> omega)
    | (have k9 := ih (by omega)
       (repeat' split at k9) <;> first | exact k9 | omega)
    | (congr 1; omega)
    | skip

theorem met_X8_nextToLeave (l : Launch) : sm_Met l yX8_nextToLeave cX8_nextToLeave 4 (some .int) 4 0 0 p_X8_nextToLeave f_X8_nextToLeave := sm_met 1 (Or.inr (Or.inl ⟨rfl, rfl⟩)) (by decide +kernel) (sn_X8_nextToLeave l) ok_X8_nextToLeave