/-! THE REFERENCE: who can leave, and who goes first -/
/-- where a shuttle is, is somewhere on its way -/
def mSh (w : sm_W) (x : Int) : Prop := (0 ≤ wI w 162 x ∧ wI w 162 x ≤ 100000) ∧ (0 ≤ wI w 161 x ∧ wI w 161 x ≤ 7) ∧ (0 ≤ wI w 160 x ∧ wI w 160 x ≤ 3) ∧
  (wI w 160 x ≤ 1 → (wI w 155 (17 + 5 * x) < wI w 155 (17 + 5 * x + 1) → wI w 155 (17 + 5 * x) ≤ wI w 161 x ∧ wI w 161 x < wI w 155 (17 + 5 * x + 1)) ∧ (wI w 155 (17 + 5 * x + 1) < wI w 155 (17 + 5 * x) → wI w 155 (17 + 5 * x + 1) < wI w 161 x ∧ wI w 161 x ≤ wI w 155 (17 + 5 * x))) ∧
  (wI w 160 x = 2 → (wI w 155 (17 + 5 * x) < wI w 155 (17 + 5 * x + 1) → wI w 155 (17 + 5 * x) ≤ wI w 161 x ∧ wI w 161 x < wI w 155 (17 + 5 * x + 1)) ∧ (wI w 155 (17 + 5 * x + 1) < wI w 155 (17 + 5 * x) → wI w 155 (17 + 5 * x + 1) ≤ wI w 161 x ∧ wI w 161 x < wI w 155 (17 + 5 * x))) ∧
  (wI w 160 x = 3 → wI w 161 x = wI w 155 (17 + 5 * x + 1))
def mDay (w : sm_W) : Prop := mOK w ∧ ∀ x, 0 ≤ x → x < wI w 155 1 → mSh w x
theorem mWay_pm (v : Int → Int) (x : Int) : (mWay v x = 1 ∧ v (17 + 5 * x) < v (17 + 5 * x + 1)) ∨ (mWay v x = -1 ∧ ¬ v (17 + 5 * x) < v (17 + 5 * x + 1)) := by
  unfold mWay
  split
  · next h => exact Or.inl ⟨rfl, h⟩
  · next h => exact Or.inr ⟨rfl, h⟩
/-- the station to which a shuttle on a stretch goes -/
def mTo (w : sm_W) (x : Int) : Int := if wI w 160 x = 2 then (if 0 < mWay (wI w 155) x then wI w 161 x + 1 else wI w 161 x) else -6
def mTk (w : sm_W) (st : Int) (x n : Int) : Int := if (wI w 160 x = 1 ∧ wI w 161 x = st) ∨ (mTo w x = st ∧ mTo w x ≠ wI w 155 (17 + 5 * x + 1)) then n + 1 else n
def mTaken (w : sm_W) (st : Int) : Int → Int := itI (mTk w st) 0
theorem mTaken_le (w : sm_W) (st n : Int) (hn : 0 ≤ n) : 0 ≤ mTaken w st n ∧ mTaken w st n ≤ n := by
  refine itI_ind (fun i r => 0 ≤ r ∧ r ≤ i) n ⟨Int.le_refl _, Int.le_refl _⟩ (fun i r h0 h1 h => ?_) n hn (Int.le_refl _)
  unfold mTk
  split <;> omega
def p_X8_taken : List sm_V → sm_W → Prop
  | [.inr (.inl m), .inl st], w => m = 154 ∧ mDay w
  | _, _ => False
def f_X8_taken : sm_F
  | [.inr (.inl m), .inl st], w => (some (.inl (mTaken w st (wI w 155 1))), w)
  | _, w => (none, w)
def tb_X8_taken : List (Nat × List sm_O) := [(0, [oK 0, oIs 2, oK 0, oIs 3, oFg 4, oGo 4]),
  (4, [oI 3, oA 0, oGr 8 30 0, oK 1, oIl, oGe 107, oA 0, oGr 8 30 7, oI 3, oIl, oK 2, oNe 52, oA 0, oI 3, oCv 8 30 p_X8_way f_X8_way 0 0 2, oLe0 43, oA 0, oGr 8 30 8, oI 3, oIl, oK 1, oAdd, oGo 54]),
  (43, [oA 0, oGr 8 30 8, oI 3, oIl, oGo 54]),
  (52, [oK (-6), oGo 54]),
  (54, [oIs 4, oI 2, oA 0, oGr 8 30 7, oI 3, oIl, oK 1, oNe 77, oA 0, oGr 8 30 8, oI 3, oIl, oI 1, oEq 94, oGo 77]),
  (77, [oI 4, oI 1, oNe 98, oI 4, oA 0, oI 3, oK 1, oCv 8 30 p_X8_of f_X8_of 0 0 3, oEq 98, oGo 94]),
  (94, [oK 1, oGo 99]),
  (98, [oK 0, oGo 99]),
  (99, [oAdd, oIs 2, oInc 3 1, oFg 4, oGo 4]),
  (107, [oI 2, oIr])]
set_option maxRecDepth 100000 in
theorem sb_X8_taken_0 (l : Launch) : sm_SndB l RX8 "taken" cX8_taken 5 1 2 0 [oK 0, oIs 2, oK 0, oIs 3, oFg 4, oGo 4] := sb_cons (sd_iconst (by decide +kernel : decode cX8_taken 0 = .ok (.iconst 0, 1)) ⟨by decide, by decide⟩) (sb_cons (sd_istore_n (by decide +kernel : decode cX8_taken 1 = .ok (.istore_n 2, 1)) rfl) (sb_cons (sd_iconst (by decide +kernel : decode cX8_taken 2 = .ok (.iconst 0, 1)) ⟨by decide, by decide⟩) (sb_cons (sd_istore_n (by decide +kernel : decode cX8_taken 3 = .ok (.istore_n 3, 1)) rfl) (sb_cons (sd_fg) (sb_cons (sd_fall (x := 0)) sb_nil)))))
set_option maxRecDepth 100000 in
theorem sb_X8_taken_4 (l : Launch) : sm_SndB l RX8 "taken" cX8_taken 5 1 2 4 [oI 3, oA 0, oGr 8 30 0, oK 1, oIl, oGe 107, oA 0, oGr 8 30 7, oI 3, oIl, oK 2, oNe 52, oA 0, oI 3, oCv 8 30 p_X8_way f_X8_way 0 0 2, oLe0 43, oA 0, oGr 8 30 8, oI 3, oIl, oK 1, oAdd, oGo 54] := sb_cons (sd_iload_n (by decide +kernel : decode cX8_taken 4 = .ok (.iload_n 3, 1)) rfl) (sb_cons (sd_aload_n (by decide +kernel : decode cX8_taken 5 = .ok (.aload_n 0, 1)) rfl) (sb_cons (sd_getr (k := 0) kl_8 (by decide) rfl wm_673 (by decide +kernel : decode cX8_taken 6 = .ok (.getfield 7, 3))) (sb_cons (sd_iconst (by decide +kernel : decode cX8_taken 9 = .ok (.iconst 1, 1)) ⟨by decide, by decide⟩) (sb_cons (sd_iaload (by decide +kernel : decode cX8_taken 10 = .ok (.iaload, 1))) (sb_cons (sd_ge (by decide +kernel : decode cX8_taken 11 = .ok (.if_icmp .ge 96, 3)) (by decide)) (sb_cons (sd_aload_n (by decide +kernel : decode cX8_taken 14 = .ok (.aload_n 0, 1)) rfl) (sb_cons (sd_getr (k := 7) kl_8 (by decide) rfl wm_680 (by decide +kernel : decode cX8_taken 15 = .ok (.getfield 26, 3))) (sb_cons (sd_iload_n (by decide +kernel : decode cX8_taken 18 = .ok (.iload_n 3, 1)) rfl) (sb_cons (sd_iaload (by decide +kernel : decode cX8_taken 19 = .ok (.iaload, 1))) (sb_cons (sd_iconst (by decide +kernel : decode cX8_taken 20 = .ok (.iconst 2, 1)) ⟨by decide, by decide⟩) (sb_cons (sd_ne (by decide +kernel : decode cX8_taken 21 = .ok (.if_icmp .ne 31, 3)) (by decide)) (sb_cons (sd_aload_n (by decide +kernel : decode cX8_taken 24 = .ok (.aload_n 0, 1)) rfl) (sb_cons (sd_iload_n (by decide +kernel : decode cX8_taken 25 = .ok (.iload_n 3, 1)) rfl) (sb_cons (sd_callv (n := 1) (met_X8_way l) (by decide) (by decide) wm_821 wm_819 wm_10 ⟨by decide +kernel, by decide +kernel, by decide +kernel⟩ kl_8 wm_820 wm_1120 (by decide +kernel : decode cX8_taken 26 = .ok (.invokevirtual 95, 3))) (sb_cons (sd_le0 (by decide +kernel : decode cX8_taken 29 = .ok (.ifCond .le 14, 3)) (by decide)) (sb_cons (sd_aload_n (by decide +kernel : decode cX8_taken 32 = .ok (.aload_n 0, 1)) rfl) (sb_cons (sd_getr (k := 8) kl_8 (by decide) rfl wm_681 (by decide +kernel : decode cX8_taken 33 = .ok (.getfield 29, 3))) (sb_cons (sd_iload_n (by decide +kernel : decode cX8_taken 36 = .ok (.iload_n 3, 1)) rfl) (sb_cons (sd_iaload (by decide +kernel : decode cX8_taken 37 = .ok (.iaload, 1))) (sb_cons (sd_iconst (by decide +kernel : decode cX8_taken 38 = .ok (.iconst 1, 1)) ⟨by decide, by decide⟩) (sb_cons (sd_iadd (by decide +kernel : decode cX8_taken 39 = .ok (.iadd, 1))) (sb_cons (sd_goto (x := 0) (by decide +kernel : decode cX8_taken 40 = .ok (.goto 14, 3)) (by decide)) sb_nil))))))))))))))))))))))
set_option maxRecDepth 100000 in
theorem sb_X8_taken_43 (l : Launch) : sm_SndB l RX8 "taken" cX8_taken 5 1 2 43 [oA 0, oGr 8 30 8, oI 3, oIl, oGo 54] := sb_cons (sd_aload_n (by decide +kernel : decode cX8_taken 43 = .ok (.aload_n 0, 1)) rfl) (sb_cons (sd_getr (k := 8) kl_8 (by decide) rfl wm_681 (by decide +kernel : decode cX8_taken 44 = .ok (.getfield 29, 3))) (sb_cons (sd_iload_n (by decide +kernel : decode cX8_taken 47 = .ok (.iload_n 3, 1)) rfl) (sb_cons (sd_iaload (by decide +kernel : decode cX8_taken 48 = .ok (.iaload, 1))) (sb_cons (sd_goto (x := 0) (by decide +kernel : decode cX8_taken 49 = .ok (.goto 5, 3)) (by decide)) sb_nil))))
set_option maxRecDepth 100000 in
theorem sb_X8_taken_52 (l : Launch) : sm_SndB l RX8 "taken" cX8_taken 5 1 2 52 [oK (-6), oGo 54] := sb_cons (sd_bipush (by decide +kernel : decode cX8_taken 52 = .ok (.bipush (-6), 2)) ⟨by decide, by decide⟩ (by decide)) (sb_cons (sd_fall (x := 0)) sb_nil)
set_option maxRecDepth 100000 in
theorem sb_X8_taken_54 (l : Launch) : sm_SndB l RX8 "taken" cX8_taken 5 1 2 54 [oIs 4, oI 2, oA 0, oGr 8 30 7, oI 3, oIl, oK 1, oNe 77, oA 0, oGr 8 30 8, oI 3, oIl, oI 1, oEq 94, oGo 77] := sb_cons (sd_istore (by decide +kernel : decode cX8_taken 54 = .ok (.istore 4, 2))) (sb_cons (sd_iload_n (by decide +kernel : decode cX8_taken 56 = .ok (.iload_n 2, 1)) rfl) (sb_cons (sd_aload_n (by decide +kernel : decode cX8_taken 57 = .ok (.aload_n 0, 1)) rfl) (sb_cons (sd_getr (k := 7) kl_8 (by decide) rfl wm_680 (by decide +kernel : decode cX8_taken 58 = .ok (.getfield 26, 3))) (sb_cons (sd_iload_n (by decide +kernel : decode cX8_taken 61 = .ok (.iload_n 3, 1)) rfl) (sb_cons (sd_iaload (by decide +kernel : decode cX8_taken 62 = .ok (.iaload, 1))) (sb_cons (sd_iconst (by decide +kernel : decode cX8_taken 63 = .ok (.iconst 1, 1)) ⟨by decide, by decide⟩) (sb_cons (sd_ne (by decide +kernel : decode cX8_taken 64 = .ok (.if_icmp .ne 13, 3)) (by decide)) (sb_cons (sd_aload_n (by decide +kernel : decode cX8_taken 67 = .ok (.aload_n 0, 1)) rfl) (sb_cons (sd_getr (k := 8) kl_8 (by decide) rfl wm_681 (by decide +kernel : decode cX8_taken 68 = .ok (.getfield 29, 3))) (sb_cons (sd_iload_n (by decide +kernel : decode cX8_taken 71 = .ok (.iload_n 3, 1)) rfl) (sb_cons (sd_iaload (by decide +kernel : decode cX8_taken 72 = .ok (.iaload, 1))) (sb_cons (sd_iload_n (by decide +kernel : decode cX8_taken 73 = .ok (.iload_n 1, 1)) rfl) (sb_cons (sd_eq (by decide +kernel : decode cX8_taken 74 = .ok (.if_icmp .eq 20, 3)) (by decide)) (sb_cons (sd_fall (x := 0)) sb_nil))))))))))))))
set_option maxRecDepth 100000 in
theorem sb_X8_taken_77 (l : Launch) : sm_SndB l RX8 "taken" cX8_taken 5 1 2 77 [oI 4, oI 1, oNe 98, oI 4, oA 0, oI 3, oK 1, oCv 8 30 p_X8_of f_X8_of 0 0 3, oEq 98, oGo 94] := sb_cons (sd_iload (by decide +kernel : decode cX8_taken 77 = .ok (.iload 4, 2))) (sb_cons (sd_iload_n (by decide +kernel : decode cX8_taken 79 = .ok (.iload_n 1, 1)) rfl) (sb_cons (sd_ne (by decide +kernel : decode cX8_taken 80 = .ok (.if_icmp .ne 18, 3)) (by decide)) (sb_cons (sd_iload (by decide +kernel : decode cX8_taken 83 = .ok (.iload 4, 2))) (sb_cons (sd_aload_n (by decide +kernel : decode cX8_taken 85 = .ok (.aload_n 0, 1)) rfl) (sb_cons (sd_iload_n (by decide +kernel : decode cX8_taken 86 = .ok (.iload_n 3, 1)) rfl) (sb_cons (sd_iconst (by decide +kernel : decode cX8_taken 87 = .ok (.iconst 1, 1)) ⟨by decide, by decide⟩) (sb_cons (sd_callv (n := 2) (met_X8_of l) (by decide) (by decide) wm_778 wm_776 wm_10 ⟨by decide +kernel, by decide +kernel, by decide +kernel⟩ kl_8 wm_777 wm_1113 (by decide +kernel : decode cX8_taken 88 = .ok (.invokevirtual 78, 3))) (sb_cons (sd_eq (by decide +kernel : decode cX8_taken 91 = .ok (.if_icmp .eq 7, 3)) (by decide)) (sb_cons (sd_fall (x := 0)) sb_nil)))))))))
set_option maxRecDepth 100000 in
theorem sb_X8_taken_94 (l : Launch) : sm_SndB l RX8 "taken" cX8_taken 5 1 2 94 [oK 1, oGo 99] := sb_cons (sd_iconst (by decide +kernel : decode cX8_taken 94 = .ok (.iconst 1, 1)) ⟨by decide, by decide⟩) (sb_cons (sd_goto (x := 0) (by decide +kernel : decode cX8_taken 95 = .ok (.goto 4, 3)) (by decide)) sb_nil)
set_option maxRecDepth 100000 in
theorem sb_X8_taken_98 (l : Launch) : sm_SndB l RX8 "taken" cX8_taken 5 1 2 98 [oK 0, oGo 99] := sb_cons (sd_iconst (by decide +kernel : decode cX8_taken 98 = .ok (.iconst 0, 1)) ⟨by decide, by decide⟩) (sb_cons (sd_fall (x := 0)) sb_nil)
set_option maxRecDepth 100000 in
theorem sb_X8_taken_99 (l : Launch) : sm_SndB l RX8 "taken" cX8_taken 5 1 2 99 [oAdd, oIs 2, oInc 3 1, oFg 4, oGo 4] := sb_cons (sd_iadd (by decide +kernel : decode cX8_taken 99 = .ok (.iadd, 1))) (sb_cons (sd_istore_n (by decide +kernel : decode cX8_taken 100 = .ok (.istore_n 2, 1)) rfl) (sb_cons (sd_iinc (by decide +kernel : decode cX8_taken 101 = .ok (.iinc 3 1, 3))) (sb_cons (sd_fg) (sb_cons (sd_goto (x := 0) (by decide +kernel : decode cX8_taken 104 = .ok (.goto (-100), 3)) (by decide)) sb_nil))))
set_option maxRecDepth 100000 in
theorem sb_X8_taken_107 (l : Launch) : sm_SndB l RX8 "taken" cX8_taken 5 1 2 107 [oI 2, oIr] := sb_cons (sd_iload_n (by decide +kernel : decode cX8_taken 107 = .ok (.iload_n 2, 1)) rfl) (sb_cons (sd_ireturn (x := 0) rfl (by decide +kernel : decode cX8_taken 108 = .ok (.ireturn, 1))) sb_nil)
theorem sn_X8_taken (l : Launch) : sm_SndT l RX8 "taken" cX8_taken 5 1 2 tb_X8_taken := st_cons (sb_X8_taken_0 l) (st_cons (sb_X8_taken_4 l) (st_cons (sb_X8_taken_43 l) (st_cons (sb_X8_taken_52 l) (st_cons (sb_X8_taken_54 l) (st_cons (sb_X8_taken_77 l) (st_cons (sb_X8_taken_94 l) (st_cons (sb_X8_taken_98 l) (st_cons (sb_X8_taken_99 l) (st_cons (sb_X8_taken_107 l) (st_nil))))))))))
set_option maxRecDepth 100000 in
set_option maxHeartbeats 4000000 in
theorem ok_X8_taken : sm_Ok tb_X8_taken 5 0 0 p_X8_taken f_X8_taken := by
  intro as w hp ha hw
  match as, hp with
  | [.inr (.inl m), .inl st], hp =>
  refine ⟨Nat.le_of_ble_eq_true rfl, fun Z hZ => ?_⟩
  obtain ⟨rfl, ⟨hT, hv⟩, hd⟩ := hp
  have hm := vOK_many hv
  have hl := sm_loopI Z 4 0 (wI w 155 1) (fun i => [some (.inr (.inl 154)), some (.inl st), some (.inl (mTaken w st i)), some (.inl i), none]) (fun _ => w) 0 0 hm.1 (fun i h0 h1 ih => by
  have hx := fun hlt => hd i h0 hlt
  have hb := mTaken_le w st i h0
  have hu : mTaken w st (i + 1) = mTk w st i (mTaken w st i) := itI_s _ _ h0
  rw [hu] at ih
  unfold mTk mTo at ih
  have hwp := mWay_pm (wI w 155) i
  simp only [mSh] at hx
  refine hZ (fun u => Nat.beq u 4) 40 4 _ _ _ _ _ ?_
  simp only [sm_run, sm_blk, sm_get, sm_ent, sm_ents, sm_wds, sm_wd, sm_nl, sm_pop, sm_back, sm_cases, oK, oLK, oL, oI, oA, oJ, oIs, oAs, oJs, oInc, oAdd, oSub, oMul, oDiv, oRem, oNeg, oAnd, oOr, oShl, oI2c, oI2l, oL2i, oLand, oLor, oLshl, oLshr, oLushr, oLcmp, oDup, oDup2, oPop, oGo, oFg, oEq, oNe, oLt, oGe, oGt, oLe, oEq0, oNe0, oLt0, oGe0, oGt0, oLe0, oSw, oGi, oGr, oPi, oPz, oPr, oLen, oIl, oZl, oCl, oRl, oIst, oZst, oCst, oRst, oCopy, oNew, oNa, oNa2, oObj, oCs, oCv, oCi, oIr, oZr, oVr, Nat.beq, List.getElem?_cons_zero, List.getElem?_cons_succ, List.set_cons_zero, List.set_cons_succ, List.length_cons, List.length_nil, List.nil_append, List.cons_append, List.append_nil, List.replicate_succ, List.replicate_zero, Nat.reduceAdd, Nat.reduceSub, Nat.reduceLT, Nat.reduceLeDiff, Nat.reduceBEq, true_and, and_true, Nat.zero_add, Nat.add_zero, Nat.le_refl, Option.some.injEq, exists_eq_left', true_or, or_true, or_false, false_or, reduceCtorEq, Prod.mk.injEq, Sum.inl.injEq, and_self, false_and, and_false, not_true_eq_false, not_false_eq_true, false_implies, true_implies, sm_r, Int.add_zero, Int.zero_add, tb_X8_taken, p_X8_of, p_X8_way, f_X8_of, f_X8_way, p_X8_taken, f_X8_taken, sS_154 hT, sR_154_0 hT, sS_155 hT, sR_154_7 hT, sS_160 hT, sR_154_8 hT, sS_161 hT]
  repeat' (first | assumption | with_reducible refine And.intro ?_ ?_ | intro _)
  all_goals first
    | omega
    | (have k9 := ih (by omega)
       (repeat' split at k9) <;> first | exact k9 | omega)
    | (congr 1; omega)
    | skip
  )
  refine hZ (fun u => Nat.beq u 4) 40 0 _ _ _ _ _ ?_
  simp only [sm_run, sm_blk, sm_get, sm_ent, sm_ents, sm_wds, sm_wd, sm_nl, sm_pop, sm_back, sm_cases, oK, oLK, oL, oI, oA, oJ, oIs, oAs, oJs, oInc, oAdd, oSub, oMul, oDiv, oRem, oNeg, oAnd, oOr, oShl, oI2c, oI2l, oL2i, oLand, oLor, oLshl, oLshr, oLushr, oLcmp, oDup, oDup2, oPop, oGo, oFg, oEq, oNe, oLt, oGe, oGt, oLe, oEq0, oNe0, oLt0, oGe0, oGt0, oLe0, oSw, oGi, oGr, oPi, oPz, oPr, oLen, oIl, oZl, oCl, oRl, oIst, oZst, oCst, oRst, oCopy, oNew, oNa, oNa2, oObj, oCs, oCv, oCi, oIr, oZr, oVr, Nat.beq, List.getElem?_cons_zero, List.getElem?_cons_succ, List.set_cons_zero, List.set_cons_succ, List.length_cons, List.length_nil, List.nil_append, List.cons_append, List.append_nil, List.replicate_succ, List.replicate_zero, Nat.reduceAdd, Nat.reduceSub, Nat.reduceLT, Nat.reduceLeDiff, Nat.reduceBEq, true_and, and_true, Nat.zero_add, Nat.add_zero, Nat.le_refl, Option.some.injEq, exists_eq_left', true_or, or_true, or_false, false_or, reduceCtorEq, Prod.mk.injEq, Sum.inl.injEq, and_self, false_and, and_false, not_true_eq_false, not_false_eq_true, false_implies, true_implies, sm_r, Int.add_zero, Int.zero_add, tb_X8_taken, p_X8_of, p_X8_way, f_X8_of, f_X8_way, p_X8_taken, f_X8_taken]
  repeat' (first | assumption | with_reducible refine And.intro ?_ ?_ | intro _)
  all_goals first
    | omega
    | (have k9 := ih (by omega)
       (repeat' split at k9) <;> first | exact k9 | omega)
    | (congr 1; omega)
    | skip

theorem met_X8_taken (l : Launch) : sm_Met l yX8_taken cX8_taken 5 (some .int) 2 0 0 p_X8_taken f_X8_taken := sm_met 1 (Or.inr (Or.inl ⟨rfl, rfl⟩)) (by decide +kernel) (sn_X8_taken l) ok_X8_taken