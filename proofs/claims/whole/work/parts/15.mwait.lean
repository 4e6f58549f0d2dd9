/-! THE REFERENCE: waits, the end of a day, its beginning -/
theorem mWho_in (w : sm_W) (s n : Int) (hn : 0 ≤ n) : mWho w s n = -6 ∨ (0 ≤ mWho w s n ∧ mWho w s n < n ∧ wI w 160 (mWho w s n) = 2 ∧ wI w 161 (mWho w s n) = s) := by
  refine itI_ind (fun i r => r = -6 ∨ (0 ≤ r ∧ r < i ∧ wI w 160 r = 2 ∧ wI w 161 r = s)) n (Or.inl rfl) (fun i r h0 h1 h => ?_) n hn (Int.le_refl _)
  grind
def mWhoA (w : sm_W) (x : Int) : Int := mWho w (sFrom (wI w 161 x) (mWay (wI w 155) x)) (wI w 155 1)
def mRs (w : sm_W) (x : Int) : Int := if mWhoA w x < 0 then 3 else if mWay (wI w 155) (mWhoA w x) ≠ mWay (wI w 155) x then 1 else 2
def p_X8_reason : List sm_V → sm_W → Prop
  | [.inr (.inl m), .inl x], w => m = 154 ∧ mDay w ∧ 0 ≤ x ∧ x < wI w 155 1
  | _, _ => False
def f_X8_reason : sm_F
  | [.inr (.inl m), .inl x], w => (some (.inl (mRs w x)), w)
  | _, w => (none, w)
def tb_X8_reason : List (Nat × List sm_O) := [(0, [oA 0, oA 0, oGr 8 30 8, oI 1, oIl, oA 0, oI 1, oCv 8 30 p_X8_way f_X8_way 0 0 2, oCs p_X8_stretchFrom f_X8_stretchFrom 0 0 2, oCv 8 30 p_X8_whoIsOn f_X8_whoIsOn 0 0 2, oIs 2, oI 2, oGe0 27, oK 3, oGo 45]),
  (27, [oA 0, oI 2, oCv 8 30 p_X8_way f_X8_way 0 0 2, oA 0, oI 1, oCv 8 30 p_X8_way f_X8_way 0 0 2, oEq 44, oK 1, oGo 45]),
  (44, [oK 2, oGo 45]),
  (45, [oIr])]
set_option maxRecDepth 100000 in
theorem sb_X8_reason_0 (l : Launch) : sm_SndB l RX8 "reason" cX8_reason 3 1 2 0 [oA 0, oA 0, oGr 8 30 8, oI 1, oIl, oA 0, oI 1, oCv 8 30 p_X8_way f_X8_way 0 0 2, oCs p_X8_stretchFrom f_X8_stretchFrom 0 0 2, oCv 8 30 p_X8_whoIsOn f_X8_whoIsOn 0 0 2, oIs 2, oI 2, oGe0 27, oK 3, oGo 45] := sb_cons (sd_aload_n (by decide +kernel : decode cX8_reason 0 = .ok (.aload_n 0, 1)) rfl) (sb_cons (sd_aload_n (by decide +kernel : decode cX8_reason 1 = .ok (.aload_n 0, 1)) rfl) (sb_cons (sd_getr (k := 8) kl_8 (by decide) rfl wm_681 (by decide +kernel : decode cX8_reason 2 = .ok (.getfield 29, 3))) (sb_cons (sd_iload_n (by decide +kernel : decode cX8_reason 5 = .ok (.iload_n 1, 1)) rfl) (sb_cons (sd_iaload (by decide +kernel : decode cX8_reason 6 = .ok (.iaload, 1))) (sb_cons (sd_aload_n (by decide +kernel : decode cX8_reason 7 = .ok (.aload_n 0, 1)) rfl) (sb_cons (sd_iload_n (by decide +kernel : decode cX8_reason 8 = .ok (.iload_n 1, 1)) rfl) (sb_cons (sd_callv (n := 1) (met_X8_way l) (by decide) (by decide) wm_821 wm_819 wm_10 ⟨by decide +kernel, by decide +kernel, by decide +kernel⟩ kl_8 wm_820 wm_1120 (by decide +kernel : decode cX8_reason 9 = .ok (.invokevirtual 95, 3))) (sb_cons (sd_calls (n := 2) (met_X8_stretchFrom l) (by decide) (by decide) wm_849 wm_847 wm_10 ⟨by decide +kernel, by decide +kernel, by decide +kernel⟩ wm_848 (by decide +kernel : decode cX8_reason 12 = .ok (.invokestatic 106, 3))) (sb_cons (sd_callv (n := 1) (met_X8_whoIsOn l) (by decide) (by decide) wm_853 wm_851 wm_10 ⟨by decide +kernel, by decide +kernel, by decide +kernel⟩ kl_8 wm_852 wm_1127 (by decide +kernel : decode cX8_reason 15 = .ok (.invokevirtual 109, 3))) (sb_cons (sd_istore_n (by decide +kernel : decode cX8_reason 18 = .ok (.istore_n 2, 1)) rfl) (sb_cons (sd_iload_n (by decide +kernel : decode cX8_reason 19 = .ok (.iload_n 2, 1)) rfl) (sb_cons (sd_ge0 (by decide +kernel : decode cX8_reason 20 = .ok (.ifCond .ge 7, 3)) (by decide)) (sb_cons (sd_iconst (by decide +kernel : decode cX8_reason 23 = .ok (.iconst 3, 1)) ⟨by decide, by decide⟩) (sb_cons (sd_goto (x := 0) (by decide +kernel : decode cX8_reason 24 = .ok (.goto 21, 3)) (by decide)) sb_nil))))))))))))))
set_option maxRecDepth 100000 in
theorem sb_X8_reason_27 (l : Launch) : sm_SndB l RX8 "reason" cX8_reason 3 1 2 27 [oA 0, oI 2, oCv 8 30 p_X8_way f_X8_way 0 0 2, oA 0, oI 1, oCv 8 30 p_X8_way f_X8_way 0 0 2, oEq 44, oK 1, oGo 45] := sb_cons (sd_aload_n (by decide +kernel : decode cX8_reason 27 = .ok (.aload_n 0, 1)) rfl) (sb_cons (sd_iload_n (by decide +kernel : decode cX8_reason 28 = .ok (.iload_n 2, 1)) rfl) (sb_cons (sd_callv (n := 1) (met_X8_way l) (by decide) (by decide) wm_821 wm_819 wm_10 ⟨by decide +kernel, by decide +kernel, by decide +kernel⟩ kl_8 wm_820 wm_1120 (by decide +kernel : decode cX8_reason 29 = .ok (.invokevirtual 95, 3))) (sb_cons (sd_aload_n (by decide +kernel : decode cX8_reason 32 = .ok (.aload_n 0, 1)) rfl) (sb_cons (sd_iload_n (by decide +kernel : decode cX8_reason 33 = .ok (.iload_n 1, 1)) rfl) (sb_cons (sd_callv (n := 1) (met_X8_way l) (by decide) (by decide) wm_821 wm_819 wm_10 ⟨by decide +kernel, by decide +kernel, by decide +kernel⟩ kl_8 wm_820 wm_1120 (by decide +kernel : decode cX8_reason 34 = .ok (.invokevirtual 95, 3))) (sb_cons (sd_eq (by decide +kernel : decode cX8_reason 37 = .ok (.if_icmp .eq 7, 3)) (by decide)) (sb_cons (sd_iconst (by decide +kernel : decode cX8_reason 40 = .ok (.iconst 1, 1)) ⟨by decide, by decide⟩) (sb_cons (sd_goto (x := 0) (by decide +kernel : decode cX8_reason 41 = .ok (.goto 4, 3)) (by decide)) sb_nil))))))))
set_option maxRecDepth 100000 in
theorem sb_X8_reason_44 (l : Launch) : sm_SndB l RX8 "reason" cX8_reason 3 1 2 44 [oK 2, oGo 45] := sb_cons (sd_iconst (by decide +kernel : decode cX8_reason 44 = .ok (.iconst 2, 1)) ⟨by decide, by decide⟩) (sb_cons (sd_fall (x := 0)) sb_nil)
set_option maxRecDepth 100000 in
theorem sb_X8_reason_45 (l : Launch) : sm_SndB l RX8 "reason" cX8_reason 3 1 2 45 [oIr] := sb_cons (sd_ireturn (x := 0) rfl (by decide +kernel : decode cX8_reason 45 = .ok (.ireturn, 1))) sb_nil
theorem sn_X8_reason (l : Launch) : sm_SndT l RX8 "reason" cX8_reason 3 1 2 tb_X8_reason := st_cons (sb_X8_reason_0 l) (st_cons (sb_X8_reason_27 l) (st_cons (sb_X8_reason_44 l) (st_cons (sb_X8_reason_45 l) (st_nil))))
set_option maxRecDepth 100000 in
set_option maxHeartbeats 4000000 in
theorem ok_X8_reason : sm_Ok tb_X8_reason 3 0 0 p_X8_reason f_X8_reason := by
  intro as w hp ha hw
  match as, hp with
  | [.inr (.inl m), .inl x], hp =>
  refine ⟨Nat.le_of_ble_eq_true rfl, fun Z hZ => ?_⟩
  obtain ⟨rfl, hD, h1, h2⟩ := hp
  have hT := hD.1.1
  have hO := hD.1
  have hm := vOK_many hD.1.2
  have hx := hD.2 x h1 h2
  simp only [mSh] at hx
  have hw := mWho_in w (sFrom (wI w 161 x) (mWay (wI w 155) x)) (wI w 155 1) hm.1
  refine hZ (fun _ => false) 16 0 _ _ _ _ _ ?_
  simp only [sm_run, sm_blk, sm_get, sm_ent, sm_ents, sm_wds, sm_wd, sm_nl, sm_pop, sm_back, sm_cases, oK, oLK, oL, oI, oA, oJ, oIs, oAs, oJs, oInc, oAdd, oSub, oMul, oDiv, oRem, oNeg, oAnd, oOr, oShl, oI2c, oI2l, oL2i, oLand, oLor, oLshl, oLshr, oLushr, oLcmp, oDup, oDup2, oPop, oGo, oFg, oEq, oNe, oLt, oGe, oGt, oLe, oEq0, oNe0, oLt0, oGe0, oGt0, oLe0, oSw, oGi, oGr, oPi, oPz, oPr, oLen, oIl, oZl, oCl, oRl, oIst, oZst, oCst, oRst, oCopy, oNew, oNa, oNa2, oObj, oCs, oCv, oCi, oIr, oZr, oVr, Nat.beq, List.getElem?_cons_zero, List.getElem?_cons_succ, List.set_cons_zero, List.set_cons_succ, List.length_cons, List.length_nil, List.nil_append, List.cons_append, List.append_nil, List.replicate_succ, List.replicate_zero, Nat.reduceAdd, Nat.reduceSub, Nat.reduceLT, Nat.reduceLeDiff, Nat.reduceBEq, true_and, and_true, Nat.zero_add, Nat.add_zero, Nat.le_refl, Option.some.injEq, exists_eq_left', true_or, or_true, or_false, false_or, reduceCtorEq, Prod.mk.injEq, Sum.inl.injEq, and_self, false_and, and_false, not_true_eq_false, not_false_eq_true, false_implies, true_implies, sm_r, Int.add_zero, Int.zero_add, wI_wsI, wS_wsI, wR_wsI, wI_wCp, wS_wCp, wR_wCp, Nat.reduceEqDiff, reduceIte, sT_iff, sT_iffC, wIf_ne, ne_eq, Bool.false_or, Bool.true_or, Bool.or_false, Bool.or_true, Bool.or_self, tb_X8_reason, p_X8_stretchFrom, p_X8_way, p_X8_whoIsOn, f_X8_stretchFrom, f_X8_way, f_X8_whoIsOn, p_X8_reason, f_X8_reason, sS_154 hT, sR_154_8 hT, sS_161 hT, hT]
  repeat' (first | with_reducible assumption | with_reducible refine And.intro ?_ ?_ | intro _)
  all_goals first
    | omega
    | assumption
    | rfl
    | (split <;> omega)
    | grind [mRs, mWhoA]
    | skip
theorem met_X8_reason (l : Launch) : sm_Met l yX8_reason cX8_reason 3 (some .int) 2 0 0 p_X8_reason f_X8_reason := sm_met 1 (Or.inr (Or.inl ⟨rfl, rfl⟩)) (by decide +kernel) (sn_X8_reason l) ok_X8_reason
def mWt1 (t x : Int) (w : sm_W) : sm_W := if wI w 160 x ≤ 1 ∧ mReady w x ≤ t then (if 0 ≤ mWhoA w x then wsI (wsI (wsI w 169 (4 * x + mRs w x) (wI w 169 (4 * x + mRs w x) + 1)) 164 (8 * x + wI w 161 x) (mReady w x)) 168 (8 * x + mWhoA w x) (wI w 168 (8 * x + mWhoA w x) + 1) else wsI (wsI w 169 (4 * x + mRs w x) (wI w 169 (4 * x + mRs w x) + 1)) 164 (8 * x + wI w 161 x) (mReady w x)) else w
def mSame2 (w u : sm_W) : Prop := (∀ a, a ≠ 169 → a ≠ 164 → a ≠ 168 → wI u a = wI w a) ∧ (sT w → sT u)
theorem mSame2.day {w u : sm_W} (h : mSame2 w u) (hD : mDay w) : mDay u := mDay_keep (h.2 hD.1.1) (h.1 _ (by decide) (by decide) (by decide)) (h.1 _ (by decide) (by decide) (by decide)) (h.1 _ (by decide) (by decide) (by decide)) (h.1 _ (by decide) (by decide) (by decide)) hD
theorem mWt1_same (t x : Int) (w : sm_W) : mSame2 w (mWt1 t x w) := by
  unfold mWt1
  split
  · split
    · exact ⟨fun a h1 h2 h3 => by rw [wIf_ne h3, wIf_ne h2, wIf_ne h1], fun h => h⟩
    · exact ⟨fun a h1 h2 h3 => by rw [wIf_ne h2, wIf_ne h1], fun h => h⟩
  · exact ⟨fun _ _ _ _ => rfl, fun h => h⟩
/-- the counters of waits are below a bound -/
def mCtr (w : sm_W) (n : Int) : Prop := ∀ i, (0 ≤ wI w 169 i ∧ wI w 169 i ≤ n) ∧ (0 ≤ wI w 168 i ∧ wI w 168 i ≤ n)
theorem mWt1_ctr {t x : Int} {w : sm_W} {n : Int} (h : mCtr w n) : mCtr (mWt1 t x w) (n + 1) := by
  intro i
  have h1 := h i
  have h2 := h (4 * x + mRs w x)
  have h3 := h (8 * x + mWhoA w x)
  unfold mWt1
  split
  · split
    · simp only [wI_wsI, Nat.reduceEqDiff, false_and, true_and, if_false]
      constructor
      · split <;> omega
      · split <;> omega
    · simp only [wI_wsI, Nat.reduceEqDiff, false_and, true_and, if_false]
      constructor
      · split <;> omega
      · omega
  · omega
def mWait (t : Int) (w : sm_W) : Int → sm_W := itI (mWt1 t) w
theorem mWait_inv {t : Int} {w : sm_W} {c : Int} (h : mCtr w c) (n : Int) (h0 : 0 ≤ n) : mSame2 w (mWait t w n) ∧ mCtr (mWait t w n) (c + n) := by
  refine itI_ind (fun i r => mSame2 w r ∧ mCtr r (c + i)) n ⟨⟨fun _ _ _ _ => rfl, fun h => h⟩, by rw [Int.add_zero]; exact h⟩ (fun i r i0 i1 hr => ⟨⟨fun a h1 h2 h3 => by rw [(mWt1_same t i r).1 a h1 h2 h3, hr.1.1 a h1 h2 h3], fun hT => (mWt1_same t i r).2 (hr.1.2 hT)⟩, by have := mWt1_ctr (t := t) (x := i) hr.2; rw [Int.add_assoc] at this; exact this⟩) n h0 (Int.le_refl _)
def p_X8_waitAll : List sm_V → sm_W → Prop
  | [.inr (.inl m), .inl t], w => m = 154 ∧ mDay w ∧ mCtr w 1000000
  | _, _ => False
def f_X8_waitAll : sm_F
  | [.inr (.inl m), .inl t], w => (none, mWait t w (wI w 155 1))
  | _, w => (none, w)
def tb_X8_waitAll : List (Nat × List sm_O) := [(0, [oK 0, oIs 2, oFg 3, oGo 2]),
  (2, [oI 2, oA 0, oGr 8 30 0, oK 1, oIl, oGe 104, oA 0, oI 2, oI 1, oCv 8 30 p_X8_isReady f_X8_isReady 0 0 3, oEq0 98, oA 0, oA 0, oGr 8 30 8, oI 2, oIl, oA 0, oI 2, oCv 8 30 p_X8_way f_X8_way 0 0 2, oCs p_X8_stretchFrom f_X8_stretchFrom 0 0 2, oCv 8 30 p_X8_whoIsOn f_X8_whoIsOn 0 0 2, oIs 3, oA 0, oGr 8 30 16, oK 4, oI 2, oMul, oA 0, oI 2, oCv 8 30 p_X8_reason f_X8_reason 0 0 2, oAdd, oDup2, oIl, oK 1, oAdd, oIst, oA 0, oGr 8 30 11, oK 8, oI 2, oMul, oA 0, oGr 8 30 8, oI 2, oIl, oAdd, oA 0, oI 2, oCv 8 30 p_X8_readyAt f_X8_readyAt 0 0 2, oIst, oI 3, oLt0 98, oA 0, oGr 8 30 15, oK 8, oI 2, oMul, oI 3, oAdd, oDup2, oIl, oK 1, oAdd, oIst, oGo 98]),
  (98, [oInc 2 1, oFg 3, oGo 2]),
  (104, [oVr])]
set_option maxRecDepth 100000 in
theorem sb_X8_waitAll_0 (l : Launch) : sm_SndB l RX8 "waitAll" cX8_waitAll 4 0 3 0 [oK 0, oIs 2, oFg 3, oGo 2] := sb_cons (sd_iconst (by decide +kernel : decode cX8_waitAll 0 = .ok (.iconst 0, 1)) ⟨by decide, by decide⟩) (sb_cons (sd_istore_n (by decide +kernel : decode cX8_waitAll 1 = .ok (.istore_n 2, 1)) rfl) (sb_cons (sd_fg) (sb_cons (sd_fall (x := 0)) sb_nil)))
set_option maxRecDepth 100000 in
theorem sb_X8_waitAll_2 (l : Launch) : sm_SndB l RX8 "waitAll" cX8_waitAll 4 0 3 2 [oI 2, oA 0, oGr 8 30 0, oK 1, oIl, oGe 104, oA 0, oI 2, oI 1, oCv 8 30 p_X8_isReady f_X8_isReady 0 0 3, oEq0 98, oA 0, oA 0, oGr 8 30 8, oI 2, oIl, oA 0, oI 2, oCv 8 30 p_X8_way f_X8_way 0 0 2, oCs p_X8_stretchFrom f_X8_stretchFrom 0 0 2, oCv 8 30 p_X8_whoIsOn f_X8_whoIsOn 0 0 2, oIs 3, oA 0, oGr 8 30 16, oK 4, oI 2, oMul, oA 0, oI 2, oCv 8 30 p_X8_reason f_X8_reason 0 0 2, oAdd, oDup2, oIl, oK 1, oAdd, oIst, oA 0, oGr 8 30 11, oK 8, oI 2, oMul, oA 0, oGr 8 30 8, oI 2, oIl, oAdd, oA 0, oI 2, oCv 8 30 p_X8_readyAt f_X8_readyAt 0 0 2, oIst, oI 3, oLt0 98, oA 0, oGr 8 30 15, oK 8, oI 2, oMul, oI 3, oAdd, oDup2, oIl, oK 1, oAdd, oIst, oGo 98] := sb_cons (sd_iload_n (by decide +kernel : decode cX8_waitAll 2 = .ok (.iload_n 2, 1)) rfl) (sb_cons (sd_aload_n (by decide +kernel : decode cX8_waitAll 3 = .ok (.aload_n 0, 1)) rfl) (sb_cons (sd_getr (k := 0) kl_8 (by decide) rfl wm_673 (by decide +kernel : decode cX8_waitAll 4 = .ok (.getfield 7, 3))) (sb_cons (sd_iconst (by decide +kernel : decode cX8_waitAll 7 = .ok (.iconst 1, 1)) ⟨by decide, by decide⟩) (sb_cons (sd_iaload (by decide +kernel : decode cX8_waitAll 8 = .ok (.iaload, 1))) (sb_cons (sd_ge (by decide +kernel : decode cX8_waitAll 9 = .ok (.if_icmp .ge 95, 3)) (by decide)) (sb_cons (sd_aload_n (by decide +kernel : decode cX8_waitAll 12 = .ok (.aload_n 0, 1)) rfl) (sb_cons (sd_iload_n (by decide +kernel : decode cX8_waitAll 13 = .ok (.iload_n 2, 1)) rfl) (sb_cons (sd_iload_n (by decide +kernel : decode cX8_waitAll 14 = .ok (.iload_n 1, 1)) rfl) (sb_cons (sd_callv (n := 2) (met_X8_isReady l) (by decide) (by decide) wm_841 wm_839 wm_10 ⟨by decide +kernel, by decide +kernel, by decide +kernel⟩ kl_8 wm_840 wm_1125 (by decide +kernel : decode cX8_waitAll 15 = .ok (.invokevirtual 102, 3))) (sb_cons (sd_eq0 (by decide +kernel : decode cX8_waitAll 18 = .ok (.ifCond .eq 80, 3)) (by decide)) (sb_cons (sd_aload_n (by decide +kernel : decode cX8_waitAll 21 = .ok (.aload_n 0, 1)) rfl) (sb_cons (sd_aload_n (by decide +kernel : decode cX8_waitAll 22 = .ok (.aload_n 0, 1)) rfl) (sb_cons (sd_getr (k := 8) kl_8 (by decide) rfl wm_681 (by decide +kernel : decode cX8_waitAll 23 = .ok (.getfield 29, 3))) (sb_cons (sd_iload_n (by decide +kernel : decode cX8_waitAll 26 = .ok (.iload_n 2, 1)) rfl) (sb_cons (sd_iaload (by decide +kernel : decode cX8_waitAll 27 = .ok (.iaload, 1))) (sb_cons (sd_aload_n (by decide +kernel : decode cX8_waitAll 28 = .ok (.aload_n 0, 1)) rfl) (sb_cons (sd_iload_n (by decide +kernel : decode cX8_waitAll 29 = .ok (.iload_n 2, 1)) rfl) (sb_cons (sd_callv (n := 1) (met_X8_way l) (by decide) (by decide) wm_821 wm_819 wm_10 ⟨by decide +kernel, by decide +kernel, by decide +kernel⟩ kl_8 wm_820 wm_1120 (by decide +kernel : decode cX8_waitAll 30 = .ok (.invokevirtual 95, 3))) (sb_cons (sd_calls (n := 2) (met_X8_stretchFrom l) (by decide) (by decide) wm_849 wm_847 wm_10 ⟨by decide +kernel, by decide +kernel, by decide +kernel⟩ wm_848 (by decide +kernel : decode cX8_waitAll 33 = .ok (.invokestatic 106, 3))) (sb_cons (sd_callv (n := 1) (met_X8_whoIsOn l) (by decide) (by decide) wm_853 wm_851 wm_10 ⟨by decide +kernel, by decide +kernel, by decide +kernel⟩ kl_8 wm_852 wm_1127 (by decide +kernel : decode cX8_waitAll 36 = .ok (.invokevirtual 109, 3))) (sb_cons (sd_istore_n (by decide +kernel : decode cX8_waitAll 39 = .ok (.istore_n 3, 1)) rfl) (sb_cons (sd_aload_n (by decide +kernel : decode cX8_waitAll 40 = .ok (.aload_n 0, 1)) rfl) (sb_cons (sd_getr (k := 16) kl_8 (by decide) rfl wm_689 (by decide +kernel : decode cX8_waitAll 41 = .ok (.getfield 53, 3))) (sb_cons (sd_iconst (by decide +kernel : decode cX8_waitAll 44 = .ok (.iconst 4, 1)) ⟨by decide, by decide⟩) (sb_cons (sd_iload_n (by decide +kernel : decode cX8_waitAll 45 = .ok (.iload_n 2, 1)) rfl) (sb_cons (sd_imul (by decide +kernel : decode cX8_waitAll 46 = .ok (.imul, 1))) (sb_cons (sd_aload_n (by decide +kernel : decode cX8_waitAll 47 = .ok (.aload_n 0, 1)) rfl) (sb_cons (sd_iload_n (by decide +kernel : decode cX8_waitAll 48 = .ok (.iload_n 2, 1)) rfl) (sb_cons (sd_callv (n := 1) (met_X8_reason l) (by decide) (by decide) wm_873 wm_871 wm_10 ⟨by decide +kernel, by decide +kernel, by decide +kernel⟩ kl_8 wm_872 wm_1132 (by decide +kernel : decode cX8_waitAll 49 = .ok (.invokevirtual 127, 3))) (sb_cons (sd_iadd (by decide +kernel : decode cX8_waitAll 52 = .ok (.iadd, 1))) (sb_cons (sd_dup2 (by decide +kernel : decode cX8_waitAll 53 = .ok (.dup2, 1))) (sb_cons (sd_iaload (by decide +kernel : decode cX8_waitAll 54 = .ok (.iaload, 1))) (sb_cons (sd_iconst (by decide +kernel : decode cX8_waitAll 55 = .ok (.iconst 1, 1)) ⟨by decide, by decide⟩) (sb_cons (sd_iadd (by decide +kernel : decode cX8_waitAll 56 = .ok (.iadd, 1))) (sb_cons (sd_iastore (by decide +kernel : decode cX8_waitAll 57 = .ok (.iastore, 1))) (sb_cons (sd_aload_n (by decide +kernel : decode cX8_waitAll 58 = .ok (.aload_n 0, 1)) rfl) (sb_cons (sd_getr (k := 11) kl_8 (by decide) rfl wm_684 (by decide +kernel : decode cX8_waitAll 59 = .ok (.getfield 38, 3))) (sb_cons (sd_bipush (by decide +kernel : decode cX8_waitAll 62 = .ok (.bipush 8, 2)) ⟨by decide, by decide⟩ (by decide)) (sb_cons (sd_iload_n (by decide +kernel : decode cX8_waitAll 64 = .ok (.iload_n 2, 1)) rfl) (sb_cons (sd_imul (by decide +kernel : decode cX8_waitAll 65 = .ok (.imul, 1))) (sb_cons (sd_aload_n (by decide +kernel : decode cX8_waitAll 66 = .ok (.aload_n 0, 1)) rfl) (sb_cons (sd_getr (k := 8) kl_8 (by decide) rfl wm_681 (by decide +kernel : decode cX8_waitAll 67 = .ok (.getfield 29, 3))) (sb_cons (sd_iload_n (by decide +kernel : decode cX8_waitAll 70 = .ok (.iload_n 2, 1)) rfl) (sb_cons (sd_iaload (by decide +kernel : decode cX8_waitAll 71 = .ok (.iaload, 1))) (sb_cons (sd_iadd (by decide +kernel : decode cX8_waitAll 72 = .ok (.iadd, 1))) (sb_cons (sd_aload_n (by decide +kernel : decode cX8_waitAll 73 = .ok (.aload_n 0, 1)) rfl) (sb_cons (sd_iload_n (by decide +kernel : decode cX8_waitAll 74 = .ok (.iload_n 2, 1)) rfl) (sb_cons (sd_callv (n := 1) (met_X8_readyAt l) (by decide) (by decide) wm_845 wm_843 wm_10 ⟨by decide +kernel, by decide +kernel, by decide +kernel⟩ kl_8 wm_844 wm_1126 (by decide +kernel : decode cX8_waitAll 75 = .ok (.invokevirtual 99, 3))) (sb_cons (sd_iastore (by decide +kernel : decode cX8_waitAll 78 = .ok (.iastore, 1))) (sb_cons (sd_iload_n (by decide +kernel : decode cX8_waitAll 79 = .ok (.iload_n 3, 1)) rfl) (sb_cons (sd_lt0 (by decide +kernel : decode cX8_waitAll 80 = .ok (.ifCond .lt 18, 3)) (by decide)) (sb_cons (sd_aload_n (by decide +kernel : decode cX8_waitAll 83 = .ok (.aload_n 0, 1)) rfl) (sb_cons (sd_getr (k := 15) kl_8 (by decide) rfl wm_688 (by decide +kernel : decode cX8_waitAll 84 = .ok (.getfield 50, 3))) (sb_cons (sd_bipush (by decide +kernel : decode cX8_waitAll 87 = .ok (.bipush 8, 2)) ⟨by decide, by decide⟩ (by decide)) (sb_cons (sd_iload_n (by decide +kernel : decode cX8_waitAll 89 = .ok (.iload_n 2, 1)) rfl) (sb_cons (sd_imul (by decide +kernel : decode cX8_waitAll 90 = .ok (.imul, 1))) (sb_cons (sd_iload_n (by decide +kernel : decode cX8_waitAll 91 = .ok (.iload_n 3, 1)) rfl) (sb_cons (sd_iadd (by decide +kernel : decode cX8_waitAll 92 = .ok (.iadd, 1))) (sb_cons (sd_dup2 (by decide +kernel : decode cX8_waitAll 93 = .ok (.dup2, 1))) (sb_cons (sd_iaload (by decide +kernel : decode cX8_waitAll 94 = .ok (.iaload, 1))) (sb_cons (sd_iconst (by decide +kernel : decode cX8_waitAll 95 = .ok (.iconst 1, 1)) ⟨by decide, by decide⟩) (sb_cons (sd_iadd (by decide +kernel : decode cX8_waitAll 96 = .ok (.iadd, 1))) (sb_cons (sd_iastore (by decide +kernel : decode cX8_waitAll 97 = .ok (.iastore, 1))) (sb_cons (sd_fall (x := 0)) sb_nil))))))))))))))))))))))))))))))))))))))))))))))))))))))))))))))))
set_option maxRecDepth 100000 in
theorem sb_X8_waitAll_98 (l : Launch) : sm_SndB l RX8 "waitAll" cX8_waitAll 4 0 3 98 [oInc 2 1, oFg 3, oGo 2] := sb_cons (sd_iinc (by decide +kernel : decode cX8_waitAll 98 = .ok (.iinc 2 1, 3))) (sb_cons (sd_fg) (sb_cons (sd_goto (x := 0) (by decide +kernel : decode cX8_waitAll 101 = .ok (.goto (-99), 3)) (by decide)) sb_nil))
set_option maxRecDepth 100000 in
theorem sb_X8_waitAll_104 (l : Launch) : sm_SndB l RX8 "waitAll" cX8_waitAll 4 0 3 104 [oVr] := sb_cons (sd_return (x := 0) rfl (by decide +kernel : decode cX8_waitAll 104 = .ok (.return_, 1))) sb_nil
theorem sn_X8_waitAll (l : Launch) : sm_SndT l RX8 "waitAll" cX8_waitAll 4 0 3 tb_X8_waitAll := st_cons (sb_X8_waitAll_0 l) (st_cons (sb_X8_waitAll_2 l) (st_cons (sb_X8_waitAll_98 l) (st_cons (sb_X8_waitAll_104 l) (st_nil))))
set_option maxRecDepth 100000 in
set_option maxHeartbeats 4000000 in
theorem ok_X8_waitAll : sm_Ok tb_X8_waitAll 4 0 0 p_X8_waitAll f_X8_waitAll := by
  intro as w hp ha hw
  match as, hp with
  | [.inr (.inl m), .inl t], hp =>
  refine ⟨Nat.le_of_ble_eq_true rfl, fun Z hZ => ?_⟩
  obtain ⟨rfl, hD, hc⟩ := hp
  have hm := vOK_many hD.1.2
  have hl := sm_loopI Z 2 0 (wI w 155 1) (fun i => [some (.inr (.inl 154)), some (.inl t), some (.inl i), none]) (fun i => mWait t w i) 0 0 hm.1 (fun i h0 h1 ih => by
    have hI := mWait_inv (t := t) hc i h0
    have hu : mWait t w (i + 1) = mWt1 t i (mWait t w i) := itI_s _ _ h0
    rw [hu] at ih
    have he : i = wI w 155 1 → mWait t w i = mWait t w (wI w 155 1) := fun e => by rw [← e]
    generalize mWait t w i = u at *
    obtain ⟨hI, hC⟩ := hI
    have hat : wI u 155 = wI w 155 := hI.1 _ (by decide) (by decide) (by decide)
    have hat1 : wI u 155 1 = wI w 155 1 := by rw [hat]
    have hU := hI.day hD
    have hT := hU.1.1
    have hO := hU.1
    rw [← hat] at h1 ih
    have hm2 := vOK_many hU.1.2
    have hs := fun hlt => hU.2 i h0 hlt
    simp only [mSh] at hs
    have hwp := mWay_pm (wI u 155) i
    have hw := mWho_in u (sFrom (wI u 161 i) (mWay (wI u 155) i)) (wI u 155 1) hm2.1
    have hrs : 1 ≤ mRs u i ∧ mRs u i ≤ 3 := by
      unfold mRs
      split
      · omega
      · split <;> omega
    have c1 := hC (4 * i + mRs u i)
    have c2 := hC (8 * i + mWhoA u i)
    have hwa : mWho u (sFrom (wI u 161 i) (mWay (wI u 155) i)) (wI u 155 1) = mWhoA u i := rfl
    rw [hwa] at hw
    unfold mWt1 at ih
    refine hZ (fun u => Nat.beq u 2) 14 2 _ _ _ _ _ ?_
    simp only [sm_run, sm_blk, sm_get, sm_ent, sm_ents, sm_wds, sm_wd, sm_nl, sm_pop, sm_back, sm_cases, oK, oLK, oL, oI, oA, oJ, oIs, oAs, oJs, oInc, oAdd, oSub, oMul, oDiv, oRem, oNeg, oAnd, oOr, oShl, oI2c, oI2l, oL2i, oLand, oLor, oLshl, oLshr, oLushr, oLcmp, oDup, oDup2, oPop, oGo, oFg, oEq, oNe, oLt, oGe, oGt, oLe, oEq0, oNe0, oLt0, oGe0, oGt0, oLe0, oSw, oGi, oGr, oPi, oPz, oPr, oLen, oIl, oZl, oCl, oRl, oIst, oZst, oCst, oRst, oCopy, oNew, oNa, oNa2, oObj, oCs, oCv, oCi, oIr, oZr, oVr, Nat.beq, List.getElem?_cons_zero, List.getElem?_cons_succ, List.set_cons_zero, List.set_cons_succ, List.length_cons, List.length_nil, List.nil_append, List.cons_append, List.append_nil, List.replicate_succ, List.replicate_zero, Nat.reduceAdd, Nat.reduceSub, Nat.reduceLT, Nat.reduceLeDiff, Nat.reduceBEq, true_and, and_true, Nat.zero_add, Nat.add_zero, Nat.le_refl, Option.some.injEq, exists_eq_left', true_or, or_true, or_false, false_or, reduceCtorEq, Prod.mk.injEq, Sum.inl.injEq, and_self, false_and, and_false, not_true_eq_false, not_false_eq_true, false_implies, true_implies, sm_r, Int.add_zero, Int.zero_add, wI_wsI, wS_wsI, wR_wsI, wI_wCp, wS_wCp, wR_wCp, Nat.reduceEqDiff, reduceIte, sT_iff, sT_iffC, wIf_ne, ne_eq, Bool.false_or, Bool.true_or, Bool.or_false, Bool.or_true, Bool.or_self, tb_X8_waitAll, p_X8_isReady, p_X8_readyAt, p_X8_reason, p_X8_stretchFrom, p_X8_way, p_X8_whoIsOn, f_X8_isReady, f_X8_readyAt, f_X8_reason, f_X8_stretchFrom, f_X8_way, f_X8_whoIsOn, p_X8_waitAll, f_X8_waitAll, sS_154 hT, sR_154_0 hT, sS_155 hT, sR_154_7 hT, sS_160 hT, sR_154_8 hT, sS_161 hT, sR_154_16 hT, sS_169 hT, sR_154_11 hT, sS_164 hT, sR_154_15 hT, sS_168 hT, hT, hO, hU, hwa]
    repeat' (first | with_reducible assumption | with_reducible refine And.intro ?_ ?_ | intro _)
    all_goals first
      | omega
      | assumption
      | rfl
      | (split <;> omega)
      | (have k9 := ih (by omega)
         (repeat' split at k9) <;> first | exact k9 | omega)
      | (have k9 := ih2 (by omega)
         (repeat' split at k9) <;> first | exact k9 | omega)
      | exact he (by omega)
      | (congr 1; omega)
      | (rw [if_pos (by omega)] at he; exact he)
      | exact hD1 (by omega)
      | exact hD2 (by omega)
      | grind
      | skip
    )
  refine hZ (fun u => Nat.beq u 2) 14 0 _ _ _ _ _ ?_
  simp only [sm_run, sm_blk, sm_get, sm_ent, sm_ents, sm_wds, sm_wd, sm_nl, sm_pop, sm_back, sm_cases, oK, oLK, oL, oI, oA, oJ, oIs, oAs, oJs, oInc, oAdd, oSub, oMul, oDiv, oRem, oNeg, oAnd, oOr, oShl, oI2c, oI2l, oL2i, oLand, oLor, oLshl, oLshr, oLushr, oLcmp, oDup, oDup2, oPop, oGo, oFg, oEq, oNe, oLt, oGe, oGt, oLe, oEq0, oNe0, oLt0, oGe0, oGt0, oLe0, oSw, oGi, oGr, oPi, oPz, oPr, oLen, oIl, oZl, oCl, oRl, oIst, oZst, oCst, oRst, oCopy, oNew, oNa, oNa2, oObj, oCs, oCv, oCi, oIr, oZr, oVr, Nat.beq, List.getElem?_cons_zero, List.getElem?_cons_succ, List.set_cons_zero, List.set_cons_succ, List.length_cons, List.length_nil, List.nil_append, List.cons_append, List.append_nil, List.replicate_succ, List.replicate_zero, Nat.reduceAdd, Nat.reduceSub, Nat.reduceLT, Nat.reduceLeDiff, Nat.reduceBEq, true_and, and_true, Nat.zero_add, Nat.add_zero, Nat.le_refl, Option.some.injEq, exists_eq_left', true_or, or_true, or_false, false_or, reduceCtorEq, Prod.mk.injEq, Sum.inl.injEq, and_self, false_and, and_false, not_true_eq_false, not_false_eq_true, false_implies, true_implies, sm_r, Int.add_zero, Int.zero_add, wI_wsI, wS_wsI, wR_wsI, wI_wCp, wS_wCp, wR_wCp, Nat.reduceEqDiff, reduceIte, sT_iff, sT_iffC, wIf_ne, ne_eq, Bool.false_or, Bool.true_or, Bool.or_false, Bool.or_true, Bool.or_self, tb_X8_waitAll, p_X8_isReady, p_X8_readyAt, p_X8_reason, p_X8_stretchFrom, p_X8_way, p_X8_whoIsOn, f_X8_isReady, f_X8_readyAt, f_X8_reason, f_X8_stretchFrom, f_X8_way, f_X8_whoIsOn, p_X8_waitAll, f_X8_waitAll, sS_154 hD.1.1]
  repeat' (first | with_reducible assumption | with_reducible refine And.intro ?_ ?_ | intro _)
  all_goals first
    | omega
    | assumption
    | rfl
    | (split <;> omega)
    | (have k9 := ih (by omega)
       (repeat' split at k9) <;> first | exact k9 | omega)
    | (have k9 := ih2 (by omega)
       (repeat' split at k9) <;> first | exact k9 | omega)
    | exact he (by omega)
    | (congr 1; omega)
    | (rw [if_pos (by omega)] at he; exact he)
    | exact hD1 (by omega)
    | exact hD2 (by omega)
    | skip
theorem met_X8_waitAll (l : Launch) : sm_Met l yX8_waitAll cX8_waitAll 4 none 3 0 0 p_X8_waitAll f_X8_waitAll := sm_met 0 (Or.inl ⟨rfl, rfl⟩) (by decide +kernel) (sn_X8_waitAll l) ok_X8_waitAll
def orI (a b : Int) : Int := ((a.toNat ||| b.toNat : Nat) : Int)
def p2 (y : Int) : Int := ((2 ^ y.toNat : Nat) : Int)
theorem orI_def (a b : Int) : ((a.toNat ||| b.toNat : Nat) : Int) = orI a b := rfl
theorem p2_def (y : Int) : ((2 ^ y.toNat : Nat) : Int) = p2 y := rfl
theorem orI_b {a b : Int} (ha : a < 256) (hb : b < 256) : 0 ≤ orI a b ∧ orI a b < 256 := by
  unfold orI
  have : a.toNat ||| b.toNat < 256 := Nat.or_lt_two_pow (n := 8) (by omega) (by omega)
  omega
theorem p2_b {y : Int} (h1 : y < 8) : 0 ≤ p2 y ∧ p2 y < 256 := by
  unfold p2
  have h : y.toNat ≤ 7 := by omega
  have h2 : 2 ^ y.toNat ≤ 2 ^ 7 := Nat.pow_le_pow_right (by decide) h
  generalize 2 ^ y.toNat = k at h2 ⊢
  omega
def mLf (w : sm_W) (x r : Int) : Int := orI r (if wI w 160 x = 3 then 0 else p2 x)
def mLeft (w : sm_W) : Int → Int := itI (mLf w) 0
theorem mLeft_b (w : sm_W) (n : Int) (h0 : 0 ≤ n) (h8 : n ≤ 8) : 0 ≤ mLeft w n ∧ mLeft w n < 256 := by
  refine itI_ind (fun i r => 0 ≤ r ∧ r < 256) n ⟨by decide, by decide⟩ (fun i r i0 i1 hr => ?_) n h0 (Int.le_refl _)
  unfold mLf
  refine orI_b hr.2 ?_
  split
  · decide
  · exact (p2_b (by omega)).2
def mBk (w : sm_W) (t x : Int) : Int := if wI w 160 x = 2 then 1 else (if wI w 160 x = 3 then 0 else (if wI w 160 x ≤ 1 ∧ mReady w x ≤ t then 0 else 1))
def mEd (w : sm_W) (t x r : Int) : Int := if r = 1 then (if mBk w t x = 1 then 0 else 1) else r
def mEnd (w : sm_W) (t : Int) : Int → Int := itI (mEd w t) 1
theorem mEnd_0 {w : sm_W} {t i n : Int} (h0 : 0 ≤ i) (hn : i < n) (h : mEnd w t i = 1) (hb : mBk w t i = 1) : mEnd w t n = 0 := by
  refine itI_abs (f := mEd w t) (r0 := 0) (fun k _ => rfl) (i := i + 1) (by omega) (by omega) ?_
  show mEnd w t (i + 1) = 0
  unfold mEnd at h ⊢
  rw [itI_s _ _ h0, h]
  unfold mEd
  rw [if_pos rfl, if_pos hb]
theorem mEnd_1 {w : sm_W} {t i : Int} (h0 : 0 ≤ i) (h : mEnd w t i = 1) (hb : ¬ mBk w t i = 1) : mEnd w t (i + 1) = 1 := by
  unfold mEnd at h ⊢
  rw [itI_s _ _ h0, h]
  unfold mEd
  rw [if_pos rfl, if_neg hb]
def p_X8_ends : List sm_V → sm_W → Prop
  | [.inr (.inl m), .inl t], w => m = 154 ∧ mDay w
  | _, _ => False
def f_X8_ends : sm_F
  | [.inr (.inl m), .inl t], w => (some (.inl (mEnd w t (wI w 155 1))), (if mEnd w t (wI w 155 1) = 1 then wsI w 154 18 (mLeft w (wI w 155 1)) else w))
  | _, w => (none, w)
def tb_X8_ends : List (Nat × List sm_O) := [(0, [oK 0, oIs 2, oK 0, oIs 3, oGo 4]),
  (4, [oI 3, oA 0, oGr 8 30 0, oK 1, oIl, oGe 71, oA 0, oGr 8 30 7, oI 3, oIl, oK 2, oEq 43, oA 0, oGr 8 30 7, oI 3, oIl, oK 3, oEq 45, oA 0, oI 3, oI 1, oCv 8 30 p_X8_isReady f_X8_isReady 0 0 3, oNe0 45, oGo 43]),
  (43, [oK 0, oZr]),
  (45, [oI 2, oA 0, oGr 8 30 7, oI 3, oIl, oK 3, oNe 60, oK 0, oGo 63]),
  (60, [oK 1, oI 3, oShl, oGo 63]),
  (63, [oOr, oIs 2, oInc 3 1, oGo 4]),
  (71, [oA 0, oI 2, oPi 8 30 18, oK 1, oZr])]
set_option maxRecDepth 100000 in
theorem sb_X8_ends_0 (l : Launch) : sm_SndB l RX8 "ends" cX8_ends 4 2 3 0 [oK 0, oIs 2, oK 0, oIs 3, oGo 4] := sb_cons (sd_iconst (by decide +kernel : decode cX8_ends 0 = .ok (.iconst 0, 1)) ⟨by decide, by decide⟩) (sb_cons (sd_istore_n (by decide +kernel : decode cX8_ends 1 = .ok (.istore_n 2, 1)) rfl) (sb_cons (sd_iconst (by decide +kernel : decode cX8_ends 2 = .ok (.iconst 0, 1)) ⟨by decide, by decide⟩) (sb_cons (sd_istore_n (by decide +kernel : decode cX8_ends 3 = .ok (.istore_n 3, 1)) rfl) (sb_cons (sd_fall (x := 0)) sb_nil))))
set_option maxRecDepth 100000 in
theorem sb_X8_ends_4 (l : Launch) : sm_SndB l RX8 "ends" cX8_ends 4 2 3 4 [oI 3, oA 0, oGr 8 30 0, oK 1, oIl, oGe 71, oA 0, oGr 8 30 7, oI 3, oIl, oK 2, oEq 43, oA 0, oGr 8 30 7, oI 3, oIl, oK 3, oEq 45, oA 0, oI 3, oI 1, oCv 8 30 p_X8_isReady f_X8_isReady 0 0 3, oNe0 45, oGo 43] := sb_cons (sd_iload_n (by decide +kernel : decode cX8_ends 4 = .ok (.iload_n 3, 1)) rfl) (sb_cons (sd_aload_n (by decide +kernel : decode cX8_ends 5 = .ok (.aload_n 0, 1)) rfl) (sb_cons (sd_getr (k := 0) kl_8 (by decide) rfl wm_673 (by decide +kernel : decode cX8_ends 6 = .ok (.getfield 7, 3))) (sb_cons (sd_iconst (by decide +kernel : decode cX8_ends 9 = .ok (.iconst 1, 1)) ⟨by decide, by decide⟩) (sb_cons (sd_iaload (by decide +kernel : decode cX8_ends 10 = .ok (.iaload, 1))) (sb_cons (sd_ge (by decide +kernel : decode cX8_ends 11 = .ok (.if_icmp .ge 60, 3)) (by decide)) (sb_cons (sd_aload_n (by decide +kernel : decode cX8_ends 14 = .ok (.aload_n 0, 1)) rfl) (sb_cons (sd_getr (k := 7) kl_8 (by decide) rfl wm_680 (by decide +kernel : decode cX8_ends 15 = .ok (.getfield 26, 3))) (sb_cons (sd_iload_n (by decide +kernel : decode cX8_ends 18 = .ok (.iload_n 3, 1)) rfl) (sb_cons (sd_iaload (by decide +kernel : decode cX8_ends 19 = .ok (.iaload, 1))) (sb_cons (sd_iconst (by decide +kernel : decode cX8_ends 20 = .ok (.iconst 2, 1)) ⟨by decide, by decide⟩) (sb_cons (sd_eq (by decide +kernel : decode cX8_ends 21 = .ok (.if_icmp .eq 22, 3)) (by decide)) (sb_cons (sd_aload_n (by decide +kernel : decode cX8_ends 24 = .ok (.aload_n 0, 1)) rfl) (sb_cons (sd_getr (k := 7) kl_8 (by decide) rfl wm_680 (by decide +kernel : decode cX8_ends 25 = .ok (.getfield 26, 3))) (sb_cons (sd_iload_n (by decide +kernel : decode cX8_ends 28 = .ok (.iload_n 3, 1)) rfl) (sb_cons (sd_iaload (by decide +kernel : decode cX8_ends 29 = .ok (.iaload, 1))) (sb_cons (sd_iconst (by decide +kernel : decode cX8_ends 30 = .ok (.iconst 3, 1)) ⟨by decide, by decide⟩) (sb_cons (sd_eq (by decide +kernel : decode cX8_ends 31 = .ok (.if_icmp .eq 14, 3)) (by decide)) (sb_cons (sd_aload_n (by decide +kernel : decode cX8_ends 34 = .ok (.aload_n 0, 1)) rfl) (sb_cons (sd_iload_n (by decide +kernel : decode cX8_ends 35 = .ok (.iload_n 3, 1)) rfl) (sb_cons (sd_iload_n (by decide +kernel : decode cX8_ends 36 = .ok (.iload_n 1, 1)) rfl) (sb_cons (sd_callv (n := 2) (met_X8_isReady l) (by decide) (by decide) wm_841 wm_839 wm_10 ⟨by decide +kernel, by decide +kernel, by decide +kernel⟩ kl_8 wm_840 wm_1125 (by decide +kernel : decode cX8_ends 37 = .ok (.invokevirtual 102, 3))) (sb_cons (sd_ne0 (by decide +kernel : decode cX8_ends 40 = .ok (.ifCond .ne 5, 3)) (by decide)) (sb_cons (sd_fall (x := 0)) sb_nil)))))))))))))))))))))))
set_option maxRecDepth 100000 in
theorem sb_X8_ends_43 (l : Launch) : sm_SndB l RX8 "ends" cX8_ends 4 2 3 43 [oK 0, oZr] := sb_cons (sd_iconst (by decide +kernel : decode cX8_ends 43 = .ok (.iconst 0, 1)) ⟨by decide, by decide⟩) (sb_cons (sd_zreturn (x := 0) rfl (by decide +kernel : decode cX8_ends 44 = .ok (.ireturn, 1))) sb_nil)
set_option maxRecDepth 100000 in
theorem sb_X8_ends_45 (l : Launch) : sm_SndB l RX8 "ends" cX8_ends 4 2 3 45 [oI 2, oA 0, oGr 8 30 7, oI 3, oIl, oK 3, oNe 60, oK 0, oGo 63] := sb_cons (sd_iload_n (by decide +kernel : decode cX8_ends 45 = .ok (.iload_n 2, 1)) rfl) (sb_cons (sd_aload_n (by decide +kernel : decode cX8_ends 46 = .ok (.aload_n 0, 1)) rfl) (sb_cons (sd_getr (k := 7) kl_8 (by decide) rfl wm_680 (by decide +kernel : decode cX8_ends 47 = .ok (.getfield 26, 3))) (sb_cons (sd_iload_n (by decide +kernel : decode cX8_ends 50 = .ok (.iload_n 3, 1)) rfl) (sb_cons (sd_iaload (by decide +kernel : decode cX8_ends 51 = .ok (.iaload, 1))) (sb_cons (sd_iconst (by decide +kernel : decode cX8_ends 52 = .ok (.iconst 3, 1)) ⟨by decide, by decide⟩) (sb_cons (sd_ne (by decide +kernel : decode cX8_ends 53 = .ok (.if_icmp .ne 7, 3)) (by decide)) (sb_cons (sd_iconst (by decide +kernel : decode cX8_ends 56 = .ok (.iconst 0, 1)) ⟨by decide, by decide⟩) (sb_cons (sd_goto (x := 0) (by decide +kernel : decode cX8_ends 57 = .ok (.goto 6, 3)) (by decide)) sb_nil))))))))
set_option maxRecDepth 100000 in
theorem sb_X8_ends_60 (l : Launch) : sm_SndB l RX8 "ends" cX8_ends 4 2 3 60 [oK 1, oI 3, oShl, oGo 63] := sb_cons (sd_iconst (by decide +kernel : decode cX8_ends 60 = .ok (.iconst 1, 1)) ⟨by decide, by decide⟩) (sb_cons (sd_iload_n (by decide +kernel : decode cX8_ends 61 = .ok (.iload_n 3, 1)) rfl) (sb_cons (sd_ishl (by decide +kernel : decode cX8_ends 62 = .ok (.ishl, 1))) (sb_cons (sd_fall (x := 0)) sb_nil)))
set_option maxRecDepth 100000 in
theorem sb_X8_ends_63 (l : Launch) : sm_SndB l RX8 "ends" cX8_ends 4 2 3 63 [oOr, oIs 2, oInc 3 1, oGo 4] := sb_cons (sd_ior (by decide +kernel : decode cX8_ends 63 = .ok (.ior, 1))) (sb_cons (sd_istore_n (by decide +kernel : decode cX8_ends 64 = .ok (.istore_n 2, 1)) rfl) (sb_cons (sd_iinc (by decide +kernel : decode cX8_ends 65 = .ok (.iinc 3 1, 3))) (sb_cons (sd_goto (x := 0) (by decide +kernel : decode cX8_ends 68 = .ok (.goto (-64), 3)) (by decide)) sb_nil)))
set_option maxRecDepth 100000 in
theorem sb_X8_ends_71 (l : Launch) : sm_SndB l RX8 "ends" cX8_ends 4 2 3 71 [oA 0, oI 2, oPi 8 30 18, oK 1, oZr] := sb_cons (sd_aload_n (by decide +kernel : decode cX8_ends 71 = .ok (.aload_n 0, 1)) rfl) (sb_cons (sd_iload_n (by decide +kernel : decode cX8_ends 72 = .ok (.iload_n 2, 1)) rfl) (sb_cons (sd_puti (k := 18) kl_8 (by decide) rfl (Or.inl rfl) wm_691 (by decide +kernel : decode cX8_ends 73 = .ok (.putfield 92, 3))) (sb_cons (sd_iconst (by decide +kernel : decode cX8_ends 76 = .ok (.iconst 1, 1)) ⟨by decide, by decide⟩) (sb_cons (sd_zreturn (x := 0) rfl (by decide +kernel : decode cX8_ends 77 = .ok (.ireturn, 1))) sb_nil))))
theorem sn_X8_ends (l : Launch) : sm_SndT l RX8 "ends" cX8_ends 4 2 3 tb_X8_ends := st_cons (sb_X8_ends_0 l) (st_cons (sb_X8_ends_4 l) (st_cons (sb_X8_ends_43 l) (st_cons (sb_X8_ends_45 l) (st_cons (sb_X8_ends_60 l) (st_cons (sb_X8_ends_63 l) (st_cons (sb_X8_ends_71 l) (st_nil)))))))
set_option maxRecDepth 100000 in
set_option maxHeartbeats 4000000 in
theorem ok_X8_ends : sm_Ok tb_X8_ends 4 0 0 p_X8_ends f_X8_ends := by
  intro as w hp ha hw
  match as, hp with
  | [.inr (.inl m), .inl t], hp =>
  refine ⟨Nat.le_of_ble_eq_true rfl, fun Z hZ => ?_⟩
  obtain ⟨rfl, hD⟩ := hp
  have hT := hD.1.1
  have hO := hD.1
  have hm := vOK_many hD.1.2
  have hl := sm_loopM (S := Int) Z 4 (fun i => (wI w 155 1 - i).toNat) (fun i => 0 ≤ i ∧ i ≤ wI w 155 1 ∧ mEnd w t i = 1) (fun i => [some (.inr (.inl 154)), some (.inl t), some (.inl (mLeft w i)), some (.inl i)]) (fun _ => w) 0 0 (fun i hI ih => by
    obtain ⟨h0, h1, hE⟩ := hI
    have he0 := fun hlt hb => mEnd_0 (w := w) (t := t) (n := wI w 155 1) h0 hlt hE hb
    have he1 := fun hb => mEnd_1 (w := w) (t := t) h0 hE hb
    have ih := fun hlt : i < wI w 155 1 => fun hb => ih (i + 1) ⟨by omega, by omega, he1 hb⟩ (by omega)
    have hb := mLeft_b w i h0 (by omega)
    have hp2 := fun hlt : i < 8 => p2_b hlt
    have hu : mLeft w (i + 1) = mLf w i (mLeft w i) := itI_s _ _ h0
    rw [hu] at ih
    unfold mLf at ih
    have hs := fun hlt => hD.2 i h0 hlt
    simp only [mSh] at hs
    by_cases hbk : mBk w t i = 1
    · have he0 := fun hlt => he0 hlt hbk
      clear ih he1
      have hx0 : i = wI w 155 1 → mEnd w t (wI w 155 1) = 1 := fun e => by rw [← e]; exact hE
      have hx1 : i = wI w 155 1 → mLeft w (wI w 155 1) = mLeft w i := fun e => by rw [e]
      unfold mBk at hbk
      refine hZ (fun u => Nat.beq u 4) 14 4 _ _ _ _ _ ?_
      simp only [sm_run, sm_blk, sm_get, sm_ent, sm_ents, sm_wds, sm_wd, sm_nl, sm_pop, sm_back, sm_cases, oK, oLK, oL, oI, oA, oJ, oIs, oAs, oJs, oInc, oAdd, oSub, oMul, oDiv, oRem, oNeg, oAnd, oOr, oShl, oI2c, oI2l, oL2i, oLand, oLor, oLshl, oLshr, oLushr, oLcmp, oDup, oDup2, oPop, oGo, oFg, oEq, oNe, oLt, oGe, oGt, oLe, oEq0, oNe0, oLt0, oGe0, oGt0, oLe0, oSw, oGi, oGr, oPi, oPz, oPr, oLen, oIl, oZl, oCl, oRl, oIst, oZst, oCst, oRst, oCopy, oNew, oNa, oNa2, oObj, oCs, oCv, oCi, oIr, oZr, oVr, Nat.beq, List.getElem?_cons_zero, List.getElem?_cons_succ, List.set_cons_zero, List.set_cons_succ, List.length_cons, List.length_nil, List.nil_append, List.cons_append, List.append_nil, List.replicate_succ, List.replicate_zero, Nat.reduceAdd, Nat.reduceSub, Nat.reduceLT, Nat.reduceLeDiff, Nat.reduceBEq, true_and, and_true, Nat.zero_add, Nat.add_zero, Nat.le_refl, Option.some.injEq, exists_eq_left', true_or, or_true, or_false, false_or, reduceCtorEq, Prod.mk.injEq, Sum.inl.injEq, and_self, false_and, and_false, not_true_eq_false, not_false_eq_true, false_implies, true_implies, sm_r, Int.add_zero, Int.zero_add, wI_wsI, wS_wsI, wR_wsI, wI_wCp, wS_wCp, wR_wCp, Nat.reduceEqDiff, reduceIte, sT_iff, sT_iffC, wIf_ne, ne_eq, Bool.false_or, Bool.true_or, Bool.or_false, Bool.or_true, Bool.or_self, tb_X8_ends, p_X8_isReady, f_X8_isReady, p_X8_ends, f_X8_ends, sS_154 hT, sR_154_0 hT, sS_155 hT, sR_154_7 hT, sS_160 hT, hT, hO, orI_def, p2_def]
      repeat' (first | with_reducible assumption | with_reducible refine And.intro ?_ ?_ | intro _)
      all_goals first
        | omega
        | assumption
        | rfl
        | (split <;> omega)
        | (have k9 := ih (by omega)
           (repeat' split at k9) <;> first | exact k9 | omega)
        | (have k9 := ih2 (by omega)
           (repeat' split at k9) <;> first | exact k9 | omega)
        | exact he (by omega)
        | (congr 1; omega)
        | (rw [if_pos (by omega)] at he; exact he)
        | exact hD1 (by omega)
        | exact hD2 (by omega)
        | grind
        | skip
    · have ih := fun hlt => ih hlt hbk
      clear he0 he1
      have hx0 : i = wI w 155 1 → mEnd w t (wI w 155 1) = 1 := fun e => by rw [← e]; exact hE
      have hx1 : i = wI w 155 1 → mLeft w (wI w 155 1) = mLeft w i := fun e => by rw [e]
      unfold mBk at hbk
      refine hZ (fun u => Nat.beq u 4) 14 4 _ _ _ _ _ ?_
      simp only [sm_run, sm_blk, sm_get, sm_ent, sm_ents, sm_wds, sm_wd, sm_nl, sm_pop, sm_back, sm_cases, oK, oLK, oL, oI, oA, oJ, oIs, oAs, oJs, oInc, oAdd, oSub, oMul, oDiv, oRem, oNeg, oAnd, oOr, oShl, oI2c, oI2l, oL2i, oLand, oLor, oLshl, oLshr, oLushr, oLcmp, oDup, oDup2, oPop, oGo, oFg, oEq, oNe, oLt, oGe, oGt, oLe, oEq0, oNe0, oLt0, oGe0, oGt0, oLe0, oSw, oGi, oGr, oPi, oPz, oPr, oLen, oIl, oZl, oCl, oRl, oIst, oZst, oCst, oRst, oCopy, oNew, oNa, oNa2, oObj, oCs, oCv, oCi, oIr, oZr, oVr, Nat.beq, List.getElem?_cons_zero, List.getElem?_cons_succ, List.set_cons_zero, List.set_cons_succ, List.length_cons, List.length_nil, List.nil_append, List.cons_append, List.append_nil, List.replicate_succ, List.replicate_zero, Nat.reduceAdd, Nat.reduceSub, Nat.reduceLT, Nat.reduceLeDiff, Nat.reduceBEq, true_and, and_true, Nat.zero_add, Nat.add_zero, Nat.le_refl, Option.some.injEq, exists_eq_left', true_or, or_true, or_false, false_or, reduceCtorEq, Prod.mk.injEq, Sum.inl.injEq, and_self, false_and, and_false, not_true_eq_false, not_false_eq_true, false_implies, true_implies, sm_r, Int.add_zero, Int.zero_add, wI_wsI, wS_wsI, wR_wsI, wI_wCp, wS_wCp, wR_wCp, Nat.reduceEqDiff, reduceIte, sT_iff, sT_iffC, wIf_ne, ne_eq, Bool.false_or, Bool.true_or, Bool.or_false, Bool.or_true, Bool.or_self, tb_X8_ends, p_X8_isReady, f_X8_isReady, p_X8_ends, f_X8_ends, sS_154 hT, sR_154_0 hT, sS_155 hT, sR_154_7 hT, sS_160 hT, hT, hO, orI_def, p2_def]
      repeat' (first | with_reducible assumption | with_reducible refine And.intro ?_ ?_ | intro _)
      all_goals first
        | omega
        | assumption
        | rfl
        | (split <;> omega)
        | (have k9 := ih (by omega)
           (repeat' split at k9) <;> first | exact k9 | omega)
        | (have k9 := ih2 (by omega)
           (repeat' split at k9) <;> first | exact k9 | omega)
        | exact he (by omega)
        | (congr 1; omega)
        | (rw [if_pos (by omega)] at he; exact he)
        | exact hD1 (by omega)
        | exact hD2 (by omega)
        | grind
        | skip
    )
  have h1 := hl 0 ⟨Int.le_refl _, hm.1, rfl⟩
  refine hZ (fun u => Nat.beq u 4) 14 0 _ _ _ _ _ ?_
  simp only [sm_run, sm_blk, sm_get, sm_ent, sm_ents, sm_wds, sm_wd, sm_nl, sm_pop, sm_back, sm_cases, oK, oLK, oL, oI, oA, oJ, oIs, oAs, oJs, oInc, oAdd, oSub, oMul, oDiv, oRem, oNeg, oAnd, oOr, oShl, oI2c, oI2l, oL2i, oLand, oLor, oLshl, oLshr, oLushr, oLcmp, oDup, oDup2, oPop, oGo, oFg, oEq, oNe, oLt, oGe, oGt, oLe, oEq0, oNe0, oLt0, oGe0, oGt0, oLe0, oSw, oGi, oGr, oPi, oPz, oPr, oLen, oIl, oZl, oCl, oRl, oIst, oZst, oCst, oRst, oCopy, oNew, oNa, oNa2, oObj, oCs, oCv, oCi, oIr, oZr, oVr, Nat.beq, List.getElem?_cons_zero, List.getElem?_cons_succ, List.set_cons_zero, List.set_cons_succ, List.length_cons, List.length_nil, List.nil_append, List.cons_append, List.append_nil, List.replicate_succ, List.replicate_zero, Nat.reduceAdd, Nat.reduceSub, Nat.reduceLT, Nat.reduceLeDiff, Nat.reduceBEq, true_and, and_true, Nat.zero_add, Nat.add_zero, Nat.le_refl, Option.some.injEq, exists_eq_left', true_or, or_true, or_false, false_or, reduceCtorEq, Prod.mk.injEq, Sum.inl.injEq, and_self, false_and, and_false, not_true_eq_false, not_false_eq_true, false_implies, true_implies, sm_r, Int.add_zero, Int.zero_add, wI_wsI, wS_wsI, wR_wsI, wI_wCp, wS_wCp, wR_wCp, Nat.reduceEqDiff, reduceIte, sT_iff, sT_iffC, wIf_ne, ne_eq, Bool.false_or, Bool.true_or, Bool.or_false, Bool.or_true, Bool.or_self, tb_X8_ends, p_X8_isReady, f_X8_isReady, p_X8_ends, f_X8_ends]
  repeat' (first | with_reducible assumption | with_reducible refine And.intro ?_ ?_ | intro _)
  all_goals first
    | omega
    | assumption
    | rfl
    | (split <;> omega)
    | (have k9 := ih (by omega)
       (repeat' split at k9) <;> first | exact k9 | omega)
    | (have k9 := ih2 (by omega)
       (repeat' split at k9) <;> first | exact k9 | omega)
    | exact he (by omega)
    | (congr 1; omega)
    | (rw [if_pos (by omega)] at he; exact he)
    | exact hD1 (by omega)
    | exact hD2 (by omega)
    | skip

theorem met_X8_ends (l : Launch) : sm_Met l yX8_ends cX8_ends 4 (some .boolean) 3 0 0 p_X8_ends f_X8_ends := sm_met 2 (Or.inr (Or.inr ⟨rfl, rfl⟩)) (by decide +kernel) (sn_X8_ends l) ok_X8_ends