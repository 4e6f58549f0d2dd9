/-! THE REFERENCE: what a minute does -/
def mLv1 (w : sm_W) (x t : Int) : sm_W := wsI (wsI (wsI (wsI (wsI w 164 (8 * x + wI w 161 x) (mReady w x)) 165 (8 * x + wI w 161 x) t) 161 x (sFrom (wI w 161 x) (mWay (wI w 155) x))) 160 x 2) 162 x t
theorem mLv1_at (w : sm_W) (x t : Int) : wI (mLv1 w x t) 155 = wI w 155 := rfl
theorem mLv1_day {w : sm_W} {x t : Int} (h : mDay w) (h0 : 0 ≤ x) (h1 : x < wI w 155 1) (hs : wI w 160 x ≤ 1) (t0 : 0 ≤ t) (t1 : t ≤ 100000) : mDay (mLv1 w x t) := by
  refine ⟨⟨h.1.1, h.1.2⟩, fun y hy0 hy1 => ?_⟩
  have hx := h.2 x h0 h1
  have hy := h.2 y hy0 hy1
  have hq := vOK_sh h.1.2 h0 h1
  have hwp := mWay_pm (wI w 155) x
  simp only [mSh, mLv1, wI_wsI, Nat.reduceEqDiff, false_and, true_and, if_false, sFrom] at *
  by_cases e : y = x
  · subst e
    simp only [if_true]
    rcases hwp with ⟨hw, hlt⟩ | ⟨hw, hlt⟩ <;> rw [hw] <;> simp only [Int.reduceLT, if_true, if_false] <;> omega
  · simp only [e, if_false]
    exact hy
def mSt (w : sm_W) : Int := cntP (fun y => decide (wI w 160 y ≤ 1)) (wI w 155 1)
theorem mLv1_cnt {w : sm_W} {x t : Int} (h0 : 0 ≤ x) (h1 : x < wI w 155 1) (hs : wI w 160 x ≤ 1) : mSt (mLv1 w x t) + 1 = mSt w := by
  unfold mSt
  rw [mLv1_at]
  have := (cntP_upd (p := fun y => decide (wI w 160 y ≤ 1)) (q := fun y => decide (wI (mLv1 w x t) 160 y ≤ 1)) (x := x) (by simpa using hs) (by simp [mLv1, wI_wsI]) (fun y hy => by simp [mLv1, wI_wsI, hy]) h0 (wI w 155 1).toNat).1 (by omega)
  rw [Int.toNat_of_nonneg (by omega)] at this
  exact this
def mLv : Nat → sm_W → Int → sm_W
  | 0, w, _ => w
  | n + 1, w, t => if mNext w t (wI w 155 1) < 0 then w else mLv n (mLv1 w (mNext w t (wI w 155 1)) t) t
theorem mLv_s (n : Nat) (w : sm_W) (t : Int) : mLv (n + 1) w t = if mNext w t (wI w 155 1) < 0 then w else mLv n (mLv1 w (mNext w t (wI w 155 1)) t) t := rfl
def p_X8_leave : List sm_V → sm_W → Prop
  | [.inr (.inl m), .inl t], w => m = 154 ∧ mDay w ∧ 0 ≤ t ∧ t ≤ 100000
  | _, _ => False
def f_X8_leave : sm_F
  | [.inr (.inl m), .inl t], w => (none, mLv 9 w t)
  | _, w => (none, w)
def tb_X8_leave : List (Nat × List sm_O) := [(0, [oA 0, oI 1, oCv 8 30 p_X8_nextToLeave f_X8_nextToLeave 0 0 2, oIs 2, oGo 6]),
  (6, [oI 2, oLt0 91, oA 0, oGr 8 30 11, oK 8, oI 2, oMul, oA 0, oGr 8 30 8, oI 2, oIl, oAdd, oA 0, oI 2, oCv 8 30 p_X8_readyAt f_X8_readyAt 0 0 2, oIst, oA 0, oGr 8 30 12, oK 8, oI 2, oMul, oA 0, oGr 8 30 8, oI 2, oIl, oAdd, oI 1, oIst, oA 0, oGr 8 30 8, oI 2, oA 0, oGr 8 30 8, oI 2, oIl, oA 0, oI 2, oCv 8 30 p_X8_way f_X8_way 0 0 2, oCs p_X8_stretchFrom f_X8_stretchFrom 0 0 2, oIst, oA 0, oGr 8 30 7, oI 2, oK 2, oIst, oA 0, oGr 8 30 9, oI 2, oI 1, oIst, oA 0, oI 1, oCv 8 30 p_X8_nextToLeave f_X8_nextToLeave 0 0 2, oIs 2, oGo 6]),
  (91, [oVr])]
set_option maxRecDepth 100000 in
theorem sb_X8_leave_0 (l : Launch) : sm_SndB l RX8 "leave" cX8_leave 3 0 5 0 [oA 0, oI 1, oCv 8 30 p_X8_nextToLeave f_X8_nextToLeave 0 0 2, oIs 2, oGo 6] := sb_cons (sd_aload_n (by decide +kernel : decode cX8_leave 0 = .ok (.aload_n 0, 1)) rfl) (sb_cons (sd_iload_n (by decide +kernel : decode cX8_leave 1 = .ok (.iload_n 1, 1)) rfl) (sb_cons (sd_callv (n := 1) (met_X8_nextToLeave l) (by decide) (by decide) wm_833 wm_831 wm_10 ⟨by decide +kernel, by decide +kernel, by decide +kernel⟩ kl_8 wm_832 wm_1123 (by decide +kernel : decode cX8_leave 2 = .ok (.invokevirtual 124, 3))) (sb_cons (sd_istore_n (by decide +kernel : decode cX8_leave 5 = .ok (.istore_n 2, 1)) rfl) (sb_cons (sd_fall (x := 0)) sb_nil))))
set_option maxRecDepth 100000 in
theorem sb_X8_leave_6 (l : Launch) : sm_SndB l RX8 "leave" cX8_leave 3 0 5 6 [oI 2, oLt0 91, oA 0, oGr 8 30 11, oK 8, oI 2, oMul, oA 0, oGr 8 30 8, oI 2, oIl, oAdd, oA 0, oI 2, oCv 8 30 p_X8_readyAt f_X8_readyAt 0 0 2, oIst, oA 0, oGr 8 30 12, oK 8, oI 2, oMul, oA 0, oGr 8 30 8, oI 2, oIl, oAdd, oI 1, oIst, oA 0, oGr 8 30 8, oI 2, oA 0, oGr 8 30 8, oI 2, oIl, oA 0, oI 2, oCv 8 30 p_X8_way f_X8_way 0 0 2, oCs p_X8_stretchFrom f_X8_stretchFrom 0 0 2, oIst, oA 0, oGr 8 30 7, oI 2, oK 2, oIst, oA 0, oGr 8 30 9, oI 2, oI 1, oIst, oA 0, oI 1, oCv 8 30 p_X8_nextToLeave f_X8_nextToLeave 0 0 2, oIs 2, oGo 6] := sb_cons (sd_iload_n (by decide +kernel : decode cX8_leave 6 = .ok (.iload_n 2, 1)) rfl) (sb_cons (sd_lt0 (by decide +kernel : decode cX8_leave 7 = .ok (.ifCond .lt 84, 3)) (by decide)) (sb_cons (sd_aload_n (by decide +kernel : decode cX8_leave 10 = .ok (.aload_n 0, 1)) rfl) (sb_cons (sd_getr (k := 11) kl_8 (by decide) rfl wm_684 (by decide +kernel : decode cX8_leave 11 = .ok (.getfield 38, 3))) (sb_cons (sd_bipush (by decide +kernel : decode cX8_leave 14 = .ok (.bipush 8, 2)) ⟨by decide, by decide⟩ (by decide)) (sb_cons (sd_iload_n (by decide +kernel : decode cX8_leave 16 = .ok (.iload_n 2, 1)) rfl) (sb_cons (sd_imul (by decide +kernel : decode cX8_leave 17 = .ok (.imul, 1))) (sb_cons (sd_aload_n (by decide +kernel : decode cX8_leave 18 = .ok (.aload_n 0, 1)) rfl) (sb_cons (sd_getr (k := 8) kl_8 (by decide) rfl wm_681 (by decide +kernel : decode cX8_leave 19 = .ok (.getfield 29, 3))) (sb_cons (sd_iload_n (by decide +kernel : decode cX8_leave 22 = .ok (.iload_n 2, 1)) rfl) (sb_cons (sd_iaload (by decide +kernel : decode cX8_leave 23 = .ok (.iaload, 1))) (sb_cons (sd_iadd (by decide +kernel : decode cX8_leave 24 = .ok (.iadd, 1))) (sb_cons (sd_aload_n (by decide +kernel : decode cX8_leave 25 = .ok (.aload_n 0, 1)) rfl) (sb_cons (sd_iload_n (by decide +kernel : decode cX8_leave 26 = .ok (.iload_n 2, 1)) rfl) (sb_cons (sd_callv (n := 1) (met_X8_readyAt l) (by decide) (by decide) wm_845 wm_843 wm_10 ⟨by decide +kernel, by decide +kernel, by decide +kernel⟩ kl_8 wm_844 wm_1126 (by decide +kernel : decode cX8_leave 27 = .ok (.invokevirtual 99, 3))) (sb_cons (sd_iastore (by decide +kernel : decode cX8_leave 30 = .ok (.iastore, 1))) (sb_cons (sd_aload_n (by decide +kernel : decode cX8_leave 31 = .ok (.aload_n 0, 1)) rfl) (sb_cons (sd_getr (k := 12) kl_8 (by decide) rfl wm_685 (by decide +kernel : decode cX8_leave 32 = .ok (.getfield 41, 3))) (sb_cons (sd_bipush (by decide +kernel : decode cX8_leave 35 = .ok (.bipush 8, 2)) ⟨by decide, by decide⟩ (by decide)) (sb_cons (sd_iload_n (by decide +kernel : decode cX8_leave 37 = .ok (.iload_n 2, 1)) rfl) (sb_cons (sd_imul (by decide +kernel : decode cX8_leave 38 = .ok (.imul, 1))) (sb_cons (sd_aload_n (by decide +kernel : decode cX8_leave 39 = .ok (.aload_n 0, 1)) rfl) (sb_cons (sd_getr (k := 8) kl_8 (by decide) rfl wm_681 (by decide +kernel : decode cX8_leave 40 = .ok (.getfield 29, 3))) (sb_cons (sd_iload_n (by decide +kernel : decode cX8_leave 43 = .ok (.iload_n 2, 1)) rfl) (sb_cons (sd_iaload (by decide +kernel : decode cX8_leave 44 = .ok (.iaload, 1))) (sb_cons (sd_iadd (by decide +kernel : decode cX8_leave 45 = .ok (.iadd, 1))) (sb_cons (sd_iload_n (by decide +kernel : decode cX8_leave 46 = .ok (.iload_n 1, 1)) rfl) (sb_cons (sd_iastore (by decide +kernel : decode cX8_leave 47 = .ok (.iastore, 1))) (sb_cons (sd_aload_n (by decide +kernel : decode cX8_leave 48 = .ok (.aload_n 0, 1)) rfl) (sb_cons (sd_getr (k := 8) kl_8 (by decide) rfl wm_681 (by decide +kernel : decode cX8_leave 49 = .ok (.getfield 29, 3))) (sb_cons (sd_iload_n (by decide +kernel : decode cX8_leave 52 = .ok (.iload_n 2, 1)) rfl) (sb_cons (sd_aload_n (by decide +kernel : decode cX8_leave 53 = .ok (.aload_n 0, 1)) rfl) (sb_cons (sd_getr (k := 8) kl_8 (by decide) rfl wm_681 (by decide +kernel : decode cX8_leave 54 = .ok (.getfield 29, 3))) (sb_cons (sd_iload_n (by decide +kernel : decode cX8_leave 57 = .ok (.iload_n 2, 1)) rfl) (sb_cons (sd_iaload (by decide +kernel : decode cX8_leave 58 = .ok (.iaload, 1))) (sb_cons (sd_aload_n (by decide +kernel : decode cX8_leave 59 = .ok (.aload_n 0, 1)) rfl) (sb_cons (sd_iload_n (by decide +kernel : decode cX8_leave 60 = .ok (.iload_n 2, 1)) rfl) (sb_cons (sd_callv (n := 1) (met_X8_way l) (by decide) (by decide) wm_821 wm_819 wm_10 ⟨by decide +kernel, by decide +kernel, by decide +kernel⟩ kl_8 wm_820 wm_1120 (by decide +kernel : decode cX8_leave 61 = .ok (.invokevirtual 95, 3))) (sb_cons (sd_calls (n := 2) (met_X8_stretchFrom l) (by decide) (by decide) wm_849 wm_847 wm_10 ⟨by decide +kernel, by decide +kernel, by decide +kernel⟩ wm_848 (by decide +kernel : decode cX8_leave 64 = .ok (.invokestatic 106, 3))) (sb_cons (sd_iastore (by decide +kernel : decode cX8_leave 67 = .ok (.iastore, 1))) (sb_cons (sd_aload_n (by decide +kernel : decode cX8_leave 68 = .ok (.aload_n 0, 1)) rfl) (sb_cons (sd_getr (k := 7) kl_8 (by decide) rfl wm_680 (by decide +kernel : decode cX8_leave 69 = .ok (.getfield 26, 3))) (sb_cons (sd_iload_n (by decide +kernel : decode cX8_leave 72 = .ok (.iload_n 2, 1)) rfl) (sb_cons (sd_iconst (by decide +kernel : decode cX8_leave 73 = .ok (.iconst 2, 1)) ⟨by decide, by decide⟩) (sb_cons (sd_iastore (by decide +kernel : decode cX8_leave 74 = .ok (.iastore, 1))) (sb_cons (sd_aload_n (by decide +kernel : decode cX8_leave 75 = .ok (.aload_n 0, 1)) rfl) (sb_cons (sd_getr (k := 9) kl_8 (by decide) rfl wm_682 (by decide +kernel : decode cX8_leave 76 = .ok (.getfield 32, 3))) (sb_cons (sd_iload_n (by decide +kernel : decode cX8_leave 79 = .ok (.iload_n 2, 1)) rfl) (sb_cons (sd_iload_n (by decide +kernel : decode cX8_leave 80 = .ok (.iload_n 1, 1)) rfl) (sb_cons (sd_iastore (by decide +kernel : decode cX8_leave 81 = .ok (.iastore, 1))) (sb_cons (sd_aload_n (by decide +kernel : decode cX8_leave 82 = .ok (.aload_n 0, 1)) rfl) (sb_cons (sd_iload_n (by decide +kernel : decode cX8_leave 83 = .ok (.iload_n 1, 1)) rfl) (sb_cons (sd_callv (n := 1) (met_X8_nextToLeave l) (by decide) (by decide) wm_833 wm_831 wm_10 ⟨by decide +kernel, by decide +kernel, by decide +kernel⟩ kl_8 wm_832 wm_1123 (by decide +kernel : decode cX8_leave 84 = .ok (.invokevirtual 124, 3))) (sb_cons (sd_istore_n (by decide +kernel : decode cX8_leave 87 = .ok (.istore_n 2, 1)) rfl) (sb_cons (sd_goto (x := 0) (by decide +kernel : decode cX8_leave 88 = .ok (.goto (-82), 3)) (by decide)) sb_nil))))))))))))))))))))))))))))))))))))))))))))))))))))))
set_option maxRecDepth 100000 in
theorem sb_X8_leave_91 (l : Launch) : sm_SndB l RX8 "leave" cX8_leave 3 0 5 91 [oVr] := sb_cons (sd_return (x := 0) rfl (by decide +kernel : decode cX8_leave 91 = .ok (.return_, 1))) sb_nil
theorem sn_X8_leave (l : Launch) : sm_SndT l RX8 "leave" cX8_leave 3 0 5 tb_X8_leave := st_cons (sb_X8_leave_0 l) (st_cons (sb_X8_leave_6 l) (st_cons (sb_X8_leave_91 l) (st_nil)))
set_option maxRecDepth 100000 in
set_option maxHeartbeats 4000000 in
theorem ok_X8_leave : sm_Ok tb_X8_leave 3 0 0 p_X8_leave f_X8_leave := by
  intro as w hp ha hw
  match as, hp with
  | [.inr (.inl m), .inl t], hp =>
  refine ⟨Nat.le_of_ble_eq_true rfl, fun Z hZ => ?_⟩
  obtain ⟨rfl, hD, t0, t1⟩ := hp
  have hl := sm_loopM (S := Nat × sm_W) Z 6 (fun s => s.1) (fun s => mDay s.2 ∧ mSt s.2 < s.1 ∧ mLv s.1 s.2 t = mLv 9 w t) (fun s => [some (.inr (.inl 154)), some (.inl t), some (.inl (mNext s.2 t (wI s.2 155 1)))]) (fun s => s.2) 0 0 (fun s hI ih => by
    obtain ⟨n, u⟩ := s
    dsimp only at hI ih ⊢
    obtain ⟨hU, hc, he⟩ := hI
    have hv := hU.1.2
    have hT := hU.1.1
    have hO := hU.1
    have hm := vOK_many hv
    have hn := mNext_in u t (wI u 155 1) hm.1
    have hc0 := cntP_le (fun y => decide (wI u 160 y ≤ 1)) (wI u 155 1) hm.1
    cases n with
    | zero => exfalso; unfold mSt at hc; omega
    | succ n =>
      have hcan := fun h => mCan_pre (w := u) (x := mNext u t (wI u 155 1)) (t := t) h
      generalize hx : mNext u t (wI u 155 1) = x at *
      rw [mLv_s n u t, hx] at he
      have ih := fun hx0 : 0 ≤ x => ih (n, mLv1 u x t) ⟨mLv1_day hU hx0 (by omega) (by omega) t0 t1, by
        have := mLv1_cnt (w := u) (x := x) (t := t) hx0 (by omega) (by omega)
        dsimp only
        omega, by rw [← he, if_neg (by omega)]⟩ (Nat.lt_succ_self n)
      have hD1 := fun hx0 : 0 ≤ x => mLv1_day (t := t) hU hx0 (by omega) (by omega) t0 t1
      have hs := fun hx0 : 0 ≤ x => hU.2 x hx0 (by omega)
      simp only [mSh] at hs
      unfold mLv1 at ih hD1
      have hwp := mWay_pm (wI u 155) x
      refine hZ (fun u => Nat.beq u 6) 14 6 _ _ _ _ _ ?_
      simp only [sm_run, sm_blk, sm_get, sm_ent, sm_ents, sm_wds, sm_wd, sm_nl, sm_pop, sm_back, sm_cases, oK, oLK, oL, oI, oA, oJ, oIs, oAs, oJs, oInc, oAdd, oSub, oMul, oDiv, oRem, oNeg, oAnd, oOr, oShl, oI2c, oI2l, oL2i, oLand, oLor, oLshl, oLshr, oLushr, oLcmp, oDup, oDup2, oPop, oGo, oFg, oEq, oNe, oLt, oGe, oGt, oLe, oEq0, oNe0, oLt0, oGe0, oGt0, oLe0, oSw, oGi, oGr, oPi, oPz, oPr, oLen, oIl, oZl, oCl, oRl, oIst, oZst, oCst, oRst, oCopy, oNew, oNa, oNa2, oObj, oCs, oCv, oCi, oIr, oZr, oVr, Nat.beq, List.getElem?_cons_zero, List.getElem?_cons_succ, List.set_cons_zero, List.set_cons_succ, List.length_cons, List.length_nil, List.nil_append, List.cons_append, List.append_nil, List.replicate_succ, List.replicate_zero, Nat.reduceAdd, Nat.reduceSub, Nat.reduceLT, Nat.reduceLeDiff, Nat.reduceBEq, true_and, and_true, Nat.zero_add, Nat.add_zero, Nat.le_refl, Option.some.injEq, exists_eq_left', true_or, or_true, or_false, false_or, reduceCtorEq, Prod.mk.injEq, Sum.inl.injEq, and_self, false_and, and_false, not_true_eq_false, not_false_eq_true, false_implies, true_implies, sm_r, Int.add_zero, Int.zero_add, wI_wsI, wS_wsI, wR_wsI, wI_wCp, wS_wCp, wR_wCp, Nat.reduceEqDiff, reduceIte, sT_iff, sT_iffC, wIf_ne, ne_eq, Bool.false_or, Bool.true_or, Bool.or_false, Bool.or_true, Bool.or_self, tb_X8_leave, p_X8_nextToLeave, p_X8_readyAt, p_X8_stretchFrom, p_X8_way, f_X8_nextToLeave, f_X8_readyAt, f_X8_stretchFrom, f_X8_way, p_X8_leave, f_X8_leave, sS_154 hT, sR_154_7 hT, sS_160 hT, sR_154_8 hT, sS_161 hT, sR_154_9 hT, sS_162 hT, sR_154_11 hT, sS_164 hT, sR_154_12 hT, sS_165 hT, hO, hT]
      repeat' (first | assumption | with_reducible refine And.intro ?_ ?_ | intro _)
      all_goals first
        | omega
        | rfl
        | (split <;> omega)
        | (have k9 := ih (by omega)
           (repeat' split at k9) <;> first | exact k9 | omega)
        | (have k9 := ih2 (by omega)
           (repeat' split at k9) <;> first | exact k9 | omega)
        | exact he (by omega)
        | (congr 1; omega)
        | (rw [if_pos (by omega)] at he; exact he)
        | exact hD1 (by omega)
        | exact hD2 (by omega)
        | skip
    )
  have h1 := hl (9, w) ⟨hD, by have := cntP_le (fun y => decide (wI w 160 y ≤ 1)) (wI w 155 1) (vOK_many hD.1.2).1; have := (vOK_many hD.1.2).2; unfold mSt; dsimp only; omega, rfl⟩
  dsimp only at h1
  refine hZ (fun u => Nat.beq u 6) 14 0 _ _ _ _ _ ?_
  simp only [sm_run, sm_blk, sm_get, sm_ent, sm_ents, sm_wds, sm_wd, sm_nl, sm_pop, sm_back, sm_cases, oK, oLK, oL, oI, oA, oJ, oIs, oAs, oJs, oInc, oAdd, oSub, oMul, oDiv, oRem, oNeg, oAnd, oOr, oShl, oI2c, oI2l, oL2i, oLand, oLor, oLshl, oLshr, oLushr, oLcmp, oDup, oDup2, oPop, oGo, oFg, oEq, oNe, oLt, oGe, oGt, oLe, oEq0, oNe0, oLt0, oGe0, oGt0, oLe0, oSw, oGi, oGr, oPi, oPz, oPr, oLen, oIl, oZl, oCl, oRl, oIst, oZst, oCst, oRst, oCopy, oNew, oNa, oNa2, oObj, oCs, oCv, oCi, oIr, oZr, oVr, Nat.beq, List.getElem?_cons_zero, List.getElem?_cons_succ, List.set_cons_zero, List.set_cons_succ, List.length_cons, List.length_nil, List.nil_append, List.cons_append, List.append_nil, List.replicate_succ, List.replicate_zero, Nat.reduceAdd, Nat.reduceSub, Nat.reduceLT, Nat.reduceLeDiff, Nat.reduceBEq, true_and, and_true, Nat.zero_add, Nat.add_zero, Nat.le_refl, Option.some.injEq, exists_eq_left', true_or, or_true, or_false, false_or, reduceCtorEq, Prod.mk.injEq, Sum.inl.injEq, and_self, false_and, and_false, not_true_eq_false, not_false_eq_true, false_implies, true_implies, sm_r, Int.add_zero, Int.zero_add, wI_wsI, wS_wsI, wR_wsI, wI_wCp, wS_wCp, wR_wCp, Nat.reduceEqDiff, reduceIte, sT_iff, sT_iffC, wIf_ne, ne_eq, Bool.false_or, Bool.true_or, Bool.or_false, Bool.or_true, Bool.or_self, tb_X8_leave, p_X8_nextToLeave, p_X8_readyAt, p_X8_stretchFrom, p_X8_way, f_X8_nextToLeave, f_X8_readyAt, f_X8_stretchFrom, f_X8_way, p_X8_leave, f_X8_leave, sS_154 hD.1.1]
  repeat' (first | assumption | with_reducible refine And.intro ?_ ?_ | intro _)
  all_goals first
    | omega
    | rfl
    | (split <;> omega)
    | (have k9 := ih (by omega)
       (repeat' split at k9) <;> first | exact k9 | omega)
    | (have k9 := ih2 (by omega)
       (repeat' split at k9) <;> first | exact k9 | omega)
    | exact he (by omega)
    | (congr 1; omega)
    | (rw [if_pos (by omega)] at he; exact he)
    | exact hD1 (by omega)
    | exact hD2 (by omega)
    | skip
theorem met_X8_leave (l : Launch) : sm_Met l yX8_leave cX8_leave 3 none 5 0 0 p_X8_leave f_X8_leave := sm_met 0 (Or.inl ⟨rfl, rfl⟩) (by decide +kernel) (sn_X8_leave l) ok_X8_leave
theorem mLv_at (n : Nat) (w : sm_W) (t : Int) : wI (mLv n w t) 155 = wI w 155 := by
  induction n generalizing w with
  | zero => rfl
  | succ n ih =>
    rw [mLv_s]
    split
    · rfl
    · rw [ih]; rfl
theorem mLv_day {w : sm_W} {t : Int} (h : mDay w) (t0 : 0 ≤ t) (t1 : t ≤ 100000) (n : Nat) : mDay (mLv n w t) := by
  induction n generalizing w with
  | zero => exact h
  | succ n ih =>
    rw [mLv_s]
    have hn := mNext_in w t (wI w 155 1) (vOK_many h.1.2).1
    split
    · exact h
    · next hx =>
      have hc := mCan_pre (w := w) (x := mNext w t (wI w 155 1)) (t := t) (by omega)
      exact ih (mLv1_day h (by omega) (by omega) hc.1 t0 t1)
/-- a shuttle comes into a station -/
def mCm1 (t x : Int) (w : sm_W) : sm_W := if wI w 160 x = 2 ∧ t - wI w 162 x = wI w 155 (10 + wI w 161 x) then (if 0 < mWay (wI w 155) x then wsI (wsI (wsI (wsI w 163 (8 * x + (wI w 161 x + 1)) t) 160 x (if wI w 161 x + 1 = wI w 155 (17 + 5 * x + 1) then 3 else 1)) 161 x (wI w 161 x + 1)) 162 x t else wsI (wsI (wsI (wsI w 163 (8 * x + wI w 161 x) t) 160 x (if wI w 161 x = wI w 155 (17 + 5 * x + 1) then 3 else 1)) 161 x (wI w 161 x)) 162 x t) else w
theorem mCm1_at (t x : Int) (w : sm_W) : wI (mCm1 t x w) 155 = wI w 155 := by
  unfold mCm1
  split
  · split <;> rfl
  · rfl
theorem mCm1_day {w : sm_W} {x t : Int} (h : mDay w) (h0 : 0 ≤ x) (h1 : x < wI w 155 1) (t0 : 0 ≤ t) (t1 : t ≤ 100000) : mDay (mCm1 t x w) := by
  have hT : sT (mCm1 t x w) := by
    unfold mCm1
    split
    · split <;> exact h.1.1
    · exact h.1.1
  refine ⟨⟨hT, by rw [mCm1_at]; exact h.1.2⟩, fun y hy0 hy1 => ?_⟩
  rw [mCm1_at] at hy1
  have hx := h.2 x h0 h1
  have hy := h.2 y hy0 hy1
  have hq := vOK_sh h.1.2 h0 h1
  have hwp := mWay_pm (wI w 155) x
  unfold mSh
  rw [mCm1_at]
  unfold mCm1
  simp only [mSh] at hx hy
  by_cases e : y = x
  · subst e
    split
    · split <;> simp only [wI_wsI, Nat.reduceEqDiff, false_and, true_and, if_false, if_true] <;> split <;> omega
    · exact hx
  · split
    · split <;> simp only [wI_wsI, Nat.reduceEqDiff, false_and, true_and, if_false, e] <;> exact hy
    · exact hy
def mCome (w : sm_W) (t : Int) : Int → sm_W := itI (mCm1 t) w
theorem mCome_inv {w : sm_W} {t : Int} (h : mDay w) (t0 : 0 ≤ t) (t1 : t ≤ 100000) (n : Int) (h0 : 0 ≤ n) (hn : n ≤ wI w 155 1) : mDay (mCome w t n) ∧ wI (mCome w t n) 155 = wI w 155 := by
  refine itI_ind (fun i r => mDay r ∧ wI r 155 = wI w 155) n ⟨h, rfl⟩ (fun i r i0 i1 hr => ⟨mCm1_day hr.1 i0 (by rw [hr.2]; omega) t0 t1, by rw [mCm1_at, hr.2]⟩) n h0 (Int.le_refl _)
def p_X8_come : List sm_V → sm_W → Prop
  | [.inr (.inl m), .inl t], w => m = 154 ∧ mDay w ∧ 0 ≤ t ∧ t ≤ 100000
  | _, _ => False
def f_X8_come : sm_F
  | [.inr (.inl m), .inl t], w => (none, mCome w t (wI w 155 1))
  | _, w => (none, w)
def tb_X8_come : List (Nat × List sm_O) := [(0, [oK 0, oIs 2, oFg 3, oGo 2]),
  (2, [oI 2, oA 0, oGr 8 30 0, oK 1, oIl, oGe 126, oA 0, oGr 8 30 7, oI 2, oIl, oK 2, oNe 120, oI 1, oA 0, oGr 8 30 9, oI 2, oIl, oSub, oA 0, oGr 8 30 0, oK 10, oA 0, oGr 8 30 8, oI 2, oIl, oAdd, oIl, oNe 120, oA 0, oI 2, oCv 8 30 p_X8_way f_X8_way 0 0 2, oLe0 66, oA 0, oGr 8 30 8, oI 2, oIl, oK 1, oAdd, oGo 72]),
  (66, [oA 0, oGr 8 30 8, oI 2, oIl, oGo 72]),
  (72, [oIs 3, oA 0, oGr 8 30 10, oK 8, oI 2, oMul, oI 3, oAdd, oI 1, oIst, oA 0, oGr 8 30 7, oI 2, oI 3, oA 0, oI 2, oK 1, oCv 8 30 p_X8_of f_X8_of 0 0 3, oNe 104, oK 3, oGo 105]),
  (104, [oK 1, oGo 105]),
  (105, [oIst, oA 0, oGr 8 30 8, oI 2, oI 3, oIst, oA 0, oGr 8 30 9, oI 2, oI 1, oIst, oGo 120]),
  (120, [oInc 2 1, oFg 3, oGo 2]),
  (126, [oVr])]
set_option maxRecDepth 100000 in
theorem sb_X8_come_0 (l : Launch) : sm_SndB l RX8 "come" cX8_come 4 0 2 0 [oK 0, oIs 2, oFg 3, oGo 2] := sb_cons (sd_iconst (by decide +kernel : decode cX8_come 0 = .ok (.iconst 0, 1)) ⟨by decide, by decide⟩) (sb_cons (sd_istore_n (by decide +kernel : decode cX8_come 1 = .ok (.istore_n 2, 1)) rfl) (sb_cons (sd_fg) (sb_cons (sd_fall (x := 0)) sb_nil)))
set_option maxRecDepth 100000 in
theorem sb_X8_come_2 (l : Launch) : sm_SndB l RX8 "come" cX8_come 4 0 2 2 [oI 2, oA 0, oGr 8 30 0, oK 1, oIl, oGe 126, oA 0, oGr 8 30 7, oI 2, oIl, oK 2, oNe 120, oI 1, oA 0, oGr 8 30 9, oI 2, oIl, oSub, oA 0, oGr 8 30 0, oK 10, oA 0, oGr 8 30 8, oI 2, oIl, oAdd, oIl, oNe 120, oA 0, oI 2, oCv 8 30 p_X8_way f_X8_way 0 0 2, oLe0 66, oA 0, oGr 8 30 8, oI 2, oIl, oK 1, oAdd, oGo 72] := sb_cons (sd_iload_n (by decide +kernel : decode cX8_come 2 = .ok (.iload_n 2, 1)) rfl) (sb_cons (sd_aload_n (by decide +kernel : decode cX8_come 3 = .ok (.aload_n 0, 1)) rfl) (sb_cons (sd_getr (k := 0) kl_8 (by decide) rfl wm_673 (by decide +kernel : decode cX8_come 4 = .ok (.getfield 7, 3))) (sb_cons (sd_iconst (by decide +kernel : decode cX8_come 7 = .ok (.iconst 1, 1)) ⟨by decide, by decide⟩) (sb_cons (sd_iaload (by decide +kernel : decode cX8_come 8 = .ok (.iaload, 1))) (sb_cons (sd_ge (by decide +kernel : decode cX8_come 9 = .ok (.if_icmp .ge 117, 3)) (by decide)) (sb_cons (sd_aload_n (by decide +kernel : decode cX8_come 12 = .ok (.aload_n 0, 1)) rfl) (sb_cons (sd_getr (k := 7) kl_8 (by decide) rfl wm_680 (by decide +kernel : decode cX8_come 13 = .ok (.getfield 26, 3))) (sb_cons (sd_iload_n (by decide +kernel : decode cX8_come 16 = .ok (.iload_n 2, 1)) rfl) (sb_cons (sd_iaload (by decide +kernel : decode cX8_come 17 = .ok (.iaload, 1))) (sb_cons (sd_iconst (by decide +kernel : decode cX8_come 18 = .ok (.iconst 2, 1)) ⟨by decide, by decide⟩) (sb_cons (sd_ne (by decide +kernel : decode cX8_come 19 = .ok (.if_icmp .ne 101, 3)) (by decide)) (sb_cons (sd_iload_n (by decide +kernel : decode cX8_come 22 = .ok (.iload_n 1, 1)) rfl) (sb_cons (sd_aload_n (by decide +kernel : decode cX8_come 23 = .ok (.aload_n 0, 1)) rfl) (sb_cons (sd_getr (k := 9) kl_8 (by decide) rfl wm_682 (by decide +kernel : decode cX8_come 24 = .ok (.getfield 32, 3))) (sb_cons (sd_iload_n (by decide +kernel : decode cX8_come 27 = .ok (.iload_n 2, 1)) rfl) (sb_cons (sd_iaload (by decide +kernel : decode cX8_come 28 = .ok (.iaload, 1))) (sb_cons (sd_isub (by decide +kernel : decode cX8_come 29 = .ok (.isub, 1))) (sb_cons (sd_aload_n (by decide +kernel : decode cX8_come 30 = .ok (.aload_n 0, 1)) rfl) (sb_cons (sd_getr (k := 0) kl_8 (by decide) rfl wm_673 (by decide +kernel : decode cX8_come 31 = .ok (.getfield 7, 3))) (sb_cons (sd_bipush (by decide +kernel : decode cX8_come 34 = .ok (.bipush 10, 2)) ⟨by decide, by decide⟩ (by decide)) (sb_cons (sd_aload_n (by decide +kernel : decode cX8_come 36 = .ok (.aload_n 0, 1)) rfl) (sb_cons (sd_getr (k := 8) kl_8 (by decide) rfl wm_681 (by decide +kernel : decode cX8_come 37 = .ok (.getfield 29, 3))) (sb_cons (sd_iload_n (by decide +kernel : decode cX8_come 40 = .ok (.iload_n 2, 1)) rfl) (sb_cons (sd_iaload (by decide +kernel : decode cX8_come 41 = .ok (.iaload, 1))) (sb_cons (sd_iadd (by decide +kernel : decode cX8_come 42 = .ok (.iadd, 1))) (sb_cons (sd_iaload (by decide +kernel : decode cX8_come 43 = .ok (.iaload, 1))) (sb_cons (sd_ne (by decide +kernel : decode cX8_come 44 = .ok (.if_icmp .ne 76, 3)) (by decide)) (sb_cons (sd_aload_n (by decide +kernel : decode cX8_come 47 = .ok (.aload_n 0, 1)) rfl) (sb_cons (sd_iload_n (by decide +kernel : decode cX8_come 48 = .ok (.iload_n 2, 1)) rfl) (sb_cons (sd_callv (n := 1) (met_X8_way l) (by decide) (by decide) wm_821 wm_819 wm_10 ⟨by decide +kernel, by decide +kernel, by decide +kernel⟩ kl_8 wm_820 wm_1120 (by decide +kernel : decode cX8_come 49 = .ok (.invokevirtual 95, 3))) (sb_cons (sd_le0 (by decide +kernel : decode cX8_come 52 = .ok (.ifCond .le 14, 3)) (by decide)) (sb_cons (sd_aload_n (by decide +kernel : decode cX8_come 55 = .ok (.aload_n 0, 1)) rfl) (sb_cons (sd_getr (k := 8) kl_8 (by decide) rfl wm_681 (by decide +kernel : decode cX8_come 56 = .ok (.getfield 29, 3))) (sb_cons (sd_iload_n (by decide +kernel : decode cX8_come 59 = .ok (.iload_n 2, 1)) rfl) (sb_cons (sd_iaload (by decide +kernel : decode cX8_come 60 = .ok (.iaload, 1))) (sb_cons (sd_iconst (by decide +kernel : decode cX8_come 61 = .ok (.iconst 1, 1)) ⟨by decide, by decide⟩) (sb_cons (sd_iadd (by decide +kernel : decode cX8_come 62 = .ok (.iadd, 1))) (sb_cons (sd_goto (x := 0) (by decide +kernel : decode cX8_come 63 = .ok (.goto 9, 3)) (by decide)) sb_nil))))))))))))))))))))))))))))))))))))))
set_option maxRecDepth 100000 in
theorem sb_X8_come_66 (l : Launch) : sm_SndB l RX8 "come" cX8_come 4 0 2 66 [oA 0, oGr 8 30 8, oI 2, oIl, oGo 72] := sb_cons (sd_aload_n (by decide +kernel : decode cX8_come 66 = .ok (.aload_n 0, 1)) rfl) (sb_cons (sd_getr (k := 8) kl_8 (by decide) rfl wm_681 (by decide +kernel : decode cX8_come 67 = .ok (.getfield 29, 3))) (sb_cons (sd_iload_n (by decide +kernel : decode cX8_come 70 = .ok (.iload_n 2, 1)) rfl) (sb_cons (sd_iaload (by decide +kernel : decode cX8_come 71 = .ok (.iaload, 1))) (sb_cons (sd_fall (x := 0)) sb_nil))))
set_option maxRecDepth 100000 in
theorem sb_X8_come_72 (l : Launch) : sm_SndB l RX8 "come" cX8_come 4 0 2 72 [oIs 3, oA 0, oGr 8 30 10, oK 8, oI 2, oMul, oI 3, oAdd, oI 1, oIst, oA 0, oGr 8 30 7, oI 2, oI 3, oA 0, oI 2, oK 1, oCv 8 30 p_X8_of f_X8_of 0 0 3, oNe 104, oK 3, oGo 105] := sb_cons (sd_istore_n (by decide +kernel : decode cX8_come 72 = .ok (.istore_n 3, 1)) rfl) (sb_cons (sd_aload_n (by decide +kernel : decode cX8_come 73 = .ok (.aload_n 0, 1)) rfl) (sb_cons (sd_getr (k := 10) kl_8 (by decide) rfl wm_683 (by decide +kernel : decode cX8_come 74 = .ok (.getfield 35, 3))) (sb_cons (sd_bipush (by decide +kernel : decode cX8_come 77 = .ok (.bipush 8, 2)) ⟨by decide, by decide⟩ (by decide)) (sb_cons (sd_iload_n (by decide +kernel : decode cX8_come 79 = .ok (.iload_n 2, 1)) rfl) (sb_cons (sd_imul (by decide +kernel : decode cX8_come 80 = .ok (.imul, 1))) (sb_cons (sd_iload_n (by decide +kernel : decode cX8_come 81 = .ok (.iload_n 3, 1)) rfl) (sb_cons (sd_iadd (by decide +kernel : decode cX8_come 82 = .ok (.iadd, 1))) (sb_cons (sd_iload_n (by decide +kernel : decode cX8_come 83 = .ok (.iload_n 1, 1)) rfl) (sb_cons (sd_iastore (by decide +kernel : decode cX8_come 84 = .ok (.iastore, 1))) (sb_cons (sd_aload_n (by decide +kernel : decode cX8_come 85 = .ok (.aload_n 0, 1)) rfl) (sb_cons (sd_getr (k := 7) kl_8 (by decide) rfl wm_680 (by decide +kernel : decode cX8_come 86 = .ok (.getfield 26, 3))) (sb_cons (sd_iload_n (by decide +kernel : decode cX8_come 89 = .ok (.iload_n 2, 1)) rfl) (sb_cons (sd_iload_n (by decide +kernel : decode cX8_come 90 = .ok (.iload_n 3, 1)) rfl) (sb_cons (sd_aload_n (by decide +kernel : decode cX8_come 91 = .ok (.aload_n 0, 1)) rfl) (sb_cons (sd_iload_n (by decide +kernel : decode cX8_come 92 = .ok (.iload_n 2, 1)) rfl) (sb_cons (sd_iconst (by decide +kernel : decode cX8_come 93 = .ok (.iconst 1, 1)) ⟨by decide, by decide⟩) (sb_cons (sd_callv (n := 2) (met_X8_of l) (by decide) (by decide) wm_778 wm_776 wm_10 ⟨by decide +kernel, by decide +kernel, by decide +kernel⟩ kl_8 wm_777 wm_1113 (by decide +kernel : decode cX8_come 94 = .ok (.invokevirtual 78, 3))) (sb_cons (sd_ne (by decide +kernel : decode cX8_come 97 = .ok (.if_icmp .ne 7, 3)) (by decide)) (sb_cons (sd_iconst (by decide +kernel : decode cX8_come 100 = .ok (.iconst 3, 1)) ⟨by decide, by decide⟩) (sb_cons (sd_goto (x := 0) (by decide +kernel : decode cX8_come 101 = .ok (.goto 4, 3)) (by decide)) sb_nil))))))))))))))))))))
set_option maxRecDepth 100000 in
theorem sb_X8_come_104 (l : Launch) : sm_SndB l RX8 "come" cX8_come 4 0 2 104 [oK 1, oGo 105] := sb_cons (sd_iconst (by decide +kernel : decode cX8_come 104 = .ok (.iconst 1, 1)) ⟨by decide, by decide⟩) (sb_cons (sd_fall (x := 0)) sb_nil)
set_option maxRecDepth 100000 in
theorem sb_X8_come_105 (l : Launch) : sm_SndB l RX8 "come" cX8_come 4 0 2 105 [oIst, oA 0, oGr 8 30 8, oI 2, oI 3, oIst, oA 0, oGr 8 30 9, oI 2, oI 1, oIst, oGo 120] := sb_cons (sd_iastore (by decide +kernel : decode cX8_come 105 = .ok (.iastore, 1))) (sb_cons (sd_aload_n (by decide +kernel : decode cX8_come 106 = .ok (.aload_n 0, 1)) rfl) (sb_cons (sd_getr (k := 8) kl_8 (by decide) rfl wm_681 (by decide +kernel : decode cX8_come 107 = .ok (.getfield 29, 3))) (sb_cons (sd_iload_n (by decide +kernel : decode cX8_come 110 = .ok (.iload_n 2, 1)) rfl) (sb_cons (sd_iload_n (by decide +kernel : decode cX8_come 111 = .ok (.iload_n 3, 1)) rfl) (sb_cons (sd_iastore (by decide +kernel : decode cX8_come 112 = .ok (.iastore, 1))) (sb_cons (sd_aload_n (by decide +kernel : decode cX8_come 113 = .ok (.aload_n 0, 1)) rfl) (sb_cons (sd_getr (k := 9) kl_8 (by decide) rfl wm_682 (by decide +kernel : decode cX8_come 114 = .ok (.getfield 32, 3))) (sb_cons (sd_iload_n (by decide +kernel : decode cX8_come 117 = .ok (.iload_n 2, 1)) rfl) (sb_cons (sd_iload_n (by decide +kernel : decode cX8_come 118 = .ok (.iload_n 1, 1)) rfl) (sb_cons (sd_iastore (by decide +kernel : decode cX8_come 119 = .ok (.iastore, 1))) (sb_cons (sd_fall (x := 0)) sb_nil)))))))))))
set_option maxRecDepth 100000 in
theorem sb_X8_come_120 (l : Launch) : sm_SndB l RX8 "come" cX8_come 4 0 2 120 [oInc 2 1, oFg 3, oGo 2] := sb_cons (sd_iinc (by decide +kernel : decode cX8_come 120 = .ok (.iinc 2 1, 3))) (sb_cons (sd_fg) (sb_cons (sd_goto (x := 0) (by decide +kernel : decode cX8_come 123 = .ok (.goto (-121), 3)) (by decide)) sb_nil))
set_option maxRecDepth 100000 in
theorem sb_X8_come_126 (l : Launch) : sm_SndB l RX8 "come" cX8_come 4 0 2 126 [oVr] := sb_cons (sd_return (x := 0) rfl (by decide +kernel : decode cX8_come 126 = .ok (.return_, 1))) sb_nil
theorem sn_X8_come (l : Launch) : sm_SndT l RX8 "come" cX8_come 4 0 2 tb_X8_come := st_cons (sb_X8_come_0 l) (st_cons (sb_X8_come_2 l) (st_cons (sb_X8_come_66 l) (st_cons (sb_X8_come_72 l) (st_cons (sb_X8_come_104 l) (st_cons (sb_X8_come_105 l) (st_cons (sb_X8_come_120 l) (st_cons (sb_X8_come_126 l) (st_nil))))))))
set_option maxRecDepth 100000 in
set_option maxHeartbeats 4000000 in
theorem ok_X8_come : sm_Ok tb_X8_come 4 0 0 p_X8_come f_X8_come := by
  intro as w hp ha hw
  match as, hp with
  | [.inr (.inl m), .inl t], hp =>
  refine ⟨Nat.le_of_ble_eq_true rfl, fun Z hZ => ?_⟩
  obtain ⟨rfl, hD, t0, t1⟩ := hp
  have hm := vOK_many hD.1.2
  have hl := sm_loopI Z 2 0 (wI w 155 1) (fun i => [some (.inr (.inl 154)), some (.inl t), some (.inl i), none]) (fun i => mCome w t i) 0 0 hm.1 (fun i h0 h1 ih => by
    have hI := mCome_inv hD t0 t1 i h0 h1
    have hu : mCome w t (i + 1) = mCm1 t i (mCome w t i) := itI_s _ _ h0
    rw [hu] at ih
    have he : i = wI w 155 1 → mCome w t i = mCome w t (wI w 155 1) := fun e => by rw [← e]
    generalize mCome w t i = u at *
    obtain ⟨hU, hat⟩ := hI
    have hat1 : wI u 155 1 = wI w 155 1 := by rw [hat]
    rw [← hat] at h1 ih
    have hT := hU.1.1
    have hs := fun hlt => hU.2 i h0 hlt
    have hm2 := vOK_many hU.1.2
    have hq := fun hlt => vOK_sh hU.1.2 h0 hlt
    simp only [mSh] at hs
    have hwp := mWay_pm (wI u 155) i
    unfold mCm1 at ih
    refine hZ (fun u => Nat.beq u 2) 14 2 _ _ _ _ _ ?_
    simp only [sm_run, sm_blk, sm_get, sm_ent, sm_ents, sm_wds, sm_wd, sm_nl, sm_pop, sm_back, sm_cases, oK, oLK, oL, oI, oA, oJ, oIs, oAs, oJs, oInc, oAdd, oSub, oMul, oDiv, oRem, oNeg, oAnd, oOr, oShl, oI2c, oI2l, oL2i, oLand, oLor, oLshl, oLshr, oLushr, oLcmp, oDup, oDup2, oPop, oGo, oFg, oEq, oNe, oLt, oGe, oGt, oLe, oEq0, oNe0, oLt0, oGe0, oGt0, oLe0, oSw, oGi, oGr, oPi, oPz, oPr, oLen, oIl, oZl, oCl, oRl, oIst, oZst, oCst, oRst, oCopy, oNew, oNa, oNa2, oObj, oCs, oCv, oCi, oIr, oZr, oVr, Nat.beq, List.getElem?_cons_zero, List.getElem?_cons_succ, List.set_cons_zero, List.set_cons_succ, List.length_cons, List.length_nil, List.nil_append, List.cons_append, List.append_nil, List.replicate_succ, List.replicate_zero, Nat.reduceAdd, Nat.reduceSub, Nat.reduceLT, Nat.reduceLeDiff, Nat.reduceBEq, true_and, and_true, Nat.zero_add, Nat.add_zero, Nat.le_refl, Option.some.injEq, exists_eq_left', true_or, or_true, or_false, false_or, reduceCtorEq, Prod.mk.injEq, Sum.inl.injEq, and_self, false_and, and_false, not_true_eq_false, not_false_eq_true, false_implies, true_implies, sm_r, Int.add_zero, Int.zero_add, wI_wsI, wS_wsI, wR_wsI, wI_wCp, wS_wCp, wR_wCp, Nat.reduceEqDiff, reduceIte, sT_iff, sT_iffC, wIf_ne, ne_eq, Bool.false_or, Bool.true_or, Bool.or_false, Bool.or_true, Bool.or_self, tb_X8_come, p_X8_of, p_X8_way, f_X8_of, f_X8_way, p_X8_come, f_X8_come, sS_154 hT, sR_154_0 hT, sS_155 hT, sR_154_7 hT, sS_160 hT, sR_154_8 hT, sS_161 hT, sR_154_9 hT, sS_162 hT, sR_154_10 hT, sS_163 hT, hT]
    repeat' (first | assumption | with_reducible refine And.intro ?_ ?_ | intro _)
    all_goals first
      | omega
      | rfl
      | (split <;> omega)
      | (have k9 := ih (by omega)
         (repeat' split at k9) <;> first | exact k9 | omega)
      | (have k9 := ih2 (by omega)
         (repeat' split at k9) <;> first | exact k9 | omega)
      | exact he (by omega)
      | (congr 1; omega)
      | (rw [if_pos (by omega)] at he; exact he)
      | exact hD1 (by omega)
      | exact hD2 (by omega)
      | grind
      | skip
    )
  refine hZ (fun u => Nat.beq u 2) 14 0 _ _ _ _ _ ?_
  simp only [sm_run, sm_blk, sm_get, sm_ent, sm_ents, sm_wds, sm_wd, sm_nl, sm_pop, sm_back, sm_cases, oK, oLK, oL, oI, oA, oJ, oIs, oAs, oJs, oInc, oAdd, oSub, oMul, oDiv, oRem, oNeg, oAnd, oOr, oShl, oI2c, oI2l, oL2i, oLand, oLor, oLshl, oLshr, oLushr, oLcmp, oDup, oDup2, oPop, oGo, oFg, oEq, oNe, oLt, oGe, oGt, oLe, oEq0, oNe0, oLt0, oGe0, oGt0, oLe0, oSw, oGi, oGr, oPi, oPz, oPr, oLen, oIl, oZl, oCl, oRl, oIst, oZst, oCst, oRst, oCopy, oNew, oNa, oNa2, oObj, oCs, oCv, oCi, oIr, oZr, oVr, Nat.beq, List.getElem?_cons_zero, List.getElem?_cons_succ, List.set_cons_zero, List.set_cons_succ, List.length_cons, List.length_nil, List.nil_append, List.cons_append, List.append_nil, List.replicate_succ, List.replicate_zero, Nat.reduceAdd, Nat.reduceSub, Nat.reduceLT, Nat.reduceLeDiff, Nat.reduceBEq, true_and, and_true, Nat.zero_add, Nat.add_zero, Nat.le_refl, Option.some.injEq, exists_eq_left', true_or, or_true, or_false, false_or, reduceCtorEq, Prod.mk.injEq, Sum.inl.injEq, and_self, false_and, and_false, not_true_eq_false, not_false_eq_true, false_implies, true_implies, sm_r, Int.add_zero, Int.zero_add, wI_wsI, wS_wsI, wR_wsI, wI_wCp, wS_wCp, wR_wCp, Nat.reduceEqDiff, reduceIte, sT_iff, sT_iffC, wIf_ne, ne_eq, Bool.false_or, Bool.true_or, Bool.or_false, Bool.or_true, Bool.or_self, tb_X8_come, p_X8_of, p_X8_way, f_X8_of, f_X8_way, p_X8_come, f_X8_come, sS_154 hD.1.1]
  repeat' (first | assumption | with_reducible refine And.intro ?_ ?_ | intro _)
  all_goals first
    | omega
    | rfl
    | (split <;> omega)
    | (have k9 := ih (by omega)
       (repeat' split at k9) <;> first | exact k9 | omega)
    | (have k9 := ih2 (by omega)
       (repeat' split at k9) <;> first | exact k9 | omega)
    | exact he (by omega)
    | (congr 1; omega)
    | (rw [if_pos (by omega)] at he; exact he)
    | exact hD1 (by omega)
    | exact hD2 (by omega)
    | skip

theorem met_X8_come (l : Launch) : sm_Met l yX8_come cX8_come 4 none 2 0 0 p_X8_come f_X8_come := sm_met 0 (Or.inl ⟨rfl, rfl⟩) (by decide +kernel) (sn_X8_come l) ok_X8_come
def mMtC (w : sm_W) (x y : Int) : Prop := wI w 160 x = 1 ∧ wI w 160 y = 1 ∧ wI w 161 x = wI w 161 y ∧ mWay (wI w 155) x ≠ mWay (wI w 155) y
def mMt1 (t x y : Int) (w : sm_W) : sm_W := if (wI w 160 x = 1 ∧ wI w 160 y = 1 ∧ wI w 161 x = wI w 161 y ∧ mWay (wI w 155) x ≠ mWay (wI w 155) y) ∧ wI w 166 (8 * x + y) < 0 then wsI (wsI w 166 (8 * x + y) t) 167 (8 * x + y) (wI w 161 x) else w
theorem mMt1_keep (t x y : Int) (w : sm_W) : (∀ a, a ≠ 166 → a ≠ 167 → wI (mMt1 t x y w) a = wI w a) ∧ (sT w → sT (mMt1 t x y w)) := by
  unfold mMt1
  split
  · exact ⟨fun a h1 h2 => by rw [wIf_ne h2, wIf_ne h1], fun h => h⟩
  · exact ⟨fun _ _ _ => rfl, fun h => h⟩
theorem mDay_keep {w u : sm_W} (hT : sT u) (h155 : wI u 155 = wI w 155) (h160 : wI u 160 = wI w 160) (h161 : wI u 161 = wI w 161) (h162 : wI u 162 = wI w 162) (h : mDay w) : mDay u := by
  refine ⟨⟨hT, by rw [h155]; exact h.1.2⟩, fun x h0 h1 => ?_⟩
  unfold mSh
  rw [h155, h160, h161, h162]
  exact h.2 x h0 (by rw [← h155]; exact h1)
def mMtR (t x : Int) (w : sm_W) : Int → sm_W := itI (fun j => mMt1 t x (x + 1 + j)) w
def mMeet (t : Int) (w : sm_W) : Int → sm_W := itI (fun x r => mMtR t x r (wI w 155 1 - (x + 1))) w
def mSame (w u : sm_W) : Prop := (∀ a, a ≠ 166 → a ≠ 167 → wI u a = wI w a) ∧ (sT w → sT u)
theorem mSame.day {w u : sm_W} (h : mSame w u) (hD : mDay w) : mDay u := mDay_keep (h.2 hD.1.1) (h.1 _ (by decide) (by decide)) (h.1 _ (by decide) (by decide)) (h.1 _ (by decide) (by decide)) (h.1 _ (by decide) (by decide)) hD
theorem mSame.trans {w u v : sm_W} (h : mSame w u) (h2 : mSame u v) : mSame w v := ⟨fun a h1 h3 => by rw [h2.1 a h1 h3, h.1 a h1 h3], fun hT => h2.2 (h.2 hT)⟩
theorem mMtR_same (t x : Int) (w : sm_W) (n : Int) (hn : 0 ≤ n) : mSame w (mMtR t x w n) :=
  itI_ind (fun _ r => mSame w r) n ⟨fun _ _ _ => rfl, fun h => h⟩ (fun i r _ _ h => h.trans (mMt1_keep t x (x + 1 + i) r)) n hn (Int.le_refl _)
theorem mMeet_same (t : Int) (w : sm_W) (n : Int) (h0 : 0 ≤ n) (hn : n ≤ wI w 155 1) : mSame w (mMeet t w n) :=
  itI_ind (fun _ r => mSame w r) n ⟨fun _ _ _ => rfl, fun h => h⟩ (fun i r _ h1 h => h.trans (mMtR_same t i r _ (by omega))) n h0 (Int.le_refl _)
def p_X8_meet : List sm_V → sm_W → Prop
  | [.inr (.inl m), .inl t], w => m = 154 ∧ mDay w
  | _, _ => False
def f_X8_meet : sm_F
  | [.inr (.inl m), .inl t], w => (none, mMeet t w (wI w 155 1))
  | _, w => (none, w)
def tb_X8_meet : List (Nat × List sm_O) := [(0, [oK 0, oIs 2, oFg 3, oFg 4, oGo 2]),
  (2, [oI 2, oA 0, oGr 8 30 0, oK 1, oIl, oGe 141, oI 2, oK 1, oAdd, oIs 3, oFg 4, oGo 16]),
  (16, [oI 3, oA 0, oGr 8 30 0, oK 1, oIl, oGe 135, oA 0, oGr 8 30 7, oI 2, oIl, oK 1, oNe 78, oA 0, oGr 8 30 7, oI 3, oIl, oK 1, oNe 78, oA 0, oGr 8 30 8, oI 2, oIl, oA 0, oGr 8 30 8, oI 3, oIl, oNe 78, oA 0, oI 2, oCv 8 30 p_X8_way f_X8_way 0 0 2, oA 0, oI 3, oCv 8 30 p_X8_way f_X8_way 0 0 2, oEq 78, oK 1, oGo 79]),
  (78, [oK 0, oGo 79]),
  (79, [oIs 4, oI 4, oEq0 129, oA 0, oGr 8 30 13, oK 8, oI 2, oMul, oI 3, oAdd, oIl, oGe0 129, oA 0, oGr 8 30 13, oK 8, oI 2, oMul, oI 3, oAdd, oI 1, oIst, oA 0, oGr 8 30 14, oK 8, oI 2, oMul, oI 3, oAdd, oA 0, oGr 8 30 8, oI 2, oIl, oIst, oGo 129]),
  (129, [oInc 3 1, oFg 4, oGo 16]),
  (135, [oInc 2 1, oFg 3, oFg 4, oGo 2]),
  (141, [oVr])]
set_option maxRecDepth 100000 in
theorem sb_X8_meet_0 (l : Launch) : sm_SndB l RX8 "meet" cX8_meet 5 0 2 0 [oK 0, oIs 2, oFg 3, oFg 4, oGo 2] := sb_cons (sd_iconst (by decide +kernel : decode cX8_meet 0 = .ok (.iconst 0, 1)) ⟨by decide, by decide⟩) (sb_cons (sd_istore_n (by decide +kernel : decode cX8_meet 1 = .ok (.istore_n 2, 1)) rfl) (sb_cons (sd_fg) (sb_cons (sd_fg) (sb_cons (sd_fall (x := 0)) sb_nil))))
set_option maxRecDepth 100000 in
theorem sb_X8_meet_2 (l : Launch) : sm_SndB l RX8 "meet" cX8_meet 5 0 2 2 [oI 2, oA 0, oGr 8 30 0, oK 1, oIl, oGe 141, oI 2, oK 1, oAdd, oIs 3, oFg 4, oGo 16] := sb_cons (sd_iload_n (by decide +kernel : decode cX8_meet 2 = .ok (.iload_n 2, 1)) rfl) (sb_cons (sd_aload_n (by decide +kernel : decode cX8_meet 3 = .ok (.aload_n 0, 1)) rfl) (sb_cons (sd_getr (k := 0) kl_8 (by decide) rfl wm_673 (by decide +kernel : decode cX8_meet 4 = .ok (.getfield 7, 3))) (sb_cons (sd_iconst (by decide +kernel : decode cX8_meet 7 = .ok (.iconst 1, 1)) ⟨by decide, by decide⟩) (sb_cons (sd_iaload (by decide +kernel : decode cX8_meet 8 = .ok (.iaload, 1))) (sb_cons (sd_ge (by decide +kernel : decode cX8_meet 9 = .ok (.if_icmp .ge 132, 3)) (by decide)) (sb_cons (sd_iload_n (by decide +kernel : decode cX8_meet 12 = .ok (.iload_n 2, 1)) rfl) (sb_cons (sd_iconst (by decide +kernel : decode cX8_meet 13 = .ok (.iconst 1, 1)) ⟨by decide, by decide⟩) (sb_cons (sd_iadd (by decide +kernel : decode cX8_meet 14 = .ok (.iadd, 1))) (sb_cons (sd_istore_n (by decide +kernel : decode cX8_meet 15 = .ok (.istore_n 3, 1)) rfl) (sb_cons (sd_fg) (sb_cons (sd_fall (x := 0)) sb_nil)))))))))))
set_option maxRecDepth 100000 in
theorem sb_X8_meet_16 (l : Launch) : sm_SndB l RX8 "meet" cX8_meet 5 0 2 16 [oI 3, oA 0, oGr 8 30 0, oK 1, oIl, oGe 135, oA 0, oGr 8 30 7, oI 2, oIl, oK 1, oNe 78, oA 0, oGr 8 30 7, oI 3, oIl, oK 1, oNe 78, oA 0, oGr 8 30 8, oI 2, oIl, oA 0, oGr 8 30 8, oI 3, oIl, oNe 78, oA 0, oI 2, oCv 8 30 p_X8_way f_X8_way 0 0 2, oA 0, oI 3, oCv 8 30 p_X8_way f_X8_way 0 0 2, oEq 78, oK 1, oGo 79] := sb_cons (sd_iload_n (by decide +kernel : decode cX8_meet 16 = .ok (.iload_n 3, 1)) rfl) (sb_cons (sd_aload_n (by decide +kernel : decode cX8_meet 17 = .ok (.aload_n 0, 1)) rfl) (sb_cons (sd_getr (k := 0) kl_8 (by decide) rfl wm_673 (by decide +kernel : decode cX8_meet 18 = .ok (.getfield 7, 3))) (sb_cons (sd_iconst (by decide +kernel : decode cX8_meet 21 = .ok (.iconst 1, 1)) ⟨by decide, by decide⟩) (sb_cons (sd_iaload (by decide +kernel : decode cX8_meet 22 = .ok (.iaload, 1))) (sb_cons (sd_ge (by decide +kernel : decode cX8_meet 23 = .ok (.if_icmp .ge 112, 3)) (by decide)) (sb_cons (sd_aload_n (by decide +kernel : decode cX8_meet 26 = .ok (.aload_n 0, 1)) rfl) (sb_cons (sd_getr (k := 7) kl_8 (by decide) rfl wm_680 (by decide +kernel : decode cX8_meet 27 = .ok (.getfield 26, 3))) (sb_cons (sd_iload_n (by decide +kernel : decode cX8_meet 30 = .ok (.iload_n 2, 1)) rfl) (sb_cons (sd_iaload (by decide +kernel : decode cX8_meet 31 = .ok (.iaload, 1))) (sb_cons (sd_iconst (by decide +kernel : decode cX8_meet 32 = .ok (.iconst 1, 1)) ⟨by decide, by decide⟩) (sb_cons (sd_ne (by decide +kernel : decode cX8_meet 33 = .ok (.if_icmp .ne 45, 3)) (by decide)) (sb_cons (sd_aload_n (by decide +kernel : decode cX8_meet 36 = .ok (.aload_n 0, 1)) rfl) (sb_cons (sd_getr (k := 7) kl_8 (by decide) rfl wm_680 (by decide +kernel : decode cX8_meet 37 = .ok (.getfield 26, 3))) (sb_cons (sd_iload_n (by decide +kernel : decode cX8_meet 40 = .ok (.iload_n 3, 1)) rfl) (sb_cons (sd_iaload (by decide +kernel : decode cX8_meet 41 = .ok (.iaload, 1))) (sb_cons (sd_iconst (by decide +kernel : decode cX8_meet 42 = .ok (.iconst 1, 1)) ⟨by decide, by decide⟩) (sb_cons (sd_ne (by decide +kernel : decode cX8_meet 43 = .ok (.if_icmp .ne 35, 3)) (by decide)) (sb_cons (sd_aload_n (by decide +kernel : decode cX8_meet 46 = .ok (.aload_n 0, 1)) rfl) (sb_cons (sd_getr (k := 8) kl_8 (by decide) rfl wm_681 (by decide +kernel : decode cX8_meet 47 = .ok (.getfield 29, 3))) (sb_cons (sd_iload_n (by decide +kernel : decode cX8_meet 50 = .ok (.iload_n 2, 1)) rfl) (sb_cons (sd_iaload (by decide +kernel : decode cX8_meet 51 = .ok (.iaload, 1))) (sb_cons (sd_aload_n (by decide +kernel : decode cX8_meet 52 = .ok (.aload_n 0, 1)) rfl) (sb_cons (sd_getr (k := 8) kl_8 (by decide) rfl wm_681 (by decide +kernel : decode cX8_meet 53 = .ok (.getfield 29, 3))) (sb_cons (sd_iload_n (by decide +kernel : decode cX8_meet 56 = .ok (.iload_n 3, 1)) rfl) (sb_cons (sd_iaload (by decide +kernel : decode cX8_meet 57 = .ok (.iaload, 1))) (sb_cons (sd_ne (by decide +kernel : decode cX8_meet 58 = .ok (.if_icmp .ne 20, 3)) (by decide)) (sb_cons (sd_aload_n (by decide +kernel : decode cX8_meet 61 = .ok (.aload_n 0, 1)) rfl) (sb_cons (sd_iload_n (by decide +kernel : decode cX8_meet 62 = .ok (.iload_n 2, 1)) rfl) (sb_cons (sd_callv (n := 1) (met_X8_way l) (by decide) (by decide) wm_821 wm_819 wm_10 ⟨by decide +kernel, by decide +kernel, by decide +kernel⟩ kl_8 wm_820 wm_1120 (by decide +kernel : decode cX8_meet 63 = .ok (.invokevirtual 95, 3))) (sb_cons (sd_aload_n (by decide +kernel : decode cX8_meet 66 = .ok (.aload_n 0, 1)) rfl) (sb_cons (sd_iload_n (by decide +kernel : decode cX8_meet 67 = .ok (.iload_n 3, 1)) rfl) (sb_cons (sd_callv (n := 1) (met_X8_way l) (by decide) (by decide) wm_821 wm_819 wm_10 ⟨by decide +kernel, by decide +kernel, by decide +kernel⟩ kl_8 wm_820 wm_1120 (by decide +kernel : decode cX8_meet 68 = .ok (.invokevirtual 95, 3))) (sb_cons (sd_eq (by decide +kernel : decode cX8_meet 71 = .ok (.if_icmp .eq 7, 3)) (by decide)) (sb_cons (sd_iconst (by decide +kernel : decode cX8_meet 74 = .ok (.iconst 1, 1)) ⟨by decide, by decide⟩) (sb_cons (sd_goto (x := 0) (by decide +kernel : decode cX8_meet 75 = .ok (.goto 4, 3)) (by decide)) sb_nil)))))))))))))))))))))))))))))))))))
set_option maxRecDepth 100000 in
theorem sb_X8_meet_78 (l : Launch) : sm_SndB l RX8 "meet" cX8_meet 5 0 2 78 [oK 0, oGo 79] := sb_cons (sd_iconst (by decide +kernel : decode cX8_meet 78 = .ok (.iconst 0, 1)) ⟨by decide, by decide⟩) (sb_cons (sd_fall (x := 0)) sb_nil)
set_option maxRecDepth 100000 in
theorem sb_X8_meet_79 (l : Launch) : sm_SndB l RX8 "meet" cX8_meet 5 0 2 79 [oIs 4, oI 4, oEq0 129, oA 0, oGr 8 30 13, oK 8, oI 2, oMul, oI 3, oAdd, oIl, oGe0 129, oA 0, oGr 8 30 13, oK 8, oI 2, oMul, oI 3, oAdd, oI 1, oIst, oA 0, oGr 8 30 14, oK 8, oI 2, oMul, oI 3, oAdd, oA 0, oGr 8 30 8, oI 2, oIl, oIst, oGo 129] := sb_cons (sd_istore (by decide +kernel : decode cX8_meet 79 = .ok (.istore 4, 2))) (sb_cons (sd_iload (by decide +kernel : decode cX8_meet 81 = .ok (.iload 4, 2))) (sb_cons (sd_eq0 (by decide +kernel : decode cX8_meet 83 = .ok (.ifCond .eq 46, 3)) (by decide)) (sb_cons (sd_aload_n (by decide +kernel : decode cX8_meet 86 = .ok (.aload_n 0, 1)) rfl) (sb_cons (sd_getr (k := 13) kl_8 (by decide) rfl wm_686 (by decide +kernel : decode cX8_meet 87 = .ok (.getfield 44, 3))) (sb_cons (sd_bipush (by decide +kernel : decode cX8_meet 90 = .ok (.bipush 8, 2)) ⟨by decide, by decide⟩ (by decide)) (sb_cons (sd_iload_n (by decide +kernel : decode cX8_meet 92 = .ok (.iload_n 2, 1)) rfl) (sb_cons (sd_imul (by decide +kernel : decode cX8_meet 93 = .ok (.imul, 1))) (sb_cons (sd_iload_n (by decide +kernel : decode cX8_meet 94 = .ok (.iload_n 3, 1)) rfl) (sb_cons (sd_iadd (by decide +kernel : decode cX8_meet 95 = .ok (.iadd, 1))) (sb_cons (sd_iaload (by decide +kernel : decode cX8_meet 96 = .ok (.iaload, 1))) (sb_cons (sd_ge0 (by decide +kernel : decode cX8_meet 97 = .ok (.ifCond .ge 32, 3)) (by decide)) (sb_cons (sd_aload_n (by decide +kernel : decode cX8_meet 100 = .ok (.aload_n 0, 1)) rfl) (sb_cons (sd_getr (k := 13) kl_8 (by decide) rfl wm_686 (by decide +kernel : decode cX8_meet 101 = .ok (.getfield 44, 3))) (sb_cons (sd_bipush (by decide +kernel : decode cX8_meet 104 = .ok (.bipush 8, 2)) ⟨by decide, by decide⟩ (by decide)) (sb_cons (sd_iload_n (by decide +kernel : decode cX8_meet 106 = .ok (.iload_n 2, 1)) rfl) (sb_cons (sd_imul (by decide +kernel : decode cX8_meet 107 = .ok (.imul, 1))) (sb_cons (sd_iload_n (by decide +kernel : decode cX8_meet 108 = .ok (.iload_n 3, 1)) rfl) (sb_cons (sd_iadd (by decide +kernel : decode cX8_meet 109 = .ok (.iadd, 1))) (sb_cons (sd_iload_n (by decide +kernel : decode cX8_meet 110 = .ok (.iload_n 1, 1)) rfl) (sb_cons (sd_iastore (by decide +kernel : decode cX8_meet 111 = .ok (.iastore, 1))) (sb_cons (sd_aload_n (by decide +kernel : decode cX8_meet 112 = .ok (.aload_n 0, 1)) rfl) (sb_cons (sd_getr (k := 14) kl_8 (by decide) rfl wm_687 (by decide +kernel : decode cX8_meet 113 = .ok (.getfield 47, 3))) (sb_cons (sd_bipush (by decide +kernel : decode cX8_meet 116 = .ok (.bipush 8, 2)) ⟨by decide, by decide⟩ (by decide)) (sb_cons (sd_iload_n (by decide +kernel : decode cX8_meet 118 = .ok (.iload_n 2, 1)) rfl) (sb_cons (sd_imul (by decide +kernel : decode cX8_meet 119 = .ok (.imul, 1))) (sb_cons (sd_iload_n (by decide +kernel : decode cX8_meet 120 = .ok (.iload_n 3, 1)) rfl) (sb_cons (sd_iadd (by decide +kernel : decode cX8_meet 121 = .ok (.iadd, 1))) (sb_cons (sd_aload_n (by decide +kernel : decode cX8_meet 122 = .ok (.aload_n 0, 1)) rfl) (sb_cons (sd_getr (k := 8) kl_8 (by decide) rfl wm_681 (by decide +kernel : decode cX8_meet 123 = .ok (.getfield 29, 3))) (sb_cons (sd_iload_n (by decide +kernel : decode cX8_meet 126 = .ok (.iload_n 2, 1)) rfl) (sb_cons (sd_iaload (by decide +kernel : decode cX8_meet 127 = .ok (.iaload, 1))) (sb_cons (sd_iastore (by decide +kernel : decode cX8_meet 128 = .ok (.iastore, 1))) (sb_cons (sd_fall (x := 0)) sb_nil)))))))))))))))))))))))))))))))))
set_option maxRecDepth 100000 in
theorem sb_X8_meet_129 (l : Launch) : sm_SndB l RX8 "meet" cX8_meet 5 0 2 129 [oInc 3 1, oFg 4, oGo 16] := sb_cons (sd_iinc (by decide +kernel : decode cX8_meet 129 = .ok (.iinc 3 1, 3))) (sb_cons (sd_fg) (sb_cons (sd_goto (x := 0) (by decide +kernel : decode cX8_meet 132 = .ok (.goto (-116), 3)) (by decide)) sb_nil))
set_option maxRecDepth 100000 in
theorem sb_X8_meet_135 (l : Launch) : sm_SndB l RX8 "meet" cX8_meet 5 0 2 135 [oInc 2 1, oFg 3, oFg 4, oGo 2] := sb_cons (sd_iinc (by decide +kernel : decode cX8_meet 135 = .ok (.iinc 2 1, 3))) (sb_cons (sd_fg) (sb_cons (sd_fg) (sb_cons (sd_goto (x := 0) (by decide +kernel : decode cX8_meet 138 = .ok (.goto (-136), 3)) (by decide)) sb_nil)))
set_option maxRecDepth 100000 in
theorem sb_X8_meet_141 (l : Launch) : sm_SndB l RX8 "meet" cX8_meet 5 0 2 141 [oVr] := sb_cons (sd_return (x := 0) rfl (by decide +kernel : decode cX8_meet 141 = .ok (.return_, 1))) sb_nil
theorem sn_X8_meet (l : Launch) : sm_SndT l RX8 "meet" cX8_meet 5 0 2 tb_X8_meet := st_cons (sb_X8_meet_0 l) (st_cons (sb_X8_meet_2 l) (st_cons (sb_X8_meet_16 l) (st_cons (sb_X8_meet_78 l) (st_cons (sb_X8_meet_79 l) (st_cons (sb_X8_meet_129 l) (st_cons (sb_X8_meet_135 l) (st_cons (sb_X8_meet_141 l) (st_nil))))))))
set_option maxRecDepth 100000 in
set_option maxHeartbeats 4000000 in
theorem ok_X8_meet : sm_Ok tb_X8_meet 5 0 0 p_X8_meet f_X8_meet := by
  intro as w hp ha hw
  match as, hp with
  | [.inr (.inl m), .inl t], hp =>
  refine ⟨Nat.le_of_ble_eq_true rfl, fun Z hZ => ?_⟩
  obtain ⟨rfl, hD⟩ := hp
  have hm := vOK_many hD.1.2
  have hl := sm_loopI Z 2 0 (wI w 155 1) (fun i => [some (.inr (.inl 154)), some (.inl t), some (.inl i), none, none]) (fun i => mMeet t w i) 0 0 hm.1 (fun i h0 h1 ih => by
    have hI := mMeet_same t w i h0 h1
    have hu : mMeet t w (i + 1) = mMtR t i (mMeet t w i) (wI w 155 1 - (i + 1)) := itI_s _ _ h0
    rw [hu] at ih
    have he : i = wI w 155 1 → mMeet t w i = mMeet t w (wI w 155 1) := fun e => by rw [← e]
    generalize mMeet t w i = u at *
    have hat : wI u 155 = wI w 155 := hI.1 _ (by decide) (by decide)
    have hU := hI.day hD
    have hT := hU.1.1
    have hl2 : i < wI w 155 1 → Z 16 [some (.inr (.inl 154)), some (.inl t), some (.inl i), some (.inl (i + 1)), none] [] (mMtR t i u (i + 1 - (i + 1))) 0 0 := fun hlt => sm_loopI Z 16 (i + 1) (wI w 155 1) (fun j => [some (.inr (.inl 154)), some (.inl t), some (.inl i), some (.inl j), none]) (fun j => mMtR t i u (j - (i + 1))) 0 0 (by omega) (fun j g0 g1 ih2 => by
      have hJ := mMtR_same t i u (j - (i + 1)) (by omega)
      have hv : mMtR t i u (j + 1 - (i + 1)) = mMt1 t i j (mMtR t i u (j - (i + 1))) := by
        rw [show j + 1 - (i + 1) = (j - (i + 1)) + 1 by omega]
        unfold mMtR
        rw [itI_s _ _ (by omega), show i + 1 + (j - (i + 1)) = j by omega]
      rw [hv] at ih2
      have ih : j = wI w 155 1 → Z 2 [some (.inr (.inl 154)), some (.inl t), some (.inl (i + 1)), none, none] [] (mMtR t i u (j - (i + 1))) 0 0 := fun e => by rw [e]; exact ih hlt
      generalize mMtR t i u (j - (i + 1)) = v at *
      have hat2 : wI v 155 = wI w 155 := by rw [hJ.1 _ (by decide) (by decide), hat]
      have hV := hJ.day hU
      have hT := hV.1.1
      rw [← hat2] at hm h1 hlt g1 ih2 ih
      have hs := hV.2 i h0 hlt
      have hs2 := fun hlt => hV.2 j (by omega) hlt
      simp only [mSh] at hs hs2
      unfold mMt1 at ih2
      refine hZ (fun u => Nat.beq u 2 || Nat.beq u 16) 14 16 _ _ _ _ _ ?_
      simp only [sm_run, sm_blk, sm_get, sm_ent, sm_ents, sm_wds, sm_wd, sm_nl, sm_pop, sm_back, sm_cases, oK, oLK, oL, oI, oA, oJ, oIs, oAs, oJs, oInc, oAdd, oSub, oMul, oDiv, oRem, oNeg, oAnd, oOr, oShl, oI2c, oI2l, oL2i, oLand, oLor, oLshl, oLshr, oLushr, oLcmp, oDup, oDup2, oPop, oGo, oFg, oEq, oNe, oLt, oGe, oGt, oLe, oEq0, oNe0, oLt0, oGe0, oGt0, oLe0, oSw, oGi, oGr, oPi, oPz, oPr, oLen, oIl, oZl, oCl, oRl, oIst, oZst, oCst, oRst, oCopy, oNew, oNa, oNa2, oObj, oCs, oCv, oCi, oIr, oZr, oVr, Nat.beq, List.getElem?_cons_zero, List.getElem?_cons_succ, List.set_cons_zero, List.set_cons_succ, List.length_cons, List.length_nil, List.nil_append, List.cons_append, List.append_nil, List.replicate_succ, List.replicate_zero, Nat.reduceAdd, Nat.reduceSub, Nat.reduceLT, Nat.reduceLeDiff, Nat.reduceBEq, true_and, and_true, Nat.zero_add, Nat.add_zero, Nat.le_refl, Option.some.injEq, exists_eq_left', true_or, or_true, or_false, false_or, reduceCtorEq, Prod.mk.injEq, Sum.inl.injEq, and_self, false_and, and_false, not_true_eq_false, not_false_eq_true, false_implies, true_implies, sm_r, Int.add_zero, Int.zero_add, wI_wsI, wS_wsI, wR_wsI, wI_wCp, wS_wCp, wR_wCp, Nat.reduceEqDiff, reduceIte, sT_iff, sT_iffC, wIf_ne, ne_eq, Bool.false_or, Bool.true_or, Bool.or_false, Bool.or_true, Bool.or_self, tb_X8_meet, p_X8_way, f_X8_way, p_X8_meet, f_X8_meet, sS_154 hT, sR_154_0 hT, sS_155 hT, sR_154_7 hT, sS_160 hT, sR_154_8 hT, sS_161 hT, sR_154_13 hT, sS_166 hT, sR_154_14 hT, sS_167 hT, hT]
      repeat' (first | assumption | with_reducible refine And.intro ?_ ?_ | intro _)
      all_goals first
        | omega
        | rfl
        | (split <;> omega)
        | (have k9 := ih (by omega)
           (repeat' split at k9) <;> first | exact k9 | omega)
        | (have k9 := ih2 (by omega)
           (repeat' split at k9) <;> first | exact k9 | omega)
        | exact he (by omega)
        | (congr 1; omega)
        | (rw [if_pos (by omega)] at he; exact he)
        | exact hD1 (by omega)
        | exact hD2 (by omega)
        | grind
        | skip
      )
    have ih2 : i < wI u 155 1 → Z 16 [some (.inr (.inl 154)), some (.inl t), some (.inl i), some (.inl (i + 1)), none] [] u 0 0 := fun hlt => by
      have h9 := hl2 (by rw [← hat]; exact hlt)
      rw [Int.sub_self] at h9
      exact h9
    have hat1 : wI u 155 1 = wI w 155 1 := by rw [hat]
    rw [← hat] at h1 ih
    clear hl2
    have hm2 := vOK_many hU.1.2
    refine hZ (fun u => Nat.beq u 2 || Nat.beq u 16) 14 2 _ _ _ _ _ ?_
    simp only [sm_run, sm_blk, sm_get, sm_ent, sm_ents, sm_wds, sm_wd, sm_nl, sm_pop, sm_back, sm_cases, oK, oLK, oL, oI, oA, oJ, oIs, oAs, oJs, oInc, oAdd, oSub, oMul, oDiv, oRem, oNeg, oAnd, oOr, oShl, oI2c, oI2l, oL2i, oLand, oLor, oLshl, oLshr, oLushr, oLcmp, oDup, oDup2, oPop, oGo, oFg, oEq, oNe, oLt, oGe, oGt, oLe, oEq0, oNe0, oLt0, oGe0, oGt0, oLe0, oSw, oGi, oGr, oPi, oPz, oPr, oLen, oIl, oZl, oCl, oRl, oIst, oZst, oCst, oRst, oCopy, oNew, oNa, oNa2, oObj, oCs, oCv, oCi, oIr, oZr, oVr, Nat.beq, List.getElem?_cons_zero, List.getElem?_cons_succ, List.set_cons_zero, List.set_cons_succ, List.length_cons, List.length_nil, List.nil_append, List.cons_append, List.append_nil, List.replicate_succ, List.replicate_zero, Nat.reduceAdd, Nat.reduceSub, Nat.reduceLT, Nat.reduceLeDiff, Nat.reduceBEq, true_and, and_true, Nat.zero_add, Nat.add_zero, Nat.le_refl, Option.some.injEq, exists_eq_left', true_or, or_true, or_false, false_or, reduceCtorEq, Prod.mk.injEq, Sum.inl.injEq, and_self, false_and, and_false, not_true_eq_false, not_false_eq_true, false_implies, true_implies, sm_r, Int.add_zero, Int.zero_add, wI_wsI, wS_wsI, wR_wsI, wI_wCp, wS_wCp, wR_wCp, Nat.reduceEqDiff, reduceIte, sT_iff, sT_iffC, wIf_ne, ne_eq, Bool.false_or, Bool.true_or, Bool.or_false, Bool.or_true, Bool.or_self, tb_X8_meet, p_X8_way, f_X8_way, p_X8_meet, f_X8_meet, sS_154 hT, sR_154_0 hT, sS_155 hT]
    repeat' (first | assumption | with_reducible refine And.intro ?_ ?_ | intro _)
    all_goals first
      | omega
      | rfl
      | (split <;> omega)
      | (have k9 := ih (by omega)
         (repeat' split at k9) <;> first | exact k9 | omega)
      | (have k9 := ih2 (by omega)
         (repeat' split at k9) <;> first | exact k9 | omega)
      | exact he (by omega)
      | (congr 1; omega)
      | (rw [if_pos (by omega)] at he; exact he)
      | exact hD1 (by omega)
      | exact hD2 (by omega)
      | skip
    )
  refine hZ (fun u => Nat.beq u 2) 14 0 _ _ _ _ _ ?_
  simp only [sm_run, sm_blk, sm_get, sm_ent, sm_ents, sm_wds, sm_wd, sm_nl, sm_pop, sm_back, sm_cases, oK, oLK, oL, oI, oA, oJ, oIs, oAs, oJs, oInc, oAdd, oSub, oMul, oDiv, oRem, oNeg, oAnd, oOr, oShl, oI2c, oI2l, oL2i, oLand, oLor, oLshl, oLshr, oLushr, oLcmp, oDup, oDup2, oPop, oGo, oFg, oEq, oNe, oLt, oGe, oGt, oLe, oEq0, oNe0, oLt0, oGe0, oGt0, oLe0, oSw, oGi, oGr, oPi, oPz, oPr, oLen, oIl, oZl, oCl, oRl, oIst, oZst, oCst, oRst, oCopy, oNew, oNa, oNa2, oObj, oCs, oCv, oCi, oIr, oZr, oVr, Nat.beq, List.getElem?_cons_zero, List.getElem?_cons_succ, List.set_cons_zero, List.set_cons_succ, List.length_cons, List.length_nil, List.nil_append, List.cons_append, List.append_nil, List.replicate_succ, List.replicate_zero, Nat.reduceAdd, Nat.reduceSub, Nat.reduceLT, Nat.reduceLeDiff, Nat.reduceBEq, true_and, and_true, Nat.zero_add, Nat.add_zero, Nat.le_refl, Option.some.injEq, exists_eq_left', true_or, or_true, or_false, false_or, reduceCtorEq, Prod.mk.injEq, Sum.inl.injEq, and_self, false_and, and_false, not_true_eq_false, not_false_eq_true, false_implies, true_implies, sm_r, Int.add_zero, Int.zero_add, wI_wsI, wS_wsI, wR_wsI, wI_wCp, wS_wCp, wR_wCp, Nat.reduceEqDiff, reduceIte, sT_iff, sT_iffC, wIf_ne, ne_eq, Bool.false_or, Bool.true_or, Bool.or_false, Bool.or_true, Bool.or_self, tb_X8_meet, p_X8_way, f_X8_way, p_X8_meet, f_X8_meet, sS_154 hD.1.1]
  repeat' (first | assumption | with_reducible refine And.intro ?_ ?_ | intro _)
  all_goals first
    | omega
    | rfl
    | (split <;> omega)
    | (have k9 := ih (by omega)
       (repeat' split at k9) <;> first | exact k9 | omega)
    | (have k9 := ih2 (by omega)
       (repeat' split at k9) <;> first | exact k9 | omega)
    | exact he (by omega)
    | (congr 1; omega)
    | (rw [if_pos (by omega)] at he; exact he)
    | exact hD1 (by omega)
    | exact hD2 (by omega)
    | skip

theorem met_X8_meet (l : Launch) : sm_Met l yX8_meet cX8_meet 5 none 2 0 0 p_X8_meet f_X8_meet := sm_met 0 (Or.inl ⟨rfl, rfl⟩) (by decide +kernel) (sn_X8_meet l) ok_X8_meet