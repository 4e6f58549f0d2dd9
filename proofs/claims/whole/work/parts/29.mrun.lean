/-! THE REFERENCE: run, the method -/
def p_X8_run : List sm_V → sm_W → Prop
  | [.inr (.inl m)], w => m = 154 ∧ mGd0 w
  | _, _ => False
def f_X8_run : sm_F
  | [.inr (.inl m)], w => (none, mRun w)
  | _, w => (none, w)
def tb_X8_run : List (Nat × List sm_O) := [(0, [oA 0, oCv 8 30 p_X8_isAsRun f_X8_isAsRun 0 0 1, oEq0 8, oVr]),
  (8, [oK 0, oIs 1, oFg 2, oGo 10]),
  (10, [oI 1, oK 57, oGe 34, oA 0, oGr 8 30 19, oI 1, oA 0, oGr 8 30 0, oI 1, oIl, oIst, oInc 1 1, oFg 2, oGo 10]),
  (34, [oA 0, oK 1, oPz 8 30 20, oA 0, oCv 8 30 p_X8_beginDay f_X8_beginDay 0 0 1, oK 0, oIs 1, oK 1, oIs 2, oGo 47]),
  (47, [oI 2, oEq0 96, oA 0, oI 1, oCv 8 30 p_X8_come f_X8_come 0 0 2, oA 0, oI 1, oCv 8 30 p_X8_meet f_X8_meet 0 0 2, oA 0, oI 1, oCv 8 30 p_X8_leave f_X8_leave 0 0 2, oA 0, oI 1, oCv 8 30 p_X8_waitAll f_X8_waitAll 0 0 2, oA 0, oI 1, oCv 8 30 p_X8_ends f_X8_ends 0 0 2, oNe0 83, oK 1, oGo 84]),
  (83, [oK 0, oGo 84]),
  (84, [oIs 2, oA 0, oI 1, oPi 8 30 17, oInc 1 1, oGo 47]),
  (96, [oVr])]
set_option maxRecDepth 100000 in
theorem sb_X8_run_0 (l : Launch) : sm_SndB l RX8 "run" cX8_run 3 0 6 0 [oA 0, oCv 8 30 p_X8_isAsRun f_X8_isAsRun 0 0 1, oEq0 8, oVr] := sb_cons (sd_aload_n (by decide +kernel : decode cX8_run 0 = .ok (.aload_n 0, 1)) rfl) (sb_cons (sd_callv (n := 0) (met_X8_isAsRun l) (by decide) (by decide) wm_809 wm_807 wm_10 ⟨by decide +kernel, by decide +kernel, by decide +kernel⟩ kl_8 wm_808 wm_1117 (by decide +kernel : decode cX8_run 1 = .ok (.invokevirtual 134, 3))) (sb_cons (sd_eq0 (by decide +kernel : decode cX8_run 4 = .ok (.ifCond .eq 4, 3)) (by decide)) (sb_cons (sd_return (x := 0) rfl (by decide +kernel : decode cX8_run 7 = .ok (.return_, 1))) sb_nil)))
set_option maxRecDepth 100000 in
theorem sb_X8_run_8 (l : Launch) : sm_SndB l RX8 "run" cX8_run 3 0 6 8 [oK 0, oIs 1, oFg 2, oGo 10] := sb_cons (sd_iconst (by decide +kernel : decode cX8_run 8 = .ok (.iconst 0, 1)) ⟨by decide, by decide⟩) (sb_cons (sd_istore_n (by decide +kernel : decode cX8_run 9 = .ok (.istore_n 1, 1)) rfl) (sb_cons (sd_fg) (sb_cons (sd_fall (x := 0)) sb_nil)))
set_option maxRecDepth 100000 in
theorem sb_X8_run_10 (l : Launch) : sm_SndB l RX8 "run" cX8_run 3 0 6 10 [oI 1, oK 57, oGe 34, oA 0, oGr 8 30 19, oI 1, oA 0, oGr 8 30 0, oI 1, oIl, oIst, oInc 1 1, oFg 2, oGo 10] := sb_cons (sd_iload_n (by decide +kernel : decode cX8_run 10 = .ok (.iload_n 1, 1)) rfl) (sb_cons (sd_bipush (by decide +kernel : decode cX8_run 11 = .ok (.bipush 57, 2)) ⟨by decide, by decide⟩ (by decide)) (sb_cons (sd_ge (by decide +kernel : decode cX8_run 13 = .ok (.if_icmp .ge 21, 3)) (by decide)) (sb_cons (sd_aload_n (by decide +kernel : decode cX8_run 16 = .ok (.aload_n 0, 1)) rfl) (sb_cons (sd_getr (k := 19) kl_8 (by decide) rfl wm_692 (by decide +kernel : decode cX8_run 17 = .ok (.getfield 56, 3))) (sb_cons (sd_iload_n (by decide +kernel : decode cX8_run 20 = .ok (.iload_n 1, 1)) rfl) (sb_cons (sd_aload_n (by decide +kernel : decode cX8_run 21 = .ok (.aload_n 0, 1)) rfl) (sb_cons (sd_getr (k := 0) kl_8 (by decide) rfl wm_673 (by decide +kernel : decode cX8_run 22 = .ok (.getfield 7, 3))) (sb_cons (sd_iload_n (by decide +kernel : decode cX8_run 25 = .ok (.iload_n 1, 1)) rfl) (sb_cons (sd_iaload (by decide +kernel : decode cX8_run 26 = .ok (.iaload, 1))) (sb_cons (sd_iastore (by decide +kernel : decode cX8_run 27 = .ok (.iastore, 1))) (sb_cons (sd_iinc (by decide +kernel : decode cX8_run 28 = .ok (.iinc 1 1, 3))) (sb_cons (sd_fg) (sb_cons (sd_goto (x := 0) (by decide +kernel : decode cX8_run 31 = .ok (.goto (-21), 3)) (by decide)) sb_nil)))))))))))))
set_option maxRecDepth 100000 in
theorem sb_X8_run_34 (l : Launch) : sm_SndB l RX8 "run" cX8_run 3 0 6 34 [oA 0, oK 1, oPz 8 30 20, oA 0, oCv 8 30 p_X8_beginDay f_X8_beginDay 0 0 1, oK 0, oIs 1, oK 1, oIs 2, oGo 47] := sb_cons (sd_aload_n (by decide +kernel : decode cX8_run 34 = .ok (.aload_n 0, 1)) rfl) (sb_cons (sd_iconst (by decide +kernel : decode cX8_run 35 = .ok (.iconst 1, 1)) ⟨by decide, by decide⟩) (sb_cons (sd_putz (k := 20) kl_8 (by decide) rfl (Or.inl rfl) wm_693 (by decide +kernel : decode cX8_run 36 = .ok (.putfield 130, 3))) (sb_cons (sd_aload_n (by decide +kernel : decode cX8_run 39 = .ok (.aload_n 0, 1)) rfl) (sb_cons (sd_callv (n := 0) (met_X8_beginDay l) (by decide) (by decide) wm_813 wm_811 wm_10 ⟨by decide +kernel, by decide +kernel, by decide +kernel⟩ kl_8 wm_812 wm_1118 (by decide +kernel : decode cX8_run 40 = .ok (.invokevirtual 138, 3))) (sb_cons (sd_iconst (by decide +kernel : decode cX8_run 43 = .ok (.iconst 0, 1)) ⟨by decide, by decide⟩) (sb_cons (sd_istore_n (by decide +kernel : decode cX8_run 44 = .ok (.istore_n 1, 1)) rfl) (sb_cons (sd_iconst (by decide +kernel : decode cX8_run 45 = .ok (.iconst 1, 1)) ⟨by decide, by decide⟩) (sb_cons (sd_istore_n (by decide +kernel : decode cX8_run 46 = .ok (.istore_n 2, 1)) rfl) (sb_cons (sd_fall (x := 0)) sb_nil)))))))))
set_option maxRecDepth 100000 in
theorem sb_X8_run_47 (l : Launch) : sm_SndB l RX8 "run" cX8_run 3 0 6 47 [oI 2, oEq0 96, oA 0, oI 1, oCv 8 30 p_X8_come f_X8_come 0 0 2, oA 0, oI 1, oCv 8 30 p_X8_meet f_X8_meet 0 0 2, oA 0, oI 1, oCv 8 30 p_X8_leave f_X8_leave 0 0 2, oA 0, oI 1, oCv 8 30 p_X8_waitAll f_X8_waitAll 0 0 2, oA 0, oI 1, oCv 8 30 p_X8_ends f_X8_ends 0 0 2, oNe0 83, oK 1, oGo 84] := sb_cons (sd_iload_n (by decide +kernel : decode cX8_run 47 = .ok (.iload_n 2, 1)) rfl) (sb_cons (sd_eq0 (by decide +kernel : decode cX8_run 48 = .ok (.ifCond .eq 48, 3)) (by decide)) (sb_cons (sd_aload_n (by decide +kernel : decode cX8_run 51 = .ok (.aload_n 0, 1)) rfl) (sb_cons (sd_iload_n (by decide +kernel : decode cX8_run 52 = .ok (.iload_n 1, 1)) rfl) (sb_cons (sd_callv (n := 1) (met_X8_come l) (by decide) (by decide) wm_817 wm_815 wm_10 ⟨by decide +kernel, by decide +kernel, by decide +kernel⟩ kl_8 wm_816 wm_1119 (by decide +kernel : decode cX8_run 53 = .ok (.invokevirtual 141, 3))) (sb_cons (sd_aload_n (by decide +kernel : decode cX8_run 56 = .ok (.aload_n 0, 1)) rfl) (sb_cons (sd_iload_n (by decide +kernel : decode cX8_run 57 = .ok (.iload_n 1, 1)) rfl) (sb_cons (sd_callv (n := 1) (met_X8_meet l) (by decide) (by decide) wm_825 wm_823 wm_10 ⟨by decide +kernel, by decide +kernel, by decide +kernel⟩ kl_8 wm_824 wm_1121 (by decide +kernel : decode cX8_run 58 = .ok (.invokevirtual 145, 3))) (sb_cons (sd_aload_n (by decide +kernel : decode cX8_run 61 = .ok (.aload_n 0, 1)) rfl) (sb_cons (sd_iload_n (by decide +kernel : decode cX8_run 62 = .ok (.iload_n 1, 1)) rfl) (sb_cons (sd_callv (n := 1) (met_X8_leave l) (by decide) (by decide) wm_829 wm_827 wm_10 ⟨by decide +kernel, by decide +kernel, by decide +kernel⟩ kl_8 wm_828 wm_1122 (by decide +kernel : decode cX8_run 63 = .ok (.invokevirtual 148, 3))) (sb_cons (sd_aload_n (by decide +kernel : decode cX8_run 66 = .ok (.aload_n 0, 1)) rfl) (sb_cons (sd_iload_n (by decide +kernel : decode cX8_run 67 = .ok (.iload_n 1, 1)) rfl) (sb_cons (sd_callv (n := 1) (met_X8_waitAll l) (by decide) (by decide) wm_869 wm_867 wm_10 ⟨by decide +kernel, by decide +kernel, by decide +kernel⟩ kl_8 wm_868 wm_1131 (by decide +kernel : decode cX8_run 68 = .ok (.invokevirtual 151, 3))) (sb_cons (sd_aload_n (by decide +kernel : decode cX8_run 71 = .ok (.aload_n 0, 1)) rfl) (sb_cons (sd_iload_n (by decide +kernel : decode cX8_run 72 = .ok (.iload_n 1, 1)) rfl) (sb_cons (sd_callv (n := 1) (met_X8_ends l) (by decide) (by decide) wm_877 wm_875 wm_10 ⟨by decide +kernel, by decide +kernel, by decide +kernel⟩ kl_8 wm_876 wm_1133 (by decide +kernel : decode cX8_run 73 = .ok (.invokevirtual 154, 3))) (sb_cons (sd_ne0 (by decide +kernel : decode cX8_run 76 = .ok (.ifCond .ne 7, 3)) (by decide)) (sb_cons (sd_iconst (by decide +kernel : decode cX8_run 79 = .ok (.iconst 1, 1)) ⟨by decide, by decide⟩) (sb_cons (sd_goto (x := 0) (by decide +kernel : decode cX8_run 80 = .ok (.goto 4, 3)) (by decide)) sb_nil)))))))))))))))))))
set_option maxRecDepth 100000 in
theorem sb_X8_run_83 (l : Launch) : sm_SndB l RX8 "run" cX8_run 3 0 6 83 [oK 0, oGo 84] := sb_cons (sd_iconst (by decide +kernel : decode cX8_run 83 = .ok (.iconst 0, 1)) ⟨by decide, by decide⟩) (sb_cons (sd_fall (x := 0)) sb_nil)
set_option maxRecDepth 100000 in
theorem sb_X8_run_84 (l : Launch) : sm_SndB l RX8 "run" cX8_run 3 0 6 84 [oIs 2, oA 0, oI 1, oPi 8 30 17, oInc 1 1, oGo 47] := sb_cons (sd_istore_n (by decide +kernel : decode cX8_run 84 = .ok (.istore_n 2, 1)) rfl) (sb_cons (sd_aload_n (by decide +kernel : decode cX8_run 85 = .ok (.aload_n 0, 1)) rfl) (sb_cons (sd_iload_n (by decide +kernel : decode cX8_run 86 = .ok (.iload_n 1, 1)) rfl) (sb_cons (sd_puti (k := 17) kl_8 (by decide) rfl (Or.inl rfl) wm_690 (by decide +kernel : decode cX8_run 87 = .ok (.putfield 158, 3))) (sb_cons (sd_iinc (by decide +kernel : decode cX8_run 90 = .ok (.iinc 1 1, 3))) (sb_cons (sd_goto (x := 0) (by decide +kernel : decode cX8_run 93 = .ok (.goto (-46), 3)) (by decide)) sb_nil)))))
set_option maxRecDepth 100000 in
theorem sb_X8_run_96 (l : Launch) : sm_SndB l RX8 "run" cX8_run 3 0 6 96 [oVr] := sb_cons (sd_return (x := 0) rfl (by decide +kernel : decode cX8_run 96 = .ok (.return_, 1))) sb_nil
theorem sn_X8_run (l : Launch) : sm_SndT l RX8 "run" cX8_run 3 0 6 tb_X8_run := st_cons (sb_X8_run_0 l) (st_cons (sb_X8_run_8 l) (st_cons (sb_X8_run_10 l) (st_cons (sb_X8_run_34 l) (st_cons (sb_X8_run_47 l) (st_cons (sb_X8_run_83 l) (st_cons (sb_X8_run_84 l) (st_cons (sb_X8_run_96 l) (st_nil))))))))
set_option maxRecDepth 100000 in
set_option maxHeartbeats 4000000 in
theorem ok_X8_run : sm_Ok tb_X8_run 3 0 0 p_X8_run f_X8_run := by
  intro as w hp ha hw
  match as, hp with
  | [.inr (.inl m)], hp =>
  refine ⟨Nat.le_of_ble_eq_true rfl, fun Z hZ => ?_⟩
  obtain ⟨rfl, hO, h01, hZ0, hR⟩ := hp
  have hT := hO.1
  have hv := hO.2
  have hm := vOK_many hO.2
  have hrun : ¬ mAs w 57 = 1 → mRun w = mDayL 7000 (mStart w) 0 := fun h => by unfold mRun; rw [if_neg h]
  have hrun1 : mAs w 57 = 1 → mRun w = w := fun h => by unfold mRun; rw [if_pos h]
  generalize hFe : mRun w = F at *
  have main : ∀ (n : Nat) (u : sm_W) (t : Int), mInv u t → t + n = 7000 → ((t = 0 ∧ mPhi u (t - 1) + 1 < n) ∨ (1 ≤ t ∧ (∃ x, 0 ≤ x ∧ x < wI u 155 1 ∧ (wI u 160 x = 2 ∨ (wI u 160 x ≤ 1 ∧ ¬ mReady u x ≤ t - 1))) ∧ mPhi u (t - 1) < n)) → mDayL n u t = F → Z 47 [some (.inr (.inl 154)), some (.inl t), some (.inl 1)] [] u 0 0 := by
    intro n
    induction n with
    | zero =>
      intro u t hI ht hf _
      have := mPhi_nn hI.1 hI.2.1
      rcases hf with h | h <;> omega
    | succ n ihn =>
      intro u t hI ht hf hF
      have t1 : t ≤ 100000 := by omega
      have hnx := mInv_next hI t1
      have hph := mPhi_0 hI t1
      have hpn := mPhi_next hI t1
      have hact := mEnd_act hI t1
      rw [mDayL_s] at hF
      obtain ⟨hD, hd, t0, hc⟩ := hI
      obtain ⟨d1, e1, d2, e2, d3, e3, c3, d4, e4, c4, u4, _⟩ := mMin_st hD hd t0 t1 hc
      have hTu := hD.1.1
      have hT4 := d4.1.1
      have hT1 := d1.1.1
      have hT2 := d2.1.1
      have hT3 := d3.1.1
      have hc3 : mCtr (mM3 u t) 1000000 := fun i => by have := c3 i; omega
      have f1 : mCome u t (wI u 155 1) = mM1 u t := rfl
      have f2 : mMeet t (mM1 u t) (wI u 155 1) = mM2 u t := rfl
      have f3 : mLv 9 (mM2 u t) t = mM3 u t := rfl
      have f4 : mWait t (mM3 u t) (wI u 155 1) = mM4 u t := rfl
      have hE01 := mEnd_01 (mM4 u t) t (wI u 155 1) (vOK_many hD.1.2).1
      have h6 : mM6 u t = wsI (mM5 u t) 154 17 t := rfl
      have h5 : mM5 u t = if mEnd (mM4 u t) t (wI u 155 1) = 1 then wsI (mM4 u t) 154 18 (mLeft (mM4 u t) (wI u 155 1)) else mM4 u t := rfl
      rcases hE01 with hE | hE
      · rw [if_neg (by omega)] at hF
        rw [if_neg (by omega)] at h5
        rw [h5] at h6
        have hact := hact (by omega)
        have ih : Z 47 [some (.inr (.inl 154)), some (.inl (t + 1)), some (.inl 1)] [] (wsI (mM4 u t) 154 17 t) 0 0 := by
          rw [← h6]
          refine ihn (mM6 u t) (t + 1) hnx.1 (by omega) (Or.inr ⟨by omega, ?_, ?_⟩) hF
          · rw [show t + 1 - 1 = t by omega]
            exact hact
          · rw [show t + 1 - 1 = t by omega]
            rcases hf with h | ⟨h1, h2, h3⟩
            · omega
            · have := hpn h2
              omega
        clear ihn hnx hph hpn hact hF hf hrun hrun1
        generalize mM1 u t = u1 at *
        generalize mM2 u t = u2 at *
        generalize mM3 u t = u3 at *
        generalize mM4 u t = u4 at *
        clear h6 h5
        refine hZ (fun u => Nat.beq u 10 || Nat.beq u 47) 14 47 _ _ _ _ _ ?_
        simp only [sm_run, sm_blk, sm_get, sm_ent, sm_ents, sm_wds, sm_wd, sm_nl, sm_pop, sm_back, sm_cases, oK, oLK, oL, oI, oA, oJ, oIs, oAs, oJs, oInc, oAdd, oSub, oMul, oDiv, oRem, oNeg, oAnd, oAndB, oOr, oShl, oI2c, oI2l, oL2i, oLand, oLor, oLshl, oLshr, oLushr, oLcmp, oDup, oDup2, oPop, oGo, oFg, oEq, oNe, oLt, oGe, oGt, oLe, oEq0, oNe0, oLt0, oGe0, oGt0, oLe0, oSw, oGi, oGr, oPi, oPz, oPr, oLen, oIl, oZl, oCl, oRl, oIst, oZst, oCst, oRst, oCopy, oNew, oNa, oNa2, oObj, oCs, oCv, oCi, oIr, oZr, oVr, Nat.beq, List.getElem?_cons_zero, List.getElem?_cons_succ, List.set_cons_zero, List.set_cons_succ, List.length_cons, List.length_nil, List.nil_append, List.cons_append, List.append_nil, List.replicate_succ, List.replicate_zero, Nat.reduceAdd, Nat.reduceSub, Nat.reduceLT, Nat.reduceLeDiff, Nat.reduceBEq, true_and, and_true, Nat.zero_add, Nat.add_zero, Nat.le_refl, Option.some.injEq, exists_eq_left', true_or, or_true, or_false, false_or, reduceCtorEq, Prod.mk.injEq, Sum.inl.injEq, and_self, false_and, and_false, not_true_eq_false, not_false_eq_true, false_implies, true_implies, sm_r, Int.add_zero, Int.zero_add, wI_wsI, wS_wsI, wR_wsI, wI_wCp, wS_wCp, wR_wCp, Nat.reduceEqDiff, reduceIte, sT_iff, sT_iffC, wIf_ne, ne_eq, Bool.false_or, Bool.true_or, Bool.or_false, Bool.or_true, Bool.or_self, tb_X8_run, p_X8_beginDay, p_X8_come, p_X8_ends, p_X8_isAsRun, p_X8_leave, p_X8_meet, p_X8_waitAll, f_X8_beginDay, f_X8_come, f_X8_ends, f_X8_isAsRun, f_X8_leave, f_X8_meet, f_X8_waitAll, p_X8_run, f_X8_run, hTu, hT4, hT1, hT2, hT3, sS_154 hT1, sS_154 hT2, sS_154 hT3, f1, f2, f3, f4, e1, e2, e3, e4, hE, Int.reduceEq, if_false, sS_154 hTu, sS_154 hT4]
        repeat' (first | exact True.intro | with_reducible assumption | with_reducible refine And.intro ?_ ?_ | intro _)
        all_goals first
          | omega
          | assumption
          | rfl
          | (split <;> omega)
          | (have k9 := ih (by omega)
             (repeat' split at k9) <;> first | exact k9 | omega)
          | (have k9 := ih2 (by omega)
             (repeat' split at k9) <;> first | exact k9 | omega)
          | exact he (by omega)
          | (congr 1; omega)
          | (rw [if_pos (by omega)] at he; exact he)
          | exact hD1 (by omega)
          | exact hD2 (by omega)
          | grind
          | skip
      · rw [if_pos hE] at hF
        rw [if_pos hE] at h5
        rw [h5] at h6
        have ih : Z 47 [some (.inr (.inl 154)), some (.inl (t + 1)), some (.inl 0)] [] (wsI (wsI (mM4 u t) 154 18 (mLeft (mM4 u t) (wI u 155 1))) 154 17 t) 0 0 := by
          rw [← h6, hF]
          have hT6 : sT F := by rw [← hF]; exact hnx.1.1.1.1
          clear ihn hnx hph hpn hact hF hf hrun hrun1 h6 h5
          refine hZ (fun u => Nat.beq u 10 || Nat.beq u 47) 14 47 _ _ _ _ _ ?_
          simp only [sm_run, sm_blk, sm_get, sm_ent, sm_ents, sm_wds, sm_wd, sm_nl, sm_pop, sm_back, sm_cases, oK, oLK, oL, oI, oA, oJ, oIs, oAs, oJs, oInc, oAdd, oSub, oMul, oDiv, oRem, oNeg, oAnd, oAndB, oOr, oShl, oI2c, oI2l, oL2i, oLand, oLor, oLshl, oLshr, oLushr, oLcmp, oDup, oDup2, oPop, oGo, oFg, oEq, oNe, oLt, oGe, oGt, oLe, oEq0, oNe0, oLt0, oGe0, oGt0, oLe0, oSw, oGi, oGr, oPi, oPz, oPr, oLen, oIl, oZl, oCl, oRl, oIst, oZst, oCst, oRst, oCopy, oNew, oNa, oNa2, oObj, oCs, oCv, oCi, oIr, oZr, oVr, Nat.beq, List.getElem?_cons_zero, List.getElem?_cons_succ, List.set_cons_zero, List.set_cons_succ, List.length_cons, List.length_nil, List.nil_append, List.cons_append, List.append_nil, List.replicate_succ, List.replicate_zero, Nat.reduceAdd, Nat.reduceSub, Nat.reduceLT, Nat.reduceLeDiff, Nat.reduceBEq, true_and, and_true, Nat.zero_add, Nat.add_zero, Nat.le_refl, Option.some.injEq, exists_eq_left', true_or, or_true, or_false, false_or, reduceCtorEq, Prod.mk.injEq, Sum.inl.injEq, and_self, false_and, and_false, not_true_eq_false, not_false_eq_true, false_implies, true_implies, sm_r, Int.add_zero, Int.zero_add, wI_wsI, wS_wsI, wR_wsI, wI_wCp, wS_wCp, wR_wCp, Nat.reduceEqDiff, reduceIte, sT_iff, sT_iffC, wIf_ne, ne_eq, Bool.false_or, Bool.true_or, Bool.or_false, Bool.or_true, Bool.or_self, tb_X8_run, p_X8_beginDay, p_X8_come, p_X8_ends, p_X8_isAsRun, p_X8_leave, p_X8_meet, p_X8_waitAll, f_X8_beginDay, f_X8_come, f_X8_ends, f_X8_isAsRun, f_X8_leave, f_X8_meet, f_X8_waitAll, p_X8_run, f_X8_run, hT6, hFe]
          repeat' (first | exact True.intro | with_reducible assumption | with_reducible refine And.intro ?_ ?_ | intro _)
          all_goals first
            | omega
            | assumption
            | rfl
            | (split <;> omega)
            | (have k9 := ih (by omega)
               (repeat' split at k9) <;> first | exact k9 | omega)
            | (have k9 := ih2 (by omega)
               (repeat' split at k9) <;> first | exact k9 | omega)
            | exact he (by omega)
            | (congr 1; omega)
            | (rw [if_pos (by omega)] at he; exact he)
            | exact hD1 (by omega)
            | exact hD2 (by omega)
            | skip
        clear ihn hnx hph hpn hact hF hf hrun hrun1
        generalize mM1 u t = u1 at *
        generalize mM2 u t = u2 at *
        generalize mM3 u t = u3 at *
        generalize mM4 u t = u4 at *
        clear h6 h5
        refine hZ (fun u => Nat.beq u 10 || Nat.beq u 47) 14 47 _ _ _ _ _ ?_
        simp only [sm_run, sm_blk, sm_get, sm_ent, sm_ents, sm_wds, sm_wd, sm_nl, sm_pop, sm_back, sm_cases, oK, oLK, oL, oI, oA, oJ, oIs, oAs, oJs, oInc, oAdd, oSub, oMul, oDiv, oRem, oNeg, oAnd, oAndB, oOr, oShl, oI2c, oI2l, oL2i, oLand, oLor, oLshl, oLshr, oLushr, oLcmp, oDup, oDup2, oPop, oGo, oFg, oEq, oNe, oLt, oGe, oGt, oLe, oEq0, oNe0, oLt0, oGe0, oGt0, oLe0, oSw, oGi, oGr, oPi, oPz, oPr, oLen, oIl, oZl, oCl, oRl, oIst, oZst, oCst, oRst, oCopy, oNew, oNa, oNa2, oObj, oCs, oCv, oCi, oIr, oZr, oVr, Nat.beq, List.getElem?_cons_zero, List.getElem?_cons_succ, List.set_cons_zero, List.set_cons_succ, List.length_cons, List.length_nil, List.nil_append, List.cons_append, List.append_nil, List.replicate_succ, List.replicate_zero, Nat.reduceAdd, Nat.reduceSub, Nat.reduceLT, Nat.reduceLeDiff, Nat.reduceBEq, true_and, and_true, Nat.zero_add, Nat.add_zero, Nat.le_refl, Option.some.injEq, exists_eq_left', true_or, or_true, or_false, false_or, reduceCtorEq, Prod.mk.injEq, Sum.inl.injEq, and_self, false_and, and_false, not_true_eq_false, not_false_eq_true, false_implies, true_implies, sm_r, Int.add_zero, Int.zero_add, wI_wsI, wS_wsI, wR_wsI, wI_wCp, wS_wCp, wR_wCp, Nat.reduceEqDiff, reduceIte, sT_iff, sT_iffC, wIf_ne, ne_eq, Bool.false_or, Bool.true_or, Bool.or_false, Bool.or_true, Bool.or_self, tb_X8_run, p_X8_beginDay, p_X8_come, p_X8_ends, p_X8_isAsRun, p_X8_leave, p_X8_meet, p_X8_waitAll, f_X8_beginDay, f_X8_come, f_X8_ends, f_X8_isAsRun, f_X8_leave, f_X8_meet, f_X8_waitAll, p_X8_run, f_X8_run, hTu, hT4, hT1, hT2, hT3, sS_154 hT1, sS_154 hT2, sS_154 hT3, f1, f2, f3, f4, e1, e2, e3, e4, hE, Int.reduceEq, if_false, sS_154 hTu, sS_154 hT4]
        repeat' (first | exact True.intro | with_reducible assumption | with_reducible refine And.intro ?_ ?_ | intro _)
        all_goals first
          | omega
          | assumption
          | rfl
          | (split <;> omega)
          | (have k9 := ih (by omega)
             (repeat' split at k9) <;> first | exact k9 | omega)
          | (have k9 := ih2 (by omega)
             (repeat' split at k9) <;> first | exact k9 | omega)
          | exact he (by omega)
          | (congr 1; omega)
          | (rw [if_pos (by omega)] at he; exact he)
          | exact hD1 (by omega)
          | exact hD2 (by omega)
          | grind
          | skip
  have hgo : ¬ mAs w 57 = 1 → Z 47 [some (.inr (.inl 154)), some (.inl 0), some (.inl 1)] [] (mStart w) 0 0 := fun h => by
    have hs := mStart_inv hO hZ0
    exact main 7000 (mStart w) 0 hs.1 rfl (Or.inl ⟨rfl, (by have := hs.2; omega)⟩) (hrun h).symm
  clear main
  have hl := fun h : ¬ mAs w 57 = 1 => sm_loopI Z 10 0 57 (fun i => [some (.inr (.inl 154)), some (.inl i), none]) (fun i => itI (mCpA 155 170) w i) 0 0 (by decide) (fun i h0 h1 ih => by
    have k := mCpA_in 155 170 (by decide) w i h0
    have hT := k.2.2 hT
    have hv2 : vOK (wI (itI (mCpA 155 170) w i) 155) := by rw [k.2.1 155 (by decide)]; exact hv
    rw [itI_s _ _ h0] at ih
    have he : i = 57 → Z 47 [some (.inr (.inl 154)), some (.inl 0), some (.inl 1)] [] (mBegin (wsI (itI (mCpA 155 170) w i) 154 20 1)) 0 0 := fun e => by rw [e]; exact hgo h
    clear hgo hrun hrun1
    generalize itI (mCpA 155 170) w i = u at *
    unfold mCpA at ih
    refine hZ (fun u => Nat.beq u 10 || Nat.beq u 47) 14 10 _ _ _ _ _ ?_
    simp only [sm_run, sm_blk, sm_get, sm_ent, sm_ents, sm_wds, sm_wd, sm_nl, sm_pop, sm_back, sm_cases, oK, oLK, oL, oI, oA, oJ, oIs, oAs, oJs, oInc, oAdd, oSub, oMul, oDiv, oRem, oNeg, oAnd, oAndB, oOr, oShl, oI2c, oI2l, oL2i, oLand, oLor, oLshl, oLshr, oLushr, oLcmp, oDup, oDup2, oPop, oGo, oFg, oEq, oNe, oLt, oGe, oGt, oLe, oEq0, oNe0, oLt0, oGe0, oGt0, oLe0, oSw, oGi, oGr, oPi, oPz, oPr, oLen, oIl, oZl, oCl, oRl, oIst, oZst, oCst, oRst, oCopy, oNew, oNa, oNa2, oObj, oCs, oCv, oCi, oIr, oZr, oVr, Nat.beq, List.getElem?_cons_zero, List.getElem?_cons_succ, List.set_cons_zero, List.set_cons_succ, List.length_cons, List.length_nil, List.nil_append, List.cons_append, List.append_nil, List.replicate_succ, List.replicate_zero, Nat.reduceAdd, Nat.reduceSub, Nat.reduceLT, Nat.reduceLeDiff, Nat.reduceBEq, true_and, and_true, Nat.zero_add, Nat.add_zero, Nat.le_refl, Option.some.injEq, exists_eq_left', true_or, or_true, or_false, false_or, reduceCtorEq, Prod.mk.injEq, Sum.inl.injEq, and_self, false_and, and_false, not_true_eq_false, not_false_eq_true, false_implies, true_implies, sm_r, Int.add_zero, Int.zero_add, wI_wsI, wS_wsI, wR_wsI, wI_wCp, wS_wCp, wR_wCp, Nat.reduceEqDiff, reduceIte, sT_iff, sT_iffC, wIf_ne, ne_eq, Bool.false_or, Bool.true_or, Bool.or_false, Bool.or_true, Bool.or_self, tb_X8_run, p_X8_beginDay, p_X8_come, p_X8_ends, p_X8_isAsRun, p_X8_leave, p_X8_meet, p_X8_waitAll, f_X8_beginDay, f_X8_come, f_X8_ends, f_X8_isAsRun, f_X8_leave, f_X8_meet, f_X8_waitAll, p_X8_run, f_X8_run, sS_154 hT, sR_154_0 hT, sS_155 hT, sR_154_19 hT, sS_170 hT, hT, mOK, hv2]
    repeat' (first | exact True.intro | with_reducible assumption | with_reducible refine And.intro ?_ ?_ | intro _)
    all_goals first
      | omega
      | assumption
      | rfl
      | (split <;> omega)
      | (have k9 := ih (by omega)
         (repeat' split at k9) <;> first | exact k9 | omega)
      | (have k9 := ih2 (by omega)
         (repeat' split at k9) <;> first | exact k9 | omega)
      | exact he (by omega)
      | (congr 1; omega)
      | (rw [if_pos (by omega)] at he; exact he)
      | exact hD1 (by omega)
      | exact hD2 (by omega)
      | grind
      | skip
    )
  rw [itI_0] at hl
  clear hgo hrun
  have h0l := mAs_01 h01 57 (by decide)
  rcases h0l with h | h
  · have hl := hl (by omega)
    clear hrun1
    refine hZ (fun u => Nat.beq u 10 || Nat.beq u 47) 14 0 _ _ _ _ _ ?_
    simp only [sm_run, sm_blk, sm_get, sm_ent, sm_ents, sm_wds, sm_wd, sm_nl, sm_pop, sm_back, sm_cases, oK, oLK, oL, oI, oA, oJ, oIs, oAs, oJs, oInc, oAdd, oSub, oMul, oDiv, oRem, oNeg, oAnd, oAndB, oOr, oShl, oI2c, oI2l, oL2i, oLand, oLor, oLshl, oLshr, oLushr, oLcmp, oDup, oDup2, oPop, oGo, oFg, oEq, oNe, oLt, oGe, oGt, oLe, oEq0, oNe0, oLt0, oGe0, oGt0, oLe0, oSw, oGi, oGr, oPi, oPz, oPr, oLen, oIl, oZl, oCl, oRl, oIst, oZst, oCst, oRst, oCopy, oNew, oNa, oNa2, oObj, oCs, oCv, oCi, oIr, oZr, oVr, Nat.beq, List.getElem?_cons_zero, List.getElem?_cons_succ, List.set_cons_zero, List.set_cons_succ, List.length_cons, List.length_nil, List.nil_append, List.cons_append, List.append_nil, List.replicate_succ, List.replicate_zero, Nat.reduceAdd, Nat.reduceSub, Nat.reduceLT, Nat.reduceLeDiff, Nat.reduceBEq, true_and, and_true, Nat.zero_add, Nat.add_zero, Nat.le_refl, Option.some.injEq, exists_eq_left', true_or, or_true, or_false, false_or, reduceCtorEq, Prod.mk.injEq, Sum.inl.injEq, and_self, false_and, and_false, not_true_eq_false, not_false_eq_true, false_implies, true_implies, sm_r, Int.add_zero, Int.zero_add, wI_wsI, wS_wsI, wR_wsI, wI_wCp, wS_wCp, wR_wCp, Nat.reduceEqDiff, reduceIte, sT_iff, sT_iffC, wIf_ne, ne_eq, Bool.false_or, Bool.true_or, Bool.or_false, Bool.or_true, Bool.or_self, tb_X8_run, p_X8_beginDay, p_X8_come, p_X8_ends, p_X8_isAsRun, p_X8_leave, p_X8_meet, p_X8_waitAll, f_X8_beginDay, f_X8_come, f_X8_ends, f_X8_isAsRun, f_X8_leave, f_X8_meet, f_X8_waitAll, p_X8_run, f_X8_run, sS_154 hT, hT, h, h01]
    repeat' (first | exact True.intro | with_reducible assumption | with_reducible refine And.intro ?_ ?_ | intro _)
    all_goals first
      | omega
      | assumption
      | rfl
      | (split <;> omega)
      | (have k9 := ih (by omega)
         (repeat' split at k9) <;> first | exact k9 | omega)
      | (have k9 := ih2 (by omega)
         (repeat' split at k9) <;> first | exact k9 | omega)
      | exact he (by omega)
      | (congr 1; omega)
      | (rw [if_pos (by omega)] at he; exact he)
      | exact hD1 (by omega)
      | exact hD2 (by omega)
      | skip
  · have hrun1 := hrun1 h
    clear hl
    refine hZ (fun u => Nat.beq u 10 || Nat.beq u 47) 14 0 _ _ _ _ _ ?_
    simp only [sm_run, sm_blk, sm_get, sm_ent, sm_ents, sm_wds, sm_wd, sm_nl, sm_pop, sm_back, sm_cases, oK, oLK, oL, oI, oA, oJ, oIs, oAs, oJs, oInc, oAdd, oSub, oMul, oDiv, oRem, oNeg, oAnd, oAndB, oOr, oShl, oI2c, oI2l, oL2i, oLand, oLor, oLshl, oLshr, oLushr, oLcmp, oDup, oDup2, oPop, oGo, oFg, oEq, oNe, oLt, oGe, oGt, oLe, oEq0, oNe0, oLt0, oGe0, oGt0, oLe0, oSw, oGi, oGr, oPi, oPz, oPr, oLen, oIl, oZl, oCl, oRl, oIst, oZst, oCst, oRst, oCopy, oNew, oNa, oNa2, oObj, oCs, oCv, oCi, oIr, oZr, oVr, Nat.beq, List.getElem?_cons_zero, List.getElem?_cons_succ, List.set_cons_zero, List.set_cons_succ, List.length_cons, List.length_nil, List.nil_append, List.cons_append, List.append_nil, List.replicate_succ, List.replicate_zero, Nat.reduceAdd, Nat.reduceSub, Nat.reduceLT, Nat.reduceLeDiff, Nat.reduceBEq, true_and, and_true, Nat.zero_add, Nat.add_zero, Nat.le_refl, Option.some.injEq, exists_eq_left', true_or, or_true, or_false, false_or, reduceCtorEq, Prod.mk.injEq, Sum.inl.injEq, and_self, false_and, and_false, not_true_eq_false, not_false_eq_true, false_implies, true_implies, sm_r, Int.add_zero, Int.zero_add, wI_wsI, wS_wsI, wR_wsI, wI_wCp, wS_wCp, wR_wCp, Nat.reduceEqDiff, reduceIte, sT_iff, sT_iffC, wIf_ne, ne_eq, Bool.false_or, Bool.true_or, Bool.or_false, Bool.or_true, Bool.or_self, tb_X8_run, p_X8_beginDay, p_X8_come, p_X8_ends, p_X8_isAsRun, p_X8_leave, p_X8_meet, p_X8_waitAll, f_X8_beginDay, f_X8_come, f_X8_ends, f_X8_isAsRun, f_X8_leave, f_X8_meet, f_X8_waitAll, p_X8_run, f_X8_run, sS_154 hT, hT, h, h01, hFe, hrun1]
    repeat' (first | exact True.intro | with_reducible assumption | with_reducible refine And.intro ?_ ?_ | intro _)
    all_goals first
      | omega
      | assumption
      | rfl
      | (split <;> omega)
      | (have k9 := ih (by omega)
         (repeat' split at k9) <;> first | exact k9 | omega)
      | (have k9 := ih2 (by omega)
         (repeat' split at k9) <;> first | exact k9 | omega)
      | exact he (by omega)
      | (congr 1; omega)
      | (rw [if_pos (by omega)] at he; exact he)
      | exact hD1 (by omega)
      | exact hD2 (by omega)
      | skip

theorem met_X8_run (l : Launch) : sm_Met l yX8_run cX8_run 3 none 6 0 0 p_X8_run f_X8_run := sm_met 0 (Or.inl ⟨rfl, rfl⟩) (by decide +kernel) (sn_X8_run l) ok_X8_run