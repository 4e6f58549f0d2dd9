/-! THE REFERENCE: a day begins; whether it is run already; small moves of the line -/
def mB1 (k : Int) (w : sm_W) : sm_W := wsI (wsI (wsI (wsI (wsI (wsI w 163 k (-6)) 164 k (-6)) 165 k (-6)) 166 k (-6)) 167 k (-6)) 168 k 0
def mB2 (k : Int) (w : sm_W) : sm_W := wsI w 169 k 0
def mB3 (x : Int) (w : sm_W) : sm_W := wsI (wsI (wsI w 160 x 0) 161 x (wI w 155 (17 + 5 * x))) 162 x 0
def mBegin1 (w : sm_W) : sm_W := itI mB1 w 64
def mBegin2 (w : sm_W) : sm_W := itI mB2 (mBegin1 w) 32
def mBegin3 (w : sm_W) : sm_W := itI mB3 (mBegin2 w) (wI w 155 1)
def mBegin (w : sm_W) : sm_W := wsI (mBegin3 w) 154 18 0
theorem mB1_keep (w : sm_W) (n : Int) (h : 0 ≤ n) : wI (itI mB1 w n) 155 = wI w 155 ∧ (sT w → sT (itI mB1 w n)) :=
  itI_ind (f := mB1) (fun _ r => wI r 155 = wI w 155 ∧ (sT w → sT r)) n ⟨rfl, id⟩ (fun i r _ _ hr => ⟨hr.1, hr.2⟩) n h (Int.le_refl _)
theorem mB2_keep (w : sm_W) (n : Int) (h : 0 ≤ n) : wI (itI mB2 w n) 155 = wI w 155 ∧ (sT w → sT (itI mB2 w n)) :=
  itI_ind (f := mB2) (fun _ r => wI r 155 = wI w 155 ∧ (sT w → sT r)) n ⟨rfl, id⟩ (fun i r _ _ hr => ⟨hr.1, hr.2⟩) n h (Int.le_refl _)
theorem mB3_keep (w : sm_W) (n : Int) (h : 0 ≤ n) : wI (itI mB3 w n) 155 = wI w 155 ∧ (sT w → sT (itI mB3 w n)) :=
  itI_ind (f := mB3) (fun _ r => wI r 155 = wI w 155 ∧ (sT w → sT r)) n ⟨rfl, id⟩ (fun i r _ _ hr => ⟨hr.1, hr.2⟩) n h (Int.le_refl _)
def p_X8_beginDay : List sm_V → sm_W → Prop
  | [.inr (.inl m)], w => m = 154 ∧ mOK w
  | _, _ => False
def f_X8_beginDay : sm_F
  | [.inr (.inl m)], w => (none, mBegin w)
  | _, w => (none, w)
def tb_X8_beginDay : List (Nat × List sm_O) := [(0, [oK 0, oIs 1, oGo 2]),
  (2, [oI 1, oK 64, oGe 61, oA 0, oGr 8 30 10, oI 1, oK (-6), oIst, oA 0, oGr 8 30 11, oI 1, oK (-6), oIst, oA 0, oGr 8 30 12, oI 1, oK (-6), oIst, oA 0, oGr 8 30 13, oI 1, oK (-6), oIst, oA 0, oGr 8 30 14, oI 1, oK (-6), oIst, oA 0, oGr 8 30 15, oI 1, oK 0, oIst, oInc 1 1, oGo 2]),
  (61, [oK 0, oIs 1, oGo 63]),
  (63, [oI 1, oK 32, oGe 82, oA 0, oGr 8 30 16, oI 1, oK 0, oIst, oInc 1 1, oGo 63]),
  (82, [oK 0, oIs 1, oGo 84]),
  (84, [oI 1, oA 0, oGr 8 30 0, oK 1, oIl, oGe 126, oA 0, oGr 8 30 7, oI 1, oK 0, oIst, oA 0, oGr 8 30 8, oI 1, oA 0, oI 1, oK 0, oCv 8 30 p_X8_of f_X8_of 0 0 3, oIst, oA 0, oGr 8 30 9, oI 1, oK 0, oIst, oInc 1 1, oGo 84]),
  (126, [oA 0, oK 0, oPi 8 30 18, oVr])]
set_option maxRecDepth 100000 in
theorem sb_X8_beginDay_0 (l : Launch) : sm_SndB l RX8 "beginDay" cX8_beginDay 2 0 1 0 [oK 0, oIs 1, oGo 2] := sb_cons (sd_iconst (by decide +kernel : decode cX8_beginDay 0 = .ok (.iconst 0, 1)) ⟨by decide, by decide⟩) (sb_cons (sd_istore_n (by decide +kernel : decode cX8_beginDay 1 = .ok (.istore_n 1, 1)) rfl) (sb_cons (sd_fall (x := 0)) sb_nil))
set_option maxRecDepth 100000 in
theorem sb_X8_beginDay_2 (l : Launch) : sm_SndB l RX8 "beginDay" cX8_beginDay 2 0 1 2 [oI 1, oK 64, oGe 61, oA 0, oGr 8 30 10, oI 1, oK (-6), oIst, oA 0, oGr 8 30 11, oI 1, oK (-6), oIst, oA 0, oGr 8 30 12, oI 1, oK (-6), oIst, oA 0, oGr 8 30 13, oI 1, oK (-6), oIst, oA 0, oGr 8 30 14, oI 1, oK (-6), oIst, oA 0, oGr 8 30 15, oI 1, oK 0, oIst, oInc 1 1, oGo 2] := sb_cons (sd_iload_n (by decide +kernel : decode cX8_beginDay 2 = .ok (.iload_n 1, 1)) rfl) (sb_cons (sd_bipush (by decide +kernel : decode cX8_beginDay 3 = .ok (.bipush 64, 2)) ⟨by decide, by decide⟩ (by decide)) (sb_cons (sd_ge (by decide +kernel : decode cX8_beginDay 5 = .ok (.if_icmp .ge 56, 3)) (by decide)) (sb_cons (sd_aload_n (by decide +kernel : decode cX8_beginDay 8 = .ok (.aload_n 0, 1)) rfl) (sb_cons (sd_getr (k := 10) kl_8 (by decide) rfl wm_683 (by decide +kernel : decode cX8_beginDay 9 = .ok (.getfield 35, 3))) (sb_cons (sd_iload_n (by decide +kernel : decode cX8_beginDay 12 = .ok (.iload_n 1, 1)) rfl) (sb_cons (sd_bipush (by decide +kernel : decode cX8_beginDay 13 = .ok (.bipush (-6), 2)) ⟨by decide, by decide⟩ (by decide)) (sb_cons (sd_iastore (by decide +kernel : decode cX8_beginDay 15 = .ok (.iastore, 1))) (sb_cons (sd_aload_n (by decide +kernel : decode cX8_beginDay 16 = .ok (.aload_n 0, 1)) rfl) (sb_cons (sd_getr (k := 11) kl_8 (by decide) rfl wm_684 (by decide +kernel : decode cX8_beginDay 17 = .ok (.getfield 38, 3))) (sb_cons (sd_iload_n (by decide +kernel : decode cX8_beginDay 20 = .ok (.iload_n 1, 1)) rfl) (sb_cons (sd_bipush (by decide +kernel : decode cX8_beginDay 21 = .ok (.bipush (-6), 2)) ⟨by decide, by decide⟩ (by decide)) (sb_cons (sd_iastore (by decide +kernel : decode cX8_beginDay 23 = .ok (.iastore, 1))) (sb_cons (sd_aload_n (by decide +kernel : decode cX8_beginDay 24 = .ok (.aload_n 0, 1)) rfl) (sb_cons (sd_getr (k := 12) kl_8 (by decide) rfl wm_685 (by decide +kernel : decode cX8_beginDay 25 = .ok (.getfield 41, 3))) (sb_cons (sd_iload_n (by decide +kernel : decode cX8_beginDay 28 = .ok (.iload_n 1, 1)) rfl) (sb_cons (sd_bipush (by decide +kernel : decode cX8_beginDay 29 = .ok (.bipush (-6), 2)) ⟨by decide, by decide⟩ (by decide)) (sb_cons (sd_iastore (by decide +kernel : decode cX8_beginDay 31 = .ok (.iastore, 1))) (sb_cons (sd_aload_n (by decide +kernel : decode cX8_beginDay 32 = .ok (.aload_n 0, 1)) rfl) (sb_cons (sd_getr (k := 13) kl_8 (by decide) rfl wm_686 (by decide +kernel : decode cX8_beginDay 33 = .ok (.getfield 44, 3))) (sb_cons (sd_iload_n (by decide +kernel : decode cX8_beginDay 36 = .ok (.iload_n 1, 1)) rfl) (sb_cons (sd_bipush (by decide +kernel : decode cX8_beginDay 37 = .ok (.bipush (-6), 2)) ⟨by decide, by decide⟩ (by decide)) (sb_cons (sd_iastore (by decide +kernel : decode cX8_beginDay 39 = .ok (.iastore, 1))) (sb_cons (sd_aload_n (by decide +kernel : decode cX8_beginDay 40 = .ok (.aload_n 0, 1)) rfl) (sb_cons (sd_getr (k := 14) kl_8 (by decide) rfl wm_687 (by decide +kernel : decode cX8_beginDay 41 = .ok (.getfield 47, 3))) (sb_cons (sd_iload_n (by decide +kernel : decode cX8_beginDay 44 = .ok (.iload_n 1, 1)) rfl) (sb_cons (sd_bipush (by decide +kernel : decode cX8_beginDay 45 = .ok (.bipush (-6), 2)) ⟨by decide, by decide⟩ (by decide)) (sb_cons (sd_iastore (by decide +kernel : decode cX8_beginDay 47 = .ok (.iastore, 1))) (sb_cons (sd_aload_n (by decide +kernel : decode cX8_beginDay 48 = .ok (.aload_n 0, 1)) rfl) (sb_cons (sd_getr (k := 15) kl_8 (by decide) rfl wm_688 (by decide +kernel : decode cX8_beginDay 49 = .ok (.getfield 50, 3))) (sb_cons (sd_iload_n (by decide +kernel : decode cX8_beginDay 52 = .ok (.iload_n 1, 1)) rfl) (sb_cons (sd_iconst (by decide +kernel : decode cX8_beginDay 53 = .ok (.iconst 0, 1)) ⟨by decide, by decide⟩) (sb_cons (sd_iastore (by decide +kernel : decode cX8_beginDay 54 = .ok (.iastore, 1))) (sb_cons (sd_iinc (by decide +kernel : decode cX8_beginDay 55 = .ok (.iinc 1 1, 3))) (sb_cons (sd_goto (x := 0) (by decide +kernel : decode cX8_beginDay 58 = .ok (.goto (-56), 3)) (by decide)) sb_nil))))))))))))))))))))))))))))))))))
set_option maxRecDepth 100000 in
theorem sb_X8_beginDay_61 (l : Launch) : sm_SndB l RX8 "beginDay" cX8_beginDay 2 0 1 61 [oK 0, oIs 1, oGo 63] := sb_cons (sd_iconst (by decide +kernel : decode cX8_beginDay 61 = .ok (.iconst 0, 1)) ⟨by decide, by decide⟩) (sb_cons (sd_istore_n (by decide +kernel : decode cX8_beginDay 62 = .ok (.istore_n 1, 1)) rfl) (sb_cons (sd_fall (x := 0)) sb_nil))
set_option maxRecDepth 100000 in
theorem sb_X8_beginDay_63 (l : Launch) : sm_SndB l RX8 "beginDay" cX8_beginDay 2 0 1 63 [oI 1, oK 32, oGe 82, oA 0, oGr 8 30 16, oI 1, oK 0, oIst, oInc 1 1, oGo 63] := sb_cons (sd_iload_n (by decide +kernel : decode cX8_beginDay 63 = .ok (.iload_n 1, 1)) rfl) (sb_cons (sd_bipush (by decide +kernel : decode cX8_beginDay 64 = .ok (.bipush 32, 2)) ⟨by decide, by decide⟩ (by decide)) (sb_cons (sd_ge (by decide +kernel : decode cX8_beginDay 66 = .ok (.if_icmp .ge 16, 3)) (by decide)) (sb_cons (sd_aload_n (by decide +kernel : decode cX8_beginDay 69 = .ok (.aload_n 0, 1)) rfl) (sb_cons (sd_getr (k := 16) kl_8 (by decide) rfl wm_689 (by decide +kernel : decode cX8_beginDay 70 = .ok (.getfield 53, 3))) (sb_cons (sd_iload_n (by decide +kernel : decode cX8_beginDay 73 = .ok (.iload_n 1, 1)) rfl) (sb_cons (sd_iconst (by decide +kernel : decode cX8_beginDay 74 = .ok (.iconst 0, 1)) ⟨by decide, by decide⟩) (sb_cons (sd_iastore (by decide +kernel : decode cX8_beginDay 75 = .ok (.iastore, 1))) (sb_cons (sd_iinc (by decide +kernel : decode cX8_beginDay 76 = .ok (.iinc 1 1, 3))) (sb_cons (sd_goto (x := 0) (by decide +kernel : decode cX8_beginDay 79 = .ok (.goto (-16), 3)) (by decide)) sb_nil)))))))))
set_option maxRecDepth 100000 in
theorem sb_X8_beginDay_82 (l : Launch) : sm_SndB l RX8 "beginDay" cX8_beginDay 2 0 1 82 [oK 0, oIs 1, oGo 84] := sb_cons (sd_iconst (by decide +kernel : decode cX8_beginDay 82 = .ok (.iconst 0, 1)) ⟨by decide, by decide⟩) (sb_cons (sd_istore_n (by decide +kernel : decode cX8_beginDay 83 = .ok (.istore_n 1, 1)) rfl) (sb_cons (sd_fall (x := 0)) sb_nil))
set_option maxRecDepth 100000 in
theorem sb_X8_beginDay_84 (l : Launch) : sm_SndB l RX8 "beginDay" cX8_beginDay 2 0 1 84 [oI 1, oA 0, oGr 8 30 0, oK 1, oIl, oGe 126, oA 0, oGr 8 30 7, oI 1, oK 0, oIst, oA 0, oGr 8 30 8, oI 1, oA 0, oI 1, oK 0, oCv 8 30 p_X8_of f_X8_of 0 0 3, oIst, oA 0, oGr 8 30 9, oI 1, oK 0, oIst, oInc 1 1, oGo 84] := sb_cons (sd_iload_n (by decide +kernel : decode cX8_beginDay 84 = .ok (.iload_n 1, 1)) rfl) (sb_cons (sd_aload_n (by decide +kernel : decode cX8_beginDay 85 = .ok (.aload_n 0, 1)) rfl) (sb_cons (sd_getr (k := 0) kl_8 (by decide) rfl wm_673 (by decide +kernel : decode cX8_beginDay 86 = .ok (.getfield 7, 3))) (sb_cons (sd_iconst (by decide +kernel : decode cX8_beginDay 89 = .ok (.iconst 1, 1)) ⟨by decide, by decide⟩) (sb_cons (sd_iaload (by decide +kernel : decode cX8_beginDay 90 = .ok (.iaload, 1))) (sb_cons (sd_ge (by decide +kernel : decode cX8_beginDay 91 = .ok (.if_icmp .ge 35, 3)) (by decide)) (sb_cons (sd_aload_n (by decide +kernel : decode cX8_beginDay 94 = .ok (.aload_n 0, 1)) rfl) (sb_cons (sd_getr (k := 7) kl_8 (by decide) rfl wm_680 (by decide +kernel : decode cX8_beginDay 95 = .ok (.getfield 26, 3))) (sb_cons (sd_iload_n (by decide +kernel : decode cX8_beginDay 98 = .ok (.iload_n 1, 1)) rfl) (sb_cons (sd_iconst (by decide +kernel : decode cX8_beginDay 99 = .ok (.iconst 0, 1)) ⟨by decide, by decide⟩) (sb_cons (sd_iastore (by decide +kernel : decode cX8_beginDay 100 = .ok (.iastore, 1))) (sb_cons (sd_aload_n (by decide +kernel : decode cX8_beginDay 101 = .ok (.aload_n 0, 1)) rfl) (sb_cons (sd_getr (k := 8) kl_8 (by decide) rfl wm_681 (by decide +kernel : decode cX8_beginDay 102 = .ok (.getfield 29, 3))) (sb_cons (sd_iload_n (by decide +kernel : decode cX8_beginDay 105 = .ok (.iload_n 1, 1)) rfl) (sb_cons (sd_aload_n (by decide +kernel : decode cX8_beginDay 106 = .ok (.aload_n 0, 1)) rfl) (sb_cons (sd_iload_n (by decide +kernel : decode cX8_beginDay 107 = .ok (.iload_n 1, 1)) rfl) (sb_cons (sd_iconst (by decide +kernel : decode cX8_beginDay 108 = .ok (.iconst 0, 1)) ⟨by decide, by decide⟩) (sb_cons (sd_callv (n := 2) (met_X8_of l) (by decide) (by decide) wm_778 wm_776 wm_10 ⟨by decide +kernel, by decide +kernel, by decide +kernel⟩ kl_8 wm_777 wm_1113 (by decide +kernel : decode cX8_beginDay 109 = .ok (.invokevirtual 78, 3))) (sb_cons (sd_iastore (by decide +kernel : decode cX8_beginDay 112 = .ok (.iastore, 1))) (sb_cons (sd_aload_n (by decide +kernel : decode cX8_beginDay 113 = .ok (.aload_n 0, 1)) rfl) (sb_cons (sd_getr (k := 9) kl_8 (by decide) rfl wm_682 (by decide +kernel : decode cX8_beginDay 114 = .ok (.getfield 32, 3))) (sb_cons (sd_iload_n (by decide +kernel : decode cX8_beginDay 117 = .ok (.iload_n 1, 1)) rfl) (sb_cons (sd_iconst (by decide +kernel : decode cX8_beginDay 118 = .ok (.iconst 0, 1)) ⟨by decide, by decide⟩) (sb_cons (sd_iastore (by decide +kernel : decode cX8_beginDay 119 = .ok (.iastore, 1))) (sb_cons (sd_iinc (by decide +kernel : decode cX8_beginDay 120 = .ok (.iinc 1 1, 3))) (sb_cons (sd_goto (x := 0) (by decide +kernel : decode cX8_beginDay 123 = .ok (.goto (-39), 3)) (by decide)) sb_nil)))))))))))))))))))))))))
set_option maxRecDepth 100000 in
theorem sb_X8_beginDay_126 (l : Launch) : sm_SndB l RX8 "beginDay" cX8_beginDay 2 0 1 126 [oA 0, oK 0, oPi 8 30 18, oVr] := sb_cons (sd_aload_n (by decide +kernel : decode cX8_beginDay 126 = .ok (.aload_n 0, 1)) rfl) (sb_cons (sd_iconst (by decide +kernel : decode cX8_beginDay 127 = .ok (.iconst 0, 1)) ⟨by decide, by decide⟩) (sb_cons (sd_puti (k := 18) kl_8 (by decide) rfl (Or.inl rfl) wm_691 (by decide +kernel : decode cX8_beginDay 128 = .ok (.putfield 92, 3))) (sb_cons (sd_return (x := 0) rfl (by decide +kernel : decode cX8_beginDay 131 = .ok (.return_, 1))) sb_nil)))
theorem sn_X8_beginDay (l : Launch) : sm_SndT l RX8 "beginDay" cX8_beginDay 2 0 1 tb_X8_beginDay := st_cons (sb_X8_beginDay_0 l) (st_cons (sb_X8_beginDay_2 l) (st_cons (sb_X8_beginDay_61 l) (st_cons (sb_X8_beginDay_63 l) (st_cons (sb_X8_beginDay_82 l) (st_cons (sb_X8_beginDay_84 l) (st_cons (sb_X8_beginDay_126 l) (st_nil)))))))
set_option maxRecDepth 100000 in
set_option maxHeartbeats 4000000 in
theorem ok_X8_beginDay : sm_Ok tb_X8_beginDay 2 0 0 p_X8_beginDay f_X8_beginDay := by
  intro as w hp ha hw
  match as, hp with
  | [.inr (.inl m)], hp =>
  refine ⟨Nat.le_of_ble_eq_true rfl, fun Z hZ => ?_⟩
  obtain ⟨rfl, hT, hv⟩ := hp
  have hm := vOK_many hv
  have k1 := mB1_keep w 64 (by decide)
  have k2 := mB2_keep (mBegin1 w) 32 (by decide)
  have e1 : wI (mBegin1 w) 155 = wI w 155 := k1.1
  have e2 : wI (mBegin2 w) 155 = wI w 155 := by rw [← e1]; exact k2.1
  have hT1 : sT (mBegin1 w) := k1.2 hT
  have hT2 : sT (mBegin2 w) := k2.2 hT1
  have l3 := sm_loopI Z 84 0 (wI w 155 1) (fun i => [some (.inr (.inl 154)), some (.inl i)]) (fun i => itI mB3 (mBegin2 w) i) 0 0 hm.1 (fun i h0 h1 ih => by
    have hk := mB3_keep (mBegin2 w) i h0
    rw [itI_s _ _ h0] at ih
    have he : i = wI w 155 1 → wsI (itI mB3 (mBegin2 w) i) 154 18 0 = mBegin w := fun e => by rw [e]; rfl
    have hu : wI (itI mB3 (mBegin2 w) i) 155 = wI w 155 := hk.1.trans e2
    have hT := hk.2 hT2
    generalize itI mB3 (mBegin2 w) i = u at *
    have hat1 : wI u 155 1 = wI w 155 1 := by rw [hu]
    unfold mB3 at ih
    refine hZ (fun u => Nat.beq u 2 || Nat.beq u 63 || Nat.beq u 84) 14 84 _ _ _ _ _ ?_
    simp only [sm_run, sm_blk, sm_get, sm_ent, sm_ents, sm_wds, sm_wd, sm_nl, sm_pop, sm_back, sm_cases, oK, oLK, oL, oI, oA, oJ, oIs, oAs, oJs, oInc, oAdd, oSub, oMul, oDiv, oRem, oNeg, oAnd, oOr, oShl, oI2c, oI2l, oL2i, oLand, oLor, oLshl, oLshr, oLushr, oLcmp, oDup, oDup2, oPop, oGo, oFg, oEq, oNe, oLt, oGe, oGt, oLe, oEq0, oNe0, oLt0, oGe0, oGt0, oLe0, oSw, oGi, oGr, oPi, oPz, oPr, oLen, oIl, oZl, oCl, oRl, oIst, oZst, oCst, oRst, oCopy, oNew, oNa, oNa2, oObj, oCs, oCv, oCi, oIr, oZr, oVr, Nat.beq, List.getElem?_cons_zero, List.getElem?_cons_succ, List.set_cons_zero, List.set_cons_succ, List.length_cons, List.length_nil, List.nil_append, List.cons_append, List.append_nil, List.replicate_succ, List.replicate_zero, Nat.reduceAdd, Nat.reduceSub, Nat.reduceLT, Nat.reduceLeDiff, Nat.reduceBEq, true_and, and_true, Nat.zero_add, Nat.add_zero, Nat.le_refl, Option.some.injEq, exists_eq_left', true_or, or_true, or_false, false_or, reduceCtorEq, Prod.mk.injEq, Sum.inl.injEq, and_self, false_and, and_false, not_true_eq_false, not_false_eq_true, false_implies, true_implies, sm_r, Int.add_zero, Int.zero_add, wI_wsI, wS_wsI, wR_wsI, wI_wCp, wS_wCp, wR_wCp, Nat.reduceEqDiff, reduceIte, sT_iff, sT_iffC, wIf_ne, ne_eq, Bool.false_or, Bool.true_or, Bool.or_false, Bool.or_true, Bool.or_self, tb_X8_beginDay, p_X8_of, f_X8_of, p_X8_beginDay, f_X8_beginDay, sS_154 hT, sR_154_0 hT, sS_155 hT, sR_154_7 hT, sS_160 hT, sR_154_8 hT, sS_161 hT, sR_154_9 hT, sS_162 hT, hT, sT_iff]
    repeat' (first | with_reducible assumption | with_reducible refine And.intro ?_ ?_ | intro _)
    all_goals first
      | omega
      | assumption
      | rfl
      | (split <;> omega)
      | (have k9 := ih (by omega)
         (repeat' split at k9) <;> first | exact k9 | omega)
      | (have k9 := ih2 (by omega)
         (repeat' split at k9) <;> first | exact k9 | omega)
      | exact he (by omega)
      | (congr 1; omega)
      | (rw [if_pos (by omega)] at he; exact he)
      | exact hD1 (by omega)
      | exact hD2 (by omega)
      | grind
      | skip
    )
  have l2 := sm_loopI Z 63 0 32 (fun i => [some (.inr (.inl 154)), some (.inl i)]) (fun i => itI mB2 (mBegin1 w) i) 0 0 (by decide) (fun i h0 h1 ih => by
    have hk := mB2_keep (mBegin1 w) i h0
    rw [itI_s _ _ h0] at ih
    have he : i = 32 → itI mB2 (mBegin1 w) i = mBegin2 w := fun e => by rw [e]; rfl
    have hT := hk.2 hT1
    have ih2 : i = 32 → Z 84 [some (.inr (.inl 154)), some (.inl 0)] [] (itI mB2 (mBegin1 w) i) 0 0 := fun e => by rw [he e]; exact l3
    generalize itI mB2 (mBegin1 w) i = u at *
    unfold mB2 at ih
    refine hZ (fun u => Nat.beq u 2 || Nat.beq u 63 || Nat.beq u 84) 14 63 _ _ _ _ _ ?_
    simp only [sm_run, sm_blk, sm_get, sm_ent, sm_ents, sm_wds, sm_wd, sm_nl, sm_pop, sm_back, sm_cases, oK, oLK, oL, oI, oA, oJ, oIs, oAs, oJs, oInc, oAdd, oSub, oMul, oDiv, oRem, oNeg, oAnd, oOr, oShl, oI2c, oI2l, oL2i, oLand, oLor, oLshl, oLshr, oLushr, oLcmp, oDup, oDup2, oPop, oGo, oFg, oEq, oNe, oLt, oGe, oGt, oLe, oEq0, oNe0, oLt0, oGe0, oGt0, oLe0, oSw, oGi, oGr, oPi, oPz, oPr, oLen, oIl, oZl, oCl, oRl, oIst, oZst, oCst, oRst, oCopy, oNew, oNa, oNa2, oObj, oCs, oCv, oCi, oIr, oZr, oVr, Nat.beq, List.getElem?_cons_zero, List.getElem?_cons_succ, List.set_cons_zero, List.set_cons_succ, List.length_cons, List.length_nil, List.nil_append, List.cons_append, List.append_nil, List.replicate_succ, List.replicate_zero, Nat.reduceAdd, Nat.reduceSub, Nat.reduceLT, Nat.reduceLeDiff, Nat.reduceBEq, true_and, and_true, Nat.zero_add, Nat.add_zero, Nat.le_refl, Option.some.injEq, exists_eq_left', true_or, or_true, or_false, false_or, reduceCtorEq, Prod.mk.injEq, Sum.inl.injEq, and_self, false_and, and_false, not_true_eq_false, not_false_eq_true, false_implies, true_implies, sm_r, Int.add_zero, Int.zero_add, wI_wsI, wS_wsI, wR_wsI, wI_wCp, wS_wCp, wR_wCp, Nat.reduceEqDiff, reduceIte, sT_iff, sT_iffC, wIf_ne, ne_eq, Bool.false_or, Bool.true_or, Bool.or_false, Bool.or_true, Bool.or_self, tb_X8_beginDay, p_X8_of, f_X8_of, p_X8_beginDay, f_X8_beginDay, sS_154 hT, sR_154_16 hT, sS_169 hT]
    repeat' (first | with_reducible assumption | with_reducible refine And.intro ?_ ?_ | intro _)
    all_goals first
      | omega
      | assumption
      | rfl
      | (split <;> omega)
      | (have k9 := ih (by omega)
         (repeat' split at k9) <;> first | exact k9 | omega)
      | (have k9 := ih2 (by omega)
         (repeat' split at k9) <;> first | exact k9 | omega)
      | exact he (by omega)
      | (congr 1; omega)
      | (rw [if_pos (by omega)] at he; exact he)
      | exact hD1 (by omega)
      | exact hD2 (by omega)
      | grind
      | skip
    )
  have l1 := sm_loopI Z 2 0 64 (fun i => [some (.inr (.inl 154)), some (.inl i)]) (fun i => itI mB1 w i) 0 0 (by decide) (fun i h0 h1 ih => by
    have hk := mB1_keep w i h0
    rw [itI_s _ _ h0] at ih
    have he : i = 64 → itI mB1 w i = mBegin1 w := fun e => by rw [e]; rfl
    have hT := hk.2 hT
    have ih2 : i = 64 → Z 63 [some (.inr (.inl 154)), some (.inl 0)] [] (itI mB1 w i) 0 0 := fun e => by rw [he e]; exact l2
    generalize itI mB1 w i = u at *
    unfold mB1 at ih
    refine hZ (fun u => Nat.beq u 2 || Nat.beq u 63 || Nat.beq u 84) 14 2 _ _ _ _ _ ?_
    simp only [sm_run, sm_blk, sm_get, sm_ent, sm_ents, sm_wds, sm_wd, sm_nl, sm_pop, sm_back, sm_cases, oK, oLK, oL, oI, oA, oJ, oIs, oAs, oJs, oInc, oAdd, oSub, oMul, oDiv, oRem, oNeg, oAnd, oOr, oShl, oI2c, oI2l, oL2i, oLand, oLor, oLshl, oLshr, oLushr, oLcmp, oDup, oDup2, oPop, oGo, oFg, oEq, oNe, oLt, oGe, oGt, oLe, oEq0, oNe0, oLt0, oGe0, oGt0, oLe0, oSw, oGi, oGr, oPi, oPz, oPr, oLen, oIl, oZl, oCl, oRl, oIst, oZst, oCst, oRst, oCopy, oNew, oNa, oNa2, oObj, oCs, oCv, oCi, oIr, oZr, oVr, Nat.beq, List.getElem?_cons_zero, List.getElem?_cons_succ, List.set_cons_zero, List.set_cons_succ, List.length_cons, List.length_nil, List.nil_append, List.cons_append, List.append_nil, List.replicate_succ, List.replicate_zero, Nat.reduceAdd, Nat.reduceSub, Nat.reduceLT, Nat.reduceLeDiff, Nat.reduceBEq, true_and, and_true, Nat.zero_add, Nat.add_zero, Nat.le_refl, Option.some.injEq, exists_eq_left', true_or, or_true, or_false, false_or, reduceCtorEq, Prod.mk.injEq, Sum.inl.injEq, and_self, false_and, and_false, not_true_eq_false, not_false_eq_true, false_implies, true_implies, sm_r, Int.add_zero, Int.zero_add, wI_wsI, wS_wsI, wR_wsI, wI_wCp, wS_wCp, wR_wCp, Nat.reduceEqDiff, reduceIte, sT_iff, sT_iffC, wIf_ne, ne_eq, Bool.false_or, Bool.true_or, Bool.or_false, Bool.or_true, Bool.or_self, tb_X8_beginDay, p_X8_of, f_X8_of, p_X8_beginDay, f_X8_beginDay, sS_154 hT, sR_154_10 hT, sS_163 hT, sR_154_11 hT, sS_164 hT, sR_154_12 hT, sS_165 hT, sR_154_13 hT, sS_166 hT, sR_154_14 hT, sS_167 hT, sR_154_15 hT, sS_168 hT]
    repeat' (first | with_reducible assumption | with_reducible refine And.intro ?_ ?_ | intro _)
    all_goals first
      | omega
      | assumption
      | rfl
      | (split <;> omega)
      | (have k9 := ih (by omega)
         (repeat' split at k9) <;> first | exact k9 | omega)
      | (have k9 := ih2 (by omega)
         (repeat' split at k9) <;> first | exact k9 | omega)
      | exact he (by omega)
      | (congr 1; omega)
      | (rw [if_pos (by omega)] at he; exact he)
      | exact hD1 (by omega)
      | exact hD2 (by omega)
      | grind
      | skip
    )
  refine hZ (fun u => Nat.beq u 2) 14 0 _ _ _ _ _ ?_
  simp only [sm_run, sm_blk, sm_get, sm_ent, sm_ents, sm_wds, sm_wd, sm_nl, sm_pop, sm_back, sm_cases, oK, oLK, oL, oI, oA, oJ, oIs, oAs, oJs, oInc, oAdd, oSub, oMul, oDiv, oRem, oNeg, oAnd, oOr, oShl, oI2c, oI2l, oL2i, oLand, oLor, oLshl, oLshr, oLushr, oLcmp, oDup, oDup2, oPop, oGo, oFg, oEq, oNe, oLt, oGe, oGt, oLe, oEq0, oNe0, oLt0, oGe0, oGt0, oLe0, oSw, oGi, oGr, oPi, oPz, oPr, oLen, oIl, oZl, oCl, oRl, oIst, oZst, oCst, oRst, oCopy, oNew, oNa, oNa2, oObj, oCs, oCv, oCi, oIr, oZr, oVr, Nat.beq, List.getElem?_cons_zero, List.getElem?_cons_succ, List.set_cons_zero, List.set_cons_succ, List.length_cons, List.length_nil, List.nil_append, List.cons_append, List.append_nil, List.replicate_succ, List.replicate_zero, Nat.reduceAdd, Nat.reduceSub, Nat.reduceLT, Nat.reduceLeDiff, Nat.reduceBEq, true_and, and_true, Nat.zero_add, Nat.add_zero, Nat.le_refl, Option.some.injEq, exists_eq_left', true_or, or_true, or_false, false_or, reduceCtorEq, Prod.mk.injEq, Sum.inl.injEq, and_self, false_and, and_false, not_true_eq_false, not_false_eq_true, false_implies, true_implies, sm_r, Int.add_zero, Int.zero_add, wI_wsI, wS_wsI, wR_wsI, wI_wCp, wS_wCp, wR_wCp, Nat.reduceEqDiff, reduceIte, sT_iff, sT_iffC, wIf_ne, ne_eq, Bool.false_or, Bool.true_or, Bool.or_false, Bool.or_true, Bool.or_self, tb_X8_beginDay, p_X8_of, f_X8_of, p_X8_beginDay, f_X8_beginDay]
  repeat' (first | with_reducible assumption | with_reducible refine And.intro ?_ ?_ | intro _)
  all_goals first
    | omega
    | assumption
    | rfl
    | (split <;> omega)
    | (have k9 := ih (by omega)
       (repeat' split at k9) <;> first | exact k9 | omega)
    | (have k9 := ih2 (by omega)
       (repeat' split at k9) <;> first | exact k9 | omega)
    | exact he (by omega)
    | (congr 1; omega)
    | (rw [if_pos (by omega)] at he; exact he)
    | exact hD1 (by omega)
    | exact hD2 (by omega)
    | skip
theorem met_X8_beginDay (l : Launch) : sm_Met l yX8_beginDay cX8_beginDay 2 none 1 0 0 p_X8_beginDay f_X8_beginDay := sm_met 0 (Or.inl ⟨rfl, rfl⟩) (by decide +kernel) (sn_X8_beginDay l) ok_X8_beginDay
def mAs (w : sm_W) : Int → Int := itI (fun k r => if r = 1 then (if wI w 170 k = wI w 155 k then 1 else 0) else r) (wI w 154 20)
theorem mAs_01 {w : sm_W} (h : wI w 154 20 = 0 ∨ wI w 154 20 = 1) (n : Int) (hn : 0 ≤ n) : mAs w n = 0 ∨ mAs w n = 1 := by
  refine itI_ind (fun _ r => r = 0 ∨ r = 1) n h (fun i r _ _ hr => ?_) n hn (Int.le_refl _)
  grind
theorem mAs_0 {w : sm_W} {i n : Int} (h0 : 0 ≤ i) (hn : i ≤ n) (h : mAs w i = 0) : mAs w n = 0 :=
  itI_abs (r0 := 0) (fun k _ => rfl) h0 hn h
def p_X8_isAsRun : List sm_V → sm_W → Prop
  | [.inr (.inl m)], w => m = 154 ∧ sT w ∧ (wI w 154 20 = 0 ∨ wI w 154 20 = 1)
  | _, _ => False
def f_X8_isAsRun : sm_F
  | [.inr (.inl m)], w => (some (.inl (mAs w 57)), w)
  | _, w => (none, w)
def tb_X8_isAsRun : List (Nat × List sm_O) := [(0, [oA 0, oGi 8 30 20, oIs 1, oK 0, oIs 2, oGo 7]),
  (7, [oI 2, oK 57, oGe 44, oI 1, oEq0 44, oA 0, oGr 8 30 19, oI 2, oIl, oA 0, oGr 8 30 0, oI 2, oIl, oNe 36, oK 1, oGo 37]),
  (36, [oK 0, oGo 37]),
  (37, [oIs 1, oInc 2 1, oGo 7]),
  (44, [oI 1, oZr])]
set_option maxRecDepth 100000 in
theorem sb_X8_isAsRun_0 (l : Launch) : sm_SndB l RX8 "isAsRun" cX8_isAsRun 3 2 0 0 [oA 0, oGi 8 30 20, oIs 1, oK 0, oIs 2, oGo 7] := sb_cons (sd_aload_n (by decide +kernel : decode cX8_isAsRun 0 = .ok (.aload_n 0, 1)) rfl) (sb_cons (sd_geti (k := 20) kl_8 (by decide) rfl wm_693 (by decide +kernel : decode cX8_isAsRun 1 = .ok (.getfield 130, 3))) (sb_cons (sd_istore_n (by decide +kernel : decode cX8_isAsRun 4 = .ok (.istore_n 1, 1)) rfl) (sb_cons (sd_iconst (by decide +kernel : decode cX8_isAsRun 5 = .ok (.iconst 0, 1)) ⟨by decide, by decide⟩) (sb_cons (sd_istore_n (by decide +kernel : decode cX8_isAsRun 6 = .ok (.istore_n 2, 1)) rfl) (sb_cons (sd_fall (x := 0)) sb_nil)))))
set_option maxRecDepth 100000 in
theorem sb_X8_isAsRun_7 (l : Launch) : sm_SndB l RX8 "isAsRun" cX8_isAsRun 3 2 0 7 [oI 2, oK 57, oGe 44, oI 1, oEq0 44, oA 0, oGr 8 30 19, oI 2, oIl, oA 0, oGr 8 30 0, oI 2, oIl, oNe 36, oK 1, oGo 37] := sb_cons (sd_iload_n (by decide +kernel : decode cX8_isAsRun 7 = .ok (.iload_n 2, 1)) rfl) (sb_cons (sd_bipush (by decide +kernel : decode cX8_isAsRun 8 = .ok (.bipush 57, 2)) ⟨by decide, by decide⟩ (by decide)) (sb_cons (sd_ge (by decide +kernel : decode cX8_isAsRun 10 = .ok (.if_icmp .ge 34, 3)) (by decide)) (sb_cons (sd_iload_n (by decide +kernel : decode cX8_isAsRun 13 = .ok (.iload_n 1, 1)) rfl) (sb_cons (sd_eq0 (by decide +kernel : decode cX8_isAsRun 14 = .ok (.ifCond .eq 30, 3)) (by decide)) (sb_cons (sd_aload_n (by decide +kernel : decode cX8_isAsRun 17 = .ok (.aload_n 0, 1)) rfl) (sb_cons (sd_getr (k := 19) kl_8 (by decide) rfl wm_692 (by decide +kernel : decode cX8_isAsRun 18 = .ok (.getfield 56, 3))) (sb_cons (sd_iload_n (by decide +kernel : decode cX8_isAsRun 21 = .ok (.iload_n 2, 1)) rfl) (sb_cons (sd_iaload (by decide +kernel : decode cX8_isAsRun 22 = .ok (.iaload, 1))) (sb_cons (sd_aload_n (by decide +kernel : decode cX8_isAsRun 23 = .ok (.aload_n 0, 1)) rfl) (sb_cons (sd_getr (k := 0) kl_8 (by decide) rfl wm_673 (by decide +kernel : decode cX8_isAsRun 24 = .ok (.getfield 7, 3))) (sb_cons (sd_iload_n (by decide +kernel : decode cX8_isAsRun 27 = .ok (.iload_n 2, 1)) rfl) (sb_cons (sd_iaload (by decide +kernel : decode cX8_isAsRun 28 = .ok (.iaload, 1))) (sb_cons (sd_ne (by decide +kernel : decode cX8_isAsRun 29 = .ok (.if_icmp .ne 7, 3)) (by decide)) (sb_cons (sd_iconst (by decide +kernel : decode cX8_isAsRun 32 = .ok (.iconst 1, 1)) ⟨by decide, by decide⟩) (sb_cons (sd_goto (x := 0) (by decide +kernel : decode cX8_isAsRun 33 = .ok (.goto 4, 3)) (by decide)) sb_nil)))))))))))))))
set_option maxRecDepth 100000 in
theorem sb_X8_isAsRun_36 (l : Launch) : sm_SndB l RX8 "isAsRun" cX8_isAsRun 3 2 0 36 [oK 0, oGo 37] := sb_cons (sd_iconst (by decide +kernel : decode cX8_isAsRun 36 = .ok (.iconst 0, 1)) ⟨by decide, by decide⟩) (sb_cons (sd_fall (x := 0)) sb_nil)
set_option maxRecDepth 100000 in
theorem sb_X8_isAsRun_37 (l : Launch) : sm_SndB l RX8 "isAsRun" cX8_isAsRun 3 2 0 37 [oIs 1, oInc 2 1, oGo 7] := sb_cons (sd_istore_n (by decide +kernel : decode cX8_isAsRun 37 = .ok (.istore_n 1, 1)) rfl) (sb_cons (sd_iinc (by decide +kernel : decode cX8_isAsRun 38 = .ok (.iinc 2 1, 3))) (sb_cons (sd_goto (x := 0) (by decide +kernel : decode cX8_isAsRun 41 = .ok (.goto (-34), 3)) (by decide)) sb_nil))
set_option maxRecDepth 100000 in
theorem sb_X8_isAsRun_44 (l : Launch) : sm_SndB l RX8 "isAsRun" cX8_isAsRun 3 2 0 44 [oI 1, oZr] := sb_cons (sd_iload_n (by decide +kernel : decode cX8_isAsRun 44 = .ok (.iload_n 1, 1)) rfl) (sb_cons (sd_zreturn (x := 0) rfl (by decide +kernel : decode cX8_isAsRun 45 = .ok (.ireturn, 1))) sb_nil)
theorem sn_X8_isAsRun (l : Launch) : sm_SndT l RX8 "isAsRun" cX8_isAsRun 3 2 0 tb_X8_isAsRun := st_cons (sb_X8_isAsRun_0 l) (st_cons (sb_X8_isAsRun_7 l) (st_cons (sb_X8_isAsRun_36 l) (st_cons (sb_X8_isAsRun_37 l) (st_cons (sb_X8_isAsRun_44 l) (st_nil)))))
set_option maxRecDepth 100000 in
set_option maxHeartbeats 4000000 in
theorem ok_X8_isAsRun : sm_Ok tb_X8_isAsRun 3 0 0 p_X8_isAsRun f_X8_isAsRun := by
  intro as w hp ha hw
  match as, hp with
  | [.inr (.inl m)], hp =>
  refine ⟨Nat.le_of_ble_eq_true rfl, fun Z hZ => ?_⟩
  obtain ⟨rfl, hT, hh⟩ := hp
  have hl := sm_loopI Z 7 0 57 (fun i => [some (.inr (.inl 154)), some (.inl (mAs w i)), some (.inl i)]) (fun _ => w) 0 0 (by decide) (fun i h0 h1 ih => by
    have hb := mAs_01 hh i h0
    have hb2 := mAs_01 hh 57 (by decide)
    have he0 := fun h => mAs_0 (w := w) (n := 57) h0 h1 h
    have hx1 : i = 57 → mAs w i = mAs w 57 := fun e => by rw [e]
    have hu : mAs w (i + 1) = if mAs w i = 1 then (if wI w 170 i = wI w 155 i then 1 else 0) else mAs w i := itI_s _ _ h0
    rw [hu] at ih
    refine hZ (fun u => Nat.beq u 7) 14 7 _ _ _ _ _ ?_
    simp only [sm_run, sm_blk, sm_get, sm_ent, sm_ents, sm_wds, sm_wd, sm_nl, sm_pop, sm_back, sm_cases, oK, oLK, oL, oI, oA, oJ, oIs, oAs, oJs, oInc, oAdd, oSub, oMul, oDiv, oRem, oNeg, oAnd, oOr, oShl, oI2c, oI2l, oL2i, oLand, oLor, oLshl, oLshr, oLushr, oLcmp, oDup, oDup2, oPop, oGo, oFg, oEq, oNe, oLt, oGe, oGt, oLe, oEq0, oNe0, oLt0, oGe0, oGt0, oLe0, oSw, oGi, oGr, oPi, oPz, oPr, oLen, oIl, oZl, oCl, oRl, oIst, oZst, oCst, oRst, oCopy, oNew, oNa, oNa2, oObj, oCs, oCv, oCi, oIr, oZr, oVr, Nat.beq, List.getElem?_cons_zero, List.getElem?_cons_succ, List.set_cons_zero, List.set_cons_succ, List.length_cons, List.length_nil, List.nil_append, List.cons_append, List.append_nil, List.replicate_succ, List.replicate_zero, Nat.reduceAdd, Nat.reduceSub, Nat.reduceLT, Nat.reduceLeDiff, Nat.reduceBEq, true_and, and_true, Nat.zero_add, Nat.add_zero, Nat.le_refl, Option.some.injEq, exists_eq_left', true_or, or_true, or_false, false_or, reduceCtorEq, Prod.mk.injEq, Sum.inl.injEq, and_self, false_and, and_false, not_true_eq_false, not_false_eq_true, false_implies, true_implies, sm_r, Int.add_zero, Int.zero_add, wI_wsI, wS_wsI, wR_wsI, wI_wCp, wS_wCp, wR_wCp, Nat.reduceEqDiff, reduceIte, sT_iff, sT_iffC, wIf_ne, ne_eq, Bool.false_or, Bool.true_or, Bool.or_false, Bool.or_true, Bool.or_self, tb_X8_isAsRun, p_X8_isAsRun, f_X8_isAsRun, sS_154 hT, sR_154_0 hT, sS_155 hT, sR_154_19 hT, sS_170 hT]
    repeat' (first | with_reducible assumption | with_reducible refine And.intro ?_ ?_ | intro _)
    all_goals first
      | omega
      | assumption
      | rfl
      | (split <;> omega)
      | (have k9 := ih (by omega)
         (repeat' split at k9) <;> first | exact k9 | omega)
      | (have k9 := ih2 (by omega)
         (repeat' split at k9) <;> first | exact k9 | omega)
      | exact he (by omega)
      | (congr 1; omega)
      | (rw [if_pos (by omega)] at he; exact he)
      | exact hD1 (by omega)
      | exact hD2 (by omega)
      | grind
      | skip
    )
  refine hZ (fun u => Nat.beq u 7) 14 0 _ _ _ _ _ ?_
  simp only [sm_run, sm_blk, sm_get, sm_ent, sm_ents, sm_wds, sm_wd, sm_nl, sm_pop, sm_back, sm_cases, oK, oLK, oL, oI, oA, oJ, oIs, oAs, oJs, oInc, oAdd, oSub, oMul, oDiv, oRem, oNeg, oAnd, oOr, oShl, oI2c, oI2l, oL2i, oLand, oLor, oLshl, oLshr, oLushr, oLcmp, oDup, oDup2, oPop, oGo, oFg, oEq, oNe, oLt, oGe, oGt, oLe, oEq0, oNe0, oLt0, oGe0, oGt0, oLe0, oSw, oGi, oGr, oPi, oPz, oPr, oLen, oIl, oZl, oCl, oRl, oIst, oZst, oCst, oRst, oCopy, oNew, oNa, oNa2, oObj, oCs, oCv, oCi, oIr, oZr, oVr, Nat.beq, List.getElem?_cons_zero, List.getElem?_cons_succ, List.set_cons_zero, List.set_cons_succ, List.length_cons, List.length_nil, List.nil_append, List.cons_append, List.append_nil, List.replicate_succ, List.replicate_zero, Nat.reduceAdd, Nat.reduceSub, Nat.reduceLT, Nat.reduceLeDiff, Nat.reduceBEq, true_and, and_true, Nat.zero_add, Nat.add_zero, Nat.le_refl, Option.some.injEq, exists_eq_left', true_or, or_true, or_false, false_or, reduceCtorEq, Prod.mk.injEq, Sum.inl.injEq, and_self, false_and, and_false, not_true_eq_false, not_false_eq_true, false_implies, true_implies, sm_r, Int.add_zero, Int.zero_add, wI_wsI, wS_wsI, wR_wsI, wI_wCp, wS_wCp, wR_wCp, Nat.reduceEqDiff, reduceIte, sT_iff, sT_iffC, wIf_ne, ne_eq, Bool.false_or, Bool.true_or, Bool.or_false, Bool.or_true, Bool.or_self, tb_X8_isAsRun, p_X8_isAsRun, f_X8_isAsRun, sS_154 hT]
  repeat' (first | with_reducible assumption | with_reducible refine And.intro ?_ ?_ | intro _)
  all_goals first
    | omega
    | assumption
    | rfl
    | (split <;> omega)
    | (have k9 := ih (by omega)
       (repeat' split at k9) <;> first | exact k9 | omega)
    | (have k9 := ih2 (by omega)
       (repeat' split at k9) <;> first | exact k9 | omega)
    | exact he (by omega)
    | (congr 1; omega)
    | (rw [if_pos (by omega)] at he; exact he)
    | exact hD1 (by omega)
    | exact hD2 (by omega)
    | skip

theorem met_X8_isAsRun (l : Launch) : sm_Met l yX8_isAsRun cX8_isAsRun 3 (some .boolean) 0 0 0 p_X8_isAsRun f_X8_isAsRun := sm_met 2 (Or.inr (Or.inr ⟨rfl, rfl⟩)) (by decide +kernel) (sn_X8_isAsRun l) ok_X8_isAsRun