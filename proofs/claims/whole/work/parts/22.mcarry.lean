/-! THE REFERENCE: the fault, orders carried out -/
def tSame (w u : sm_W) : Prop := (∀ a, a ≠ 154 → a ≠ 174 → a ≠ 175 → wI u a = wI w a) ∧ (∀ k, k ≠ 25 → k ≠ 26 → k ≠ 27 → wI u 154 k = wI w 154 k) ∧ (sT w → sT u)
theorem tSame.rf (w : sm_W) : tSame w w := ⟨fun _ _ _ _ => rfl, fun _ _ _ _ => rfl, id⟩
theorem tSame.tr {w u v : sm_W} (h : tSame w u) (h2 : tSame u v) : tSame w v := ⟨fun a x y z => by rw [h2.1 a x y z, h.1 a x y z], fun k x y z => by rw [h2.2.1 k x y z, h.2.1 k x y z], fun hT => h2.2.2 (h.2.2 hT)⟩
theorem tSame_154 (w : sm_W) {k v : Int} (hk : k = 25 ∨ k = 26 ∨ k = 27) : tSame w (wsI w 154 k v) := ⟨fun a x _ _ => wIf_ne x, fun j x y z => by rw [wI_wsI, if_neg (by omega)], id⟩
theorem tSame_174 (w : sm_W) (k v : Int) : tSame w (wsI w 174 k v) := ⟨fun a _ x _ => wIf_ne x, fun j x y z => by rw [wI_wsI, if_neg (by omega)], id⟩
theorem tSame_175 (w : sm_W) (k v : Int) : tSame w (wsI w 175 k v) := ⟨fun a _ _ x => wIf_ne x, fun j x y z => by rw [wI_wsI, if_neg (by omega)], id⟩
theorem tW_same (w : sm_W) (a b : Int) : tSame w (tW w a b) := (tSame_154 w (Or.inr (Or.inl rfl))).tr (tSame_154 _ (Or.inl rfl))
theorem tSign_same (w : sm_W) (s : Int) : tSame w (tSign w s) := by
  unfold tSign
  split
  · exact tW_same w _ _
  · exact tW_same w _ _
theorem tOne_same (w : sm_W) (n s : Int) : tSame w (tOne w n s) := by
  unfold tOne
  split
  · exact ((tSame_154 w (Or.inr (Or.inl rfl))).tr (tSame_175 _ _ _)).tr (tSame_154 _ (Or.inl rfl))
  · exact tSame_154 w (Or.inr (Or.inl rfl))
theorem tNumL_same (num : Int) : ∀ (n : Nat) (w : sm_W) (v : Int), tSame w (tNumL n w num v)
  | 0, w, v => tSame_175 w _ _
  | n + 1, w, v => by
    rw [tNumL_s]
    split
    · split
      · exact (tW_same w _ _).tr (tNumL_same num n _ _)
      · exact (tW_same w _ _).tr (tNumL_same num n _ _)
    · exact tSame_175 w _ _
theorem tNum_same (w : sm_W) (n : Int) : tSame w (tNum w n) := by
  unfold tNum
  split
  · exact (tW_same w _ _).tr (tNumL_same n 5 _ _)
  · exact tSame_154 w (Or.inr (Or.inl rfl))
theorem tSh_same (w : sm_W) : tSame w (tSh w) := by
  have h5 : tSame w (tSh5 w) := ((((tOne_same w 0 55).tr (tSign_same _ 62)).tr (tOne_same _ 1 55)).tr (tSign_same _ 64)).tr (tNum_same _ 2)
  have h7 : ∀ u, tSame u (tSh7 u) := fun u => (tSame_175 u _ _).tr (tSame_175 _ _ _)
  have hP : ∀ u, tSame u (tShP u) := fun u => by
    unfold tShP
    split
    · exact ((h7 u).tr (tSame_154 _ (Or.inl rfl))).tr (tNum_same _ 3)
    · exact h7 u
  have hC : ∀ u, tSame u (tShC u) := fun u => by
    unfold tShC
    split
    · exact (tSame_154 u (Or.inl rfl)).tr (tOne_same _ 4 57)
    · exact tSame.rf u
  exact (h5.tr (hP _)).tr (hC _)
theorem tBody_same (w : sm_W) (c : Int) : tSame w (tBody w c) := by
  unfold tBody
  split
  · exact tSh_same w
  · split
    · exact ((tOne_same w 0 55).tr (tSign_same _ 43)).tr (tNum_same _ 1)
    · split
      · exact ((tOne_same w 0 55).tr (tSign_same _ 61)).tr (tNum_same _ 1)
      · split
        · exact ((tOne_same w 0 54).tr (tSign_same _ 61)).tr (tNum_same _ 1)
        · split
          · exact ((tOne_same w 0 55).tr (tSign_same _ 61)).tr (tOne_same _ 1 57)
          · split
            · exact tOne_same w 0 55
            · exact (tSame_154 w (Or.inl rfl)).tr (tSame_154 _ (Or.inr (Or.inl rfl)))
theorem tOrd_same (w : sm_W) : tSame w (tOrd w) := by
  have h0 : tSame w (tOrd0 w) := (tSame_154 w (Or.inl rfl)).tr (tBody_same _ _)
  unfold tOrd tOrdE
  split
  · exact (h0.tr (tSame_174 _ _ _)).tr (tSame_154 _ (Or.inr (Or.inr rfl)))
  · exact h0
theorem tOrd_st {w : sm_W} (h : tOK w) (hs : wI w 154 25 ≤ 80) (hr : wI w 154 27 ≤ 27) : tOK (tOrd w) ∧ (wI (tOrd w) 154 26 = 0 → wI w 154 25 + 2 ≤ wI (tOrd w) 154 25 ∧ wI (tOrd w) 154 27 = wI w 154 27 + 1) ∧ (wI (tOrd w) 154 26 = 1 → wI (tOrd w) 154 27 = wI w 154 27) := by
  have h2 := h.2.2.1
  have h27 := h.2.2.2.2.1
  have hO1 := tOK_25 (v := wI w 154 25 + 1) h (by omega)
  have hb := tBody_st hO1 (tNext w) (by show 0 < wI w 154 25 + 1; omega)
  have e0 : tBody (wsI w 154 25 (wI w 154 25 + 1)) (tNext w) = tOrd0 w := rfl
  rw [e0] at hb
  have e1 : wI (wsI w 154 25 (wI w 154 25 + 1)) 154 25 = wI w 154 25 + 1 := rfl
  have e2 : wI (wsI w 154 25 (wI w 154 25 + 1)) 154 27 = wI w 154 27 := rfl
  rw [e1, e2] at hb
  unfold tOrd tOrdE
  split
  · next c =>
    refine ⟨tOK_27 (tOK_174 hb.1) (by omega), fun _ => ⟨by have := hb.2.2.2 c; show _ ≤ wI (tOrd0 w) 154 25; omega, by show wI (tOrd0 w) 154 27 + 1 = _; omega⟩, fun e => absurd (show wI (tOrd0 w) 154 26 = 1 from e) (by omega)⟩
  · next c =>
    refine ⟨hb.1, fun e => absurd e c, fun _ => hb.2.2.1⟩
def tFl : Nat → sm_W → sm_W
  | 0, w => w
  | n + 1, w => if wI w 154 26 = 0 ∧ wI w 154 25 < wI w 154 24 then (if wI (tSign w 59) 154 26 = 0 then tFl n (tOrd (tSign w 59)) else tFl n (tSign w 59)) else w
theorem tFl_s (n : Nat) (w : sm_W) : tFl (n + 1) w = if wI w 154 26 = 0 ∧ wI w 154 25 < wI w 154 24 then (if wI (tSign w 59) 154 26 = 0 then tFl n (tOrd (tSign w 59)) else tFl n (tSign w 59)) else w := rfl
def tF0 (w : sm_W) : sm_W := wsI (wsI (wsI w 154 25 0) 154 26 0) 154 27 0
def tFault (w : sm_W) : sm_W := tFl 90 (tOrd (tF0 w))
/-- the reading goes on in order -/
def tGo (w : sm_W) : Prop := tOK w ∧ (wI w 154 26 = 0 → 3 * wI w 154 27 - 1 ≤ wI w 154 25 ∧ wI w 154 27 ≤ 27)
theorem tGo_sign {w : sm_W} (h : tGo w) (c1 : wI w 154 26 = 0) (c2 : wI w 154 25 < wI w 154 24) : tOK (tSign w 59) ∧ (wI (tSign w 59) 154 26 = 0 → wI (tSign w 59) 154 25 = wI w 154 25 + 1 ∧ wI (tSign w 59) 154 25 ≤ 80 ∧ wI (tSign w 59) 154 27 = wI w 154 27 ∧ wI (tSign w 59) 154 27 ≤ 26) ∧ (wI (tSign w 59) 154 26 = 0 → tGo (tOrd (tSign w 59)) ∧ wI w 154 25 + 1 ≤ wI (tOrd (tSign w 59)) 154 25 ∨ wI (tOrd (tSign w 59)) 154 26 = 1) ∧ tGo (tSign w 59) := by
  have a := tSign_st (s := 59) h.1 (by decide)
  have h24 := h.1.2.1
  have hg := h.2 c1
  have hx : wI (tSign w 59) 154 26 = 0 → wI (tSign w 59) 154 25 = wI w 154 25 + 1 := by
    unfold tSign
    split
    · exact fun _ => rfl
    · exact fun e => absurd (show (1 : Int) = 0 from e) (by decide)
  refine ⟨a.1, fun e => ⟨hx e, by have := hx e; omega, a.2.2, by have := hx e; omega⟩, fun e => ?_, a.1, fun e => by have := hx e; omega⟩
  have h1 := hx e
  have b := tOrd_st a.1 (by omega) (by omega)
  rcases b.1.2.2.2.1 with e2 | e2
  · have b2 := b.2.1 e2
    have b3 := b.1.2.2.1
    exact Or.inl ⟨⟨b.1, fun _ => by omega⟩, by omega⟩
  · exact Or.inr e2
def p_X8_fault : List sm_V → sm_W → Prop
  | [.inr (.inl m)], w => m = 154 ∧ tOK (tF0 w)
  | _, _ => False
def f_X8_fault : sm_F
  | [.inr (.inl m)], w => (some (.inl (if wI (tFault w) 154 26 = 1 then wI (tFault w) 154 25 else -6)), tFault w)
  | _, w => (none, w)
def tb_X8_fault : List (Nat × List sm_O) := [(0, [oA 0, oK 0, oPi 8 30 25, oA 0, oK 0, oPz 8 30 26, oA 0, oK 0, oPi 8 30 27, oA 0, oCv 8 30 p_X8_takeOrder f_X8_takeOrder 0 0 1, oGo 19]),
  (19, [oA 0, oGi 8 30 26, oNe0 57, oA 0, oGi 8 30 25, oA 0, oGi 8 30 24, oGe 57, oA 0, oK 59, oCv 8 30 p_X8_takeSign f_X8_takeSign 0 0 2, oA 0, oGi 8 30 26, oNe0 19, oA 0, oCv 8 30 p_X8_takeOrder f_X8_takeOrder 0 0 1, oGo 19]),
  (57, [oA 0, oGi 8 30 26, oEq0 71, oA 0, oGi 8 30 25, oGo 73]),
  (71, [oK (-6), oGo 73]),
  (73, [oIr])]
set_option maxRecDepth 100000 in
theorem sb_X8_fault_0 (l : Launch) : sm_SndB l RX8 "fault" cX8_fault 1 1 4 0 [oA 0, oK 0, oPi 8 30 25, oA 0, oK 0, oPz 8 30 26, oA 0, oK 0, oPi 8 30 27, oA 0, oCv 8 30 p_X8_takeOrder f_X8_takeOrder 0 0 1, oGo 19] := sb_cons (sd_aload_n (by decide +kernel : decode cX8_fault 0 = .ok (.aload_n 0, 1)) rfl) (sb_cons (sd_iconst (by decide +kernel : decode cX8_fault 1 = .ok (.iconst 0, 1)) ⟨by decide, by decide⟩) (sb_cons (sd_puti (k := 25) kl_8 (by decide) rfl (Or.inl rfl) wm_698 (by decide +kernel : decode cX8_fault 2 = .ok (.putfield 270, 3))) (sb_cons (sd_aload_n (by decide +kernel : decode cX8_fault 5 = .ok (.aload_n 0, 1)) rfl) (sb_cons (sd_iconst (by decide +kernel : decode cX8_fault 6 = .ok (.iconst 0, 1)) ⟨by decide, by decide⟩) (sb_cons (sd_putz (k := 26) kl_8 (by decide) rfl (Or.inl rfl) wm_699 (by decide +kernel : decode cX8_fault 7 = .ok (.putfield 273, 3))) (sb_cons (sd_aload_n (by decide +kernel : decode cX8_fault 10 = .ok (.aload_n 0, 1)) rfl) (sb_cons (sd_iconst (by decide +kernel : decode cX8_fault 11 = .ok (.iconst 0, 1)) ⟨by decide, by decide⟩) (sb_cons (sd_puti (k := 27) kl_8 (by decide) rfl (Or.inl rfl) wm_700 (by decide +kernel : decode cX8_fault 12 = .ok (.putfield 279, 3))) (sb_cons (sd_aload_n (by decide +kernel : decode cX8_fault 15 = .ok (.aload_n 0, 1)) rfl) (sb_cons (sd_callv (n := 0) (met_X8_takeOrder l) (by decide) (by decide) wm_1028 wm_1026 wm_10 ⟨by decide +kernel, by decide +kernel, by decide +kernel⟩ kl_8 wm_1027 wm_1154 (by decide +kernel : decode cX8_fault 16 = .ok (.invokevirtual 295, 3))) (sb_cons (sd_fall (x := 0)) sb_nil)))))))))))
set_option maxRecDepth 100000 in
theorem sb_X8_fault_19 (l : Launch) : sm_SndB l RX8 "fault" cX8_fault 1 1 4 19 [oA 0, oGi 8 30 26, oNe0 57, oA 0, oGi 8 30 25, oA 0, oGi 8 30 24, oGe 57, oA 0, oK 59, oCv 8 30 p_X8_takeSign f_X8_takeSign 0 0 2, oA 0, oGi 8 30 26, oNe0 19, oA 0, oCv 8 30 p_X8_takeOrder f_X8_takeOrder 0 0 1, oGo 19] := sb_cons (sd_aload_n (by decide +kernel : decode cX8_fault 19 = .ok (.aload_n 0, 1)) rfl) (sb_cons (sd_geti (k := 26) kl_8 (by decide) rfl wm_699 (by decide +kernel : decode cX8_fault 20 = .ok (.getfield 273, 3))) (sb_cons (sd_ne0 (by decide +kernel : decode cX8_fault 23 = .ok (.ifCond .ne 34, 3)) (by decide)) (sb_cons (sd_aload_n (by decide +kernel : decode cX8_fault 26 = .ok (.aload_n 0, 1)) rfl) (sb_cons (sd_geti (k := 25) kl_8 (by decide) rfl wm_698 (by decide +kernel : decode cX8_fault 27 = .ok (.getfield 270, 3))) (sb_cons (sd_aload_n (by decide +kernel : decode cX8_fault 30 = .ok (.aload_n 0, 1)) rfl) (sb_cons (sd_geti (k := 24) kl_8 (by decide) rfl wm_697 (by decide +kernel : decode cX8_fault 31 = .ok (.getfield 220, 3))) (sb_cons (sd_ge (by decide +kernel : decode cX8_fault 34 = .ok (.if_icmp .ge 23, 3)) (by decide)) (sb_cons (sd_aload_n (by decide +kernel : decode cX8_fault 37 = .ok (.aload_n 0, 1)) rfl) (sb_cons (sd_bipush (by decide +kernel : decode cX8_fault 38 = .ok (.bipush 59, 2)) ⟨by decide, by decide⟩ (by decide)) (sb_cons (sd_callv (n := 1) (met_X8_takeSign l) (by decide) (by decide) wm_1044 wm_1042 wm_10 ⟨by decide +kernel, by decide +kernel, by decide +kernel⟩ kl_8 wm_1043 wm_1158 (by decide +kernel : decode cX8_fault 40 = .ok (.invokevirtual 286, 3))) (sb_cons (sd_aload_n (by decide +kernel : decode cX8_fault 43 = .ok (.aload_n 0, 1)) rfl) (sb_cons (sd_geti (k := 26) kl_8 (by decide) rfl wm_699 (by decide +kernel : decode cX8_fault 44 = .ok (.getfield 273, 3))) (sb_cons (sd_ne0 (by decide +kernel : decode cX8_fault 47 = .ok (.ifCond .ne (-28), 3)) (by decide)) (sb_cons (sd_aload_n (by decide +kernel : decode cX8_fault 50 = .ok (.aload_n 0, 1)) rfl) (sb_cons (sd_callv (n := 0) (met_X8_takeOrder l) (by decide) (by decide) wm_1028 wm_1026 wm_10 ⟨by decide +kernel, by decide +kernel, by decide +kernel⟩ kl_8 wm_1027 wm_1154 (by decide +kernel : decode cX8_fault 51 = .ok (.invokevirtual 295, 3))) (sb_cons (sd_goto (x := 0) (by decide +kernel : decode cX8_fault 54 = .ok (.goto (-35), 3)) (by decide)) sb_nil))))))))))))))))
set_option maxRecDepth 100000 in
theorem sb_X8_fault_57 (l : Launch) : sm_SndB l RX8 "fault" cX8_fault 1 1 4 57 [oA 0, oGi 8 30 26, oEq0 71, oA 0, oGi 8 30 25, oGo 73] := sb_cons (sd_aload_n (by decide +kernel : decode cX8_fault 57 = .ok (.aload_n 0, 1)) rfl) (sb_cons (sd_geti (k := 26) kl_8 (by decide) rfl wm_699 (by decide +kernel : decode cX8_fault 58 = .ok (.getfield 273, 3))) (sb_cons (sd_eq0 (by decide +kernel : decode cX8_fault 61 = .ok (.ifCond .eq 10, 3)) (by decide)) (sb_cons (sd_aload_n (by decide +kernel : decode cX8_fault 64 = .ok (.aload_n 0, 1)) rfl) (sb_cons (sd_geti (k := 25) kl_8 (by decide) rfl wm_698 (by decide +kernel : decode cX8_fault 65 = .ok (.getfield 270, 3))) (sb_cons (sd_goto (x := 0) (by decide +kernel : decode cX8_fault 68 = .ok (.goto 5, 3)) (by decide)) sb_nil)))))
set_option maxRecDepth 100000 in
theorem sb_X8_fault_71 (l : Launch) : sm_SndB l RX8 "fault" cX8_fault 1 1 4 71 [oK (-6), oGo 73] := sb_cons (sd_bipush (by decide +kernel : decode cX8_fault 71 = .ok (.bipush (-6), 2)) ⟨by decide, by decide⟩ (by decide)) (sb_cons (sd_fall (x := 0)) sb_nil)
set_option maxRecDepth 100000 in
theorem sb_X8_fault_73 (l : Launch) : sm_SndB l RX8 "fault" cX8_fault 1 1 4 73 [oIr] := sb_cons (sd_ireturn (x := 0) rfl (by decide +kernel : decode cX8_fault 73 = .ok (.ireturn, 1))) sb_nil
theorem sn_X8_fault (l : Launch) : sm_SndT l RX8 "fault" cX8_fault 1 1 4 tb_X8_fault := st_cons (sb_X8_fault_0 l) (st_cons (sb_X8_fault_19 l) (st_cons (sb_X8_fault_57 l) (st_cons (sb_X8_fault_71 l) (st_cons (sb_X8_fault_73 l) (st_nil)))))
set_option maxRecDepth 100000 in
set_option maxHeartbeats 4000000 in
theorem ok_X8_fault : sm_Ok tb_X8_fault 1 0 0 p_X8_fault f_X8_fault := by
  intro as w hp ha hw
  match as, hp with
  | [.inr (.inl m)], hp =>
  refine ⟨Nat.le_of_ble_eq_true rfl, fun Z hZ => ?_⟩
  obtain ⟨rfl, hO⟩ := hp
  have hT : sT w := hO.1
  have a0 := tOrd_st hO (show (0 : Int) ≤ 80 by decide) (show (0 : Int) ≤ 27 by decide)
  have hl := sm_loopM (S := Nat × sm_W) Z 19 (fun s => s.1) (fun s => tOK s.2 ∧ (wI s.2 154 26 = 0 → tGo s.2 ∧ 81 - wI s.2 154 25 < s.1) ∧ 1 ≤ s.1 ∧ tFl s.1 s.2 = tFault w) (fun s => [some (.inr (.inl 154))]) (fun s => s.2) 0 0 (fun s hI ih => by
    obtain ⟨n, u⟩ := s
    dsimp only at hI ih ⊢
    obtain ⟨hU, hg, hn1, he⟩ := hI
    have hT := hU.1
    have h24 := hU.2.1
    have h25 := hU.2.2.1
    cases n with
    | zero => omega
    | succ n =>
      rw [tFl_s] at he
      by_cases c : wI u 154 26 = 0 ∧ wI u 154 25 < wI u 154 24
      · rw [if_pos c] at he
        have hg := hg c.1
        obtain ⟨s1, s2, s3, s4⟩ := tGo_sign hg.1 c.1 c.2
        have y1 := sS_154 s1.1
        by_cases c2 : wI (tSign u 59) 154 26 = 0
        · rw [if_pos c2] at he
          have s2 := s2 c2
          have o1 := tOrd_st s1 (by omega) (by omega)
          have ih := ih (n, tOrd (tSign u 59)) ⟨o1.1, fun e => (by
            rcases s3 c2 with q | q
            · exact ⟨q.1, by dsimp only; omega⟩
            · dsimp only at e; omega), by dsimp only; omega, he⟩ (Nat.lt_succ_self n)
          clear s3
          refine hZ (fun u => Nat.beq u 19) 14 19 _ _ _ _ _ ?_
          simp only [sm_run, sm_blk, sm_get, sm_ent, sm_ents, sm_wds, sm_wd, sm_nl, sm_pop, sm_back, sm_cases, oK, oLK, oL, oI, oA, oJ, oIs, oAs, oJs, oInc, oAdd, oSub, oMul, oDiv, oRem, oNeg, oAnd, oAndB, oOr, oShl, oI2c, oI2l, oL2i, oLand, oLor, oLshl, oLshr, oLushr, oLcmp, oDup, oDup2, oPop, oGo, oFg, oEq, oNe, oLt, oGe, oGt, oLe, oEq0, oNe0, oLt0, oGe0, oGt0, oLe0, oSw, oGi, oGr, oPi, oPz, oPr, oLen, oIl, oZl, oCl, oRl, oIst, oZst, oCst, oRst, oCopy, oNew, oNa, oNa2, oObj, oCs, oCv, oCi, oIr, oZr, oVr, Nat.beq, List.getElem?_cons_zero, List.getElem?_cons_succ, List.set_cons_zero, List.set_cons_succ, List.length_cons, List.length_nil, List.nil_append, List.cons_append, List.append_nil, List.replicate_succ, List.replicate_zero, Nat.reduceAdd, Nat.reduceSub, Nat.reduceLT, Nat.reduceLeDiff, Nat.reduceBEq, true_and, and_true, Nat.zero_add, Nat.add_zero, Nat.le_refl, Option.some.injEq, exists_eq_left', true_or, or_true, or_false, false_or, reduceCtorEq, Prod.mk.injEq, Sum.inl.injEq, and_self, false_and, and_false, not_true_eq_false, not_false_eq_true, false_implies, true_implies, sm_r, Int.add_zero, Int.zero_add, wI_wsI, wS_wsI, wR_wsI, wI_wCp, wS_wCp, wR_wCp, Nat.reduceEqDiff, reduceIte, sT_iff, sT_iffC, wIf_ne, ne_eq, Bool.false_or, Bool.true_or, Bool.or_false, Bool.or_true, Bool.or_self, tb_X8_fault, p_X8_takeOrder, p_X8_takeSign, f_X8_takeOrder, f_X8_takeSign, p_X8_fault, f_X8_fault, sS_154 hT, y1, hU, s1]
          repeat' (first | exact True.intro | with_reducible assumption | with_reducible refine And.intro ?_ ?_ | intro _)
          all_goals first
            | omega
            | assumption
            | rfl
            | (split <;> omega)
            | (have k9 := ih (by omega)
               (repeat' split at k9) <;> first | exact k9 | omega)
            | (have k9 := ih2 (by omega)
               (repeat' split at k9) <;> first | exact k9 | omega)
            | exact he (by omega)
            | (congr 1; omega)
            | (rw [if_pos (by omega)] at he; exact he)
            | exact hD1 (by omega)
            | exact hD2 (by omega)
            | grind
            | skip
        · rw [if_neg c2] at he
          have ih := ih (n, tSign u 59) ⟨s1, fun e => absurd e c2, by dsimp only; omega, he⟩ (Nat.lt_succ_self n)
          clear s3
          refine hZ (fun u => Nat.beq u 19) 14 19 _ _ _ _ _ ?_
          simp only [sm_run, sm_blk, sm_get, sm_ent, sm_ents, sm_wds, sm_wd, sm_nl, sm_pop, sm_back, sm_cases, oK, oLK, oL, oI, oA, oJ, oIs, oAs, oJs, oInc, oAdd, oSub, oMul, oDiv, oRem, oNeg, oAnd, oAndB, oOr, oShl, oI2c, oI2l, oL2i, oLand, oLor, oLshl, oLshr, oLushr, oLcmp, oDup, oDup2, oPop, oGo, oFg, oEq, oNe, oLt, oGe, oGt, oLe, oEq0, oNe0, oLt0, oGe0, oGt0, oLe0, oSw, oGi, oGr, oPi, oPz, oPr, oLen, oIl, oZl, oCl, oRl, oIst, oZst, oCst, oRst, oCopy, oNew, oNa, oNa2, oObj, oCs, oCv, oCi, oIr, oZr, oVr, Nat.beq, List.getElem?_cons_zero, List.getElem?_cons_succ, List.set_cons_zero, List.set_cons_succ, List.length_cons, List.length_nil, List.nil_append, List.cons_append, List.append_nil, List.replicate_succ, List.replicate_zero, Nat.reduceAdd, Nat.reduceSub, Nat.reduceLT, Nat.reduceLeDiff, Nat.reduceBEq, true_and, and_true, Nat.zero_add, Nat.add_zero, Nat.le_refl, Option.some.injEq, exists_eq_left', true_or, or_true, or_false, false_or, reduceCtorEq, Prod.mk.injEq, Sum.inl.injEq, and_self, false_and, and_false, not_true_eq_false, not_false_eq_true, false_implies, true_implies, sm_r, Int.add_zero, Int.zero_add, wI_wsI, wS_wsI, wR_wsI, wI_wCp, wS_wCp, wR_wCp, Nat.reduceEqDiff, reduceIte, sT_iff, sT_iffC, wIf_ne, ne_eq, Bool.false_or, Bool.true_or, Bool.or_false, Bool.or_true, Bool.or_self, tb_X8_fault, p_X8_takeOrder, p_X8_takeSign, f_X8_takeOrder, f_X8_takeSign, p_X8_fault, f_X8_fault, sS_154 hT, y1, hU, s1]
          repeat' (first | exact True.intro | with_reducible assumption | with_reducible refine And.intro ?_ ?_ | intro _)
          all_goals first
            | omega
            | assumption
            | rfl
            | (split <;> omega)
            | (have k9 := ih (by omega)
               (repeat' split at k9) <;> first | exact k9 | omega)
            | (have k9 := ih2 (by omega)
               (repeat' split at k9) <;> first | exact k9 | omega)
            | exact he (by omega)
            | (congr 1; omega)
            | (rw [if_pos (by omega)] at he; exact he)
            | exact hD1 (by omega)
            | exact hD2 (by omega)
            | grind
            | skip
      · rw [if_neg c] at he
        clear ih
        have hw := hU.2.2.2.1
        refine hZ (fun u => Nat.beq u 19) 14 19 _ _ _ _ _ ?_
        simp only [sm_run, sm_blk, sm_get, sm_ent, sm_ents, sm_wds, sm_wd, sm_nl, sm_pop, sm_back, sm_cases, oK, oLK, oL, oI, oA, oJ, oIs, oAs, oJs, oInc, oAdd, oSub, oMul, oDiv, oRem, oNeg, oAnd, oAndB, oOr, oShl, oI2c, oI2l, oL2i, oLand, oLor, oLshl, oLshr, oLushr, oLcmp, oDup, oDup2, oPop, oGo, oFg, oEq, oNe, oLt, oGe, oGt, oLe, oEq0, oNe0, oLt0, oGe0, oGt0, oLe0, oSw, oGi, oGr, oPi, oPz, oPr, oLen, oIl, oZl, oCl, oRl, oIst, oZst, oCst, oRst, oCopy, oNew, oNa, oNa2, oObj, oCs, oCv, oCi, oIr, oZr, oVr, Nat.beq, List.getElem?_cons_zero, List.getElem?_cons_succ, List.set_cons_zero, List.set_cons_succ, List.length_cons, List.length_nil, List.nil_append, List.cons_append, List.append_nil, List.replicate_succ, List.replicate_zero, Nat.reduceAdd, Nat.reduceSub, Nat.reduceLT, Nat.reduceLeDiff, Nat.reduceBEq, true_and, and_true, Nat.zero_add, Nat.add_zero, Nat.le_refl, Option.some.injEq, exists_eq_left', true_or, or_true, or_false, false_or, reduceCtorEq, Prod.mk.injEq, Sum.inl.injEq, and_self, false_and, and_false, not_true_eq_false, not_false_eq_true, false_implies, true_implies, sm_r, Int.add_zero, Int.zero_add, wI_wsI, wS_wsI, wR_wsI, wI_wCp, wS_wCp, wR_wCp, Nat.reduceEqDiff, reduceIte, sT_iff, sT_iffC, wIf_ne, ne_eq, Bool.false_or, Bool.true_or, Bool.or_false, Bool.or_true, Bool.or_self, tb_X8_fault, p_X8_takeOrder, p_X8_takeSign, f_X8_takeOrder, f_X8_takeSign, p_X8_fault, f_X8_fault, sS_154 hT, hU, ← he]
        repeat' (first | exact True.intro | with_reducible assumption | with_reducible refine And.intro ?_ ?_ | intro _)
        all_goals first
          | omega
          | assumption
          | rfl
          | (split <;> omega)
          | (have k9 := ih (by omega)
             (repeat' split at k9) <;> first | exact k9 | omega)
          | (have k9 := ih2 (by omega)
             (repeat' split at k9) <;> first | exact k9 | omega)
          | exact he (by omega)
          | (congr 1; omega)
          | (rw [if_pos (by omega)] at he; exact he)
          | exact hD1 (by omega)
          | exact hD2 (by omega)
          | grind
          | skip
    )
  have z25 : wI (tF0 w) 154 25 = 0 := rfl
  have z27 : wI (tF0 w) 154 27 = 0 := rfl
  have h9 := hl (90, tOrd (tF0 w)) ⟨a0.1, fun e => (by
    have b := a0.2.1 e
    have b3 := a0.1.2.2.1
    exact ⟨⟨a0.1, fun _ => by dsimp only at *; omega⟩, by dsimp only at *; omega⟩), (show 1 ≤ 90 by decide), rfl⟩
  have e0 : wsI (wsI (wsI w 154 25 0) 154 26 0) 154 27 0 = tF0 w := rfl
  refine hZ (fun u => Nat.beq u 19) 14 0 _ _ _ _ _ ?_
  simp only [sm_run, sm_blk, sm_get, sm_ent, sm_ents, sm_wds, sm_wd, sm_nl, sm_pop, sm_back, sm_cases, oK, oLK, oL, oI, oA, oJ, oIs, oAs, oJs, oInc, oAdd, oSub, oMul, oDiv, oRem, oNeg, oAnd, oAndB, oOr, oShl, oI2c, oI2l, oL2i, oLand, oLor, oLshl, oLshr, oLushr, oLcmp, oDup, oDup2, oPop, oGo, oFg, oEq, oNe, oLt, oGe, oGt, oLe, oEq0, oNe0, oLt0, oGe0, oGt0, oLe0, oSw, oGi, oGr, oPi, oPz, oPr, oLen, oIl, oZl, oCl, oRl, oIst, oZst, oCst, oRst, oCopy, oNew, oNa, oNa2, oObj, oCs, oCv, oCi, oIr, oZr, oVr, Nat.beq, List.getElem?_cons_zero, List.getElem?_cons_succ, List.set_cons_zero, List.set_cons_succ, List.length_cons, List.length_nil, List.nil_append, List.cons_append, List.append_nil, List.replicate_succ, List.replicate_zero, Nat.reduceAdd, Nat.reduceSub, Nat.reduceLT, Nat.reduceLeDiff, Nat.reduceBEq, true_and, and_true, Nat.zero_add, Nat.add_zero, Nat.le_refl, Option.some.injEq, exists_eq_left', true_or, or_true, or_false, false_or, reduceCtorEq, Prod.mk.injEq, Sum.inl.injEq, and_self, false_and, and_false, not_true_eq_false, not_false_eq_true, false_implies, true_implies, sm_r, Int.add_zero, Int.zero_add, wI_wsI, wS_wsI, wR_wsI, wI_wCp, wS_wCp, wR_wCp, Nat.reduceEqDiff, reduceIte, sT_iff, sT_iffC, wIf_ne, ne_eq, Bool.false_or, Bool.true_or, Bool.or_false, Bool.or_true, Bool.or_self, tb_X8_fault, p_X8_takeOrder, p_X8_takeSign, f_X8_takeOrder, f_X8_takeSign, p_X8_fault, f_X8_fault, sS_154 hT, hT, sT_iff, hO, sS_154 hO.1, Int.reduceEq, e0, z25, z27]
  repeat' (first | exact True.intro | with_reducible assumption | with_reducible refine And.intro ?_ ?_ | intro _)
  all_goals first
    | omega
    | assumption
    | rfl
    | (split <;> omega)
    | (have k9 := ih (by omega)
       (repeat' split at k9) <;> first | exact k9 | omega)
    | (have k9 := ih2 (by omega)
       (repeat' split at k9) <;> first | exact k9 | omega)
    | exact he (by omega)
    | (congr 1; omega)
    | (rw [if_pos (by omega)] at he; exact he)
    | exact hD1 (by omega)
    | exact hD2 (by omega)
    | grind
    | skip
theorem met_X8_fault (l : Launch) : sm_Met l yX8_fault cX8_fault 1 (some .int) 4 0 0 p_X8_fault f_X8_fault := sm_met 1 (Or.inr (Or.inl ⟨rfl, rfl⟩)) (by decide +kernel) (sn_X8_fault l) ok_X8_fault
/-- an order is carried out: what it answers, and the line then -/
def cK (w : sm_W) (k j : Int) : Int := wI w 175 (5 * k + j)
def cAns (w : sm_W) (k : Int) : Int := if wI w 174 k = 115 then (if mShOk (wI w 175 (5 * k)) (wI w 175 (5 * k + 1)) (wI w 175 (5 * k + 2)) (wI w 175 (5 * k + 3)) (wI w 175 (5 * k + 4)) < 0 then mShOk (wI w 175 (5 * k)) (wI w 175 (5 * k + 1)) (wI w 175 (5 * k + 2)) (wI w 175 (5 * k + 3)) (wI w 175 (5 * k + 4)) else (if wI w 155 1 = 8 then -4 else wI w 155 1)) else (if wI w 174 k = 108 then (if mLateE w (wI w 175 (5 * k)) (wI w 175 (5 * k + 1)) < 0 then mLateE w (wI w 175 (5 * k)) (wI w 175 (5 * k + 1)) else wI w 155 (17 + 5 * wI w 175 (5 * k) + 2) + wI w 175 (5 * k + 1)) else (if wI w 174 k = 116 then (if 0 ≤ wI w 175 (5 * k) ∧ wI w 175 (5 * k) ≤ 7 then (if 1 ≤ wI w 175 (5 * k + 1) ∧ wI w 175 (5 * k + 1) ≤ 4 then wI w 155 (2 + wI w 175 (5 * k)) else -2) else -1) else (if wI w 174 k = 114 then (if 0 ≤ wI w 175 (5 * k) ∧ wI w 175 (5 * k) ≤ 6 then (if 1 ≤ wI w 175 (5 * k + 1) ∧ wI w 175 (5 * k + 1) ≤ 30 then wI w 155 (10 + wI w 175 (5 * k)) else -2) else -1) else (if wI w 174 k = 112 then (if 0 ≤ wI w 175 (5 * k) ∧ wI w 175 (5 * k) < wI w 155 1 then (if 0 ≤ wI w 175 (5 * k + 1) ∧ wI w 175 (5 * k + 1) ≤ 9 then wI w 155 (17 + 5 * wI w 175 (5 * k) + 4) else -2) else -1) else (if 0 ≤ wI w 175 (5 * k) ∧ wI w 175 (5 * k) < wI w 155 1 then wI w 155 1 - 1 else -1)))))
def cW (w : sm_W) (k : Int) : sm_W := if wI w 174 k = 115 then (if mShOk (wI w 175 (5 * k)) (wI w 175 (5 * k + 1)) (wI w 175 (5 * k + 2)) (wI w 175 (5 * k + 3)) (wI w 175 (5 * k + 4)) < 0 then w else (if wI w 155 1 = 8 then w else mNewSh (mKf w 0) (wI w 175 (5 * k)) (wI w 175 (5 * k + 1)) (wI w 175 (5 * k + 2)) (wI w 175 (5 * k + 3)) (wI w 175 (5 * k + 4)))) else (if wI w 174 k = 108 then (if mLateE w (wI w 175 (5 * k)) (wI w 175 (5 * k + 1)) < 0 then w else wsI (mKf w 0) 155 (17 + 5 * wI w 175 (5 * k) + 2) (wI w 155 (17 + 5 * wI w 175 (5 * k) + 2) + wI w 175 (5 * k + 1))) else (if wI w 174 k = 116 then (if 0 ≤ wI w 175 (5 * k) ∧ wI w 175 (5 * k) ≤ 7 then (if 1 ≤ wI w 175 (5 * k + 1) ∧ wI w 175 (5 * k + 1) ≤ 4 then wsI (mKf w 0) 155 (2 + wI w 175 (5 * k)) (wI w 175 (5 * k + 1)) else w) else w) else (if wI w 174 k = 114 then (if 0 ≤ wI w 175 (5 * k) ∧ wI w 175 (5 * k) ≤ 6 then (if 1 ≤ wI w 175 (5 * k + 1) ∧ wI w 175 (5 * k + 1) ≤ 30 then wsI (mKf w 0) 155 (10 + wI w 175 (5 * k)) (wI w 175 (5 * k + 1)) else w) else w) else (if wI w 174 k = 112 then (if 0 ≤ wI w 175 (5 * k) ∧ wI w 175 (5 * k) < wI w 155 1 then (if 0 ≤ wI w 175 (5 * k + 1) ∧ wI w 175 (5 * k + 1) ≤ 9 then wsI (mKf w 0) 155 (17 + 5 * wI w 175 (5 * k) + 4) (wI w 175 (5 * k + 1)) else w) else w) else (if 0 ≤ wI w 175 (5 * k) ∧ wI w 175 (5 * k) < wI w 155 1 then mRm w (wI w 175 (5 * k)) 0 else w)))))
def p_X8_carry : List sm_V → sm_W → Prop
  | [.inr (.inl m), .inl k], w => m = 154 ∧ mOK w ∧ mH w ∧ 0 ≤ k ∧ k < 29
  | _, _ => False
def f_X8_carry : sm_F
  | [.inr (.inl m), .inl k], w => (some (.inl (cAns w k)), cW w k)
  | _, w => (none, w)
def tb_X8_carry : List (Nat × List sm_O) := [(0, [oK 5, oI 1, oMul, oIs 2, oA 0, oGr 8 30 28, oI 1, oIl, oSw 108 [104, 184, 184, 184, 164, 184, 144, 60, 124] 184]),
  (60, [oA 0, oA 0, oGr 8 30 29, oI 2, oIl, oA 0, oGr 8 30 29, oI 2, oK 1, oAdd, oIl, oA 0, oGr 8 30 29, oI 2, oK 2, oAdd, oIl, oA 0, oGr 8 30 29, oI 2, oK 3, oAdd, oIl, oA 0, oGr 8 30 29, oI 2, oK 4, oAdd, oIl, oK 0, oCv 8 30 p_X8_tryShuttle f_X8_tryShuttle 0 0 7, oIr]),
  (104, [oA 0, oA 0, oGr 8 30 29, oI 2, oIl, oA 0, oGr 8 30 29, oI 2, oK 1, oAdd, oIl, oK 0, oCv 8 30 p_X8_tryLate f_X8_tryLate 0 0 4, oIr]),
  (124, [oA 0, oA 0, oGr 8 30 29, oI 2, oIl, oA 0, oGr 8 30 29, oI 2, oK 1, oAdd, oIl, oK 0, oCv 8 30 p_X8_tryTracks f_X8_tryTracks 0 0 4, oIr]),
  (144, [oA 0, oA 0, oGr 8 30 29, oI 2, oIl, oA 0, oGr 8 30 29, oI 2, oK 1, oAdd, oIl, oK 0, oCv 8 30 p_X8_tryRunning f_X8_tryRunning 0 0 4, oIr]),
  (164, [oA 0, oA 0, oGr 8 30 29, oI 2, oIl, oA 0, oGr 8 30 29, oI 2, oK 1, oAdd, oIl, oK 0, oCv 8 30 p_X8_tryPrefer f_X8_tryPrefer 0 0 4, oIr]),
  (184, [oA 0, oA 0, oGr 8 30 29, oI 2, oIl, oK 0, oCv 8 30 p_X8_tryRemove f_X8_tryRemove 0 0 3, oIr])]
set_option maxRecDepth 100000 in
theorem sb_X8_carry_0 (l : Launch) : sm_SndB l RX8 "carry" cX8_carry 3 1 4 0 [oK 5, oI 1, oMul, oIs 2, oA 0, oGr 8 30 28, oI 1, oIl, oSw 108 [104, 184, 184, 184, 164, 184, 144, 60, 124] 184] := sb_cons (sd_iconst (by decide +kernel : decode cX8_carry 0 = .ok (.iconst 5, 1)) ⟨by decide, by decide⟩) (sb_cons (sd_iload_n (by decide +kernel : decode cX8_carry 1 = .ok (.iload_n 1, 1)) rfl) (sb_cons (sd_imul (by decide +kernel : decode cX8_carry 2 = .ok (.imul, 1))) (sb_cons (sd_istore_n (by decide +kernel : decode cX8_carry 3 = .ok (.istore_n 2, 1)) rfl) (sb_cons (sd_aload_n (by decide +kernel : decode cX8_carry 4 = .ok (.aload_n 0, 1)) rfl) (sb_cons (sd_getr (k := 28) kl_8 (by decide) rfl wm_701 (by decide +kernel : decode cX8_carry 5 = .ok (.getfield 68, 3))) (sb_cons (sd_iload_n (by decide +kernel : decode cX8_carry 8 = .ok (.iload_n 1, 1)) rfl) (sb_cons (sd_iaload (by decide +kernel : decode cX8_carry 9 = .ok (.iaload, 1))) (sb_cons (sd_sw (x := 0) (by decide +kernel : decode cX8_carry 10 = .ok (.tableswitch 174 108 116 #[94, 174, 174, 174, 154, 174, 134, 50, 114], 50)) (by decide) (by decide) (by decide)) sb_nil))))))))
set_option maxRecDepth 100000 in
theorem sb_X8_carry_60 (l : Launch) : sm_SndB l RX8 "carry" cX8_carry 3 1 4 60 [oA 0, oA 0, oGr 8 30 29, oI 2, oIl, oA 0, oGr 8 30 29, oI 2, oK 1, oAdd, oIl, oA 0, oGr 8 30 29, oI 2, oK 2, oAdd, oIl, oA 0, oGr 8 30 29, oI 2, oK 3, oAdd, oIl, oA 0, oGr 8 30 29, oI 2, oK 4, oAdd, oIl, oK 0, oCv 8 30 p_X8_tryShuttle f_X8_tryShuttle 0 0 7, oIr] := sb_cons (sd_aload_n (by decide +kernel : decode cX8_carry 60 = .ok (.aload_n 0, 1)) rfl) (sb_cons (sd_aload_n (by decide +kernel : decode cX8_carry 61 = .ok (.aload_n 0, 1)) rfl) (sb_cons (sd_getr (k := 29) kl_8 (by decide) rfl wm_702 (by decide +kernel : decode cX8_carry 62 = .ok (.getfield 71, 3))) (sb_cons (sd_iload_n (by decide +kernel : decode cX8_carry 65 = .ok (.iload_n 2, 1)) rfl) (sb_cons (sd_iaload (by decide +kernel : decode cX8_carry 66 = .ok (.iaload, 1))) (sb_cons (sd_aload_n (by decide +kernel : decode cX8_carry 67 = .ok (.aload_n 0, 1)) rfl) (sb_cons (sd_getr (k := 29) kl_8 (by decide) rfl wm_702 (by decide +kernel : decode cX8_carry 68 = .ok (.getfield 71, 3))) (sb_cons (sd_iload_n (by decide +kernel : decode cX8_carry 71 = .ok (.iload_n 2, 1)) rfl) (sb_cons (sd_iconst (by decide +kernel : decode cX8_carry 72 = .ok (.iconst 1, 1)) ⟨by decide, by decide⟩) (sb_cons (sd_iadd (by decide +kernel : decode cX8_carry 73 = .ok (.iadd, 1))) (sb_cons (sd_iaload (by decide +kernel : decode cX8_carry 74 = .ok (.iaload, 1))) (sb_cons (sd_aload_n (by decide +kernel : decode cX8_carry 75 = .ok (.aload_n 0, 1)) rfl) (sb_cons (sd_getr (k := 29) kl_8 (by decide) rfl wm_702 (by decide +kernel : decode cX8_carry 76 = .ok (.getfield 71, 3))) (sb_cons (sd_iload_n (by decide +kernel : decode cX8_carry 79 = .ok (.iload_n 2, 1)) rfl) (sb_cons (sd_iconst (by decide +kernel : decode cX8_carry 80 = .ok (.iconst 2, 1)) ⟨by decide, by decide⟩) (sb_cons (sd_iadd (by decide +kernel : decode cX8_carry 81 = .ok (.iadd, 1))) (sb_cons (sd_iaload (by decide +kernel : decode cX8_carry 82 = .ok (.iaload, 1))) (sb_cons (sd_aload_n (by decide +kernel : decode cX8_carry 83 = .ok (.aload_n 0, 1)) rfl) (sb_cons (sd_getr (k := 29) kl_8 (by decide) rfl wm_702 (by decide +kernel : decode cX8_carry 84 = .ok (.getfield 71, 3))) (sb_cons (sd_iload_n (by decide +kernel : decode cX8_carry 87 = .ok (.iload_n 2, 1)) rfl) (sb_cons (sd_iconst (by decide +kernel : decode cX8_carry 88 = .ok (.iconst 3, 1)) ⟨by decide, by decide⟩) (sb_cons (sd_iadd (by decide +kernel : decode cX8_carry 89 = .ok (.iadd, 1))) (sb_cons (sd_iaload (by decide +kernel : decode cX8_carry 90 = .ok (.iaload, 1))) (sb_cons (sd_aload_n (by decide +kernel : decode cX8_carry 91 = .ok (.aload_n 0, 1)) rfl) (sb_cons (sd_getr (k := 29) kl_8 (by decide) rfl wm_702 (by decide +kernel : decode cX8_carry 92 = .ok (.getfield 71, 3))) (sb_cons (sd_iload_n (by decide +kernel : decode cX8_carry 95 = .ok (.iload_n 2, 1)) rfl) (sb_cons (sd_iconst (by decide +kernel : decode cX8_carry 96 = .ok (.iconst 4, 1)) ⟨by decide, by decide⟩) (sb_cons (sd_iadd (by decide +kernel : decode cX8_carry 97 = .ok (.iadd, 1))) (sb_cons (sd_iaload (by decide +kernel : decode cX8_carry 98 = .ok (.iaload, 1))) (sb_cons (sd_iconst (by decide +kernel : decode cX8_carry 99 = .ok (.iconst 0, 1)) ⟨by decide, by decide⟩) (sb_cons (sd_callv (n := 6) (met_X8_tryShuttle l) (by decide) (by decide) wm_757 wm_755 wm_10 ⟨by decide +kernel, by decide +kernel, by decide +kernel⟩ kl_8 wm_756 wm_1109 (by decide +kernel : decode cX8_carry 100 = .ok (.invokevirtual 194, 3))) (sb_cons (sd_ireturn (x := 0) rfl (by decide +kernel : decode cX8_carry 103 = .ok (.ireturn, 1))) sb_nil)))))))))))))))))))))))))))))))
set_option maxRecDepth 100000 in
theorem sb_X8_carry_104 (l : Launch) : sm_SndB l RX8 "carry" cX8_carry 3 1 4 104 [oA 0, oA 0, oGr 8 30 29, oI 2, oIl, oA 0, oGr 8 30 29, oI 2, oK 1, oAdd, oIl, oK 0, oCv 8 30 p_X8_tryLate f_X8_tryLate 0 0 4, oIr] := sb_cons (sd_aload_n (by decide +kernel : decode cX8_carry 104 = .ok (.aload_n 0, 1)) rfl) (sb_cons (sd_aload_n (by decide +kernel : decode cX8_carry 105 = .ok (.aload_n 0, 1)) rfl) (sb_cons (sd_getr (k := 29) kl_8 (by decide) rfl wm_702 (by decide +kernel : decode cX8_carry 106 = .ok (.getfield 71, 3))) (sb_cons (sd_iload_n (by decide +kernel : decode cX8_carry 109 = .ok (.iload_n 2, 1)) rfl) (sb_cons (sd_iaload (by decide +kernel : decode cX8_carry 110 = .ok (.iaload, 1))) (sb_cons (sd_aload_n (by decide +kernel : decode cX8_carry 111 = .ok (.aload_n 0, 1)) rfl) (sb_cons (sd_getr (k := 29) kl_8 (by decide) rfl wm_702 (by decide +kernel : decode cX8_carry 112 = .ok (.getfield 71, 3))) (sb_cons (sd_iload_n (by decide +kernel : decode cX8_carry 115 = .ok (.iload_n 2, 1)) rfl) (sb_cons (sd_iconst (by decide +kernel : decode cX8_carry 116 = .ok (.iconst 1, 1)) ⟨by decide, by decide⟩) (sb_cons (sd_iadd (by decide +kernel : decode cX8_carry 117 = .ok (.iadd, 1))) (sb_cons (sd_iaload (by decide +kernel : decode cX8_carry 118 = .ok (.iaload, 1))) (sb_cons (sd_iconst (by decide +kernel : decode cX8_carry 119 = .ok (.iconst 0, 1)) ⟨by decide, by decide⟩) (sb_cons (sd_callv (n := 3) (met_X8_tryLate l) (by decide) (by decide) wm_766 wm_764 wm_10 ⟨by decide +kernel, by decide +kernel, by decide +kernel⟩ kl_8 wm_765 wm_1110 (by decide +kernel : decode cX8_carry 120 = .ok (.invokevirtual 204, 3))) (sb_cons (sd_ireturn (x := 0) rfl (by decide +kernel : decode cX8_carry 123 = .ok (.ireturn, 1))) sb_nil)))))))))))))
set_option maxRecDepth 100000 in
theorem sb_X8_carry_124 (l : Launch) : sm_SndB l RX8 "carry" cX8_carry 3 1 4 124 [oA 0, oA 0, oGr 8 30 29, oI 2, oIl, oA 0, oGr 8 30 29, oI 2, oK 1, oAdd, oIl, oK 0, oCv 8 30 p_X8_tryTracks f_X8_tryTracks 0 0 4, oIr] := sb_cons (sd_aload_n (by decide +kernel : decode cX8_carry 124 = .ok (.aload_n 0, 1)) rfl) (sb_cons (sd_aload_n (by decide +kernel : decode cX8_carry 125 = .ok (.aload_n 0, 1)) rfl) (sb_cons (sd_getr (k := 29) kl_8 (by decide) rfl wm_702 (by decide +kernel : decode cX8_carry 126 = .ok (.getfield 71, 3))) (sb_cons (sd_iload_n (by decide +kernel : decode cX8_carry 129 = .ok (.iload_n 2, 1)) rfl) (sb_cons (sd_iaload (by decide +kernel : decode cX8_carry 130 = .ok (.iaload, 1))) (sb_cons (sd_aload_n (by decide +kernel : decode cX8_carry 131 = .ok (.aload_n 0, 1)) rfl) (sb_cons (sd_getr (k := 29) kl_8 (by decide) rfl wm_702 (by decide +kernel : decode cX8_carry 132 = .ok (.getfield 71, 3))) (sb_cons (sd_iload_n (by decide +kernel : decode cX8_carry 135 = .ok (.iload_n 2, 1)) rfl) (sb_cons (sd_iconst (by decide +kernel : decode cX8_carry 136 = .ok (.iconst 1, 1)) ⟨by decide, by decide⟩) (sb_cons (sd_iadd (by decide +kernel : decode cX8_carry 137 = .ok (.iadd, 1))) (sb_cons (sd_iaload (by decide +kernel : decode cX8_carry 138 = .ok (.iaload, 1))) (sb_cons (sd_iconst (by decide +kernel : decode cX8_carry 139 = .ok (.iconst 0, 1)) ⟨by decide, by decide⟩) (sb_cons (sd_callv (n := 3) (met_X8_tryTracks l) (by decide) (by decide) wm_723 wm_721 wm_10 ⟨by decide +kernel, by decide +kernel, by decide +kernel⟩ kl_8 wm_722 wm_1105 (by decide +kernel : decode cX8_carry 140 = .ok (.invokevirtual 185, 3))) (sb_cons (sd_ireturn (x := 0) rfl (by decide +kernel : decode cX8_carry 143 = .ok (.ireturn, 1))) sb_nil)))))))))))))
set_option maxRecDepth 100000 in
theorem sb_X8_carry_144 (l : Launch) : sm_SndB l RX8 "carry" cX8_carry 3 1 4 144 [oA 0, oA 0, oGr 8 30 29, oI 2, oIl, oA 0, oGr 8 30 29, oI 2, oK 1, oAdd, oIl, oK 0, oCv 8 30 p_X8_tryRunning f_X8_tryRunning 0 0 4, oIr] := sb_cons (sd_aload_n (by decide +kernel : decode cX8_carry 144 = .ok (.aload_n 0, 1)) rfl) (sb_cons (sd_aload_n (by decide +kernel : decode cX8_carry 145 = .ok (.aload_n 0, 1)) rfl) (sb_cons (sd_getr (k := 29) kl_8 (by decide) rfl wm_702 (by decide +kernel : decode cX8_carry 146 = .ok (.getfield 71, 3))) (sb_cons (sd_iload_n (by decide +kernel : decode cX8_carry 149 = .ok (.iload_n 2, 1)) rfl) (sb_cons (sd_iaload (by decide +kernel : decode cX8_carry 150 = .ok (.iaload, 1))) (sb_cons (sd_aload_n (by decide +kernel : decode cX8_carry 151 = .ok (.aload_n 0, 1)) rfl) (sb_cons (sd_getr (k := 29) kl_8 (by decide) rfl wm_702 (by decide +kernel : decode cX8_carry 152 = .ok (.getfield 71, 3))) (sb_cons (sd_iload_n (by decide +kernel : decode cX8_carry 155 = .ok (.iload_n 2, 1)) rfl) (sb_cons (sd_iconst (by decide +kernel : decode cX8_carry 156 = .ok (.iconst 1, 1)) ⟨by decide, by decide⟩) (sb_cons (sd_iadd (by decide +kernel : decode cX8_carry 157 = .ok (.iadd, 1))) (sb_cons (sd_iaload (by decide +kernel : decode cX8_carry 158 = .ok (.iaload, 1))) (sb_cons (sd_iconst (by decide +kernel : decode cX8_carry 159 = .ok (.iconst 0, 1)) ⟨by decide, by decide⟩) (sb_cons (sd_callv (n := 3) (met_X8_tryRunning l) (by decide) (by decide) wm_744 wm_742 wm_10 ⟨by decide +kernel, by decide +kernel, by decide +kernel⟩ kl_8 wm_743 wm_1108 (by decide +kernel : decode cX8_carry 160 = .ok (.invokevirtual 191, 3))) (sb_cons (sd_ireturn (x := 0) rfl (by decide +kernel : decode cX8_carry 163 = .ok (.ireturn, 1))) sb_nil)))))))))))))
set_option maxRecDepth 100000 in
theorem sb_X8_carry_164 (l : Launch) : sm_SndB l RX8 "carry" cX8_carry 3 1 4 164 [oA 0, oA 0, oGr 8 30 29, oI 2, oIl, oA 0, oGr 8 30 29, oI 2, oK 1, oAdd, oIl, oK 0, oCv 8 30 p_X8_tryPrefer f_X8_tryPrefer 0 0 4, oIr] := sb_cons (sd_aload_n (by decide +kernel : decode cX8_carry 164 = .ok (.aload_n 0, 1)) rfl) (sb_cons (sd_aload_n (by decide +kernel : decode cX8_carry 165 = .ok (.aload_n 0, 1)) rfl) (sb_cons (sd_getr (k := 29) kl_8 (by decide) rfl wm_702 (by decide +kernel : decode cX8_carry 166 = .ok (.getfield 71, 3))) (sb_cons (sd_iload_n (by decide +kernel : decode cX8_carry 169 = .ok (.iload_n 2, 1)) rfl) (sb_cons (sd_iaload (by decide +kernel : decode cX8_carry 170 = .ok (.iaload, 1))) (sb_cons (sd_aload_n (by decide +kernel : decode cX8_carry 171 = .ok (.aload_n 0, 1)) rfl) (sb_cons (sd_getr (k := 29) kl_8 (by decide) rfl wm_702 (by decide +kernel : decode cX8_carry 172 = .ok (.getfield 71, 3))) (sb_cons (sd_iload_n (by decide +kernel : decode cX8_carry 175 = .ok (.iload_n 2, 1)) rfl) (sb_cons (sd_iconst (by decide +kernel : decode cX8_carry 176 = .ok (.iconst 1, 1)) ⟨by decide, by decide⟩) (sb_cons (sd_iadd (by decide +kernel : decode cX8_carry 177 = .ok (.iadd, 1))) (sb_cons (sd_iaload (by decide +kernel : decode cX8_carry 178 = .ok (.iaload, 1))) (sb_cons (sd_iconst (by decide +kernel : decode cX8_carry 179 = .ok (.iconst 0, 1)) ⟨by decide, by decide⟩) (sb_cons (sd_callv (n := 3) (met_X8_tryPrefer l) (by decide) (by decide) wm_787 wm_785 wm_10 ⟨by decide +kernel, by decide +kernel, by decide +kernel⟩ kl_8 wm_786 wm_1114 (by decide +kernel : decode cX8_carry 180 = .ok (.invokevirtual 207, 3))) (sb_cons (sd_ireturn (x := 0) rfl (by decide +kernel : decode cX8_carry 183 = .ok (.ireturn, 1))) sb_nil)))))))))))))
set_option maxRecDepth 100000 in
theorem sb_X8_carry_184 (l : Launch) : sm_SndB l RX8 "carry" cX8_carry 3 1 4 184 [oA 0, oA 0, oGr 8 30 29, oI 2, oIl, oK 0, oCv 8 30 p_X8_tryRemove f_X8_tryRemove 0 0 3, oIr] := sb_cons (sd_aload_n (by decide +kernel : decode cX8_carry 184 = .ok (.aload_n 0, 1)) rfl) (sb_cons (sd_aload_n (by decide +kernel : decode cX8_carry 185 = .ok (.aload_n 0, 1)) rfl) (sb_cons (sd_getr (k := 29) kl_8 (by decide) rfl wm_702 (by decide +kernel : decode cX8_carry 186 = .ok (.getfield 71, 3))) (sb_cons (sd_iload_n (by decide +kernel : decode cX8_carry 189 = .ok (.iload_n 2, 1)) rfl) (sb_cons (sd_iaload (by decide +kernel : decode cX8_carry 190 = .ok (.iaload, 1))) (sb_cons (sd_iconst (by decide +kernel : decode cX8_carry 191 = .ok (.iconst 0, 1)) ⟨by decide, by decide⟩) (sb_cons (sd_callv (n := 2) (met_X8_tryRemove l) (by decide) (by decide) wm_796 wm_794 wm_10 ⟨by decide +kernel, by decide +kernel, by decide +kernel⟩ kl_8 wm_795 wm_1115 (by decide +kernel : decode cX8_carry 192 = .ok (.invokevirtual 210, 3))) (sb_cons (sd_ireturn (x := 0) rfl (by decide +kernel : decode cX8_carry 195 = .ok (.ireturn, 1))) sb_nil)))))))
theorem sn_X8_carry (l : Launch) : sm_SndT l RX8 "carry" cX8_carry 3 1 4 tb_X8_carry := st_cons (sb_X8_carry_0 l) (st_cons (sb_X8_carry_60 l) (st_cons (sb_X8_carry_104 l) (st_cons (sb_X8_carry_124 l) (st_cons (sb_X8_carry_144 l) (st_cons (sb_X8_carry_164 l) (st_cons (sb_X8_carry_184 l) (st_nil)))))))
set_option maxRecDepth 100000 in
set_option maxHeartbeats 4000000 in
theorem ok_X8_carry : sm_Ok tb_X8_carry 3 0 0 p_X8_carry f_X8_carry := by
  intro as w hp ha hw
  match as, hp with
  | [.inr (.inl m), .inl k], hp =>
  refine ⟨Nat.le_of_ble_eq_true rfl, fun Z hZ => ?_⟩
  obtain ⟨rfl, hO, hH, k0, k1⟩ := hp
  have hT := hO.1
  by_cases c1 : wI w 174 k = 115
  · skip
    refine hZ (fun _ => false) 16 0 _ _ _ _ _ ?_
    simp only [sm_run, sm_blk, sm_get, sm_ent, sm_ents, sm_wds, sm_wd, sm_nl, sm_pop, sm_back, sm_cases, oK, oLK, oL, oI, oA, oJ, oIs, oAs, oJs, oInc, oAdd, oSub, oMul, oDiv, oRem, oNeg, oAnd, oAndB, oOr, oShl, oI2c, oI2l, oL2i, oLand, oLor, oLshl, oLshr, oLushr, oLcmp, oDup, oDup2, oPop, oGo, oFg, oEq, oNe, oLt, oGe, oGt, oLe, oEq0, oNe0, oLt0, oGe0, oGt0, oLe0, oSw, oGi, oGr, oPi, oPz, oPr, oLen, oIl, oZl, oCl, oRl, oIst, oZst, oCst, oRst, oCopy, oNew, oNa, oNa2, oObj, oCs, oCv, oCi, oIr, oZr, oVr, Nat.beq, List.getElem?_cons_zero, List.getElem?_cons_succ, List.set_cons_zero, List.set_cons_succ, List.length_cons, List.length_nil, List.nil_append, List.cons_append, List.append_nil, List.replicate_succ, List.replicate_zero, Nat.reduceAdd, Nat.reduceSub, Nat.reduceLT, Nat.reduceLeDiff, Nat.reduceBEq, true_and, and_true, Nat.zero_add, Nat.add_zero, Nat.le_refl, Option.some.injEq, exists_eq_left', true_or, or_true, or_false, false_or, reduceCtorEq, Prod.mk.injEq, Sum.inl.injEq, and_self, false_and, and_false, not_true_eq_false, not_false_eq_true, false_implies, true_implies, sm_r, Int.add_zero, Int.zero_add, wI_wsI, wS_wsI, wR_wsI, wI_wCp, wS_wCp, wR_wCp, Nat.reduceEqDiff, reduceIte, sT_iff, sT_iffC, wIf_ne, ne_eq, Bool.false_or, Bool.true_or, Bool.or_false, Bool.or_true, Bool.or_self, tb_X8_carry, p_X8_tryLate, p_X8_tryPrefer, p_X8_tryRemove, p_X8_tryRunning, p_X8_tryShuttle, p_X8_tryTracks, f_X8_tryLate, f_X8_tryPrefer, f_X8_tryRemove, f_X8_tryRunning, f_X8_tryShuttle, f_X8_tryTracks, p_X8_carry, f_X8_carry, sS_154 hT, sR_154_28 hT, sS_174 hT, sR_154_29 hT, sS_175 hT, hT, hO, hH, Int.reduceAdd, cAns, cW, if_pos c1]
    repeat' (first | exact True.intro | with_reducible assumption | with_reducible refine And.intro ?_ ?_ | intro _)
    all_goals first
      | omega
      | assumption
      | rfl
      | (split <;> omega)
      | grind
      | skip
  · by_cases c2 : wI w 174 k = 108
    · skip
      refine hZ (fun _ => false) 16 0 _ _ _ _ _ ?_
      simp only [sm_run, sm_blk, sm_get, sm_ent, sm_ents, sm_wds, sm_wd, sm_nl, sm_pop, sm_back, sm_cases, oK, oLK, oL, oI, oA, oJ, oIs, oAs, oJs, oInc, oAdd, oSub, oMul, oDiv, oRem, oNeg, oAnd, oAndB, oOr, oShl, oI2c, oI2l, oL2i, oLand, oLor, oLshl, oLshr, oLushr, oLcmp, oDup, oDup2, oPop, oGo, oFg, oEq, oNe, oLt, oGe, oGt, oLe, oEq0, oNe0, oLt0, oGe0, oGt0, oLe0, oSw, oGi, oGr, oPi, oPz, oPr, oLen, oIl, oZl, oCl, oRl, oIst, oZst, oCst, oRst, oCopy, oNew, oNa, oNa2, oObj, oCs, oCv, oCi, oIr, oZr, oVr, Nat.beq, List.getElem?_cons_zero, List.getElem?_cons_succ, List.set_cons_zero, List.set_cons_succ, List.length_cons, List.length_nil, List.nil_append, List.cons_append, List.append_nil, List.replicate_succ, List.replicate_zero, Nat.reduceAdd, Nat.reduceSub, Nat.reduceLT, Nat.reduceLeDiff, Nat.reduceBEq, true_and, and_true, Nat.zero_add, Nat.add_zero, Nat.le_refl, Option.some.injEq, exists_eq_left', true_or, or_true, or_false, false_or, reduceCtorEq, Prod.mk.injEq, Sum.inl.injEq, and_self, false_and, and_false, not_true_eq_false, not_false_eq_true, false_implies, true_implies, sm_r, Int.add_zero, Int.zero_add, wI_wsI, wS_wsI, wR_wsI, wI_wCp, wS_wCp, wR_wCp, Nat.reduceEqDiff, reduceIte, sT_iff, sT_iffC, wIf_ne, ne_eq, Bool.false_or, Bool.true_or, Bool.or_false, Bool.or_true, Bool.or_self, tb_X8_carry, p_X8_tryLate, p_X8_tryPrefer, p_X8_tryRemove, p_X8_tryRunning, p_X8_tryShuttle, p_X8_tryTracks, f_X8_tryLate, f_X8_tryPrefer, f_X8_tryRemove, f_X8_tryRunning, f_X8_tryShuttle, f_X8_tryTracks, p_X8_carry, f_X8_carry, sS_154 hT, sR_154_28 hT, sS_174 hT, sR_154_29 hT, sS_175 hT, hT, hO, hH, Int.reduceAdd, cAns, cW, if_neg c1, if_pos c2]
      repeat' (first | exact True.intro | with_reducible assumption | with_reducible refine And.intro ?_ ?_ | intro _)
      all_goals first
        | omega
        | assumption
        | rfl
        | (split <;> omega)
        | grind
        | skip
    · by_cases c3 : wI w 174 k = 116
      · skip
        refine hZ (fun _ => false) 16 0 _ _ _ _ _ ?_
        simp only [sm_run, sm_blk, sm_get, sm_ent, sm_ents, sm_wds, sm_wd, sm_nl, sm_pop, sm_back, sm_cases, oK, oLK, oL, oI, oA, oJ, oIs, oAs, oJs, oInc, oAdd, oSub, oMul, oDiv, oRem, oNeg, oAnd, oAndB, oOr, oShl, oI2c, oI2l, oL2i, oLand, oLor, oLshl, oLshr, oLushr, oLcmp, oDup, oDup2, oPop, oGo, oFg, oEq, oNe, oLt, oGe, oGt, oLe, oEq0, oNe0, oLt0, oGe0, oGt0, oLe0, oSw, oGi, oGr, oPi, oPz, oPr, oLen, oIl, oZl, oCl, oRl, oIst, oZst, oCst, oRst, oCopy, oNew, oNa, oNa2, oObj, oCs, oCv, oCi, oIr, oZr, oVr, Nat.beq, List.getElem?_cons_zero, List.getElem?_cons_succ, List.set_cons_zero, List.set_cons_succ, List.length_cons, List.length_nil, List.nil_append, List.cons_append, List.append_nil, List.replicate_succ, List.replicate_zero, Nat.reduceAdd, Nat.reduceSub, Nat.reduceLT, Nat.reduceLeDiff, Nat.reduceBEq, true_and, and_true, Nat.zero_add, Nat.add_zero, Nat.le_refl, Option.some.injEq, exists_eq_left', true_or, or_true, or_false, false_or, reduceCtorEq, Prod.mk.injEq, Sum.inl.injEq, and_self, false_and, and_false, not_true_eq_false, not_false_eq_true, false_implies, true_implies, sm_r, Int.add_zero, Int.zero_add, wI_wsI, wS_wsI, wR_wsI, wI_wCp, wS_wCp, wR_wCp, Nat.reduceEqDiff, reduceIte, sT_iff, sT_iffC, wIf_ne, ne_eq, Bool.false_or, Bool.true_or, Bool.or_false, Bool.or_true, Bool.or_self, tb_X8_carry, p_X8_tryLate, p_X8_tryPrefer, p_X8_tryRemove, p_X8_tryRunning, p_X8_tryShuttle, p_X8_tryTracks, f_X8_tryLate, f_X8_tryPrefer, f_X8_tryRemove, f_X8_tryRunning, f_X8_tryShuttle, f_X8_tryTracks, p_X8_carry, f_X8_carry, sS_154 hT, sR_154_28 hT, sS_174 hT, sR_154_29 hT, sS_175 hT, hT, hO, hH, Int.reduceAdd, cAns, cW, if_neg c1, if_neg c2, if_pos c3]
        repeat' (first | exact True.intro | with_reducible assumption | with_reducible refine And.intro ?_ ?_ | intro _)
        all_goals first
          | omega
          | assumption
          | rfl
          | (split <;> omega)
          | grind
          | skip
      · by_cases c4 : wI w 174 k = 114
        · skip
          refine hZ (fun _ => false) 16 0 _ _ _ _ _ ?_
          simp only [sm_run, sm_blk, sm_get, sm_ent, sm_ents, sm_wds, sm_wd, sm_nl, sm_pop, sm_back, sm_cases, oK, oLK, oL, oI, oA, oJ, oIs, oAs, oJs, oInc, oAdd, oSub, oMul, oDiv, oRem, oNeg, oAnd, oAndB, oOr, oShl, oI2c, oI2l, oL2i, oLand, oLor, oLshl, oLshr, oLushr, oLcmp, oDup, oDup2, oPop, oGo, oFg, oEq, oNe, oLt, oGe, oGt, oLe, oEq0, oNe0, oLt0, oGe0, oGt0, oLe0, oSw, oGi, oGr, oPi, oPz, oPr, oLen, oIl, oZl, oCl, oRl, oIst, oZst, oCst, oRst, oCopy, oNew, oNa, oNa2, oObj, oCs, oCv, oCi, oIr, oZr, oVr, Nat.beq, List.getElem?_cons_zero, List.getElem?_cons_succ, List.set_cons_zero, List.set_cons_succ, List.length_cons, List.length_nil, List.nil_append, List.cons_append, List.append_nil, List.replicate_succ, List.replicate_zero, Nat.reduceAdd, Nat.reduceSub, Nat.reduceLT, Nat.reduceLeDiff, Nat.reduceBEq, true_and, and_true, Nat.zero_add, Nat.add_zero, Nat.le_refl, Option.some.injEq, exists_eq_left', true_or, or_true, or_false, false_or, reduceCtorEq, Prod.mk.injEq, Sum.inl.injEq, and_self, false_and, and_false, not_true_eq_false, not_false_eq_true, false_implies, true_implies, sm_r, Int.add_zero, Int.zero_add, wI_wsI, wS_wsI, wR_wsI, wI_wCp, wS_wCp, wR_wCp, Nat.reduceEqDiff, reduceIte, sT_iff, sT_iffC, wIf_ne, ne_eq, Bool.false_or, Bool.true_or, Bool.or_false, Bool.or_true, Bool.or_self, tb_X8_carry, p_X8_tryLate, p_X8_tryPrefer, p_X8_tryRemove, p_X8_tryRunning, p_X8_tryShuttle, p_X8_tryTracks, f_X8_tryLate, f_X8_tryPrefer, f_X8_tryRemove, f_X8_tryRunning, f_X8_tryShuttle, f_X8_tryTracks, p_X8_carry, f_X8_carry, sS_154 hT, sR_154_28 hT, sS_174 hT, sR_154_29 hT, sS_175 hT, hT, hO, hH, Int.reduceAdd, cAns, cW, if_neg c1, if_neg c2, if_neg c3, if_pos c4]
          repeat' (first | exact True.intro | with_reducible assumption | with_reducible refine And.intro ?_ ?_ | intro _)
          all_goals first
            | omega
            | assumption
            | rfl
            | (split <;> omega)
            | grind
            | skip
        · by_cases c5 : wI w 174 k = 112
          · skip
            refine hZ (fun _ => false) 16 0 _ _ _ _ _ ?_
            simp only [sm_run, sm_blk, sm_get, sm_ent, sm_ents, sm_wds, sm_wd, sm_nl, sm_pop, sm_back, sm_cases, oK, oLK, oL, oI, oA, oJ, oIs, oAs, oJs, oInc, oAdd, oSub, oMul, oDiv, oRem, oNeg, oAnd, oAndB, oOr, oShl, oI2c, oI2l, oL2i, oLand, oLor, oLshl, oLshr, oLushr, oLcmp, oDup, oDup2, oPop, oGo, oFg, oEq, oNe, oLt, oGe, oGt, oLe, oEq0, oNe0, oLt0, oGe0, oGt0, oLe0, oSw, oGi, oGr, oPi, oPz, oPr, oLen, oIl, oZl, oCl, oRl, oIst, oZst, oCst, oRst, oCopy, oNew, oNa, oNa2, oObj, oCs, oCv, oCi, oIr, oZr, oVr, Nat.beq, List.getElem?_cons_zero, List.getElem?_cons_succ, List.set_cons_zero, List.set_cons_succ, List.length_cons, List.length_nil, List.nil_append, List.cons_append, List.append_nil, List.replicate_succ, List.replicate_zero, Nat.reduceAdd, Nat.reduceSub, Nat.reduceLT, Nat.reduceLeDiff, Nat.reduceBEq, true_and, and_true, Nat.zero_add, Nat.add_zero, Nat.le_refl, Option.some.injEq, exists_eq_left', true_or, or_true, or_false, false_or, reduceCtorEq, Prod.mk.injEq, Sum.inl.injEq, and_self, false_and, and_false, not_true_eq_false, not_false_eq_true, false_implies, true_implies, sm_r, Int.add_zero, Int.zero_add, wI_wsI, wS_wsI, wR_wsI, wI_wCp, wS_wCp, wR_wCp, Nat.reduceEqDiff, reduceIte, sT_iff, sT_iffC, wIf_ne, ne_eq, Bool.false_or, Bool.true_or, Bool.or_false, Bool.or_true, Bool.or_self, tb_X8_carry, p_X8_tryLate, p_X8_tryPrefer, p_X8_tryRemove, p_X8_tryRunning, p_X8_tryShuttle, p_X8_tryTracks, f_X8_tryLate, f_X8_tryPrefer, f_X8_tryRemove, f_X8_tryRunning, f_X8_tryShuttle, f_X8_tryTracks, p_X8_carry, f_X8_carry, sS_154 hT, sR_154_28 hT, sS_174 hT, sR_154_29 hT, sS_175 hT, hT, hO, hH, Int.reduceAdd, cAns, cW, if_neg c1, if_neg c2, if_neg c3, if_neg c4, if_pos c5]
            repeat' (first | exact True.intro | with_reducible assumption | with_reducible refine And.intro ?_ ?_ | intro _)
            all_goals first
              | omega
              | assumption
              | rfl
              | (split <;> omega)
              | grind
              | skip
          · skip
            refine hZ (fun _ => false) 16 0 _ _ _ _ _ ?_
            simp only [sm_run, sm_blk, sm_get, sm_ent, sm_ents, sm_wds, sm_wd, sm_nl, sm_pop, sm_back, sm_cases, oK, oLK, oL, oI, oA, oJ, oIs, oAs, oJs, oInc, oAdd, oSub, oMul, oDiv, oRem, oNeg, oAnd, oAndB, oOr, oShl, oI2c, oI2l, oL2i, oLand, oLor, oLshl, oLshr, oLushr, oLcmp, oDup, oDup2, oPop, oGo, oFg, oEq, oNe, oLt, oGe, oGt, oLe, oEq0, oNe0, oLt0, oGe0, oGt0, oLe0, oSw, oGi, oGr, oPi, oPz, oPr, oLen, oIl, oZl, oCl, oRl, oIst, oZst, oCst, oRst, oCopy, oNew, oNa, oNa2, oObj, oCs, oCv, oCi, oIr, oZr, oVr, Nat.beq, List.getElem?_cons_zero, List.getElem?_cons_succ, List.set_cons_zero, List.set_cons_succ, List.length_cons, List.length_nil, List.nil_append, List.cons_append, List.append_nil, List.replicate_succ, List.replicate_zero, Nat.reduceAdd, Nat.reduceSub, Nat.reduceLT, Nat.reduceLeDiff, Nat.reduceBEq, true_and, and_true, Nat.zero_add, Nat.add_zero, Nat.le_refl, Option.some.injEq, exists_eq_left', true_or, or_true, or_false, false_or, reduceCtorEq, Prod.mk.injEq, Sum.inl.injEq, and_self, false_and, and_false, not_true_eq_false, not_false_eq_true, false_implies, true_implies, sm_r, Int.add_zero, Int.zero_add, wI_wsI, wS_wsI, wR_wsI, wI_wCp, wS_wCp, wR_wCp, Nat.reduceEqDiff, reduceIte, sT_iff, sT_iffC, wIf_ne, ne_eq, Bool.false_or, Bool.true_or, Bool.or_false, Bool.or_true, Bool.or_self, tb_X8_carry, p_X8_tryLate, p_X8_tryPrefer, p_X8_tryRemove, p_X8_tryRunning, p_X8_tryShuttle, p_X8_tryTracks, f_X8_tryLate, f_X8_tryPrefer, f_X8_tryRemove, f_X8_tryRunning, f_X8_tryShuttle, f_X8_tryTracks, p_X8_carry, f_X8_carry, sS_154 hT, sR_154_28 hT, sS_174 hT, sR_154_29 hT, sS_175 hT, hT, hO, hH, Int.reduceAdd, cAns, cW, if_neg c1, if_neg c2, if_neg c3, if_neg c4, if_neg c5]
            repeat' (first | exact True.intro | with_reducible assumption | with_reducible refine And.intro ?_ ?_ | intro _)
            all_goals first
              | omega
              | assumption
              | rfl
              | (split <;> omega)
              | grind
              | skip

theorem met_X8_carry (l : Launch) : sm_Met l yX8_carry cX8_carry 3 (some .int) 4 0 0 p_X8_carry f_X8_carry := sm_met 1 (Or.inr (Or.inl ⟨rfl, rfl⟩)) (by decide +kernel) (sn_X8_carry l) ok_X8_carry