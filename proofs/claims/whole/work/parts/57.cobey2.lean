/-! THE CLASS: orders are carried out, one after the other -/
theorem lNewSh_fr (a : Nat) (w : sm_W) (p q c d e : Int) : sFr (sLn a) w (lNewSh a w p q c d e) := by
  have h : ∀ k, k ≤ 7 → ∀ j v, sLn a (a + k) j v := fun k hk j v => ⟨by omega, by omega⟩
  have h0 : ∀ j v, sLn a a j v := fun j v => ⟨by omega, by omega⟩
  exact ((((((sFr.refl w).st (h 3 (by omega) _ _)).st (h 4 (by omega) _ _)).st (h 5 (by omega) _ _)).st (h 6 (by omega) _ _)).st (h 7 (by omega) _ _)).st (h0 _ _)
theorem lRm_fr (a : Nat) (w : sm_W) {x : Int} (h1 : x ≤ wI w a 7 - 1) : sFr (sLn a) w (lRm a w x) := by
  have h : ∀ k, k ≤ 7 → ∀ j v, sLn a (a + k) j v := fun k hk j v => ⟨by omega, by omega⟩
  have h0 : ∀ j v, sLn a a j v := fun j v => ⟨by omega, by omega⟩
  have f0 : sFr (sLn a) w (wsI w a 7 (wI w a 7 - 1)) := (sFr.refl w).st (h0 _ _)
  exact f0.trans (sFr.it (f := fun j => lRm1 a (x + j)) _ (by omega) (fun i r _ _ _ => (((((sFr.refl r).st (h 3 (by omega) _ _)).st (h 4 (by omega) _ _)).st (h 5 (by omega) _ _)).st (h 6 (by omega) _ _)).st (h 7 (by omega) _ _)))
theorem lOK_new {w : sm_W} {a : Nat} (h : lOK w a) {p q c d e : Int} (h8 : ¬ wI w a 7 = 8) (hs : ¬ mShOk p q c d e < 0) : lOK (lNewSh a w p q c d e) a := by
  have hn := lOK_n h
  refine lOK_st h (sFr_sT (lNewSh_fr a w p q c d e) h.1) ?_
  rw [vL_new w a hn.1]
  exact vOK_new (w := wOf (vL w a)) h.2.2 h8 hs
theorem lOK_rm {w : sm_W} {a : Nat} (h : lOK w a) {x : Int} (x0 : 0 ≤ x) (x1 : x < wI w a 7) : lOK (lRm a w x) a := by
  refine lOK_st h (sFr_sT (lRm_fr a w (by omega)) h.1) ?_
  exact vOK_57 (vL_rm x0 x1 0) (vOK_rm (w := wOf (vL w a)) h.2.2 x0 x1)
/-- an order changes the line alone, and leaves it in order -/
theorem kOb_in {w : sm_W} {a : Nat} (h : lOK w a) : sFr (sLn a) w (kObW w a) ∧ lOK (kObW w a) a ∧ (kObA w a < 0 → kObW w a = w) := by
  have hT := h.1
  have hn := lOK_n h
  have rf : sFr (sLn a) w w ∧ lOK w a := ⟨sFr.refl w, h⟩
  have s1 : ∀ k x v, k ≤ 7 → sFr (sLn a) w (wsI w (a + k) x v) := fun k x v hk => (sFr.refl w).st ⟨by omega, by omega⟩
  unfold kObW kObA
  by_cases c1 : wI w 83 3 = 115
  · rw [if_pos c1, if_pos c1]
    split
    · exact ⟨rf.1, rf.2, fun _ => rfl⟩
    · next hs =>
      split
      · exact ⟨rf.1, rf.2, fun _ => rfl⟩
      · next h8 => exact ⟨lNewSh_fr _ _ _ _ _ _ _, lOK_new h h8 hs, fun e => by omega⟩
  · rw [if_neg c1, if_neg c1]
    by_cases c2 : wI w 83 3 = 108
    · rw [if_pos c2, if_pos c2]
      split
      · exact ⟨rf.1, rf.2, fun _ => rfl⟩
      · next hs =>
        have hq := lLateE_0 hs
        have hs2 := lOK_s h hq.1 hq.2.1
        refine ⟨s1 5 _ _ (by omega), lOK_st h (sT_wsI hT) ?_, fun e => by omega⟩
        rw [vL_u5 w a _ hq.1]
        exact vOK_updI h.2.2 (Or.inr (Or.inr (Or.inr (Or.inl ⟨_, hq.1, rfl, by omega, by omega⟩))))
    · rw [if_neg c2, if_neg c2]
      by_cases c3 : wI w 83 3 = 116
      · rw [if_pos c3, if_pos c3]
        split
        · next q =>
          split
          · next q2 =>
            have := lOK_t h q.1 (by omega)
            refine ⟨s1 1 _ _ (by omega), lOK_st h (sT_wsI hT) ?_, fun e => by omega⟩
            rw [vL_u1 w a _ q.1 (by omega)]
            exact vOK_updI h.2.2 (Or.inr (Or.inl (by omega)))
          · exact ⟨rf.1, rf.2, fun _ => rfl⟩
        · exact ⟨rf.1, rf.2, fun _ => rfl⟩
      · rw [if_neg c3, if_neg c3]
        by_cases c4 : wI w 83 3 = 114
        · rw [if_pos c4, if_pos c4]
          split
          · next q =>
            split
            · next q2 =>
              have := lOK_r h q.1 (by omega)
              refine ⟨s1 2 _ _ (by omega), lOK_st h (sT_wsI hT) ?_, fun e => by omega⟩
              rw [vL_u2 w a _ q.1 (by omega)]
              exact vOK_updI h.2.2 (Or.inr (Or.inr (Or.inl (by omega))))
            · exact ⟨rf.1, rf.2, fun _ => rfl⟩
          · exact ⟨rf.1, rf.2, fun _ => rfl⟩
        · rw [if_neg c4, if_neg c4]
          by_cases c5 : wI w 83 3 = 112
          · rw [if_pos c5, if_pos c5]
            split
            · next q =>
              split
              · next q2 =>
                have := lOK_s h q.1 q.2
                exact ⟨s1 7 _ _ (by omega), lOK_pr h q.1 q2, fun e => by omega⟩
              · exact ⟨rf.1, rf.2, fun _ => rfl⟩
            · exact ⟨rf.1, rf.2, fun _ => rfl⟩
          · rw [if_neg c5, if_neg c5]
            by_cases c6 : wI w 83 3 = 120
            · rw [if_pos c6, if_pos c6]
              split
              · next q => exact ⟨lRm_fr a w (by omega), lOK_rm h q.1 q.2, fun e => by omega⟩
              · exact ⟨rf.1, rf.2, fun _ => rfl⟩
            · rw [if_neg c6, if_neg c6]
              exact ⟨rf.1, rf.2, fun _ => rfl⟩
theorem sLn_2 {a : Nat} (ha : a = 2) {c : Nat} (hc : 10 ≤ c) : ∀ i v, ¬ sLn a c i v := fun i v hs => by unfold sLn at hs; omega
theorem kOK_ob {w : sm_W} (h : kOK w) (hL : lOK w 2) : kOK (kObW w 2) := by
  have hf := (kOb_in hL).1
  refine ⟨sFr_sT hf h.1, ?_, ?_, fun k => ?_⟩
  · rw [hf.outA (sLn_2 rfl (show 10 ≤ 83 by decide))]; exact h.2.1
  · rw [hf.outA (sLn_2 rfl (show 10 ≤ 83 by decide))]; exact h.2.2.1
  · rw [hf.outA (sLn_2 rfl (show 10 ≤ 84 by decide))]; exact h.2.2.2 k
theorem sRd_l {w u : sm_W} (h : sFr sRd w u) (hL : lOK w 2) : lOK u 2 := by
  refine ⟨sFr_sT h hL.1, hL.2.1, ?_⟩
  rw [vL_cong (fun k hk => h.outA (fun i v hs => by unfold sRd at hs; omega))]
  exact hL.2.2
def kOb : Nat → sm_W → Int → sm_W × Int
  | 0, w, k => (w, k)
  | n + 1, w, k => if wI w 83 2 < wI w 83 0 then (if (kOrd w).2 = 0 then ((kOrd w).1, k) else (if kObA (kOrd w).1 2 < 0 then (kObW (kOrd w).1 2, k) else kOb n (kS 59 (kObW (kOrd w).1 2)).1 (k + 1))) else (w, k)
theorem kOb_s (n : Nat) (w : sm_W) (k : Int) : kOb (n + 1) w k = if wI w 83 2 < wI w 83 0 then (if (kOrd w).2 = 0 then ((kOrd w).1, k) else (if kObA (kOrd w).1 2 < 0 then (kObW (kOrd w).1 2, k) else kOb n (kS 59 (kObW (kOrd w).1 2)).1 (k + 1))) else (w, k) := rfl
def p_X5_obey : List sm_V → sm_W → Prop
  | [.inr (.inl o), .inr (.inl a)], w => o = 83 ∧ a = 2 ∧ kOK (kF0 w) ∧ lOK w 2
  | _, _ => False
def f_X5_obey : sm_F
  | [.inr (.inl o), .inr (.inl a)], w => (some (.inl (kOb 80 (kF0 w) 0).2), (kOb 80 (kF0 w) 0).1)
  | _, w => (none, w)
def tb_X5_obey : List (Nat × List sm_O) := [(0, [oA 0, oK 0, oPi 5 5 2, oK 0, oIs 2, oK 0, oIs 3, oGo 9]),
  (9, [oI 3, oK 80, oGe 59, oA 0, oGi 5 5 2, oA 0, oGi 5 5 0, oGe 59, oA 0, oCv 5 5 p_X5_readOrder f_X5_readOrder 0 0 1, oEq0 41, oA 0, oA 1, oCv 5 5 p_X5_obeyOrder f_X5_obeyOrder 0 0 2, oGe0 43, oGo 41]),
  (41, [oI 2, oIr]),
  (43, [oInc 2 1, oA 0, oK 59, oCv 5 5 p_X5_readSign f_X5_readSign 0 0 2, oPop, oInc 3 1, oGo 9]),
  (59, [oI 2, oIr])]
set_option maxRecDepth 100000 in
theorem sb_X5_obey_0 (l : Launch) : sm_SndB l RX5 "obey" cX5_obey 4 1 5 0 [oA 0, oK 0, oPi 5 5 2, oK 0, oIs 2, oK 0, oIs 3, oGo 9] := sb_cons (sd_aload_n (by decide +kernel : decode cX5_obey 0 = .ok (.aload_n 0, 1)) rfl) (sb_cons (sd_iconst (by decide +kernel : decode cX5_obey 1 = .ok (.iconst 0, 1)) ⟨by decide, by decide⟩) (sb_cons (sd_puti (k := 2) kl_5 (by decide) rfl (Or.inl rfl) wm_129 (by decide +kernel : decode cX5_obey 2 = .ok (.putfield 29, 3))) (sb_cons (sd_iconst (by decide +kernel : decode cX5_obey 5 = .ok (.iconst 0, 1)) ⟨by decide, by decide⟩) (sb_cons (sd_istore_n (by decide +kernel : decode cX5_obey 6 = .ok (.istore_n 2, 1)) rfl) (sb_cons (sd_iconst (by decide +kernel : decode cX5_obey 7 = .ok (.iconst 0, 1)) ⟨by decide, by decide⟩) (sb_cons (sd_istore_n (by decide +kernel : decode cX5_obey 8 = .ok (.istore_n 3, 1)) rfl) (sb_cons (sd_fall (x := 0)) sb_nil)))))))
set_option maxRecDepth 100000 in
theorem sb_X5_obey_9 (l : Launch) : sm_SndB l RX5 "obey" cX5_obey 4 1 5 9 [oI 3, oK 80, oGe 59, oA 0, oGi 5 5 2, oA 0, oGi 5 5 0, oGe 59, oA 0, oCv 5 5 p_X5_readOrder f_X5_readOrder 0 0 1, oEq0 41, oA 0, oA 1, oCv 5 5 p_X5_obeyOrder f_X5_obeyOrder 0 0 2, oGe0 43, oGo 41] := sb_cons (sd_iload_n (by decide +kernel : decode cX5_obey 9 = .ok (.iload_n 3, 1)) rfl) (sb_cons (sd_bipush (by decide +kernel : decode cX5_obey 10 = .ok (.bipush 80, 2)) ⟨by decide, by decide⟩ (by decide)) (sb_cons (sd_ge (by decide +kernel : decode cX5_obey 12 = .ok (.if_icmp .ge 47, 3)) (by decide)) (sb_cons (sd_aload_n (by decide +kernel : decode cX5_obey 15 = .ok (.aload_n 0, 1)) rfl) (sb_cons (sd_geti (k := 2) kl_5 (by decide) rfl wm_129 (by decide +kernel : decode cX5_obey 16 = .ok (.getfield 29, 3))) (sb_cons (sd_aload_n (by decide +kernel : decode cX5_obey 19 = .ok (.aload_n 0, 1)) rfl) (sb_cons (sd_geti (k := 0) kl_5 (by decide) rfl wm_126 (by decide +kernel : decode cX5_obey 20 = .ok (.getfield 25, 3))) (sb_cons (sd_ge (by decide +kernel : decode cX5_obey 23 = .ok (.if_icmp .ge 36, 3)) (by decide)) (sb_cons (sd_aload_n (by decide +kernel : decode cX5_obey 26 = .ok (.aload_n 0, 1)) rfl) (sb_cons (sd_callv (n := 0) (met_X5_readOrder l) (by decide) (by decide) wm_599 wm_597 wm_8 ⟨by decide +kernel, by decide +kernel, by decide +kernel⟩ kl_5 wm_598 wm_1097 (by decide +kernel : decode cX5_obey 27 = .ok (.invokevirtual 32, 3))) (sb_cons (sd_eq0 (by decide +kernel : decode cX5_obey 30 = .ok (.ifCond .eq 11, 3)) (by decide)) (sb_cons (sd_aload_n (by decide +kernel : decode cX5_obey 33 = .ok (.aload_n 0, 1)) rfl) (sb_cons (sd_aload_n (by decide +kernel : decode cX5_obey 34 = .ok (.aload_n 1, 1)) rfl) (sb_cons (sd_callv (n := 1) (met_X5_obeyOrder l) (by decide) (by decide) wm_634 wm_632 wm_8 ⟨by decide +kernel, by decide +kernel, by decide +kernel⟩ kl_5 wm_633 wm_1103 (by decide +kernel : decode cX5_obey 35 = .ok (.invokevirtual 40, 3))) (sb_cons (sd_ge0 (by decide +kernel : decode cX5_obey 38 = .ok (.ifCond .ge 5, 3)) (by decide)) (sb_cons (sd_fall (x := 0)) sb_nil)))))))))))))))
set_option maxRecDepth 100000 in
theorem sb_X5_obey_41 (l : Launch) : sm_SndB l RX5 "obey" cX5_obey 4 1 5 41 [oI 2, oIr] := sb_cons (sd_iload_n (by decide +kernel : decode cX5_obey 41 = .ok (.iload_n 2, 1)) rfl) (sb_cons (sd_ireturn (x := 0) rfl (by decide +kernel : decode cX5_obey 42 = .ok (.ireturn, 1))) sb_nil)
set_option maxRecDepth 100000 in
theorem sb_X5_obey_43 (l : Launch) : sm_SndB l RX5 "obey" cX5_obey 4 1 5 43 [oInc 2 1, oA 0, oK 59, oCv 5 5 p_X5_readSign f_X5_readSign 0 0 2, oPop, oInc 3 1, oGo 9] := sb_cons (sd_iinc (by decide +kernel : decode cX5_obey 43 = .ok (.iinc 2 1, 3))) (sb_cons (sd_aload_n (by decide +kernel : decode cX5_obey 46 = .ok (.aload_n 0, 1)) rfl) (sb_cons (sd_bipush (by decide +kernel : decode cX5_obey 47 = .ok (.bipush 59, 2)) ⟨by decide, by decide⟩ (by decide)) (sb_cons (sd_callv (n := 1) (met_X5_readSign l) (by decide) (by decide) wm_616 wm_614 wm_8 ⟨by decide +kernel, by decide +kernel, by decide +kernel⟩ kl_5 wm_615 wm_1101 (by decide +kernel : decode cX5_obey 49 = .ok (.invokevirtual 36, 3))) (sb_cons (sd_pop (by decide +kernel : decode cX5_obey 52 = .ok (.pop, 1))) (sb_cons (sd_iinc (by decide +kernel : decode cX5_obey 53 = .ok (.iinc 3 1, 3))) (sb_cons (sd_goto (x := 0) (by decide +kernel : decode cX5_obey 56 = .ok (.goto (-47), 3)) (by decide)) sb_nil))))))
set_option maxRecDepth 100000 in
theorem sb_X5_obey_59 (l : Launch) : sm_SndB l RX5 "obey" cX5_obey 4 1 5 59 [oI 2, oIr] := sb_cons (sd_iload_n (by decide +kernel : decode cX5_obey 59 = .ok (.iload_n 2, 1)) rfl) (sb_cons (sd_ireturn (x := 0) rfl (by decide +kernel : decode cX5_obey 60 = .ok (.ireturn, 1))) sb_nil)
theorem sn_X5_obey (l : Launch) : sm_SndT l RX5 "obey" cX5_obey 4 1 5 tb_X5_obey := st_cons (sb_X5_obey_0 l) (st_cons (sb_X5_obey_9 l) (st_cons (sb_X5_obey_41 l) (st_cons (sb_X5_obey_43 l) (st_cons (sb_X5_obey_59 l) (st_nil)))))
set_option maxRecDepth 100000 in
set_option maxHeartbeats 4000000 in
theorem ok_X5_obey : sm_Ok tb_X5_obey 4 0 0 p_X5_obey f_X5_obey := by
  intro as w hp ha hw
  match as, hp with
  | [.inr (.inl o), .inr (.inl a)], hp =>
  refine ⟨Nat.le_of_ble_eq_true rfl, fun Z hZ => ?_⟩
  obtain ⟨rfl, rfl, hO, hL⟩ := hp
  have hT : sT w := hO.1
  have hL0 : lOK (kF0 w) 2 := sRd_l ((sFr.refl w).st (Or.inl ⟨rfl, Or.inl rfl⟩)) hL
  generalize hE : kOb 80 (kF0 w) 0 = E at *
  have hl := sm_loopM (S := Nat × sm_W × Int) Z 9 (fun s => s.1) (fun s => s.1 ≤ 80 ∧ kOK s.2.1 ∧ wI s.2.1 83 2 ≤ 80 ∧ lOK s.2.1 2 ∧ 0 ≤ s.2.2 ∧ s.2.2 ≤ 80 - s.1 ∧ kOb s.1 s.2.1 s.2.2 = E) (fun s => [some (.inr (.inl 83)), some (.inr (.inl 2)), some (.inl s.2.2), some (.inl (80 - s.1))]) (fun s => s.2.1) 0 0 (fun s hI ih => by
    obtain ⟨n, u, k⟩ := s
    dsimp only at hI ih ⊢
    obtain ⟨i1, hU, h8, hLu, k0, k1, he⟩ := hI
    have y0 := sS_83 hU.1
    cases n with
    | zero =>
      have he : (u, k) = E := he
      subst he
      clear ih
      refine hZ (fun u => Nat.beq u 9) 14 9 _ _ _ _ _ ?_
      simp only [sm_run, sm_blk, sm_get, sm_ent, sm_ents, sm_wds, sm_wd, sm_nl, sm_pop, sm_back, sm_cases, oK, oLK, oL, oI, oA, oJ, oIs, oAs, oJs, oInc, oAdd, oSub, oMul, oDiv, oRem, oNeg, oAnd, oAndB, oOr, oShl, oI2c, oI2l, oL2i, oLand, oLor, oLshl, oLshr, oLushr, oLcmp, oDup, oDup2, oPop, oGo, oFg, oEq, oNe, oLt, oGe, oGt, oLe, oEq0, oNe0, oLt0, oGe0, oGt0, oLe0, oSw, oGi, oGr, oPi, oPz, oPr, oLen, oIl, oZl, oCl, oRl, oIst, oZst, oCst, oRst, oCopy, oNew, oNa, oNa2, oObj, oCs, oCv, oCi, oIr, oZr, oVr, Nat.beq, List.getElem?_cons_zero, List.getElem?_cons_succ, List.set_cons_zero, List.set_cons_succ, List.length_cons, List.length_nil, List.nil_append, List.cons_append, List.append_nil, List.replicate_succ, List.replicate_zero, Nat.reduceAdd, Nat.reduceSub, Nat.reduceLT, Nat.reduceLeDiff, Nat.reduceBEq, true_and, and_true, Nat.zero_add, Nat.add_zero, Nat.le_refl, Option.some.injEq, exists_eq_left', true_or, or_true, or_false, false_or, reduceCtorEq, Prod.mk.injEq, Sum.inl.injEq, and_self, false_and, and_false, not_true_eq_false, not_false_eq_true, false_implies, true_implies, sm_r, Int.add_zero, Int.zero_add, wI_wsI, wS_wsI, wR_wsI, wI_wCp, wS_wCp, wR_wCp, Nat.reduceEqDiff, reduceIte, sT_iff, sT_iffC, wIf_ne, ne_eq, Bool.false_or, Bool.true_or, Bool.or_false, Bool.or_true, Bool.or_self, Nat.left_eq_add, Nat.add_eq_left, Nat.add_left_inj, oMax, oMin, oAbs, tb_X5_obey, p_X5_obeyOrder, p_X5_readOrder, p_X5_readSign, f_X5_obeyOrder, f_X5_readOrder, f_X5_readSign, p_X5_obey, f_X5_obey, y0, hE]
      repeat' (first | exact True.intro | with_reducible assumption | with_reducible refine And.intro ?_ ?_ | intro _)
      all_goals first
        | omega
        | assumption
        | rfl
        | (split <;> omega)
        | (have k9 := ih (by omega)
           (repeat' split at k9) <;> first | exact k9 | omega)
        | (have k9 := ih2 (by omega)
           (repeat' split at k9) <;> first | exact k9 | omega)
        | exact he (by omega)
        | ((with_reducible congr 1) <;> omega)
        | (rw [if_pos (by omega)] at he; exact he)
        | exact hD1 (by omega)
        | exact hD2 (by omega)
        | grind
        | skip
    | succ n =>
      rw [kOb_s] at he
      have hcast : (80 : Int) - ((n + 1 : Nat) : Int) + 1 = 80 - (n : Int) := by omega
      by_cases c : wI u 83 2 < wI u 83 0
      · rw [if_pos c] at he
        have ho := kOrd_in hU h8
        generalize hr1 : kOrd u = r1 at *
        obtain ⟨u1, b1⟩ := r1
        dsimp only at ho he
        obtain ⟨f1, o1, a1, n1, -⟩ := ho
        have y1 := sS_83 o1.1
        have L1 := sRd_l f1 hLu
        rcases a1 with rfl | rfl
        · rw [if_pos rfl] at he
          subst he
          clear ih
          refine hZ (fun u => Nat.beq u 9) 14 9 _ _ _ _ _ ?_
          simp only [sm_run, sm_blk, sm_get, sm_ent, sm_ents, sm_wds, sm_wd, sm_nl, sm_pop, sm_back, sm_cases, oK, oLK, oL, oI, oA, oJ, oIs, oAs, oJs, oInc, oAdd, oSub, oMul, oDiv, oRem, oNeg, oAnd, oAndB, oOr, oShl, oI2c, oI2l, oL2i, oLand, oLor, oLshl, oLshr, oLushr, oLcmp, oDup, oDup2, oPop, oGo, oFg, oEq, oNe, oLt, oGe, oGt, oLe, oEq0, oNe0, oLt0, oGe0, oGt0, oLe0, oSw, oGi, oGr, oPi, oPz, oPr, oLen, oIl, oZl, oCl, oRl, oIst, oZst, oCst, oRst, oCopy, oNew, oNa, oNa2, oObj, oCs, oCv, oCi, oIr, oZr, oVr, Nat.beq, List.getElem?_cons_zero, List.getElem?_cons_succ, List.set_cons_zero, List.set_cons_succ, List.length_cons, List.length_nil, List.nil_append, List.cons_append, List.append_nil, List.replicate_succ, List.replicate_zero, Nat.reduceAdd, Nat.reduceSub, Nat.reduceLT, Nat.reduceLeDiff, Nat.reduceBEq, true_and, and_true, Nat.zero_add, Nat.add_zero, Nat.le_refl, Option.some.injEq, exists_eq_left', true_or, or_true, or_false, false_or, reduceCtorEq, Prod.mk.injEq, Sum.inl.injEq, and_self, false_and, and_false, not_true_eq_false, not_false_eq_true, false_implies, true_implies, sm_r, Int.add_zero, Int.zero_add, wI_wsI, wS_wsI, wR_wsI, wI_wCp, wS_wCp, wR_wCp, Nat.reduceEqDiff, reduceIte, sT_iff, sT_iffC, wIf_ne, ne_eq, Bool.false_or, Bool.true_or, Bool.or_false, Bool.or_true, Bool.or_self, Nat.left_eq_add, Nat.add_eq_left, Nat.add_left_inj, oMax, oMin, oAbs, tb_X5_obey, p_X5_obeyOrder, p_X5_readOrder, p_X5_readSign, f_X5_obeyOrder, f_X5_readOrder, f_X5_readSign, p_X5_obey, f_X5_obey, y0, hU, hr1, hE]
          repeat' (first | exact True.intro | with_reducible assumption | with_reducible refine And.intro ?_ ?_ | intro _)
          all_goals first
            | omega
            | assumption
            | rfl
            | (split <;> omega)
            | (have k9 := ih (by omega)
               (repeat' split at k9) <;> first | exact k9 | omega)
            | (have k9 := ih2 (by omega)
               (repeat' split at k9) <;> first | exact k9 | omega)
            | exact he (by omega)
            | ((with_reducible congr 1) <;> omega)
            | (rw [if_pos (by omega)] at he; exact he)
            | exact hD1 (by omega)
            | exact hD2 (by omega)
            | grind
            | skip
        · rw [if_neg (by decide)] at he
          have hk := kOb_in L1
          have o2 := kOK_ob o1 L1
          by_cases c2 : kObA u1 2 < 0
          · rw [if_pos c2] at he
            subst he
            clear ih
            generalize hr2 : kObA u1 2 = A at *
            refine hZ (fun u => Nat.beq u 9) 14 9 _ _ _ _ _ ?_
            simp only [sm_run, sm_blk, sm_get, sm_ent, sm_ents, sm_wds, sm_wd, sm_nl, sm_pop, sm_back, sm_cases, oK, oLK, oL, oI, oA, oJ, oIs, oAs, oJs, oInc, oAdd, oSub, oMul, oDiv, oRem, oNeg, oAnd, oAndB, oOr, oShl, oI2c, oI2l, oL2i, oLand, oLor, oLshl, oLshr, oLushr, oLcmp, oDup, oDup2, oPop, oGo, oFg, oEq, oNe, oLt, oGe, oGt, oLe, oEq0, oNe0, oLt0, oGe0, oGt0, oLe0, oSw, oGi, oGr, oPi, oPz, oPr, oLen, oIl, oZl, oCl, oRl, oIst, oZst, oCst, oRst, oCopy, oNew, oNa, oNa2, oObj, oCs, oCv, oCi, oIr, oZr, oVr, Nat.beq, List.getElem?_cons_zero, List.getElem?_cons_succ, List.set_cons_zero, List.set_cons_succ, List.length_cons, List.length_nil, List.nil_append, List.cons_append, List.append_nil, List.replicate_succ, List.replicate_zero, Nat.reduceAdd, Nat.reduceSub, Nat.reduceLT, Nat.reduceLeDiff, Nat.reduceBEq, true_and, and_true, Nat.zero_add, Nat.add_zero, Nat.le_refl, Option.some.injEq, exists_eq_left', true_or, or_true, or_false, false_or, reduceCtorEq, Prod.mk.injEq, Sum.inl.injEq, and_self, false_and, and_false, not_true_eq_false, not_false_eq_true, false_implies, true_implies, sm_r, Int.add_zero, Int.zero_add, wI_wsI, wS_wsI, wR_wsI, wI_wCp, wS_wCp, wR_wCp, Nat.reduceEqDiff, reduceIte, sT_iff, sT_iffC, wIf_ne, ne_eq, Bool.false_or, Bool.true_or, Bool.or_false, Bool.or_true, Bool.or_self, Nat.left_eq_add, Nat.add_eq_left, Nat.add_left_inj, oMax, oMin, oAbs, tb_X5_obey, p_X5_obeyOrder, p_X5_readOrder, p_X5_readSign, f_X5_obeyOrder, f_X5_readOrder, f_X5_readSign, p_X5_obey, f_X5_obey, y0, hU, hr1, y1, L1, hr2, hE]
            repeat' (first | exact True.intro | with_reducible assumption | with_reducible refine And.intro ?_ ?_ | intro _)
            all_goals first
              | omega
              | assumption
              | rfl
              | (split <;> omega)
              | (have k9 := ih (by omega)
                 (repeat' split at k9) <;> first | exact k9 | omega)
              | (have k9 := ih2 (by omega)
                 (repeat' split at k9) <;> first | exact k9 | omega)
              | exact he (by omega)
              | ((with_reducible congr 1) <;> omega)
              | (rw [if_pos (by omega)] at he; exact he)
              | exact hD1 (by omega)
              | exact hD2 (by omega)
              | grind
              | skip
          · rw [if_neg c2] at he
            have e2 : wI (kObW u1 2) 83 = wI u1 83 := hk.1.outA (sLn_2 rfl (by decide))
            have L2 := hk.2.1
            have g3 := kG_S (s := 59) (by decide) (kObW u1 2) o2
            have o3 := (kG_S (s := 59) (by decide)).ok o2
            have L3 := sRd_l g3.1 L2
            have h83 := o2.2.1
            have n3 : wI (kS 59 (kObW u1 2)).1 83 2 ≤ 80 := by
              have := g3.2.2.2
              rw [e2] at this h83
              omega
            have y2 := sS_83 o2.1
            have ih := ih (n, (kS 59 (kObW u1 2)).1, k + 1) ⟨by omega, o3, n3, L3, by dsimp only; omega, by dsimp only; omega, he⟩ (Nat.lt_succ_self n)
            dsimp only at ih
            clear he hk
            generalize hr2 : kObA u1 2 = A at *
            generalize hr3 : kObW u1 2 = u2 at *
            refine hZ (fun u => Nat.beq u 9) 14 9 _ _ _ _ _ ?_
            simp only [sm_run, sm_blk, sm_get, sm_ent, sm_ents, sm_wds, sm_wd, sm_nl, sm_pop, sm_back, sm_cases, oK, oLK, oL, oI, oA, oJ, oIs, oAs, oJs, oInc, oAdd, oSub, oMul, oDiv, oRem, oNeg, oAnd, oAndB, oOr, oShl, oI2c, oI2l, oL2i, oLand, oLor, oLshl, oLshr, oLushr, oLcmp, oDup, oDup2, oPop, oGo, oFg, oEq, oNe, oLt, oGe, oGt, oLe, oEq0, oNe0, oLt0, oGe0, oGt0, oLe0, oSw, oGi, oGr, oPi, oPz, oPr, oLen, oIl, oZl, oCl, oRl, oIst, oZst, oCst, oRst, oCopy, oNew, oNa, oNa2, oObj, oCs, oCv, oCi, oIr, oZr, oVr, Nat.beq, List.getElem?_cons_zero, List.getElem?_cons_succ, List.set_cons_zero, List.set_cons_succ, List.length_cons, List.length_nil, List.nil_append, List.cons_append, List.append_nil, List.replicate_succ, List.replicate_zero, Nat.reduceAdd, Nat.reduceSub, Nat.reduceLT, Nat.reduceLeDiff, Nat.reduceBEq, true_and, and_true, Nat.zero_add, Nat.add_zero, Nat.le_refl, Option.some.injEq, exists_eq_left', true_or, or_true, or_false, false_or, reduceCtorEq, Prod.mk.injEq, Sum.inl.injEq, and_self, false_and, and_false, not_true_eq_false, not_false_eq_true, false_implies, true_implies, sm_r, Int.add_zero, Int.zero_add, wI_wsI, wS_wsI, wR_wsI, wI_wCp, wS_wCp, wR_wCp, Nat.reduceEqDiff, reduceIte, sT_iff, sT_iffC, wIf_ne, ne_eq, Bool.false_or, Bool.true_or, Bool.or_false, Bool.or_true, Bool.or_self, Nat.left_eq_add, Nat.add_eq_left, Nat.add_left_inj, oMax, oMin, oAbs, tb_X5_obey, p_X5_obeyOrder, p_X5_readOrder, p_X5_readSign, f_X5_obeyOrder, f_X5_readOrder, f_X5_readSign, p_X5_obey, f_X5_obey, y0, hU, hr1, y1, L1, hr2, hr3, o2, y2, hcast]
            repeat' (first | exact True.intro | with_reducible assumption | with_reducible refine And.intro ?_ ?_ | intro _)
            all_goals first
              | omega
              | assumption
              | rfl
              | (split <;> omega)
              | (have k9 := ih (by omega)
                 (repeat' split at k9) <;> first | exact k9 | omega)
              | (have k9 := ih2 (by omega)
                 (repeat' split at k9) <;> first | exact k9 | omega)
              | exact he (by omega)
              | ((with_reducible congr 1) <;> omega)
              | (rw [if_pos (by omega)] at he; exact he)
              | exact hD1 (by omega)
              | exact hD2 (by omega)
              | grind
              | skip
      · rw [if_neg c] at he
        subst he
        clear ih
        refine hZ (fun u => Nat.beq u 9) 14 9 _ _ _ _ _ ?_
        simp only [sm_run, sm_blk, sm_get, sm_ent, sm_ents, sm_wds, sm_wd, sm_nl, sm_pop, sm_back, sm_cases, oK, oLK, oL, oI, oA, oJ, oIs, oAs, oJs, oInc, oAdd, oSub, oMul, oDiv, oRem, oNeg, oAnd, oAndB, oOr, oShl, oI2c, oI2l, oL2i, oLand, oLor, oLshl, oLshr, oLushr, oLcmp, oDup, oDup2, oPop, oGo, oFg, oEq, oNe, oLt, oGe, oGt, oLe, oEq0, oNe0, oLt0, oGe0, oGt0, oLe0, oSw, oGi, oGr, oPi, oPz, oPr, oLen, oIl, oZl, oCl, oRl, oIst, oZst, oCst, oRst, oCopy, oNew, oNa, oNa2, oObj, oCs, oCv, oCi, oIr, oZr, oVr, Nat.beq, List.getElem?_cons_zero, List.getElem?_cons_succ, List.set_cons_zero, List.set_cons_succ, List.length_cons, List.length_nil, List.nil_append, List.cons_append, List.append_nil, List.replicate_succ, List.replicate_zero, Nat.reduceAdd, Nat.reduceSub, Nat.reduceLT, Nat.reduceLeDiff, Nat.reduceBEq, true_and, and_true, Nat.zero_add, Nat.add_zero, Nat.le_refl, Option.some.injEq, exists_eq_left', true_or, or_true, or_false, false_or, reduceCtorEq, Prod.mk.injEq, Sum.inl.injEq, and_self, false_and, and_false, not_true_eq_false, not_false_eq_true, false_implies, true_implies, sm_r, Int.add_zero, Int.zero_add, wI_wsI, wS_wsI, wR_wsI, wI_wCp, wS_wCp, wR_wCp, Nat.reduceEqDiff, reduceIte, sT_iff, sT_iffC, wIf_ne, ne_eq, Bool.false_or, Bool.true_or, Bool.or_false, Bool.or_true, Bool.or_self, Nat.left_eq_add, Nat.add_eq_left, Nat.add_left_inj, oMax, oMin, oAbs, tb_X5_obey, p_X5_obeyOrder, p_X5_readOrder, p_X5_readSign, f_X5_obeyOrder, f_X5_readOrder, f_X5_readSign, p_X5_obey, f_X5_obey, y0, hE]
        repeat' (first | exact True.intro | with_reducible assumption | with_reducible refine And.intro ?_ ?_ | intro _)
        all_goals first
          | omega
          | assumption
          | rfl
          | (split <;> omega)
          | (have k9 := ih (by omega)
             (repeat' split at k9) <;> first | exact k9 | omega)
          | (have k9 := ih2 (by omega)
             (repeat' split at k9) <;> first | exact k9 | omega)
          | exact he (by omega)
          | ((with_reducible congr 1) <;> omega)
          | (rw [if_pos (by omega)] at he; exact he)
          | exact hD1 (by omega)
          | exact hD2 (by omega)
          | grind
          | skip
    )
  have h9 := hl (80, kF0 w, 0) ⟨Nat.le_refl _, hO, (by show (0 : Int) ≤ 80; decide), hL0, Int.le_refl _, Int.le_refl _, hE⟩
  have h9 : Z 9 [some (.inr (.inl 83)), some (.inr (.inl 2)), some (.inl 0), some (.inl 0)] [] (kF0 w) 0 0 := h9
  unfold kF0 at h9
  refine hZ (fun u => Nat.beq u 9) 14 0 _ _ _ _ _ ?_
  simp only [sm_run, sm_blk, sm_get, sm_ent, sm_ents, sm_wds, sm_wd, sm_nl, sm_pop, sm_back, sm_cases, oK, oLK, oL, oI, oA, oJ, oIs, oAs, oJs, oInc, oAdd, oSub, oMul, oDiv, oRem, oNeg, oAnd, oAndB, oOr, oShl, oI2c, oI2l, oL2i, oLand, oLor, oLshl, oLshr, oLushr, oLcmp, oDup, oDup2, oPop, oGo, oFg, oEq, oNe, oLt, oGe, oGt, oLe, oEq0, oNe0, oLt0, oGe0, oGt0, oLe0, oSw, oGi, oGr, oPi, oPz, oPr, oLen, oIl, oZl, oCl, oRl, oIst, oZst, oCst, oRst, oCopy, oNew, oNa, oNa2, oObj, oCs, oCv, oCi, oIr, oZr, oVr, Nat.beq, List.getElem?_cons_zero, List.getElem?_cons_succ, List.set_cons_zero, List.set_cons_succ, List.length_cons, List.length_nil, List.nil_append, List.cons_append, List.append_nil, List.replicate_succ, List.replicate_zero, Nat.reduceAdd, Nat.reduceSub, Nat.reduceLT, Nat.reduceLeDiff, Nat.reduceBEq, true_and, and_true, Nat.zero_add, Nat.add_zero, Nat.le_refl, Option.some.injEq, exists_eq_left', true_or, or_true, or_false, false_or, reduceCtorEq, Prod.mk.injEq, Sum.inl.injEq, and_self, false_and, and_false, not_true_eq_false, not_false_eq_true, false_implies, true_implies, sm_r, Int.add_zero, Int.zero_add, wI_wsI, wS_wsI, wR_wsI, wI_wCp, wS_wCp, wR_wCp, Nat.reduceEqDiff, reduceIte, sT_iff, sT_iffC, wIf_ne, ne_eq, Bool.false_or, Bool.true_or, Bool.or_false, Bool.or_true, Bool.or_self, Nat.left_eq_add, Nat.add_eq_left, Nat.add_left_inj, oMax, oMin, oAbs, tb_X5_obey, p_X5_obeyOrder, p_X5_readOrder, p_X5_readSign, f_X5_obeyOrder, f_X5_readOrder, f_X5_readSign, p_X5_obey, f_X5_obey, sS_83 hT]
  repeat' (first | exact True.intro | with_reducible assumption | with_reducible refine And.intro ?_ ?_ | intro _)
  all_goals first
    | omega
    | assumption
    | rfl
    | (split <;> omega)
    | (have k9 := ih (by omega)
       (repeat' split at k9) <;> first | exact k9 | omega)
    | (have k9 := ih2 (by omega)
       (repeat' split at k9) <;> first | exact k9 | omega)
    | exact he (by omega)
    | ((with_reducible congr 1) <;> omega)
    | (rw [if_pos (by omega)] at he; exact he)
    | exact hD1 (by omega)
    | exact hD2 (by omega)
    | skip
theorem met_X5_obey (l : Launch) : sm_Met l yX5_obey cX5_obey 4 (some .int) 5 0 0 p_X5_obey f_X5_obey := sm_met 1 (Or.inr (Or.inl ⟨rfl, rfl⟩)) (by decide +kernel) (sn_X5_obey l) ok_X5_obey
/-! THE CLASS: history -/
def hLn (w : sm_W) (i : Int) : Nat := (wR w 87 i).getD 88
theorem hLn_in {w : sm_W} (h : sT w) {i : Int} (i0 : 0 ≤ i) (i1 : i < 6) : wR w 87 i = some (hLn w i) ∧ hLn w i ∈ [88, 96, 104, 112, 120, 128] := by
  obtain ⟨x, hx, hm⟩ := h.2.2 i i0 i1
  unfold hLn
  rw [hx]
  exact ⟨rfl, hm⟩
theorem hL_isL {x : Nat} (h : x ∈ [88, 96, 104, 112, 120, 128]) : sm_isL x ∧ x ≠ 2 ∧ x ≠ 67 ∧ 88 ≤ x ∧ x ≤ 128 := by
  simp only [List.mem_cons, List.not_mem_nil, or_false] at h
  rcases h with rfl | rfl | rfl | rfl | rfl | rfl <;> exact ⟨by simp [sm_isL], by decide, by decide, by decide, by decide⟩
theorem sT_wsR {w : sm_W} (h : sT w) {i : Int} {x : Nat} (hx : x ∈ [88, 96, 104, 112, 120, 128]) : sT (wsR w 87 i x) := by
  refine ⟨h.1, fun q hq => ?_, fun j j0 j1 => ?_⟩
  · have hne : ∀ q ∈ sm_rfl, q.1 ≠ 87 := by decide +kernel
    rw [wR_wsR, if_neg (fun e => hne q hq e.1)]
    exact h.2.1 q hq
  · rw [wR_wsR]
    by_cases c : j = i
    · rw [if_pos ⟨rfl, c⟩]
      exact ⟨x, rfl, hx⟩
    · rw [if_neg (fun e => c e.2)]
      exact h.2.2 j j0 j1
def hD1 (k : Int) (w : sm_W) : sm_W := wsR w 87 k (hLn w (k + 1))
def hDr (w : sm_W) : sm_W := wsI (wsR (itI hD1 w 5) 87 5 (hLn w 0)) 86 0 (wI w 86 0 - 1)
theorem hDrL {w : sm_W} (h : sT w) (n : Int) (n0 : 0 ≤ n) (n1 : n ≤ 5) : sT (itI hD1 w n) ∧ (itI hD1 w n).1 = w.1 ∧ (∀ a, wS (itI hD1 w n) a = wS w a) ∧ (∀ a, wI (itI hD1 w n) a = wI w a) ∧ (∀ j, 0 ≤ j → j < 6 → hLn (itI hD1 w n) j = if j < n then hLn w (j + 1) else hLn w j) ∧ (∀ a j, a ≠ 87 → wR (itI hD1 w n) a j = wR w a j) := by
  refine itI_ind (f := hD1) (fun i r => sT r ∧ r.1 = w.1 ∧ (∀ a, wS r a = wS w a) ∧ (∀ a, wI r a = wI w a) ∧ (∀ j, 0 ≤ j → j < 6 → hLn r j = if j < i then hLn w (j + 1) else hLn w j) ∧ (∀ a j, a ≠ 87 → wR r a j = wR w a j)) n ⟨h, rfl, fun _ => rfl, fun _ => rfl, fun j j0 _ => (if_neg (by omega)).symm, fun _ _ _ => rfl⟩ (fun i r i0 i1 hr => ?_) n n0 (Int.le_refl _)
  obtain ⟨a1, a2, a3, a4, a5, a6⟩ := hr
  have hm := (hLn_in a1 (show 0 ≤ i + 1 by omega) (show i + 1 < 6 by omega)).2
  refine ⟨sT_wsR a1 hm, a2, a3, a4, fun j j0 j1 => ?_, fun a j ha => ?_⟩
  · unfold hD1 hLn
    rw [wR_wsR]
    by_cases c : j = i
    · rw [if_pos ⟨rfl, c⟩, if_pos (by omega), c]
      have := a5 (i + 1) (by omega) (by omega)
      rw [if_neg (by omega)] at this
      exact this
    · rw [if_neg (fun e => c e.2)]
      have := a5 j j0 j1
      unfold hLn at this
      rw [this]
      by_cases c2 : j < i
      · rw [if_pos c2, if_pos (by omega)]
      · rw [if_neg c2, if_neg (by omega)]
  · unfold hD1
    rw [wR_wsR, if_neg (fun e => ha e.1)]
    exact a6 a j ha
def p_X1_dropOldest : List sm_V → sm_W → Prop
  | [.inr (.inl o)], w => o = 86 ∧ sT w ∧ 0 ≤ wI w 86 0 ∧ wI w 86 0 ≤ 6
  | _, _ => False
def f_X1_dropOldest : sm_F
  | [.inr (.inl o)], w => (none, hDr w)
  | _, w => (none, w)
def tb_X1_dropOldest : List (Nat × List sm_O) := [(0, [oA 0, oGr 1 2 1, oK 0, oRl, oAs 1, oK 1, oIs 2, oGo 9]),
  (9, [oI 2, oK 6, oGe 35, oA 0, oGr 1 2 1, oI 2, oK 1, oSub, oA 0, oGr 1 2 1, oI 2, oRl, oRst, oInc 2 1, oGo 9]),
  (35, [oA 0, oGr 1 2 1, oK 5, oA 1, oRst, oA 0, oDup, oGi 1 2 0, oK 1, oSub, oPi 1 2 0, oVr])]
set_option maxRecDepth 100000 in
theorem sb_X1_dropOldest_0 (l : Launch) : sm_SndB l RX1 "dropOldest" cX1_dropOldest 3 0 0 0 [oA 0, oGr 1 2 1, oK 0, oRl, oAs 1, oK 1, oIs 2, oGo 9] := sb_cons (sd_aload_n (by decide +kernel : decode cX1_dropOldest 0 = .ok (.aload_n 0, 1)) rfl) (sb_cons (sd_getr (k := 1) kl_1 (by decide) rfl wm_144 (by decide +kernel : decode cX1_dropOldest 1 = .ok (.getfield 11, 3))) (sb_cons (sd_iconst (by decide +kernel : decode cX1_dropOldest 4 = .ok (.iconst 0, 1)) ⟨by decide, by decide⟩) (sb_cons (sd_aaload (by decide +kernel : decode cX1_dropOldest 5 = .ok (.aaload, 1))) (sb_cons (sd_astore_n (by decide +kernel : decode cX1_dropOldest 6 = .ok (.astore_n 1, 1)) rfl) (sb_cons (sd_iconst (by decide +kernel : decode cX1_dropOldest 7 = .ok (.iconst 1, 1)) ⟨by decide, by decide⟩) (sb_cons (sd_istore_n (by decide +kernel : decode cX1_dropOldest 8 = .ok (.istore_n 2, 1)) rfl) (sb_cons (sd_fall (x := 0)) sb_nil)))))))
set_option maxRecDepth 100000 in
theorem sb_X1_dropOldest_9 (l : Launch) : sm_SndB l RX1 "dropOldest" cX1_dropOldest 3 0 0 9 [oI 2, oK 6, oGe 35, oA 0, oGr 1 2 1, oI 2, oK 1, oSub, oA 0, oGr 1 2 1, oI 2, oRl, oRst, oInc 2 1, oGo 9] := sb_cons (sd_iload_n (by decide +kernel : decode cX1_dropOldest 9 = .ok (.iload_n 2, 1)) rfl) (sb_cons (sd_bipush (by decide +kernel : decode cX1_dropOldest 10 = .ok (.bipush 6, 2)) ⟨by decide, by decide⟩ (by decide)) (sb_cons (sd_ge (by decide +kernel : decode cX1_dropOldest 12 = .ok (.if_icmp .ge 23, 3)) (by decide)) (sb_cons (sd_aload_n (by decide +kernel : decode cX1_dropOldest 15 = .ok (.aload_n 0, 1)) rfl) (sb_cons (sd_getr (k := 1) kl_1 (by decide) rfl wm_144 (by decide +kernel : decode cX1_dropOldest 16 = .ok (.getfield 11, 3))) (sb_cons (sd_iload_n (by decide +kernel : decode cX1_dropOldest 19 = .ok (.iload_n 2, 1)) rfl) (sb_cons (sd_iconst (by decide +kernel : decode cX1_dropOldest 20 = .ok (.iconst 1, 1)) ⟨by decide, by decide⟩) (sb_cons (sd_isub (by decide +kernel : decode cX1_dropOldest 21 = .ok (.isub, 1))) (sb_cons (sd_aload_n (by decide +kernel : decode cX1_dropOldest 22 = .ok (.aload_n 0, 1)) rfl) (sb_cons (sd_getr (k := 1) kl_1 (by decide) rfl wm_144 (by decide +kernel : decode cX1_dropOldest 23 = .ok (.getfield 11, 3))) (sb_cons (sd_iload_n (by decide +kernel : decode cX1_dropOldest 26 = .ok (.iload_n 2, 1)) rfl) (sb_cons (sd_aaload (by decide +kernel : decode cX1_dropOldest 27 = .ok (.aaload, 1))) (sb_cons (sd_aastore (by decide +kernel : decode cX1_dropOldest 28 = .ok (.aastore, 1))) (sb_cons (sd_iinc (by decide +kernel : decode cX1_dropOldest 29 = .ok (.iinc 2 1, 3))) (sb_cons (sd_goto (x := 0) (by decide +kernel : decode cX1_dropOldest 32 = .ok (.goto (-23), 3)) (by decide)) sb_nil))))))))))))))
set_option maxRecDepth 100000 in
theorem sb_X1_dropOldest_35 (l : Launch) : sm_SndB l RX1 "dropOldest" cX1_dropOldest 3 0 0 35 [oA 0, oGr 1 2 1, oK 5, oA 1, oRst, oA 0, oDup, oGi 1 2 0, oK 1, oSub, oPi 1 2 0, oVr] := sb_cons (sd_aload_n (by decide +kernel : decode cX1_dropOldest 35 = .ok (.aload_n 0, 1)) rfl) (sb_cons (sd_getr (k := 1) kl_1 (by decide) rfl wm_144 (by decide +kernel : decode cX1_dropOldest 36 = .ok (.getfield 11, 3))) (sb_cons (sd_iconst (by decide +kernel : decode cX1_dropOldest 39 = .ok (.iconst 5, 1)) ⟨by decide, by decide⟩) (sb_cons (sd_aload_n (by decide +kernel : decode cX1_dropOldest 40 = .ok (.aload_n 1, 1)) rfl) (sb_cons (sd_aastore (by decide +kernel : decode cX1_dropOldest 41 = .ok (.aastore, 1))) (sb_cons (sd_aload_n (by decide +kernel : decode cX1_dropOldest 42 = .ok (.aload_n 0, 1)) rfl) (sb_cons (sd_dup (by decide +kernel : decode cX1_dropOldest 43 = .ok (.dup, 1))) (sb_cons (sd_geti (k := 0) kl_1 (by decide) rfl wm_142 (by decide +kernel : decode cX1_dropOldest 44 = .ok (.getfield 18, 3))) (sb_cons (sd_iconst (by decide +kernel : decode cX1_dropOldest 47 = .ok (.iconst 1, 1)) ⟨by decide, by decide⟩) (sb_cons (sd_isub (by decide +kernel : decode cX1_dropOldest 48 = .ok (.isub, 1))) (sb_cons (sd_puti (k := 0) kl_1 (by decide) rfl (Or.inl rfl) wm_142 (by decide +kernel : decode cX1_dropOldest 49 = .ok (.putfield 18, 3))) (sb_cons (sd_return (x := 0) rfl (by decide +kernel : decode cX1_dropOldest 52 = .ok (.return_, 1))) sb_nil)))))))))))
theorem sn_X1_dropOldest (l : Launch) : sm_SndT l RX1 "dropOldest" cX1_dropOldest 3 0 0 tb_X1_dropOldest := st_cons (sb_X1_dropOldest_0 l) (st_cons (sb_X1_dropOldest_9 l) (st_cons (sb_X1_dropOldest_35 l) (st_nil)))
set_option maxRecDepth 100000 in
set_option maxHeartbeats 4000000 in
theorem ok_X1_dropOldest : sm_Ok tb_X1_dropOldest 3 0 0 p_X1_dropOldest f_X1_dropOldest := by
  intro as w hp ha hw
  match as, hp with
  | [.inr (.inl o)], hp =>
  refine ⟨Nat.le_of_ble_eq_true rfl, fun Z hZ => ?_⟩
  obtain ⟨rfl, hT, k0, k1⟩ := hp
  have q0 := hLn_in hT (i := 0) (by decide) (by decide)
  have q0' := hL_isL q0.2
  have hE : wsI (wsR (itI hD1 w 5) 87 5 (hLn w 0)) 86 0 (wI w 86 0 - 1) = hDr w := rfl
  generalize hEe : hDr w = E at *
  have hl := sm_loopI Z 9 0 5 (fun i => [some (.inr (.inl 86)), some (.inr (.inl (hLn w 0))), some (.inl (i + 1))]) (fun i => itI hD1 w i) 0 0 (by decide) (fun i h0 h1 ih => by
    obtain ⟨a1, a2, a3, a4, a5, a6⟩ := hDrL hT i h0 h1
    rw [itI_s _ _ h0] at ih
    have he : i = 5 → wsI (wsR (itI hD1 w i) 87 5 (hLn w 0)) 86 0 (wI w 86 0 - 1) = E := fun e => by rw [← hE, e]
    generalize itI hD1 w i = u at *
    have e86 : wI u 86 = wI w 86 := a4 86
    have w0 : wS u (hLn w 0) = (2, 9) := (lS a1 q0'.1).1
    by_cases e : i = 5
    · have he := he e
      clear ih
      refine hZ (fun u => Nat.beq u 9) 14 9 _ _ _ _ _ ?_
      simp only [sm_run, sm_blk, sm_get, sm_ent, sm_ents, sm_wds, sm_wd, sm_nl, sm_pop, sm_back, sm_cases, oK, oLK, oL, oI, oA, oJ, oIs, oAs, oJs, oInc, oAdd, oSub, oMul, oDiv, oRem, oNeg, oAnd, oAndB, oOr, oShl, oI2c, oI2l, oL2i, oLand, oLor, oLshl, oLshr, oLushr, oLcmp, oDup, oDup2, oPop, oGo, oFg, oEq, oNe, oLt, oGe, oGt, oLe, oEq0, oNe0, oLt0, oGe0, oGt0, oLe0, oSw, oGi, oGr, oPi, oPz, oPr, oLen, oIl, oZl, oCl, oRl, oIst, oZst, oCst, oRst, oCopy, oNew, oNa, oNa2, oObj, oCs, oCv, oCi, oIr, oZr, oVr, Nat.beq, List.getElem?_cons_zero, List.getElem?_cons_succ, List.set_cons_zero, List.set_cons_succ, List.length_cons, List.length_nil, List.nil_append, List.cons_append, List.append_nil, List.replicate_succ, List.replicate_zero, Nat.reduceAdd, Nat.reduceSub, Nat.reduceLT, Nat.reduceLeDiff, Nat.reduceBEq, true_and, and_true, Nat.zero_add, Nat.add_zero, Nat.le_refl, Option.some.injEq, exists_eq_left', true_or, or_true, or_false, false_or, reduceCtorEq, Prod.mk.injEq, Sum.inl.injEq, and_self, false_and, and_false, not_true_eq_false, not_false_eq_true, false_implies, true_implies, sm_r, Int.add_zero, Int.zero_add, wI_wsI, wS_wsI, wR_wsI, wI_wCp, wS_wCp, wR_wCp, Nat.reduceEqDiff, reduceIte, sT_iff, sT_iffC, wIf_ne, ne_eq, Bool.false_or, Bool.true_or, Bool.or_false, Bool.or_true, Bool.or_self, Nat.left_eq_add, Nat.add_eq_left, Nat.add_left_inj, oMax, oMin, oAbs, tb_X1_dropOldest, p_X1_dropOldest, f_X1_dropOldest, sS_86 a1, sR_86_1 a1, sS_87 a1, w0, e86, hEe, wS_wsR, wI_wsR]
      repeat' (first | exact True.intro | with_reducible assumption | with_reducible refine And.intro ?_ ?_ | intro _)
      all_goals first
        | omega
        | assumption
        | rfl
        | (split <;> omega)
        | (have k9 := ih (by omega)
           (repeat' split at k9) <;> first | exact k9 | omega)
        | (have k9 := ih2 (by omega)
           (repeat' split at k9) <;> first | exact k9 | omega)
        | exact he (by omega)
        | ((with_reducible congr 1) <;> omega)
        | (rw [if_pos (by omega)] at he; exact he)
        | exact hD1 (by omega)
        | exact hD2 (by omega)
        | grind
        | skip
    · have ih := ih (by omega)
      clear he
      have q1 := hLn_in a1 (i := i + 1) (by omega) (by omega)
      have q1w : wS u (hLn u (i + 1)) = (2, 9) := (lS a1 (hL_isL q1.2).1).1
      have q1r := q1.1
      have hcm : i + 1 - 1 = i := by omega
      unfold hD1 at ih
      refine hZ (fun u => Nat.beq u 9) 14 9 _ _ _ _ _ ?_
      simp only [sm_run, sm_blk, sm_get, sm_ent, sm_ents, sm_wds, sm_wd, sm_nl, sm_pop, sm_back, sm_cases, oK, oLK, oL, oI, oA, oJ, oIs, oAs, oJs, oInc, oAdd, oSub, oMul, oDiv, oRem, oNeg, oAnd, oAndB, oOr, oShl, oI2c, oI2l, oL2i, oLand, oLor, oLshl, oLshr, oLushr, oLcmp, oDup, oDup2, oPop, oGo, oFg, oEq, oNe, oLt, oGe, oGt, oLe, oEq0, oNe0, oLt0, oGe0, oGt0, oLe0, oSw, oGi, oGr, oPi, oPz, oPr, oLen, oIl, oZl, oCl, oRl, oIst, oZst, oCst, oRst, oCopy, oNew, oNa, oNa2, oObj, oCs, oCv, oCi, oIr, oZr, oVr, Nat.beq, List.getElem?_cons_zero, List.getElem?_cons_succ, List.set_cons_zero, List.set_cons_succ, List.length_cons, List.length_nil, List.nil_append, List.cons_append, List.append_nil, List.replicate_succ, List.replicate_zero, Nat.reduceAdd, Nat.reduceSub, Nat.reduceLT, Nat.reduceLeDiff, Nat.reduceBEq, true_and, and_true, Nat.zero_add, Nat.add_zero, Nat.le_refl, Option.some.injEq, exists_eq_left', true_or, or_true, or_false, false_or, reduceCtorEq, Prod.mk.injEq, Sum.inl.injEq, and_self, false_and, and_false, not_true_eq_false, not_false_eq_true, false_implies, true_implies, sm_r, Int.add_zero, Int.zero_add, wI_wsI, wS_wsI, wR_wsI, wI_wCp, wS_wCp, wR_wCp, Nat.reduceEqDiff, reduceIte, sT_iff, sT_iffC, wIf_ne, ne_eq, Bool.false_or, Bool.true_or, Bool.or_false, Bool.or_true, Bool.or_self, Nat.left_eq_add, Nat.add_eq_left, Nat.add_left_inj, oMax, oMin, oAbs, tb_X1_dropOldest, p_X1_dropOldest, f_X1_dropOldest, sS_86 a1, sR_86_1 a1, sS_87 a1, q1r, q1w, hcm, wS_wsR, wR_wsR]
      repeat' (first | exact True.intro | with_reducible assumption | with_reducible refine And.intro ?_ ?_ | intro _)
      all_goals first
        | omega
        | assumption
        | rfl
        | (split <;> omega)
        | (have k9 := ih (by omega)
           (repeat' split at k9) <;> first | exact k9 | omega)
        | (have k9 := ih2 (by omega)
           (repeat' split at k9) <;> first | exact k9 | omega)
        | exact he (by omega)
        | ((with_reducible congr 1) <;> omega)
        | (rw [if_pos (by omega)] at he; exact he)
        | exact hD1 (by omega)
        | exact hD2 (by omega)
        | grind
        | skip
    )
  have q0r := q0.1
  have hl : Z 9 [some (.inr (.inl 86)), some (.inr (.inl (hLn w 0))), some (.inl 1)] [] w 0 0 := hl
  refine hZ (fun u => Nat.beq u 9) 14 0 _ _ _ _ _ ?_
  simp only [sm_run, sm_blk, sm_get, sm_ent, sm_ents, sm_wds, sm_wd, sm_nl, sm_pop, sm_back, sm_cases, oK, oLK, oL, oI, oA, oJ, oIs, oAs, oJs, oInc, oAdd, oSub, oMul, oDiv, oRem, oNeg, oAnd, oAndB, oOr, oShl, oI2c, oI2l, oL2i, oLand, oLor, oLshl, oLshr, oLushr, oLcmp, oDup, oDup2, oPop, oGo, oFg, oEq, oNe, oLt, oGe, oGt, oLe, oEq0, oNe0, oLt0, oGe0, oGt0, oLe0, oSw, oGi, oGr, oPi, oPz, oPr, oLen, oIl, oZl, oCl, oRl, oIst, oZst, oCst, oRst, oCopy, oNew, oNa, oNa2, oObj, oCs, oCv, oCi, oIr, oZr, oVr, Nat.beq, List.getElem?_cons_zero, List.getElem?_cons_succ, List.set_cons_zero, List.set_cons_succ, List.length_cons, List.length_nil, List.nil_append, List.cons_append, List.append_nil, List.replicate_succ, List.replicate_zero, Nat.reduceAdd, Nat.reduceSub, Nat.reduceLT, Nat.reduceLeDiff, Nat.reduceBEq, true_and, and_true, Nat.zero_add, Nat.add_zero, Nat.le_refl, Option.some.injEq, exists_eq_left', true_or, or_true, or_false, false_or, reduceCtorEq, Prod.mk.injEq, Sum.inl.injEq, and_self, false_and, and_false, not_true_eq_false, not_false_eq_true, false_implies, true_implies, sm_r, Int.add_zero, Int.zero_add, wI_wsI, wS_wsI, wR_wsI, wI_wCp, wS_wCp, wR_wCp, Nat.reduceEqDiff, reduceIte, sT_iff, sT_iffC, wIf_ne, ne_eq, Bool.false_or, Bool.true_or, Bool.or_false, Bool.or_true, Bool.or_self, Nat.left_eq_add, Nat.add_eq_left, Nat.add_left_inj, oMax, oMin, oAbs, tb_X1_dropOldest, p_X1_dropOldest, f_X1_dropOldest, sS_86 hT, sR_86_1 hT, sS_87 hT, q0r]
  repeat' (first | exact True.intro | with_reducible assumption | with_reducible refine And.intro ?_ ?_ | intro _)
  all_goals first
    | omega
    | assumption
    | rfl
    | (split <;> omega)
    | (have k9 := ih (by omega)
       (repeat' split at k9) <;> first | exact k9 | omega)
    | (have k9 := ih2 (by omega)
       (repeat' split at k9) <;> first | exact k9 | omega)
    | exact he (by omega)
    | ((with_reducible congr 1) <;> omega)
    | (rw [if_pos (by omega)] at he; exact he)
    | exact hD1 (by omega)
    | exact hD2 (by omega)
    | skip

theorem met_X1_dropOldest (l : Launch) : sm_Met l yX1_dropOldest cX1_dropOldest 3 none 0 0 0 p_X1_dropOldest f_X1_dropOldest := sm_met 0 (Or.inl ⟨rfl, rfl⟩) (by decide +kernel) (sn_X1_dropOldest l) ok_X1_dropOldest