/-! THE START: both sides agree, and the law's run from its entry -/
theorem wStart_v {w : sm_W} (h : w0S w) (j : Int) (j0 : 0 ≤ j) : vL (wStart w) 2 j = wI (wStart w) 155 j := by
  have z : ∀ x, x < 3 ∨ 5 ≤ x ∧ x < 35 → ∀ j, wI (wStart w) x j = 0 := fun x hx j => wStart_0 h (by omega) (by omega) (by omega) j
  rw [wStart_155 h]
  unfold vL
  rw [z 2 (by decide), z 2 (by decide), (wStart_34 h _).1, (wStart_34 h _).2, z (2 + 3) (by decide), z (2 + 4) (by decide), z (2 + 5) (by decide), z (2 + 6) (by decide), z (2 + 7) (by decide)]
  repeat' split
  all_goals omega
theorem wStart_vOK {w : sm_W} (h : w0S w) : vOK (wI (wStart w) 155) := by
  have e := wStart_155 h
  refine ⟨?_, ?_, fun k k0 k1 => ?_, fun k k0 k1 => ?_, fun x x0 x1 => ?_⟩
  · rw [e]; decide
  · rw [e]; decide
  · rw [e, if_pos (by omega)]; decide
  · rw [e, if_neg (by omega), if_pos (by omega)]; decide
  · rw [e 1] at x1
    have : (if (2 : Int) ≤ 1 ∧ (1 : Int) < 10 then (2 : Int) else if (10 : Int) ≤ 1 ∧ (1 : Int) < 17 then 10 else 0) = 0 := by decide
    omega
theorem wStart_Rel {w : sm_W} (h : w0S w) : Rel (wStart w) (wStart w) := by
  obtain ⟨hT, h87⟩ := wStart_T h
  have hv := wStart_vOK h
  have ev := wStart_v h
  have z : ∀ x, x < 3 ∨ 5 ≤ x ∧ x < 35 ∨ 75 ≤ x ∧ x < 89 ∨ 136 ≤ x ∧ x < 138 ∨ 154 ≤ x → x < 176 → x ≠ 155 → ∀ j, wI (wStart w) x j = 0 := fun x hx h2 h3 j => wStart_0 h hx h2 h3 j
  have hl : ∀ i, 0 ≤ i → i < 6 → hLn (wStart w) i = 88 + 8 * i.toNat := fun i i0 i1 => by
    unfold hLn
    rw [h87 i i0 i1]
    rfl
  clear h87
  generalize wStart w = u at *
  have z154 := z 154 (by decide) (by decide) (by decide)
  refine ⟨⟨⟨⟨hT, (by unfold sm_isL; decide), vOK_57 (fun j j0 _ => ev j j0) hv⟩, ?_⟩, fun i j i0 i1 j0 j1 hne => ?_, ⟨hT, ?_, ?_, fun k => ?_⟩⟩, ⟨⟨⟨hT, hv⟩, Or.inl (z154 _), ⟨fun i _ => z 168 (by decide) (by decide) (by decide) i, fun i _ => z 169 (by decide) (by decide) (by decide) i⟩, fun i => ?_, fun i => ?_, fun i => ?_, fun i => ?_⟩, fun e => ?_, ⟨?_, ?_⟩, tOK_F0.mpr ⟨hT, ?_, fun k => ?_⟩, fun i i0 i1 => ?_, fun s s0 s1 => ⟨Or.inl (z 158 (by decide) (by decide) (by decide) s), fun e => ?_⟩⟩, fun j j0 _ => ev j j0, ⟨?_, fun i i0 i1 => ?_⟩, fun s s0 s1 => ⟨?_, fun e => ?_⟩, ?_, fun i i0 i1 => ?_⟩
  · rw [z 86 (by decide) (by decide) (by decide)]; decide
  · rw [hl i i0 i1, hl j j0 j1]; omega
  · unfold kF0
    rw [wI_wsI, if_neg (by omega), z 83 (by decide) (by decide) (by decide)]; decide
  · unfold kF0
    rw [wI_wsI, if_pos ⟨rfl, rfl⟩]; decide
  · unfold kF0
    rw [wI_wsI, if_neg (by omega), z 84 (by decide) (by decide) (by decide)]; decide
  · rw [z 163 (by decide) (by decide) (by decide)]; decide
  · rw [z 165 (by decide) (by decide) (by decide)]; decide
  · rw [z 164 (by decide) (by decide) (by decide)]; decide
  · rw [z 169 (by decide) (by decide) (by decide), z 168 (by decide) (by decide) (by decide)]; decide
  · rw [z154] at e; omega
  · rw [z154]; decide
  · rw [z154]; decide
  · rw [z154]; decide
  · rw [z 173 (by decide) (by decide) (by decide)]; decide
  · rw [z154] at i1; omega
  · rw [z 158 (by decide) (by decide) (by decide)] at e; omega
  · rw [z 86 (by decide) (by decide) (by decide), z154]
  · rw [z154] at i1; omega
  · rw [z 137 (by decide) (by decide) (by decide), z 158 (by decide) (by decide) (by decide)]
  · rw [z 158 (by decide) (by decide) (by decide)] at e; omega
  · rw [z 83 (by decide) (by decide) (by decide), z154]
  · rw [z154] at i1; omega
theorem wC_in {w : sm_W} (h : w.1 = 0) : (cCtr (wNw w 7 12)).1 = 154 ∧ wS (cCtr (wNw w 7 12)) 0 = (7, 12) := by
  rw [opsC_eq]
  refine ⟨by rw [iwN_ok, h]; exact opsA_n.1, ?_⟩
  rw [iwS_ok opsC w 0 (wS w 0) none rfl, h, opsA_n.2.2]
  rfl
set_option maxRecDepth 100000 in
set_option maxHeartbeats 4000000 in
theorem zl_entry {PL : Option sm_V → sm_W → Prop} {mc ms : Nat} {Z : Nat → sm_K} {L : Nat} (hZ : ∀ stop n t ls st w' k q, sm_run (sm_get tb_L_law) (PL, mc, ms) stop Z n t ls st w' k q → Z t ls st w' k q) (hk : 176 ≤ mc) (hq : 2678 ≤ ms) (hL : L ≤ 3072) (hP : ∀ w, PL (some (.inl 1)) w) {w : sm_W} (h : w0S w) (hS : wS w 1000 = (14, L)) : Z 0 (sm_ent 4 [.inr (.inl 1000)]) [] w 0 0 := by
  have h0 := h.1
  have hC := wC_in h0
  have z := zl_loop hZ hk hq hL hP L (wStart w) 0 (wStart_Rel h) ((wStart_1000 h).1.trans hS) (by decide) (by omega) (by omega)
  unfold wStart at z
  have q7 : p_X7_init [.inr (.inl 0)] (wNw w 7 12) := by
    show (0 : Nat) = 0 ∧ (wNw w 7 12).1 = 1 ∧ wS (wNw w 7 12) 0 = (7, 12)
    rw [wNw_n, h0, wS_wNw, h0]
    exact ⟨rfl, rfl, if_pos rfl⟩
  have r7 : f_X7_init [.inr (.inl 0)] (wNw w 7 12) = (none, cCtr (wNw w 7 12)) := rfl
  generalize cCtr (wNw w 7 12) = u at *
  have q8 : p_X8_init [.inr (.inl 154)] (wNw u 8 30) := by
    show (154 : Nat) = 154 ∧ (wNw u 8 30).1 = 155 ∧ wS (wNw u 8 30) 154 = (8, 30)
    rw [wNw_n, hC.1, wS_wNw, hC.1]
    exact ⟨rfl, rfl, if_pos rfl⟩
  have r8 : f_X8_init [.inr (.inl 154)] (wNw u 8 30) = (none, mCtr0 (wNw u 8 30)) := rfl
  generalize mCtr0 (wNw u 8 30) = x at *
  refine hZ (fun u => Nat.beq u 18) 14 0 _ _ _ _ _ ?_
  simp only [sm_run, sm_blk, sm_get, sm_ent, sm_ents, sm_wds, sm_wd, sm_nl, sm_pop, sm_back, sm_cases, oK, oLK, oL, oI, oA, oJ, oIs, oAs, oJs, oInc, oAdd, oSub, oMul, oDiv, oRem, oNeg, oAnd, oAndB, oOr, oShl, oI2c, oI2l, oL2i, oLand, oLor, oLshl, oLshr, oLushr, oLcmp, oDup, oDup2, oPop, oGo, oFg, oEq, oNe, oLt, oGe, oGt, oLe, oEq0, oNe0, oLt0, oGe0, oGt0, oLe0, oSw, oGi, oGr, oPi, oPz, oPr, oLen, oIl, oZl, oCl, oRl, oIst, oZst, oCst, oRst, oCopy, oNew, oNa, oNa2, oObj, oCs, oCv, oCi, oIr, oZr, oVr, Nat.beq, List.getElem?_cons_zero, List.getElem?_cons_succ, List.set_cons_zero, List.set_cons_succ, List.length_cons, List.length_nil, List.nil_append, List.cons_append, List.append_nil, List.replicate_succ, List.replicate_zero, Nat.reduceAdd, Nat.reduceSub, Nat.reduceLT, Nat.reduceLeDiff, Nat.reduceBEq, true_and, and_true, Nat.zero_add, Nat.add_zero, Nat.le_refl, Option.some.injEq, exists_eq_left', true_or, or_true, or_false, false_or, reduceCtorEq, Prod.mk.injEq, Sum.inl.injEq, and_self, false_and, and_false, not_true_eq_false, not_false_eq_true, false_implies, true_implies, sm_r, Int.add_zero, Int.zero_add, wI_wsI, wS_wsI, wR_wsI, wI_wCp, wS_wCp, wR_wCp, Nat.reduceEqDiff, reduceIte, sT_iff, sT_iffC, wIf_ne, ne_eq, Bool.false_or, Bool.true_or, Bool.or_false, Bool.or_true, Bool.or_self, Nat.left_eq_add, Nat.add_eq_left, Nat.add_left_inj, oMax, oMin, oAbs, tb_L_law, h0, hC.1, q7, r7, q8, r8, Nat.reduceEqDiff]
  repeat' (first | exact True.intro | with_reducible assumption | with_reducible refine And.intro ?_ ?_ | intro _)
  all_goals first
    | omega
    | assumption
    | rfl
    | (split <;> omega)
    | (have k9 := ih (by omega)
       (repeat' split at k9) <;> first | exact k9 | omega)
    | (have k9 := ih2 (by omega)
       (repeat' split at k9) <;> first | exact k9 | omega)
    | exact he (by omega)
    | ((with_reducible congr 1) <;> omega)
    | (rw [if_pos (by omega)] at he; exact he)
    | exact hD1 (by omega)
    | exact hD2 (by omega)
    | skip
