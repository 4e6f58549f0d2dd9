/-! THE REFERENCE: characters are put -/
def p_X8_wipe : List sm_V → sm_W → Prop
  | [.inr (.inl m)], w => m = 154 ∧ sT w
  | _, _ => False
def f_X8_wipe : sm_F
  | [.inr (.inl m)], w => (some (.inl (wI w 154 24)), wsI w 154 24 0)
  | _, w => (none, w)
def tb_X8_wipe : List (Nat × List sm_O) := [(0, [oA 0, oGi 8 30 24, oIs 1, oA 0, oK 0, oPi 8 30 24, oI 1, oIr])]
set_option maxRecDepth 100000 in
theorem sb_X8_wipe_0 (l : Launch) : sm_SndB l RX8 "wipe" cX8_wipe 2 1 0 0 [oA 0, oGi 8 30 24, oIs 1, oA 0, oK 0, oPi 8 30 24, oI 1, oIr] := sb_cons (sd_aload_n (by decide +kernel : decode cX8_wipe 0 = .ok (.aload_n 0, 1)) rfl) (sb_cons (sd_geti (k := 24) kl_8 (by decide) rfl wm_697 (by decide +kernel : decode cX8_wipe 1 = .ok (.getfield 220, 3))) (sb_cons (sd_istore_n (by decide +kernel : decode cX8_wipe 4 = .ok (.istore_n 1, 1)) rfl) (sb_cons (sd_aload_n (by decide +kernel : decode cX8_wipe 5 = .ok (.aload_n 0, 1)) rfl) (sb_cons (sd_iconst (by decide +kernel : decode cX8_wipe 6 = .ok (.iconst 0, 1)) ⟨by decide, by decide⟩) (sb_cons (sd_puti (k := 24) kl_8 (by decide) rfl (Or.inl rfl) wm_697 (by decide +kernel : decode cX8_wipe 7 = .ok (.putfield 220, 3))) (sb_cons (sd_iload_n (by decide +kernel : decode cX8_wipe 10 = .ok (.iload_n 1, 1)) rfl) (sb_cons (sd_ireturn (x := 0) rfl (by decide +kernel : decode cX8_wipe 11 = .ok (.ireturn, 1))) sb_nil)))))))
theorem sn_X8_wipe (l : Launch) : sm_SndT l RX8 "wipe" cX8_wipe 2 1 0 tb_X8_wipe := st_cons (sb_X8_wipe_0 l) (st_nil)
set_option maxRecDepth 100000 in
set_option maxHeartbeats 4000000 in
theorem ok_X8_wipe : sm_Ok tb_X8_wipe 2 0 0 p_X8_wipe f_X8_wipe := by
  intro as w hp ha hw
  match as, hp with
  | [.inr (.inl m)], hp =>
  refine ⟨Nat.le_of_ble_eq_true rfl, fun Z hZ => ?_⟩
  obtain ⟨rfl, hT⟩ := hp
  refine hZ (fun _ => false) 16 0 _ _ _ _ _ ?_
  simp only [sm_run, sm_blk, sm_get, sm_ent, sm_ents, sm_wds, sm_wd, sm_nl, sm_pop, sm_back, sm_cases, oK, oLK, oL, oI, oA, oJ, oIs, oAs, oJs, oInc, oAdd, oSub, oMul, oDiv, oRem, oNeg, oAnd, oAndB, oOr, oShl, oI2c, oI2l, oL2i, oLand, oLor, oLshl, oLshr, oLushr, oLcmp, oDup, oDup2, oPop, oGo, oFg, oEq, oNe, oLt, oGe, oGt, oLe, oEq0, oNe0, oLt0, oGe0, oGt0, oLe0, oSw, oGi, oGr, oPi, oPz, oPr, oLen, oIl, oZl, oCl, oRl, oIst, oZst, oCst, oRst, oCopy, oNew, oNa, oNa2, oObj, oCs, oCv, oCi, oIr, oZr, oVr, Nat.beq, List.getElem?_cons_zero, List.getElem?_cons_succ, List.set_cons_zero, List.set_cons_succ, List.length_cons, List.length_nil, List.nil_append, List.cons_append, List.append_nil, List.replicate_succ, List.replicate_zero, Nat.reduceAdd, Nat.reduceSub, Nat.reduceLT, Nat.reduceLeDiff, Nat.reduceBEq, true_and, and_true, Nat.zero_add, Nat.add_zero, Nat.le_refl, Option.some.injEq, exists_eq_left', true_or, or_true, or_false, false_or, reduceCtorEq, Prod.mk.injEq, Sum.inl.injEq, and_self, false_and, and_false, not_true_eq_false, not_false_eq_true, false_implies, true_implies, sm_r, Int.add_zero, Int.zero_add, wI_wsI, wS_wsI, wR_wsI, wI_wCp, wS_wCp, wR_wCp, Nat.reduceEqDiff, reduceIte, sT_iff, sT_iffC, wIf_ne, ne_eq, Bool.false_or, Bool.true_or, Bool.or_false, Bool.or_true, Bool.or_self, tb_X8_wipe, p_X8_wipe, f_X8_wipe, sS_154 hT]
  repeat' (first | exact True.intro | with_reducible assumption | with_reducible refine And.intro ?_ ?_ | intro _)
  all_goals first
    | omega
    | assumption
    | rfl
    | (split <;> omega)
    | skip
theorem met_X8_wipe (l : Launch) : sm_Met l yX8_wipe cX8_wipe 2 (some .int) 0 0 0 p_X8_wipe f_X8_wipe := sm_met 1 (Or.inr (Or.inl ⟨rfl, rfl⟩)) (by decide +kernel) (sn_X8_wipe l) ok_X8_wipe
/-- the characters of a number: how many, and what is left of it -/
def xB (r : Int64) : Int := (r &&& 255).toInt32.toInt
def xS (r : Int64) : Int64 := (r.toUInt64 >>> ((Int32.ofInt 8).toInt64.toUInt64 &&& Int64.toUInt64 63)).toInt64
/-- -1: a wrong character -/
def xC : Nat → Int64 → Int → Int × Int64
  | 0, r, k => (k, r)
  | n + 1, r, k => if lg_cmp (r &&& 255) 0 = 0 then (k, r) else (if 33 ≤ xB r ∧ xB r ≤ 126 then xC n (xS r) (k + 1) else (-1, r))
theorem xC_s (n : Nat) (r : Int64) (k : Int) : xC (n + 1) r k = if lg_cmp (r &&& 255) 0 = 0 then (k, r) else (if 33 ≤ xB r ∧ xB r ≤ 126 then xC n (xS r) (k + 1) else (-1, r)) := rfl
def xMany (c : Int64) : Int := if (xC 8 c 0).1 ≤ 0 then 0 else (if lg_cmp (xC 8 c 0).2 0 = 0 then (xC 8 c 0).1 else 0)
theorem xC_b : ∀ (n : Nat) (r : Int64) (k : Int), 0 ≤ k → -1 ≤ (xC n r k).1 ∧ (xC n r k).1 ≤ k + n
  | 0, r, k, h => ⟨by show -1 ≤ k; omega, by show k ≤ k + ((0 : Nat) : Int); omega⟩
  | n + 1, r, k, h => by
    rw [xC_s]
    split
    · exact ⟨by show -1 ≤ k; omega, by show k ≤ _; omega⟩
    · split
      · have := xC_b n (xS r) (k + 1) (by omega)
        omega
      · exact ⟨by show (-1 : Int) ≤ -1; omega, by show (-1 : Int) ≤ _; omega⟩
/-- the k-th of n characters -/
def xAt (c : Int64) (n k : Int) : Int := ((c >>> ((Int32.ofInt (8 * (n - 1 - k))).toInt64 &&& 63)) &&& 255).toInt32.toInt
def mPut1 (c : Int64) (n b k : Int) (w : sm_W) : sm_W := wsI w 173 (b + k) (xAt c n k)
def mPut (w : sm_W) (c : Int64) : sm_W := wsI (itI (mPut1 c (xMany c) (wI w 154 24)) w (xMany c)) 154 24 (wI w 154 24 + xMany c)
theorem mPutL (c : Int64) (n b : Int) (w : sm_W) (i : Int) (hi : 0 ≤ i) : (∀ a, a ≠ 173 → wI (itI (mPut1 c n b) w i) a = wI w a) ∧ (sT w → sT (itI (mPut1 c n b) w i)) :=
  itI_ind (f := mPut1 c n b) (fun _ r => (∀ a, a ≠ 173 → wI r a = wI w a) ∧ (sT w → sT r)) i ⟨fun _ _ => rfl, id⟩ (fun j r _ _ hr => ⟨fun a h => by unfold mPut1; rw [wIf_ne h, hr.1 a h], hr.2⟩) i hi (Int.le_refl _)
def p_X8_put : List sm_V → sm_W → Prop
  | [.inr (.inl m), .inr (.inr c)], w => m = 154 ∧ sT w ∧ 0 ≤ wI w 154 24 ∧ wI w 154 24 ≤ 80
  | _, _ => False
def f_X8_put : sm_F
  | [.inr (.inl m), .inr (.inr c)], w => (some (.inl (if xMany c = 0 then -2 else (if 80 < wI w 154 24 + xMany c then -4 else wI w 154 24 + xMany c))), (if xMany c = 0 then w else (if 80 < wI w 154 24 + xMany c then w else mPut w c)))
  | _, w => (none, w)
def tb_X8_put : List (Nat × List sm_O) := [(0, [oK 0, oIs 3, oJ 1, oJs 4, oFg 6, oGo 5]),
  (5, [oI 3, oK 8, oGe 55, oJ 4, oLK 255, oLand, oLK 0, oLcmp, oEq0 55, oJ 4, oLK 255, oLand, oL2i, oK 33, oK 126, oCs p_X8_in f_X8_in 0 0 3, oNe0 42, oK (-2), oIr]),
  (42, [oInc 3 1, oJ 4, oK 8, oLushr, oJs 4, oFg 6, oGo 5]),
  (55, [oI 3, oEq0 66, oJ 4, oLK 0, oLcmp, oEq0 69, oGo 66]),
  (66, [oK (-2), oIr]),
  (69, [oA 0, oGi 8 30 24, oI 3, oAdd, oK 80, oLe 83, oK (-4), oIr]),
  (83, [oK 0, oIs 6, oGo 86]),
  (86, [oI 6, oI 3, oGe 126, oA 0, oGr 8 30 23, oA 0, oGi 8 30 24, oI 6, oAdd, oJ 1, oK 8, oI 3, oK 1, oSub, oI 6, oSub, oMul, oLshr, oLK 255, oLand, oL2i, oIst, oInc 6 1, oGo 86]),
  (126, [oA 0, oDup, oGi 8 30 24, oI 3, oAdd, oPi 8 30 24, oA 0, oGi 8 30 24, oIr])]
set_option maxRecDepth 100000 in
theorem sb_X8_put_0 (l : Launch) : sm_SndB l RX8 "put" cX8_put 7 1 1 0 [oK 0, oIs 3, oJ 1, oJs 4, oFg 6, oGo 5] := sb_cons (sd_iconst (by decide +kernel : decode cX8_put 0 = .ok (.iconst 0, 1)) ⟨by decide, by decide⟩) (sb_cons (sd_istore_n (by decide +kernel : decode cX8_put 1 = .ok (.istore_n 3, 1)) rfl) (sb_cons (sd_lload_n (by decide +kernel : decode cX8_put 2 = .ok (.lload_n 1, 1)) rfl) (sb_cons (sd_lstore (by decide +kernel : decode cX8_put 3 = .ok (.lstore 4, 2))) (sb_cons (sd_fg) (sb_cons (sd_fall (x := 0)) sb_nil)))))
set_option maxRecDepth 100000 in
theorem sb_X8_put_5 (l : Launch) : sm_SndB l RX8 "put" cX8_put 7 1 1 5 [oI 3, oK 8, oGe 55, oJ 4, oLK 255, oLand, oLK 0, oLcmp, oEq0 55, oJ 4, oLK 255, oLand, oL2i, oK 33, oK 126, oCs p_X8_in f_X8_in 0 0 3, oNe0 42, oK (-2), oIr] := sb_cons (sd_iload_n (by decide +kernel : decode cX8_put 5 = .ok (.iload_n 3, 1)) rfl) (sb_cons (sd_bipush (by decide +kernel : decode cX8_put 6 = .ok (.bipush 8, 2)) ⟨by decide, by decide⟩ (by decide)) (sb_cons (sd_ge (by decide +kernel : decode cX8_put 8 = .ok (.if_icmp .ge 47, 3)) (by decide)) (sb_cons (sd_lload (by decide +kernel : decode cX8_put 11 = .ok (.lload 4, 2))) (sb_cons (sd_ldc2 wm_1014 (by decide +kernel : decode cX8_put 13 = .ok (.ldc2_w 268, 3))) (sb_cons (sd_land (by decide +kernel : decode cX8_put 16 = .ok (.land, 1))) (sb_cons (sd_lconst (by decide +kernel : decode cX8_put 17 = .ok (.lconst 0, 1)) rfl) (sb_cons (sd_lcmp (by decide +kernel : decode cX8_put 18 = .ok (.lcmp, 1))) (sb_cons (sd_eq0 (by decide +kernel : decode cX8_put 19 = .ok (.ifCond .eq 36, 3)) (by decide)) (sb_cons (sd_lload (by decide +kernel : decode cX8_put 22 = .ok (.lload 4, 2))) (sb_cons (sd_ldc2 wm_1014 (by decide +kernel : decode cX8_put 24 = .ok (.ldc2_w 268, 3))) (sb_cons (sd_land (by decide +kernel : decode cX8_put 27 = .ok (.land, 1))) (sb_cons (sd_l2i (by decide +kernel : decode cX8_put 28 = .ok (.l2i, 1))) (sb_cons (sd_bipush (by decide +kernel : decode cX8_put 29 = .ok (.bipush 33, 2)) ⟨by decide, by decide⟩ (by decide)) (sb_cons (sd_bipush (by decide +kernel : decode cX8_put 31 = .ok (.bipush 126, 2)) ⟨by decide, by decide⟩ (by decide)) (sb_cons (sd_calls (n := 3) (met_X8_in l) (by decide) (by decide) wm_710 wm_708 wm_10 ⟨by decide +kernel, by decide +kernel, by decide +kernel⟩ wm_709 (by decide +kernel : decode cX8_put 33 = .ok (.invokestatic 74, 3))) (sb_cons (sd_ne0 (by decide +kernel : decode cX8_put 36 = .ok (.ifCond .ne 6, 3)) (by decide)) (sb_cons (sd_bipush (by decide +kernel : decode cX8_put 39 = .ok (.bipush (-2), 2)) ⟨by decide, by decide⟩ (by decide)) (sb_cons (sd_ireturn (x := 0) rfl (by decide +kernel : decode cX8_put 41 = .ok (.ireturn, 1))) sb_nil))))))))))))))))))
set_option maxRecDepth 100000 in
theorem sb_X8_put_42 (l : Launch) : sm_SndB l RX8 "put" cX8_put 7 1 1 42 [oInc 3 1, oJ 4, oK 8, oLushr, oJs 4, oFg 6, oGo 5] := sb_cons (sd_iinc (by decide +kernel : decode cX8_put 42 = .ok (.iinc 3 1, 3))) (sb_cons (sd_lload (by decide +kernel : decode cX8_put 45 = .ok (.lload 4, 2))) (sb_cons (sd_bipush (by decide +kernel : decode cX8_put 47 = .ok (.bipush 8, 2)) ⟨by decide, by decide⟩ (by decide)) (sb_cons (sd_lushr (by decide +kernel : decode cX8_put 49 = .ok (.lushr, 1))) (sb_cons (sd_lstore (by decide +kernel : decode cX8_put 50 = .ok (.lstore 4, 2))) (sb_cons (sd_fg) (sb_cons (sd_goto (x := 0) (by decide +kernel : decode cX8_put 52 = .ok (.goto (-47), 3)) (by decide)) sb_nil))))))
set_option maxRecDepth 100000 in
theorem sb_X8_put_55 (l : Launch) : sm_SndB l RX8 "put" cX8_put 7 1 1 55 [oI 3, oEq0 66, oJ 4, oLK 0, oLcmp, oEq0 69, oGo 66] := sb_cons (sd_iload_n (by decide +kernel : decode cX8_put 55 = .ok (.iload_n 3, 1)) rfl) (sb_cons (sd_eq0 (by decide +kernel : decode cX8_put 56 = .ok (.ifCond .eq 10, 3)) (by decide)) (sb_cons (sd_lload (by decide +kernel : decode cX8_put 59 = .ok (.lload 4, 2))) (sb_cons (sd_lconst (by decide +kernel : decode cX8_put 61 = .ok (.lconst 0, 1)) rfl) (sb_cons (sd_lcmp (by decide +kernel : decode cX8_put 62 = .ok (.lcmp, 1))) (sb_cons (sd_eq0 (by decide +kernel : decode cX8_put 63 = .ok (.ifCond .eq 6, 3)) (by decide)) (sb_cons (sd_fall (x := 0)) sb_nil))))))
set_option maxRecDepth 100000 in
theorem sb_X8_put_66 (l : Launch) : sm_SndB l RX8 "put" cX8_put 7 1 1 66 [oK (-2), oIr] := sb_cons (sd_bipush (by decide +kernel : decode cX8_put 66 = .ok (.bipush (-2), 2)) ⟨by decide, by decide⟩ (by decide)) (sb_cons (sd_ireturn (x := 0) rfl (by decide +kernel : decode cX8_put 68 = .ok (.ireturn, 1))) sb_nil)
set_option maxRecDepth 100000 in
theorem sb_X8_put_69 (l : Launch) : sm_SndB l RX8 "put" cX8_put 7 1 1 69 [oA 0, oGi 8 30 24, oI 3, oAdd, oK 80, oLe 83, oK (-4), oIr] := sb_cons (sd_aload_n (by decide +kernel : decode cX8_put 69 = .ok (.aload_n 0, 1)) rfl) (sb_cons (sd_geti (k := 24) kl_8 (by decide) rfl wm_697 (by decide +kernel : decode cX8_put 70 = .ok (.getfield 220, 3))) (sb_cons (sd_iload_n (by decide +kernel : decode cX8_put 73 = .ok (.iload_n 3, 1)) rfl) (sb_cons (sd_iadd (by decide +kernel : decode cX8_put 74 = .ok (.iadd, 1))) (sb_cons (sd_bipush (by decide +kernel : decode cX8_put 75 = .ok (.bipush 80, 2)) ⟨by decide, by decide⟩ (by decide)) (sb_cons (sd_le (by decide +kernel : decode cX8_put 77 = .ok (.if_icmp .le 6, 3)) (by decide)) (sb_cons (sd_bipush (by decide +kernel : decode cX8_put 80 = .ok (.bipush (-4), 2)) ⟨by decide, by decide⟩ (by decide)) (sb_cons (sd_ireturn (x := 0) rfl (by decide +kernel : decode cX8_put 82 = .ok (.ireturn, 1))) sb_nil)))))))
set_option maxRecDepth 100000 in
theorem sb_X8_put_83 (l : Launch) : sm_SndB l RX8 "put" cX8_put 7 1 1 83 [oK 0, oIs 6, oGo 86] := sb_cons (sd_iconst (by decide +kernel : decode cX8_put 83 = .ok (.iconst 0, 1)) ⟨by decide, by decide⟩) (sb_cons (sd_istore (by decide +kernel : decode cX8_put 84 = .ok (.istore 6, 2))) (sb_cons (sd_fall (x := 0)) sb_nil))
set_option maxRecDepth 100000 in
theorem sb_X8_put_86 (l : Launch) : sm_SndB l RX8 "put" cX8_put 7 1 1 86 [oI 6, oI 3, oGe 126, oA 0, oGr 8 30 23, oA 0, oGi 8 30 24, oI 6, oAdd, oJ 1, oK 8, oI 3, oK 1, oSub, oI 6, oSub, oMul, oLshr, oLK 255, oLand, oL2i, oIst, oInc 6 1, oGo 86] := sb_cons (sd_iload (by decide +kernel : decode cX8_put 86 = .ok (.iload 6, 2))) (sb_cons (sd_iload_n (by decide +kernel : decode cX8_put 88 = .ok (.iload_n 3, 1)) rfl) (sb_cons (sd_ge (by decide +kernel : decode cX8_put 89 = .ok (.if_icmp .ge 37, 3)) (by decide)) (sb_cons (sd_aload_n (by decide +kernel : decode cX8_put 92 = .ok (.aload_n 0, 1)) rfl) (sb_cons (sd_getr (k := 23) kl_8 (by decide) rfl wm_696 (by decide +kernel : decode cX8_put 93 = .ok (.getfield 65, 3))) (sb_cons (sd_aload_n (by decide +kernel : decode cX8_put 96 = .ok (.aload_n 0, 1)) rfl) (sb_cons (sd_geti (k := 24) kl_8 (by decide) rfl wm_697 (by decide +kernel : decode cX8_put 97 = .ok (.getfield 220, 3))) (sb_cons (sd_iload (by decide +kernel : decode cX8_put 100 = .ok (.iload 6, 2))) (sb_cons (sd_iadd (by decide +kernel : decode cX8_put 102 = .ok (.iadd, 1))) (sb_cons (sd_lload_n (by decide +kernel : decode cX8_put 103 = .ok (.lload_n 1, 1)) rfl) (sb_cons (sd_bipush (by decide +kernel : decode cX8_put 104 = .ok (.bipush 8, 2)) ⟨by decide, by decide⟩ (by decide)) (sb_cons (sd_iload_n (by decide +kernel : decode cX8_put 106 = .ok (.iload_n 3, 1)) rfl) (sb_cons (sd_iconst (by decide +kernel : decode cX8_put 107 = .ok (.iconst 1, 1)) ⟨by decide, by decide⟩) (sb_cons (sd_isub (by decide +kernel : decode cX8_put 108 = .ok (.isub, 1))) (sb_cons (sd_iload (by decide +kernel : decode cX8_put 109 = .ok (.iload 6, 2))) (sb_cons (sd_isub (by decide +kernel : decode cX8_put 111 = .ok (.isub, 1))) (sb_cons (sd_imul (by decide +kernel : decode cX8_put 112 = .ok (.imul, 1))) (sb_cons (sd_lshr (by decide +kernel : decode cX8_put 113 = .ok (.lshr, 1))) (sb_cons (sd_ldc2 wm_1014 (by decide +kernel : decode cX8_put 114 = .ok (.ldc2_w 268, 3))) (sb_cons (sd_land (by decide +kernel : decode cX8_put 117 = .ok (.land, 1))) (sb_cons (sd_l2i (by decide +kernel : decode cX8_put 118 = .ok (.l2i, 1))) (sb_cons (sd_iastore (by decide +kernel : decode cX8_put 119 = .ok (.iastore, 1))) (sb_cons (sd_iinc (by decide +kernel : decode cX8_put 120 = .ok (.iinc 6 1, 3))) (sb_cons (sd_goto (x := 0) (by decide +kernel : decode cX8_put 123 = .ok (.goto (-37), 3)) (by decide)) sb_nil)))))))))))))))))))))))
set_option maxRecDepth 100000 in
theorem sb_X8_put_126 (l : Launch) : sm_SndB l RX8 "put" cX8_put 7 1 1 126 [oA 0, oDup, oGi 8 30 24, oI 3, oAdd, oPi 8 30 24, oA 0, oGi 8 30 24, oIr] := sb_cons (sd_aload_n (by decide +kernel : decode cX8_put 126 = .ok (.aload_n 0, 1)) rfl) (sb_cons (sd_dup (by decide +kernel : decode cX8_put 127 = .ok (.dup, 1))) (sb_cons (sd_geti (k := 24) kl_8 (by decide) rfl wm_697 (by decide +kernel : decode cX8_put 128 = .ok (.getfield 220, 3))) (sb_cons (sd_iload_n (by decide +kernel : decode cX8_put 131 = .ok (.iload_n 3, 1)) rfl) (sb_cons (sd_iadd (by decide +kernel : decode cX8_put 132 = .ok (.iadd, 1))) (sb_cons (sd_puti (k := 24) kl_8 (by decide) rfl (Or.inl rfl) wm_697 (by decide +kernel : decode cX8_put 133 = .ok (.putfield 220, 3))) (sb_cons (sd_aload_n (by decide +kernel : decode cX8_put 136 = .ok (.aload_n 0, 1)) rfl) (sb_cons (sd_geti (k := 24) kl_8 (by decide) rfl wm_697 (by decide +kernel : decode cX8_put 137 = .ok (.getfield 220, 3))) (sb_cons (sd_ireturn (x := 0) rfl (by decide +kernel : decode cX8_put 140 = .ok (.ireturn, 1))) sb_nil))))))))
theorem sn_X8_put (l : Launch) : sm_SndT l RX8 "put" cX8_put 7 1 1 tb_X8_put := st_cons (sb_X8_put_0 l) (st_cons (sb_X8_put_5 l) (st_cons (sb_X8_put_42 l) (st_cons (sb_X8_put_55 l) (st_cons (sb_X8_put_66 l) (st_cons (sb_X8_put_69 l) (st_cons (sb_X8_put_83 l) (st_cons (sb_X8_put_86 l) (st_cons (sb_X8_put_126 l) (st_nil)))))))))
set_option maxRecDepth 100000 in
set_option maxHeartbeats 4000000 in
theorem ok_X8_put : sm_Ok tb_X8_put 7 0 0 p_X8_put f_X8_put := by
  intro as w hp ha hw
  match as, hp with
  | [.inr (.inl m), .inr (.inr c)], hp =>
  refine ⟨Nat.le_of_ble_eq_true rfl, fun Z hZ => ?_⟩
  obtain ⟨rfl, hT, h0, h1⟩ := hp
  have hb := xC_b 8 c 0 (Int.le_refl _)
  have hcmp : ∀ x : Int64, (lg_cmp x 0).toInt = 0 ↔ lg_cmp x 0 = 0 := fun x => ⟨fun h => by
    rw [← i3_self (lg_cmp x 0), h]
    rfl, fun h => by rw [h]; rfl⟩
  have hl := sm_loopM (S := Nat × Int64 × Int) Z 5 (fun s => s.1) (fun s => 0 ≤ s.2.2 ∧ s.2.2 + s.1 = 8 ∧ xC s.1 s.2.1 s.2.2 = xC 8 c 0) (fun s => [some (.inr (.inl 154)), some (.inr (.inr c)), none, some (.inl s.2.2), some (.inr (.inr s.2.1)), none, none]) (fun s => w) 0 0 (fun s hI ih => by
    obtain ⟨n, r, k⟩ := s
    dsimp only at hI ih ⊢
    obtain ⟨k0, k8, he⟩ := hI
    have fin : xC 8 c 0 = (k, r) → Z 55 [some (.inr (.inl 154)), some (.inr (.inr c)), none, some (.inl k), some (.inr (.inr r)), none, none] [] w 0 0 := by
      intro e
      have e1 : (xC 8 c 0).1 = k := by rw [e]
      have e2 : (xC 8 c 0).2 = r := by rw [e]
      have hc := hcmp r
      by_cases z1 : k = 0
      · have hm : xMany c = 0 := by unfold xMany; rw [e1, if_pos (by omega)]
        refine hZ (fun u => Nat.beq u 5 || Nat.beq u 86) 14 55 _ _ _ _ _ ?_
        simp only [sm_run, sm_blk, sm_get, sm_ent, sm_ents, sm_wds, sm_wd, sm_nl, sm_pop, sm_back, sm_cases, oK, oLK, oL, oI, oA, oJ, oIs, oAs, oJs, oInc, oAdd, oSub, oMul, oDiv, oRem, oNeg, oAnd, oAndB, oOr, oShl, oI2c, oI2l, oL2i, oLand, oLor, oLshl, oLshr, oLushr, oLcmp, oDup, oDup2, oPop, oGo, oFg, oEq, oNe, oLt, oGe, oGt, oLe, oEq0, oNe0, oLt0, oGe0, oGt0, oLe0, oSw, oGi, oGr, oPi, oPz, oPr, oLen, oIl, oZl, oCl, oRl, oIst, oZst, oCst, oRst, oCopy, oNew, oNa, oNa2, oObj, oCs, oCv, oCi, oIr, oZr, oVr, Nat.beq, List.getElem?_cons_zero, List.getElem?_cons_succ, List.set_cons_zero, List.set_cons_succ, List.length_cons, List.length_nil, List.nil_append, List.cons_append, List.append_nil, List.replicate_succ, List.replicate_zero, Nat.reduceAdd, Nat.reduceSub, Nat.reduceLT, Nat.reduceLeDiff, Nat.reduceBEq, true_and, and_true, Nat.zero_add, Nat.add_zero, Nat.le_refl, Option.some.injEq, exists_eq_left', true_or, or_true, or_false, false_or, reduceCtorEq, Prod.mk.injEq, Sum.inl.injEq, and_self, false_and, and_false, not_true_eq_false, not_false_eq_true, false_implies, true_implies, sm_r, Int.add_zero, Int.zero_add, wI_wsI, wS_wsI, wR_wsI, wI_wCp, wS_wCp, wR_wCp, Nat.reduceEqDiff, reduceIte, sT_iff, sT_iffC, wIf_ne, ne_eq, Bool.false_or, Bool.true_or, Bool.or_false, Bool.or_true, Bool.or_self, tb_X8_put, p_X8_in, f_X8_in, p_X8_put, f_X8_put, sS_154 hT, hm, z1, if_pos (show (0 : Int) = 0 from rfl)]
        repeat' (first | exact True.intro | with_reducible assumption | with_reducible refine And.intro ?_ ?_ | intro _)
        all_goals first
          | omega
          | assumption
          | rfl
          | (split <;> omega)
          | (have k9 := ih (by omega)
             (repeat' split at k9) <;> first | exact k9 | omega)
          | (have k9 := ih2 (by omega)
             (repeat' split at k9) <;> first | exact k9 | omega)
          | exact he (by omega)
          | (congr 1; omega)
          | (rw [if_pos (by omega)] at he; exact he)
          | exact hD1 (by omega)
          | exact hD2 (by omega)
          | skip
      · by_cases z2 : lg_cmp r 0 = 0
        · have z3 := hc.mpr z2
          have hm : xMany c = k := by unfold xMany; rw [e1, e2, if_neg (by omega), if_pos z2]
          by_cases z4 : 80 < wI w 154 24 + k
          · skip
            refine hZ (fun u => Nat.beq u 5 || Nat.beq u 86) 14 55 _ _ _ _ _ ?_
            simp only [sm_run, sm_blk, sm_get, sm_ent, sm_ents, sm_wds, sm_wd, sm_nl, sm_pop, sm_back, sm_cases, oK, oLK, oL, oI, oA, oJ, oIs, oAs, oJs, oInc, oAdd, oSub, oMul, oDiv, oRem, oNeg, oAnd, oAndB, oOr, oShl, oI2c, oI2l, oL2i, oLand, oLor, oLshl, oLshr, oLushr, oLcmp, oDup, oDup2, oPop, oGo, oFg, oEq, oNe, oLt, oGe, oGt, oLe, oEq0, oNe0, oLt0, oGe0, oGt0, oLe0, oSw, oGi, oGr, oPi, oPz, oPr, oLen, oIl, oZl, oCl, oRl, oIst, oZst, oCst, oRst, oCopy, oNew, oNa, oNa2, oObj, oCs, oCv, oCi, oIr, oZr, oVr, Nat.beq, List.getElem?_cons_zero, List.getElem?_cons_succ, List.set_cons_zero, List.set_cons_succ, List.length_cons, List.length_nil, List.nil_append, List.cons_append, List.append_nil, List.replicate_succ, List.replicate_zero, Nat.reduceAdd, Nat.reduceSub, Nat.reduceLT, Nat.reduceLeDiff, Nat.reduceBEq, true_and, and_true, Nat.zero_add, Nat.add_zero, Nat.le_refl, Option.some.injEq, exists_eq_left', true_or, or_true, or_false, false_or, reduceCtorEq, Prod.mk.injEq, Sum.inl.injEq, and_self, false_and, and_false, not_true_eq_false, not_false_eq_true, false_implies, true_implies, sm_r, Int.add_zero, Int.zero_add, wI_wsI, wS_wsI, wR_wsI, wI_wCp, wS_wCp, wR_wCp, Nat.reduceEqDiff, reduceIte, sT_iff, sT_iffC, wIf_ne, ne_eq, Bool.false_or, Bool.true_or, Bool.or_false, Bool.or_true, Bool.or_self, tb_X8_put, p_X8_in, f_X8_in, p_X8_put, f_X8_put, sS_154 hT, hm, z3, if_neg z1, if_pos z4]
            repeat' (first | exact True.intro | with_reducible assumption | with_reducible refine And.intro ?_ ?_ | intro _)
            all_goals first
              | omega
              | assumption
              | rfl
              | (split <;> omega)
              | (have k9 := ih (by omega)
                 (repeat' split at k9) <;> first | exact k9 | omega)
              | (have k9 := ih2 (by omega)
                 (repeat' split at k9) <;> first | exact k9 | omega)
              | exact he (by omega)
              | (congr 1; omega)
              | (rw [if_pos (by omega)] at he; exact he)
              | exact hD1 (by omega)
              | exact hD2 (by omega)
              | skip
          · have l2 := sm_loopI Z 86 0 k (fun i => [some (.inr (.inl 154)), some (.inr (.inr c)), none, some (.inl k), some (.inr (.inr r)), none, some (.inl i)]) (fun i => itI (mPut1 c k (wI w 154 24)) w i) 0 0 k0 (fun i g0 g1 ih => by
              obtain ⟨j1, j2⟩ := mPutL c k (wI w 154 24) w i g0
              have hT := j2 hT
              have j3 := congrFun (j1 154 (by decide)) 24
              rw [itI_s _ _ g0] at ih
              have he : i = k → wsI (itI (mPut1 c k (wI w 154 24)) w i) 154 24 (wI w 154 24 + k) = mPut w c := fun e => by unfold mPut; rw [hm, e]
              generalize itI (mPut1 c k (wI w 154 24)) w i = v at *
              unfold mPut1 xAt at ih
              refine hZ (fun u => Nat.beq u 5 || Nat.beq u 86) 14 86 _ _ _ _ _ ?_
              simp only [sm_run, sm_blk, sm_get, sm_ent, sm_ents, sm_wds, sm_wd, sm_nl, sm_pop, sm_back, sm_cases, oK, oLK, oL, oI, oA, oJ, oIs, oAs, oJs, oInc, oAdd, oSub, oMul, oDiv, oRem, oNeg, oAnd, oAndB, oOr, oShl, oI2c, oI2l, oL2i, oLand, oLor, oLshl, oLshr, oLushr, oLcmp, oDup, oDup2, oPop, oGo, oFg, oEq, oNe, oLt, oGe, oGt, oLe, oEq0, oNe0, oLt0, oGe0, oGt0, oLe0, oSw, oGi, oGr, oPi, oPz, oPr, oLen, oIl, oZl, oCl, oRl, oIst, oZst, oCst, oRst, oCopy, oNew, oNa, oNa2, oObj, oCs, oCv, oCi, oIr, oZr, oVr, Nat.beq, List.getElem?_cons_zero, List.getElem?_cons_succ, List.set_cons_zero, List.set_cons_succ, List.length_cons, List.length_nil, List.nil_append, List.cons_append, List.append_nil, List.replicate_succ, List.replicate_zero, Nat.reduceAdd, Nat.reduceSub, Nat.reduceLT, Nat.reduceLeDiff, Nat.reduceBEq, true_and, and_true, Nat.zero_add, Nat.add_zero, Nat.le_refl, Option.some.injEq, exists_eq_left', true_or, or_true, or_false, false_or, reduceCtorEq, Prod.mk.injEq, Sum.inl.injEq, and_self, false_and, and_false, not_true_eq_false, not_false_eq_true, false_implies, true_implies, sm_r, Int.add_zero, Int.zero_add, wI_wsI, wS_wsI, wR_wsI, wI_wCp, wS_wCp, wR_wCp, Nat.reduceEqDiff, reduceIte, sT_iff, sT_iffC, wIf_ne, ne_eq, Bool.false_or, Bool.true_or, Bool.or_false, Bool.or_true, Bool.or_self, tb_X8_put, p_X8_in, f_X8_in, p_X8_put, f_X8_put, sS_154 hT, sR_154_23 hT, sS_173 hT, hT, j3, hm, if_neg z1, if_neg z4, sT_iff, Int.reduceEq]
              repeat' (first | exact True.intro | with_reducible assumption | with_reducible refine And.intro ?_ ?_ | intro _)
              all_goals first
                | omega
                | assumption
                | rfl
                | (split <;> omega)
                | (have k9 := ih (by omega)
                   (repeat' split at k9) <;> first | exact k9 | omega)
                | (have k9 := ih2 (by omega)
                   (repeat' split at k9) <;> first | exact k9 | omega)
                | exact he (by omega)
                | (congr 1; omega)
                | (rw [if_pos (by omega)] at he; exact he)
                | exact hD1 (by omega)
                | exact hD2 (by omega)
                | grind
                | skip
              )
            rw [itI_0] at l2
            refine hZ (fun u => Nat.beq u 5 || Nat.beq u 86) 14 55 _ _ _ _ _ ?_
            simp only [sm_run, sm_blk, sm_get, sm_ent, sm_ents, sm_wds, sm_wd, sm_nl, sm_pop, sm_back, sm_cases, oK, oLK, oL, oI, oA, oJ, oIs, oAs, oJs, oInc, oAdd, oSub, oMul, oDiv, oRem, oNeg, oAnd, oAndB, oOr, oShl, oI2c, oI2l, oL2i, oLand, oLor, oLshl, oLshr, oLushr, oLcmp, oDup, oDup2, oPop, oGo, oFg, oEq, oNe, oLt, oGe, oGt, oLe, oEq0, oNe0, oLt0, oGe0, oGt0, oLe0, oSw, oGi, oGr, oPi, oPz, oPr, oLen, oIl, oZl, oCl, oRl, oIst, oZst, oCst, oRst, oCopy, oNew, oNa, oNa2, oObj, oCs, oCv, oCi, oIr, oZr, oVr, Nat.beq, List.getElem?_cons_zero, List.getElem?_cons_succ, List.set_cons_zero, List.set_cons_succ, List.length_cons, List.length_nil, List.nil_append, List.cons_append, List.append_nil, List.replicate_succ, List.replicate_zero, Nat.reduceAdd, Nat.reduceSub, Nat.reduceLT, Nat.reduceLeDiff, Nat.reduceBEq, true_and, and_true, Nat.zero_add, Nat.add_zero, Nat.le_refl, Option.some.injEq, exists_eq_left', true_or, or_true, or_false, false_or, reduceCtorEq, Prod.mk.injEq, Sum.inl.injEq, and_self, false_and, and_false, not_true_eq_false, not_false_eq_true, false_implies, true_implies, sm_r, Int.add_zero, Int.zero_add, wI_wsI, wS_wsI, wR_wsI, wI_wCp, wS_wCp, wR_wCp, Nat.reduceEqDiff, reduceIte, sT_iff, sT_iffC, wIf_ne, ne_eq, Bool.false_or, Bool.true_or, Bool.or_false, Bool.or_true, Bool.or_self, tb_X8_put, p_X8_in, f_X8_in, p_X8_put, f_X8_put, sS_154 hT, z3]
            repeat' (first | exact True.intro | with_reducible assumption | with_reducible refine And.intro ?_ ?_ | intro _)
            all_goals first
              | omega
              | assumption
              | rfl
              | (split <;> omega)
              | (have k9 := ih (by omega)
                 (repeat' split at k9) <;> first | exact k9 | omega)
              | (have k9 := ih2 (by omega)
                 (repeat' split at k9) <;> first | exact k9 | omega)
              | exact he (by omega)
              | (congr 1; omega)
              | (rw [if_pos (by omega)] at he; exact he)
              | exact hD1 (by omega)
              | exact hD2 (by omega)
              | skip
        · have z3 : ¬ (lg_cmp r 0).toInt = 0 := fun h => z2 (hc.mp h)
          have hm : xMany c = 0 := by unfold xMany; rw [e1, e2, if_neg (by omega), if_neg z2]
          refine hZ (fun u => Nat.beq u 5 || Nat.beq u 86) 14 55 _ _ _ _ _ ?_
          simp only [sm_run, sm_blk, sm_get, sm_ent, sm_ents, sm_wds, sm_wd, sm_nl, sm_pop, sm_back, sm_cases, oK, oLK, oL, oI, oA, oJ, oIs, oAs, oJs, oInc, oAdd, oSub, oMul, oDiv, oRem, oNeg, oAnd, oAndB, oOr, oShl, oI2c, oI2l, oL2i, oLand, oLor, oLshl, oLshr, oLushr, oLcmp, oDup, oDup2, oPop, oGo, oFg, oEq, oNe, oLt, oGe, oGt, oLe, oEq0, oNe0, oLt0, oGe0, oGt0, oLe0, oSw, oGi, oGr, oPi, oPz, oPr, oLen, oIl, oZl, oCl, oRl, oIst, oZst, oCst, oRst, oCopy, oNew, oNa, oNa2, oObj, oCs, oCv, oCi, oIr, oZr, oVr, Nat.beq, List.getElem?_cons_zero, List.getElem?_cons_succ, List.set_cons_zero, List.set_cons_succ, List.length_cons, List.length_nil, List.nil_append, List.cons_append, List.append_nil, List.replicate_succ, List.replicate_zero, Nat.reduceAdd, Nat.reduceSub, Nat.reduceLT, Nat.reduceLeDiff, Nat.reduceBEq, true_and, and_true, Nat.zero_add, Nat.add_zero, Nat.le_refl, Option.some.injEq, exists_eq_left', true_or, or_true, or_false, false_or, reduceCtorEq, Prod.mk.injEq, Sum.inl.injEq, and_self, false_and, and_false, not_true_eq_false, not_false_eq_true, false_implies, true_implies, sm_r, Int.add_zero, Int.zero_add, wI_wsI, wS_wsI, wR_wsI, wI_wCp, wS_wCp, wR_wCp, Nat.reduceEqDiff, reduceIte, sT_iff, sT_iffC, wIf_ne, ne_eq, Bool.false_or, Bool.true_or, Bool.or_false, Bool.or_true, Bool.or_self, tb_X8_put, p_X8_in, f_X8_in, p_X8_put, f_X8_put, sS_154 hT, hm, z3, if_pos (show (0 : Int) = 0 from rfl)]
          repeat' (first | exact True.intro | with_reducible assumption | with_reducible refine And.intro ?_ ?_ | intro _)
          all_goals first
            | omega
            | assumption
            | rfl
            | (split <;> omega)
            | (have k9 := ih (by omega)
               (repeat' split at k9) <;> first | exact k9 | omega)
            | (have k9 := ih2 (by omega)
               (repeat' split at k9) <;> first | exact k9 | omega)
            | exact he (by omega)
            | (congr 1; omega)
            | (rw [if_pos (by omega)] at he; exact he)
            | exact hD1 (by omega)
            | exact hD2 (by omega)
            | skip
    cases n with
    | zero =>
      have he : (k, r) = xC 8 c 0 := he
      have ih2 : k = 8 → Z 55 [some (.inr (.inl 154)), some (.inr (.inr c)), none, some (.inl k), some (.inr (.inr r)), none, none] [] w 0 0 := fun _ => fin he.symm
      clear ih
      refine hZ (fun u => Nat.beq u 5 || Nat.beq u 86 || Nat.beq u 55) 14 5 _ _ _ _ _ ?_
      simp only [sm_run, sm_blk, sm_get, sm_ent, sm_ents, sm_wds, sm_wd, sm_nl, sm_pop, sm_back, sm_cases, oK, oLK, oL, oI, oA, oJ, oIs, oAs, oJs, oInc, oAdd, oSub, oMul, oDiv, oRem, oNeg, oAnd, oAndB, oOr, oShl, oI2c, oI2l, oL2i, oLand, oLor, oLshl, oLshr, oLushr, oLcmp, oDup, oDup2, oPop, oGo, oFg, oEq, oNe, oLt, oGe, oGt, oLe, oEq0, oNe0, oLt0, oGe0, oGt0, oLe0, oSw, oGi, oGr, oPi, oPz, oPr, oLen, oIl, oZl, oCl, oRl, oIst, oZst, oCst, oRst, oCopy, oNew, oNa, oNa2, oObj, oCs, oCv, oCi, oIr, oZr, oVr, Nat.beq, List.getElem?_cons_zero, List.getElem?_cons_succ, List.set_cons_zero, List.set_cons_succ, List.length_cons, List.length_nil, List.nil_append, List.cons_append, List.append_nil, List.replicate_succ, List.replicate_zero, Nat.reduceAdd, Nat.reduceSub, Nat.reduceLT, Nat.reduceLeDiff, Nat.reduceBEq, true_and, and_true, Nat.zero_add, Nat.add_zero, Nat.le_refl, Option.some.injEq, exists_eq_left', true_or, or_true, or_false, false_or, reduceCtorEq, Prod.mk.injEq, Sum.inl.injEq, and_self, false_and, and_false, not_true_eq_false, not_false_eq_true, false_implies, true_implies, sm_r, Int.add_zero, Int.zero_add, wI_wsI, wS_wsI, wR_wsI, wI_wCp, wS_wCp, wR_wCp, Nat.reduceEqDiff, reduceIte, sT_iff, sT_iffC, wIf_ne, ne_eq, Bool.false_or, Bool.true_or, Bool.or_false, Bool.or_true, Bool.or_self, tb_X8_put, p_X8_in, f_X8_in, p_X8_put, f_X8_put]
      repeat' (first | exact True.intro | with_reducible assumption | with_reducible refine And.intro ?_ ?_ | intro _)
      all_goals first
        | omega
        | assumption
        | rfl
        | (split <;> omega)
        | (have k9 := ih (by omega)
           (repeat' split at k9) <;> first | exact k9 | omega)
        | (have k9 := ih2 (by omega)
           (repeat' split at k9) <;> first | exact k9 | omega)
        | exact he (by omega)
        | (congr 1; omega)
        | (rw [if_pos (by omega)] at he; exact he)
        | exact hD1 (by omega)
        | exact hD2 (by omega)
        | skip
    | succ n =>
      rw [xC_s] at he
      have hc := hcmp (r &&& 255)
      by_cases c1 : lg_cmp (r &&& 255) 0 = 0
      · rw [if_pos c1] at he
        have z1 := hc.mpr c1
        have ih2 : k < 8 → Z 55 [some (.inr (.inl 154)), some (.inr (.inr c)), none, some (.inl k), some (.inr (.inr r)), none, none] [] w 0 0 := fun _ => fin he.symm
        clear ih
        refine hZ (fun u => Nat.beq u 5 || Nat.beq u 86 || Nat.beq u 55) 14 5 _ _ _ _ _ ?_
        simp only [sm_run, sm_blk, sm_get, sm_ent, sm_ents, sm_wds, sm_wd, sm_nl, sm_pop, sm_back, sm_cases, oK, oLK, oL, oI, oA, oJ, oIs, oAs, oJs, oInc, oAdd, oSub, oMul, oDiv, oRem, oNeg, oAnd, oAndB, oOr, oShl, oI2c, oI2l, oL2i, oLand, oLor, oLshl, oLshr, oLushr, oLcmp, oDup, oDup2, oPop, oGo, oFg, oEq, oNe, oLt, oGe, oGt, oLe, oEq0, oNe0, oLt0, oGe0, oGt0, oLe0, oSw, oGi, oGr, oPi, oPz, oPr, oLen, oIl, oZl, oCl, oRl, oIst, oZst, oCst, oRst, oCopy, oNew, oNa, oNa2, oObj, oCs, oCv, oCi, oIr, oZr, oVr, Nat.beq, List.getElem?_cons_zero, List.getElem?_cons_succ, List.set_cons_zero, List.set_cons_succ, List.length_cons, List.length_nil, List.nil_append, List.cons_append, List.append_nil, List.replicate_succ, List.replicate_zero, Nat.reduceAdd, Nat.reduceSub, Nat.reduceLT, Nat.reduceLeDiff, Nat.reduceBEq, true_and, and_true, Nat.zero_add, Nat.add_zero, Nat.le_refl, Option.some.injEq, exists_eq_left', true_or, or_true, or_false, false_or, reduceCtorEq, Prod.mk.injEq, Sum.inl.injEq, and_self, false_and, and_false, not_true_eq_false, not_false_eq_true, false_implies, true_implies, sm_r, Int.add_zero, Int.zero_add, wI_wsI, wS_wsI, wR_wsI, wI_wCp, wS_wCp, wR_wCp, Nat.reduceEqDiff, reduceIte, sT_iff, sT_iffC, wIf_ne, ne_eq, Bool.false_or, Bool.true_or, Bool.or_false, Bool.or_true, Bool.or_self, tb_X8_put, p_X8_in, f_X8_in, p_X8_put, f_X8_put, z1]
        repeat' (first | exact True.intro | with_reducible assumption | with_reducible refine And.intro ?_ ?_ | intro _)
        all_goals first
          | omega
          | assumption
          | rfl
          | (split <;> omega)
          | (have k9 := ih (by omega)
             (repeat' split at k9) <;> first | exact k9 | omega)
          | (have k9 := ih2 (by omega)
             (repeat' split at k9) <;> first | exact k9 | omega)
          | exact he (by omega)
          | (congr 1; omega)
          | (rw [if_pos (by omega)] at he; exact he)
          | exact hD1 (by omega)
          | exact hD2 (by omega)
          | skip
      · rw [if_neg c1] at he
        have z1 : ¬ (lg_cmp (r &&& 255) 0).toInt = 0 := fun h => c1 (hc.mp h)
        by_cases c2 : 33 ≤ xB r ∧ xB r ≤ 126
        · rw [if_pos c2] at he
          have ih := ih (n, xS r, k + 1) ⟨by dsimp only; omega, by dsimp only; omega, he⟩ (Nat.lt_succ_self n)
          have xb : (r &&& 255).toInt32.toInt = xB r := rfl
          have ih : k < 8 → Z 5 [some (.inr (.inl 154)), some (.inr (.inr c)), none, some (.inl (k + 1)), some (.inr (.inr (xS r))), none, none] [] w 0 0 := fun _ => ih
          unfold xS at ih
          clear fin
          refine hZ (fun u => Nat.beq u 5 || Nat.beq u 86 || Nat.beq u 55) 14 5 _ _ _ _ _ ?_
          simp only [sm_run, sm_blk, sm_get, sm_ent, sm_ents, sm_wds, sm_wd, sm_nl, sm_pop, sm_back, sm_cases, oK, oLK, oL, oI, oA, oJ, oIs, oAs, oJs, oInc, oAdd, oSub, oMul, oDiv, oRem, oNeg, oAnd, oAndB, oOr, oShl, oI2c, oI2l, oL2i, oLand, oLor, oLshl, oLshr, oLushr, oLcmp, oDup, oDup2, oPop, oGo, oFg, oEq, oNe, oLt, oGe, oGt, oLe, oEq0, oNe0, oLt0, oGe0, oGt0, oLe0, oSw, oGi, oGr, oPi, oPz, oPr, oLen, oIl, oZl, oCl, oRl, oIst, oZst, oCst, oRst, oCopy, oNew, oNa, oNa2, oObj, oCs, oCv, oCi, oIr, oZr, oVr, Nat.beq, List.getElem?_cons_zero, List.getElem?_cons_succ, List.set_cons_zero, List.set_cons_succ, List.length_cons, List.length_nil, List.nil_append, List.cons_append, List.append_nil, List.replicate_succ, List.replicate_zero, Nat.reduceAdd, Nat.reduceSub, Nat.reduceLT, Nat.reduceLeDiff, Nat.reduceBEq, true_and, and_true, Nat.zero_add, Nat.add_zero, Nat.le_refl, Option.some.injEq, exists_eq_left', true_or, or_true, or_false, false_or, reduceCtorEq, Prod.mk.injEq, Sum.inl.injEq, and_self, false_and, and_false, not_true_eq_false, not_false_eq_true, false_implies, true_implies, sm_r, Int.add_zero, Int.zero_add, wI_wsI, wS_wsI, wR_wsI, wI_wCp, wS_wCp, wR_wCp, Nat.reduceEqDiff, reduceIte, sT_iff, sT_iffC, wIf_ne, ne_eq, Bool.false_or, Bool.true_or, Bool.or_false, Bool.or_true, Bool.or_self, tb_X8_put, p_X8_in, f_X8_in, p_X8_put, f_X8_put, z1, xb, b01, if_pos c2]
          repeat' (first | exact True.intro | with_reducible assumption | with_reducible refine And.intro ?_ ?_ | intro _)
          all_goals first
            | omega
            | assumption
            | rfl
            | (split <;> omega)
            | (have k9 := ih (by omega)
               (repeat' split at k9) <;> first | exact k9 | omega)
            | (have k9 := ih2 (by omega)
               (repeat' split at k9) <;> first | exact k9 | omega)
            | exact he (by omega)
            | (congr 1; omega)
            | (rw [if_pos (by omega)] at he; exact he)
            | exact hD1 (by omega)
            | exact hD2 (by omega)
            | skip
        · rw [if_neg c2] at he
          have hm : xMany c = 0 := by unfold xMany; rw [← he]; rfl
          have xb : (r &&& 255).toInt32.toInt = xB r := rfl
          clear ih fin
          refine hZ (fun u => Nat.beq u 5 || Nat.beq u 86 || Nat.beq u 55) 14 5 _ _ _ _ _ ?_
          simp only [sm_run, sm_blk, sm_get, sm_ent, sm_ents, sm_wds, sm_wd, sm_nl, sm_pop, sm_back, sm_cases, oK, oLK, oL, oI, oA, oJ, oIs, oAs, oJs, oInc, oAdd, oSub, oMul, oDiv, oRem, oNeg, oAnd, oAndB, oOr, oShl, oI2c, oI2l, oL2i, oLand, oLor, oLshl, oLshr, oLushr, oLcmp, oDup, oDup2, oPop, oGo, oFg, oEq, oNe, oLt, oGe, oGt, oLe, oEq0, oNe0, oLt0, oGe0, oGt0, oLe0, oSw, oGi, oGr, oPi, oPz, oPr, oLen, oIl, oZl, oCl, oRl, oIst, oZst, oCst, oRst, oCopy, oNew, oNa, oNa2, oObj, oCs, oCv, oCi, oIr, oZr, oVr, Nat.beq, List.getElem?_cons_zero, List.getElem?_cons_succ, List.set_cons_zero, List.set_cons_succ, List.length_cons, List.length_nil, List.nil_append, List.cons_append, List.append_nil, List.replicate_succ, List.replicate_zero, Nat.reduceAdd, Nat.reduceSub, Nat.reduceLT, Nat.reduceLeDiff, Nat.reduceBEq, true_and, and_true, Nat.zero_add, Nat.add_zero, Nat.le_refl, Option.some.injEq, exists_eq_left', true_or, or_true, or_false, false_or, reduceCtorEq, Prod.mk.injEq, Sum.inl.injEq, and_self, false_and, and_false, not_true_eq_false, not_false_eq_true, false_implies, true_implies, sm_r, Int.add_zero, Int.zero_add, wI_wsI, wS_wsI, wR_wsI, wI_wCp, wS_wCp, wR_wCp, Nat.reduceEqDiff, reduceIte, sT_iff, sT_iffC, wIf_ne, ne_eq, Bool.false_or, Bool.true_or, Bool.or_false, Bool.or_true, Bool.or_self, tb_X8_put, p_X8_in, f_X8_in, p_X8_put, f_X8_put, z1, xb, b01, if_neg c2, hm, if_pos (show (0 : Int) = 0 from rfl)]
          repeat' (first | exact True.intro | with_reducible assumption | with_reducible refine And.intro ?_ ?_ | intro _)
          all_goals first
            | omega
            | assumption
            | rfl
            | (split <;> omega)
            | (have k9 := ih (by omega)
               (repeat' split at k9) <;> first | exact k9 | omega)
            | (have k9 := ih2 (by omega)
               (repeat' split at k9) <;> first | exact k9 | omega)
            | exact he (by omega)
            | (congr 1; omega)
            | (rw [if_pos (by omega)] at he; exact he)
            | exact hD1 (by omega)
            | exact hD2 (by omega)
            | skip
    )
  have h9 := hl (8, c, 0) ⟨Int.le_refl _, rfl, rfl⟩
  refine hZ (fun u => Nat.beq u 5) 14 0 _ _ _ _ _ ?_
  simp only [sm_run, sm_blk, sm_get, sm_ent, sm_ents, sm_wds, sm_wd, sm_nl, sm_pop, sm_back, sm_cases, oK, oLK, oL, oI, oA, oJ, oIs, oAs, oJs, oInc, oAdd, oSub, oMul, oDiv, oRem, oNeg, oAnd, oAndB, oOr, oShl, oI2c, oI2l, oL2i, oLand, oLor, oLshl, oLshr, oLushr, oLcmp, oDup, oDup2, oPop, oGo, oFg, oEq, oNe, oLt, oGe, oGt, oLe, oEq0, oNe0, oLt0, oGe0, oGt0, oLe0, oSw, oGi, oGr, oPi, oPz, oPr, oLen, oIl, oZl, oCl, oRl, oIst, oZst, oCst, oRst, oCopy, oNew, oNa, oNa2, oObj, oCs, oCv, oCi, oIr, oZr, oVr, Nat.beq, List.getElem?_cons_zero, List.getElem?_cons_succ, List.set_cons_zero, List.set_cons_succ, List.length_cons, List.length_nil, List.nil_append, List.cons_append, List.append_nil, List.replicate_succ, List.replicate_zero, Nat.reduceAdd, Nat.reduceSub, Nat.reduceLT, Nat.reduceLeDiff, Nat.reduceBEq, true_and, and_true, Nat.zero_add, Nat.add_zero, Nat.le_refl, Option.some.injEq, exists_eq_left', true_or, or_true, or_false, false_or, reduceCtorEq, Prod.mk.injEq, Sum.inl.injEq, and_self, false_and, and_false, not_true_eq_false, not_false_eq_true, false_implies, true_implies, sm_r, Int.add_zero, Int.zero_add, wI_wsI, wS_wsI, wR_wsI, wI_wCp, wS_wCp, wR_wCp, Nat.reduceEqDiff, reduceIte, sT_iff, sT_iffC, wIf_ne, ne_eq, Bool.false_or, Bool.true_or, Bool.or_false, Bool.or_true, Bool.or_self, tb_X8_put, p_X8_in, f_X8_in, p_X8_put, f_X8_put]
  repeat' (first | exact True.intro | with_reducible assumption | with_reducible refine And.intro ?_ ?_ | intro _)
  all_goals first
    | omega
    | assumption
    | rfl
    | (split <;> omega)
    | (have k9 := ih (by omega)
       (repeat' split at k9) <;> first | exact k9 | omega)
    | (have k9 := ih2 (by omega)
       (repeat' split at k9) <;> first | exact k9 | omega)
    | exact he (by omega)
    | (congr 1; omega)
    | (rw [if_pos (by omega)] at he; exact he)
    | exact hD1 (by omega)
    | exact hD2 (by omega)
    | skip

theorem met_X8_put (l : Launch) : sm_Met l yX8_put cX8_put 7 (some .int) 1 0 0 p_X8_put f_X8_put := sm_met 1 (Or.inr (Or.inl ⟨rfl, rfl⟩)) (by decide +kernel) (sn_X8_put l) ok_X8_put