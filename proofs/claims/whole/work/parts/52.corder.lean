/-! THE CLASS: all orders are tried -/
def zSw (w : sm_W) (i j : Int) : sm_W := wsI (wsI w 82 i (wI w 82 j)) 82 j (wI w 82 i)
def p_X4_swap : List sm_V → sm_W → Prop
  | [.inr (.inl o), .inl i, .inl j], w => o = 80 ∧ sT w ∧ 0 ≤ i ∧ i < 5 ∧ 0 ≤ j ∧ j < 5
  | _, _ => False
def f_X4_swap : sm_F
  | [.inr (.inl o), .inl i, .inl j], w => (none, zSw w i j)
  | _, w => (none, w)
def tb_X4_swap : List (Nat × List sm_O) := [(0, [oA 0, oGr 4 3 2, oI 1, oIl, oIs 3, oA 0, oGr 4 3 2, oI 1, oA 0, oGr 4 3 2, oI 2, oIl, oIst, oA 0, oGr 4 3 2, oI 2, oI 3, oIst, oVr])]
set_option maxRecDepth 100000 in
theorem sb_X4_swap_0 (l : Launch) : sm_SndB l RX4 "swap" cX4_swap 4 0 0 0 [oA 0, oGr 4 3 2, oI 1, oIl, oIs 3, oA 0, oGr 4 3 2, oI 1, oA 0, oGr 4 3 2, oI 2, oIl, oIst, oA 0, oGr 4 3 2, oI 2, oI 3, oIst, oVr] := sb_cons (sd_aload_n (by decide +kernel : decode cX4_swap 0 = .ok (.aload_n 0, 1)) rfl) (sb_cons (sd_getr (k := 2) kl_4 (by decide) rfl wm_119 (by decide +kernel : decode cX4_swap 1 = .ok (.getfield 15, 3))) (sb_cons (sd_iload_n (by decide +kernel : decode cX4_swap 4 = .ok (.iload_n 1, 1)) rfl) (sb_cons (sd_iaload (by decide +kernel : decode cX4_swap 5 = .ok (.iaload, 1))) (sb_cons (sd_istore_n (by decide +kernel : decode cX4_swap 6 = .ok (.istore_n 3, 1)) rfl) (sb_cons (sd_aload_n (by decide +kernel : decode cX4_swap 7 = .ok (.aload_n 0, 1)) rfl) (sb_cons (sd_getr (k := 2) kl_4 (by decide) rfl wm_119 (by decide +kernel : decode cX4_swap 8 = .ok (.getfield 15, 3))) (sb_cons (sd_iload_n (by decide +kernel : decode cX4_swap 11 = .ok (.iload_n 1, 1)) rfl) (sb_cons (sd_aload_n (by decide +kernel : decode cX4_swap 12 = .ok (.aload_n 0, 1)) rfl) (sb_cons (sd_getr (k := 2) kl_4 (by decide) rfl wm_119 (by decide +kernel : decode cX4_swap 13 = .ok (.getfield 15, 3))) (sb_cons (sd_iload_n (by decide +kernel : decode cX4_swap 16 = .ok (.iload_n 2, 1)) rfl) (sb_cons (sd_iaload (by decide +kernel : decode cX4_swap 17 = .ok (.iaload, 1))) (sb_cons (sd_iastore (by decide +kernel : decode cX4_swap 18 = .ok (.iastore, 1))) (sb_cons (sd_aload_n (by decide +kernel : decode cX4_swap 19 = .ok (.aload_n 0, 1)) rfl) (sb_cons (sd_getr (k := 2) kl_4 (by decide) rfl wm_119 (by decide +kernel : decode cX4_swap 20 = .ok (.getfield 15, 3))) (sb_cons (sd_iload_n (by decide +kernel : decode cX4_swap 23 = .ok (.iload_n 2, 1)) rfl) (sb_cons (sd_iload_n (by decide +kernel : decode cX4_swap 24 = .ok (.iload_n 3, 1)) rfl) (sb_cons (sd_iastore (by decide +kernel : decode cX4_swap 25 = .ok (.iastore, 1))) (sb_cons (sd_return (x := 0) rfl (by decide +kernel : decode cX4_swap 26 = .ok (.return_, 1))) sb_nil))))))))))))))))))
theorem sn_X4_swap (l : Launch) : sm_SndT l RX4 "swap" cX4_swap 4 0 0 tb_X4_swap := st_cons (sb_X4_swap_0 l) (st_nil)
set_option maxRecDepth 100000 in
set_option maxHeartbeats 4000000 in
theorem ok_X4_swap : sm_Ok tb_X4_swap 4 0 0 p_X4_swap f_X4_swap := by
  intro as w hp ha hw
  match as, hp with
  | [.inr (.inl o), .inl i, .inl j], hp =>
  refine ⟨Nat.le_of_ble_eq_true rfl, fun Z hZ => ?_⟩
  obtain ⟨rfl, hT, i0, i1, j0, j1⟩ := hp
  refine hZ (fun _ => false) 16 0 _ _ _ _ _ ?_
  simp only [sm_run, sm_blk, sm_get, sm_ent, sm_ents, sm_wds, sm_wd, sm_nl, sm_pop, sm_back, sm_cases, oK, oLK, oL, oI, oA, oJ, oIs, oAs, oJs, oInc, oAdd, oSub, oMul, oDiv, oRem, oNeg, oAnd, oAndB, oOr, oShl, oI2c, oI2l, oL2i, oLand, oLor, oLshl, oLshr, oLushr, oLcmp, oDup, oDup2, oPop, oGo, oFg, oEq, oNe, oLt, oGe, oGt, oLe, oEq0, oNe0, oLt0, oGe0, oGt0, oLe0, oSw, oGi, oGr, oPi, oPz, oPr, oLen, oIl, oZl, oCl, oRl, oIst, oZst, oCst, oRst, oCopy, oNew, oNa, oNa2, oObj, oCs, oCv, oCi, oIr, oZr, oVr, Nat.beq, List.getElem?_cons_zero, List.getElem?_cons_succ, List.set_cons_zero, List.set_cons_succ, List.length_cons, List.length_nil, List.nil_append, List.cons_append, List.append_nil, List.replicate_succ, List.replicate_zero, Nat.reduceAdd, Nat.reduceSub, Nat.reduceLT, Nat.reduceLeDiff, Nat.reduceBEq, true_and, and_true, Nat.zero_add, Nat.add_zero, Nat.le_refl, Option.some.injEq, exists_eq_left', true_or, or_true, or_false, false_or, reduceCtorEq, Prod.mk.injEq, Sum.inl.injEq, and_self, false_and, and_false, not_true_eq_false, not_false_eq_true, false_implies, true_implies, sm_r, Int.add_zero, Int.zero_add, wI_wsI, wS_wsI, wR_wsI, wI_wCp, wS_wCp, wR_wCp, Nat.reduceEqDiff, reduceIte, sT_iff, sT_iffC, wIf_ne, ne_eq, Bool.false_or, Bool.true_or, Bool.or_false, Bool.or_true, Bool.or_self, Nat.left_eq_add, Nat.add_eq_left, Nat.add_left_inj, oMax, oMin, oAbs, tb_X4_swap, p_X4_swap, f_X4_swap, sS_80 hT, sR_80_2 hT, sS_82 hT, zSw]
  repeat' (first | exact True.intro | with_reducible assumption | with_reducible refine And.intro ?_ ?_ | intro _)
  all_goals first
    | omega
    | assumption
    | rfl
    | (split <;> omega)
    | skip
theorem met_X4_swap (l : Launch) : sm_Met l yX4_swap cX4_swap 4 none 0 0 0 p_X4_swap f_X4_swap := sm_met 0 (Or.inl ⟨rfl, rfl⟩) (by decide +kernel) (sn_X4_swap l) ok_X4_swap
theorem zSw_fr (w : sm_W) (i j : Int) : sFr (fun a _ _ => a = 82) w (zSw w i j) := ((sFr.refl w).st rfl).st rfl
/-- the last place from which an order can go on -/
def zAt (w : sm_W) : Nat → Int
  | 0 => -1
  | n + 1 => if wI w 82 ((n : Int) + 1) < wI w 82 n then zAt w n else (n : Int)
def zGr (w : sm_W) (a : Int) : Nat → Int
  | 0 => a
  | n + 1 => if wI w 82 (a + ((n + 1 : Nat) : Int)) < wI w 82 a then zGr w a n else a + ((n + 1 : Nat) : Int)
def zRv : Nat → sm_W → Int → Int → sm_W
  | 0, w, _, _ => w
  | n + 1, w, lo, hi => if lo < hi then zRv n (zSw w lo hi) (lo + 1) (hi - 1) else w
theorem zRv_s (n : Nat) (w : sm_W) (lo hi : Int) : zRv (n + 1) w lo hi = if lo < hi then zRv n (zSw w lo hi) (lo + 1) (hi - 1) else w := rfl
theorem zAt_s (w : sm_W) (n : Nat) : zAt w (n + 1) = if wI w 82 ((n : Int) + 1) < wI w 82 n then zAt w n else (n : Int) := rfl
theorem zGr_s (w : sm_W) (a : Int) (n : Nat) : zGr w a (n + 1) = if wI w 82 (a + ((n + 1 : Nat) : Int)) < wI w 82 a then zGr w a n else a + ((n + 1 : Nat) : Int) := rfl
theorem zAt_b (w : sm_W) : ∀ n : Nat, -1 ≤ zAt w n ∧ zAt w n < n
  | 0 => ⟨Int.le_refl _, by show (-1 : Int) < ((0 : Nat) : Int); decide⟩
  | n + 1 => by
    have := zAt_b w n
    rw [zAt_s]
    split <;> omega
theorem zGr_b (w : sm_W) (a : Int) : ∀ n : Nat, a ≤ zGr w a n ∧ zGr w a n ≤ a + n
  | 0 => ⟨Int.le_refl _, by show a ≤ a + ((0 : Nat) : Int); omega⟩
  | n + 1 => by
    have := zGr_b w a n
    rw [zGr_s]
    split <;> omega
def zNxA (w : sm_W) (n : Int) : Int := zAt w (n - 1).toNat
def zNxG (w : sm_W) (n : Int) : Int := zGr w (zNxA w n) (n - 1 - zNxA w n).toNat
def zNxW (w : sm_W) (n : Int) : sm_W := if zNxA w n < 0 then w else zRv 5 (zSw w (zNxA w n) (zNxG w n)) (zNxA w n + 1) (n - 1)
def zNxB (w : sm_W) (n : Int) : Int := if zNxA w n < 0 then 0 else 1
theorem zRv_fr : ∀ (n : Nat) (w : sm_W) (lo hi : Int), sFr (fun a _ _ => a = 82) w (zRv n w lo hi)
  | 0, w, _, _ => sFr.refl w
  | n + 1, w, lo, hi => by
    rw [zRv_s]
    split
    · exact (zSw_fr w lo hi).trans (zRv_fr n _ _ _)
    · exact sFr.refl w
theorem zNxW_fr (w : sm_W) (n : Int) : sFr (fun a _ _ => a = 82) w (zNxW w n) := by
  unfold zNxW
  split
  · exact sFr.refl w
  · exact (zSw_fr _ _ _).trans (zRv_fr _ _ _ _)
def p_X4_nextOrder : List sm_V → sm_W → Prop
  | [.inr (.inl o), .inl n], w => o = 80 ∧ sT w ∧ 0 ≤ n ∧ n ≤ 5
  | _, _ => False
def f_X4_nextOrder : sm_F
  | [.inr (.inl o), .inl n], w => (some (.inl (zNxB w n)), zNxW w n)
  | _, w => (none, w)
def tb_X4_nextOrder : List (Nat × List sm_O) := [(0, [oI 1, oK 2, oSub, oIs 2, oFg 3, oFg 4, oFg 5, oGo 4]),
  (4, [oI 2, oLt0 31, oA 0, oGr 4 3 2, oI 2, oIl, oA 0, oGr 4 3 2, oI 2, oK 1, oAdd, oIl, oLe 31, oInc 2 (-1), oFg 3, oFg 4, oFg 5, oGo 4]),
  (31, [oI 2, oGe0 37, oK 0, oZr]),
  (37, [oI 1, oK 1, oSub, oIs 3, oFg 4, oFg 5, oGo 41]),
  (41, [oI 3, oI 2, oLe 67, oA 0, oGr 4 3 2, oI 3, oIl, oA 0, oGr 4 3 2, oI 2, oIl, oGe 67, oInc 3 (-1), oFg 4, oFg 5, oGo 41]),
  (67, [oA 0, oI 2, oI 3, oCv 4 3 p_X4_swap f_X4_swap 0 0 3, oI 2, oK 1, oAdd, oIs 4, oI 1, oK 1, oSub, oIs 5, oFg 1, oFg 2, oFg 3, oGo 83]),
  (83, [oI 4, oI 5, oGe 107, oA 0, oI 4, oI 5, oCv 4 3 p_X4_swap f_X4_swap 0 0 3, oInc 4 1, oInc 5 (-1), oFg 1, oFg 2, oFg 3, oGo 83]),
  (107, [oK 1, oZr])]
set_option maxRecDepth 100000 in
theorem sb_X4_nextOrder_0 (l : Launch) : sm_SndB l RX4 "nextOrder" cX4_nextOrder 6 2 1 0 [oI 1, oK 2, oSub, oIs 2, oFg 3, oFg 4, oFg 5, oGo 4] := sb_cons (sd_iload_n (by decide +kernel : decode cX4_nextOrder 0 = .ok (.iload_n 1, 1)) rfl) (sb_cons (sd_iconst (by decide +kernel : decode cX4_nextOrder 1 = .ok (.iconst 2, 1)) ⟨by decide, by decide⟩) (sb_cons (sd_isub (by decide +kernel : decode cX4_nextOrder 2 = .ok (.isub, 1))) (sb_cons (sd_istore_n (by decide +kernel : decode cX4_nextOrder 3 = .ok (.istore_n 2, 1)) rfl) (sb_cons (sd_fg) (sb_cons (sd_fg) (sb_cons (sd_fg) (sb_cons (sd_fall (x := 0)) sb_nil)))))))
set_option maxRecDepth 100000 in
theorem sb_X4_nextOrder_4 (l : Launch) : sm_SndB l RX4 "nextOrder" cX4_nextOrder 6 2 1 4 [oI 2, oLt0 31, oA 0, oGr 4 3 2, oI 2, oIl, oA 0, oGr 4 3 2, oI 2, oK 1, oAdd, oIl, oLe 31, oInc 2 (-1), oFg 3, oFg 4, oFg 5, oGo 4] := sb_cons (sd_iload_n (by decide +kernel : decode cX4_nextOrder 4 = .ok (.iload_n 2, 1)) rfl) (sb_cons (sd_lt0 (by decide +kernel : decode cX4_nextOrder 5 = .ok (.ifCond .lt 26, 3)) (by decide)) (sb_cons (sd_aload_n (by decide +kernel : decode cX4_nextOrder 8 = .ok (.aload_n 0, 1)) rfl) (sb_cons (sd_getr (k := 2) kl_4 (by decide) rfl wm_119 (by decide +kernel : decode cX4_nextOrder 9 = .ok (.getfield 15, 3))) (sb_cons (sd_iload_n (by decide +kernel : decode cX4_nextOrder 12 = .ok (.iload_n 2, 1)) rfl) (sb_cons (sd_iaload (by decide +kernel : decode cX4_nextOrder 13 = .ok (.iaload, 1))) (sb_cons (sd_aload_n (by decide +kernel : decode cX4_nextOrder 14 = .ok (.aload_n 0, 1)) rfl) (sb_cons (sd_getr (k := 2) kl_4 (by decide) rfl wm_119 (by decide +kernel : decode cX4_nextOrder 15 = .ok (.getfield 15, 3))) (sb_cons (sd_iload_n (by decide +kernel : decode cX4_nextOrder 18 = .ok (.iload_n 2, 1)) rfl) (sb_cons (sd_iconst (by decide +kernel : decode cX4_nextOrder 19 = .ok (.iconst 1, 1)) ⟨by decide, by decide⟩) (sb_cons (sd_iadd (by decide +kernel : decode cX4_nextOrder 20 = .ok (.iadd, 1))) (sb_cons (sd_iaload (by decide +kernel : decode cX4_nextOrder 21 = .ok (.iaload, 1))) (sb_cons (sd_le (by decide +kernel : decode cX4_nextOrder 22 = .ok (.if_icmp .le 9, 3)) (by decide)) (sb_cons (sd_iinc (by decide +kernel : decode cX4_nextOrder 25 = .ok (.iinc 2 (-1), 3))) (sb_cons (sd_fg) (sb_cons (sd_fg) (sb_cons (sd_fg) (sb_cons (sd_goto (x := 0) (by decide +kernel : decode cX4_nextOrder 28 = .ok (.goto (-24), 3)) (by decide)) sb_nil)))))))))))))))))
set_option maxRecDepth 100000 in
theorem sb_X4_nextOrder_31 (l : Launch) : sm_SndB l RX4 "nextOrder" cX4_nextOrder 6 2 1 31 [oI 2, oGe0 37, oK 0, oZr] := sb_cons (sd_iload_n (by decide +kernel : decode cX4_nextOrder 31 = .ok (.iload_n 2, 1)) rfl) (sb_cons (sd_ge0 (by decide +kernel : decode cX4_nextOrder 32 = .ok (.ifCond .ge 5, 3)) (by decide)) (sb_cons (sd_iconst (by decide +kernel : decode cX4_nextOrder 35 = .ok (.iconst 0, 1)) ⟨by decide, by decide⟩) (sb_cons (sd_zreturn (x := 0) rfl (by decide +kernel : decode cX4_nextOrder 36 = .ok (.ireturn, 1))) sb_nil)))
set_option maxRecDepth 100000 in
theorem sb_X4_nextOrder_37 (l : Launch) : sm_SndB l RX4 "nextOrder" cX4_nextOrder 6 2 1 37 [oI 1, oK 1, oSub, oIs 3, oFg 4, oFg 5, oGo 41] := sb_cons (sd_iload_n (by decide +kernel : decode cX4_nextOrder 37 = .ok (.iload_n 1, 1)) rfl) (sb_cons (sd_iconst (by decide +kernel : decode cX4_nextOrder 38 = .ok (.iconst 1, 1)) ⟨by decide, by decide⟩) (sb_cons (sd_isub (by decide +kernel : decode cX4_nextOrder 39 = .ok (.isub, 1))) (sb_cons (sd_istore_n (by decide +kernel : decode cX4_nextOrder 40 = .ok (.istore_n 3, 1)) rfl) (sb_cons (sd_fg) (sb_cons (sd_fg) (sb_cons (sd_fall (x := 0)) sb_nil))))))
set_option maxRecDepth 100000 in
theorem sb_X4_nextOrder_41 (l : Launch) : sm_SndB l RX4 "nextOrder" cX4_nextOrder 6 2 1 41 [oI 3, oI 2, oLe 67, oA 0, oGr 4 3 2, oI 3, oIl, oA 0, oGr 4 3 2, oI 2, oIl, oGe 67, oInc 3 (-1), oFg 4, oFg 5, oGo 41] := sb_cons (sd_iload_n (by decide +kernel : decode cX4_nextOrder 41 = .ok (.iload_n 3, 1)) rfl) (sb_cons (sd_iload_n (by decide +kernel : decode cX4_nextOrder 42 = .ok (.iload_n 2, 1)) rfl) (sb_cons (sd_le (by decide +kernel : decode cX4_nextOrder 43 = .ok (.if_icmp .le 24, 3)) (by decide)) (sb_cons (sd_aload_n (by decide +kernel : decode cX4_nextOrder 46 = .ok (.aload_n 0, 1)) rfl) (sb_cons (sd_getr (k := 2) kl_4 (by decide) rfl wm_119 (by decide +kernel : decode cX4_nextOrder 47 = .ok (.getfield 15, 3))) (sb_cons (sd_iload_n (by decide +kernel : decode cX4_nextOrder 50 = .ok (.iload_n 3, 1)) rfl) (sb_cons (sd_iaload (by decide +kernel : decode cX4_nextOrder 51 = .ok (.iaload, 1))) (sb_cons (sd_aload_n (by decide +kernel : decode cX4_nextOrder 52 = .ok (.aload_n 0, 1)) rfl) (sb_cons (sd_getr (k := 2) kl_4 (by decide) rfl wm_119 (by decide +kernel : decode cX4_nextOrder 53 = .ok (.getfield 15, 3))) (sb_cons (sd_iload_n (by decide +kernel : decode cX4_nextOrder 56 = .ok (.iload_n 2, 1)) rfl) (sb_cons (sd_iaload (by decide +kernel : decode cX4_nextOrder 57 = .ok (.iaload, 1))) (sb_cons (sd_ge (by decide +kernel : decode cX4_nextOrder 58 = .ok (.if_icmp .ge 9, 3)) (by decide)) (sb_cons (sd_iinc (by decide +kernel : decode cX4_nextOrder 61 = .ok (.iinc 3 (-1), 3))) (sb_cons (sd_fg) (sb_cons (sd_fg) (sb_cons (sd_goto (x := 0) (by decide +kernel : decode cX4_nextOrder 64 = .ok (.goto (-23), 3)) (by decide)) sb_nil)))))))))))))))
set_option maxRecDepth 100000 in
theorem sb_X4_nextOrder_67 (l : Launch) : sm_SndB l RX4 "nextOrder" cX4_nextOrder 6 2 1 67 [oA 0, oI 2, oI 3, oCv 4 3 p_X4_swap f_X4_swap 0 0 3, oI 2, oK 1, oAdd, oIs 4, oI 1, oK 1, oSub, oIs 5, oFg 1, oFg 2, oFg 3, oGo 83] := sb_cons (sd_aload_n (by decide +kernel : decode cX4_nextOrder 67 = .ok (.aload_n 0, 1)) rfl) (sb_cons (sd_iload_n (by decide +kernel : decode cX4_nextOrder 68 = .ok (.iload_n 2, 1)) rfl) (sb_cons (sd_iload_n (by decide +kernel : decode cX4_nextOrder 69 = .ok (.iload_n 3, 1)) rfl) (sb_cons (sd_callv (n := 2) (met_X4_swap l) (by decide) (by decide) wm_555 wm_553 wm_7 ⟨by decide +kernel, by decide +kernel, by decide +kernel⟩ kl_4 wm_554 wm_1096 (by decide +kernel : decode cX4_nextOrder 70 = .ok (.invokevirtual 66, 3))) (sb_cons (sd_iload_n (by decide +kernel : decode cX4_nextOrder 73 = .ok (.iload_n 2, 1)) rfl) (sb_cons (sd_iconst (by decide +kernel : decode cX4_nextOrder 74 = .ok (.iconst 1, 1)) ⟨by decide, by decide⟩) (sb_cons (sd_iadd (by decide +kernel : decode cX4_nextOrder 75 = .ok (.iadd, 1))) (sb_cons (sd_istore (by decide +kernel : decode cX4_nextOrder 76 = .ok (.istore 4, 2))) (sb_cons (sd_iload_n (by decide +kernel : decode cX4_nextOrder 78 = .ok (.iload_n 1, 1)) rfl) (sb_cons (sd_iconst (by decide +kernel : decode cX4_nextOrder 79 = .ok (.iconst 1, 1)) ⟨by decide, by decide⟩) (sb_cons (sd_isub (by decide +kernel : decode cX4_nextOrder 80 = .ok (.isub, 1))) (sb_cons (sd_istore (by decide +kernel : decode cX4_nextOrder 81 = .ok (.istore 5, 2))) (sb_cons (sd_fg) (sb_cons (sd_fg) (sb_cons (sd_fg) (sb_cons (sd_fall (x := 0)) sb_nil)))))))))))))))
set_option maxRecDepth 100000 in
theorem sb_X4_nextOrder_83 (l : Launch) : sm_SndB l RX4 "nextOrder" cX4_nextOrder 6 2 1 83 [oI 4, oI 5, oGe 107, oA 0, oI 4, oI 5, oCv 4 3 p_X4_swap f_X4_swap 0 0 3, oInc 4 1, oInc 5 (-1), oFg 1, oFg 2, oFg 3, oGo 83] := sb_cons (sd_iload (by decide +kernel : decode cX4_nextOrder 83 = .ok (.iload 4, 2))) (sb_cons (sd_iload (by decide +kernel : decode cX4_nextOrder 85 = .ok (.iload 5, 2))) (sb_cons (sd_ge (by decide +kernel : decode cX4_nextOrder 87 = .ok (.if_icmp .ge 20, 3)) (by decide)) (sb_cons (sd_aload_n (by decide +kernel : decode cX4_nextOrder 90 = .ok (.aload_n 0, 1)) rfl) (sb_cons (sd_iload (by decide +kernel : decode cX4_nextOrder 91 = .ok (.iload 4, 2))) (sb_cons (sd_iload (by decide +kernel : decode cX4_nextOrder 93 = .ok (.iload 5, 2))) (sb_cons (sd_callv (n := 2) (met_X4_swap l) (by decide) (by decide) wm_555 wm_553 wm_7 ⟨by decide +kernel, by decide +kernel, by decide +kernel⟩ kl_4 wm_554 wm_1096 (by decide +kernel : decode cX4_nextOrder 95 = .ok (.invokevirtual 66, 3))) (sb_cons (sd_iinc (by decide +kernel : decode cX4_nextOrder 98 = .ok (.iinc 4 1, 3))) (sb_cons (sd_iinc (by decide +kernel : decode cX4_nextOrder 101 = .ok (.iinc 5 (-1), 3))) (sb_cons (sd_fg) (sb_cons (sd_fg) (sb_cons (sd_fg) (sb_cons (sd_goto (x := 0) (by decide +kernel : decode cX4_nextOrder 104 = .ok (.goto (-21), 3)) (by decide)) sb_nil))))))))))))
set_option maxRecDepth 100000 in
theorem sb_X4_nextOrder_107 (l : Launch) : sm_SndB l RX4 "nextOrder" cX4_nextOrder 6 2 1 107 [oK 1, oZr] := sb_cons (sd_iconst (by decide +kernel : decode cX4_nextOrder 107 = .ok (.iconst 1, 1)) ⟨by decide, by decide⟩) (sb_cons (sd_zreturn (x := 0) rfl (by decide +kernel : decode cX4_nextOrder 108 = .ok (.ireturn, 1))) sb_nil)
theorem sn_X4_nextOrder (l : Launch) : sm_SndT l RX4 "nextOrder" cX4_nextOrder 6 2 1 tb_X4_nextOrder := st_cons (sb_X4_nextOrder_0 l) (st_cons (sb_X4_nextOrder_4 l) (st_cons (sb_X4_nextOrder_31 l) (st_cons (sb_X4_nextOrder_37 l) (st_cons (sb_X4_nextOrder_41 l) (st_cons (sb_X4_nextOrder_67 l) (st_cons (sb_X4_nextOrder_83 l) (st_cons (sb_X4_nextOrder_107 l) (st_nil))))))))
set_option maxRecDepth 100000 in
set_option maxHeartbeats 4000000 in
theorem ok_X4_nextOrder : sm_Ok tb_X4_nextOrder 6 0 0 p_X4_nextOrder f_X4_nextOrder := by
  intro as w hp ha hw
  match as, hp with
  | [.inr (.inl o), .inl n], hp =>
  refine ⟨Nat.le_of_ble_eq_true rfl, fun Z hZ => ?_⟩
  obtain ⟨rfl, hT, n0, n1⟩ := hp
  have hW0 : zNxA w n < 0 → zNxW w n = w := fun h => if_pos h
  have hB0 : zNxA w n < 0 → zNxB w n = 0 := fun h => if_pos h
  have hW1 : ¬ zNxA w n < 0 → zNxW w n = zRv 5 (zSw w (zNxA w n) (zNxG w n)) (zNxA w n + 1) (n - 1) := fun h => if_neg h
  have hB1 : ¬ zNxA w n < 0 → zNxB w n = 1 := fun h => if_neg h
  have hA : zAt w (n - 1).toNat = zNxA w n := rfl
  have hAb := zAt_b w (n - 1).toNat
  rw [hA] at hAb
  have hG : zGr w (zNxA w n) (n - 1 - zNxA w n).toNat = zNxG w n := rfl
  have hGb := zGr_b w (zNxA w n) (n - 1 - zNxA w n).toNat
  rw [hG] at hGb
  generalize hEW : zNxW w n = EW at *
  generalize hEB : zNxB w n = EB at *
  generalize hAe : zNxA w n = A at *
  generalize hGe : zNxG w n = G at *
  have h107 : ¬ A < 0 → Z 83 [some (.inr (.inl 80)), none, none, none, some (.inl (A + 1)), some (.inl (n - 1))] [] (zSw w A G) 0 0 := fun hA0 => by
    have hW1 := hW1 hA0
    have hB1 := hB1 hA0
    have hl := sm_loopM (S := Nat × sm_W × Int × Int) Z 83 (fun s => s.1) (fun s => (s.2.2.2 - s.2.2.1 < 2 * s.1 - 1) ∧ 0 ≤ s.2.2.1 ∧ s.2.2.2 < 5 ∧ 0 ≤ s.2.2.2 + 1 ∧ s.2.2.1 ≤ 20 ∧ sT s.2.1 ∧ zRv s.1 s.2.1 s.2.2.1 s.2.2.2 = EW) (fun s => [some (.inr (.inl 80)), none, none, none, some (.inl s.2.2.1), some (.inl s.2.2.2)]) (fun s => s.2.1) 0 0 (fun s hI ih => by
      obtain ⟨k, u, lo, hi⟩ := s
      dsimp only at hI ih ⊢
      obtain ⟨i1, i2, i3, i4, i5, hT, he⟩ := hI
      cases k with
      | zero =>
        have he : u = EW := he
        clear ih
        refine hZ (fun u => Nat.beq u 4 || Nat.beq u 41 || Nat.beq u 83) 14 83 _ _ _ _ _ ?_
        simp only [sm_run, sm_blk, sm_get, sm_ent, sm_ents, sm_wds, sm_wd, sm_nl, sm_pop, sm_back, sm_cases, oK, oLK, oL, oI, oA, oJ, oIs, oAs, oJs, oInc, oAdd, oSub, oMul, oDiv, oRem, oNeg, oAnd, oAndB, oOr, oShl, oI2c, oI2l, oL2i, oLand, oLor, oLshl, oLshr, oLushr, oLcmp, oDup, oDup2, oPop, oGo, oFg, oEq, oNe, oLt, oGe, oGt, oLe, oEq0, oNe0, oLt0, oGe0, oGt0, oLe0, oSw, oGi, oGr, oPi, oPz, oPr, oLen, oIl, oZl, oCl, oRl, oIst, oZst, oCst, oRst, oCopy, oNew, oNa, oNa2, oObj, oCs, oCv, oCi, oIr, oZr, oVr, Nat.beq, List.getElem?_cons_zero, List.getElem?_cons_succ, List.set_cons_zero, List.set_cons_succ, List.length_cons, List.length_nil, List.nil_append, List.cons_append, List.append_nil, List.replicate_succ, List.replicate_zero, Nat.reduceAdd, Nat.reduceSub, Nat.reduceLT, Nat.reduceLeDiff, Nat.reduceBEq, true_and, and_true, Nat.zero_add, Nat.add_zero, Nat.le_refl, Option.some.injEq, exists_eq_left', true_or, or_true, or_false, false_or, reduceCtorEq, Prod.mk.injEq, Sum.inl.injEq, and_self, false_and, and_false, not_true_eq_false, not_false_eq_true, false_implies, true_implies, sm_r, Int.add_zero, Int.zero_add, wI_wsI, wS_wsI, wR_wsI, wI_wCp, wS_wCp, wR_wCp, Nat.reduceEqDiff, reduceIte, sT_iff, sT_iffC, wIf_ne, ne_eq, Bool.false_or, Bool.true_or, Bool.or_false, Bool.or_true, Bool.or_self, Nat.left_eq_add, Nat.add_eq_left, Nat.add_left_inj, oMax, oMin, oAbs, tb_X4_nextOrder, p_X4_swap, f_X4_swap, p_X4_nextOrder, f_X4_nextOrder, hEW, hEB]
        repeat' (first | exact True.intro | with_reducible assumption | with_reducible refine And.intro ?_ ?_ | intro _)
        all_goals first
          | omega
          | assumption
          | rfl
          | (split <;> omega)
          | (have k9 := ih (by omega)
             (repeat' split at k9) <;> first | exact k9 | omega)
          | (have k9 := ih2 (by omega)
             (repeat' split at k9) <;> first | exact k9 | omega)
          | exact he (by omega)
          | ((with_reducible congr 1) <;> omega)
          | (rw [if_pos (by omega)] at he; exact he)
          | exact hD1 (by omega)
          | exact hD2 (by omega)
          | grind
          | skip
      | succ k =>
        rw [zRv_s] at he
        by_cases c : lo < hi
        · rw [if_pos c] at he
          have ih := ih (k, zSw u lo hi, lo + 1, hi - 1) ⟨by dsimp only; omega, by dsimp only; omega, by dsimp only; omega, by dsimp only; omega, by dsimp only; omega, sT_wsI (sT_wsI hT), he⟩ (Nat.lt_succ_self k)
          dsimp only at ih
          have hcm : hi + -1 = hi - 1 := rfl
          refine hZ (fun u => Nat.beq u 4 || Nat.beq u 41 || Nat.beq u 83) 14 83 _ _ _ _ _ ?_
          simp only [sm_run, sm_blk, sm_get, sm_ent, sm_ents, sm_wds, sm_wd, sm_nl, sm_pop, sm_back, sm_cases, oK, oLK, oL, oI, oA, oJ, oIs, oAs, oJs, oInc, oAdd, oSub, oMul, oDiv, oRem, oNeg, oAnd, oAndB, oOr, oShl, oI2c, oI2l, oL2i, oLand, oLor, oLshl, oLshr, oLushr, oLcmp, oDup, oDup2, oPop, oGo, oFg, oEq, oNe, oLt, oGe, oGt, oLe, oEq0, oNe0, oLt0, oGe0, oGt0, oLe0, oSw, oGi, oGr, oPi, oPz, oPr, oLen, oIl, oZl, oCl, oRl, oIst, oZst, oCst, oRst, oCopy, oNew, oNa, oNa2, oObj, oCs, oCv, oCi, oIr, oZr, oVr, Nat.beq, List.getElem?_cons_zero, List.getElem?_cons_succ, List.set_cons_zero, List.set_cons_succ, List.length_cons, List.length_nil, List.nil_append, List.cons_append, List.append_nil, List.replicate_succ, List.replicate_zero, Nat.reduceAdd, Nat.reduceSub, Nat.reduceLT, Nat.reduceLeDiff, Nat.reduceBEq, true_and, and_true, Nat.zero_add, Nat.add_zero, Nat.le_refl, Option.some.injEq, exists_eq_left', true_or, or_true, or_false, false_or, reduceCtorEq, Prod.mk.injEq, Sum.inl.injEq, and_self, false_and, and_false, not_true_eq_false, not_false_eq_true, false_implies, true_implies, sm_r, Int.add_zero, Int.zero_add, wI_wsI, wS_wsI, wR_wsI, wI_wCp, wS_wCp, wR_wCp, Nat.reduceEqDiff, reduceIte, sT_iff, sT_iffC, wIf_ne, ne_eq, Bool.false_or, Bool.true_or, Bool.or_false, Bool.or_true, Bool.or_self, Nat.left_eq_add, Nat.add_eq_left, Nat.add_left_inj, oMax, oMin, oAbs, tb_X4_nextOrder, p_X4_swap, f_X4_swap, p_X4_nextOrder, f_X4_nextOrder, hT, sS_80 hT, hcm]
          repeat' (first | exact True.intro | with_reducible assumption | with_reducible refine And.intro ?_ ?_ | intro _)
          all_goals first
            | omega
            | assumption
            | rfl
            | (split <;> omega)
            | (have k9 := ih (by omega)
               (repeat' split at k9) <;> first | exact k9 | omega)
            | (have k9 := ih2 (by omega)
               (repeat' split at k9) <;> first | exact k9 | omega)
            | exact he (by omega)
            | ((with_reducible congr 1) <;> omega)
            | (rw [if_pos (by omega)] at he; exact he)
            | exact hD1 (by omega)
            | exact hD2 (by omega)
            | grind
            | skip
        · rw [if_neg c] at he
          clear ih
          refine hZ (fun u => Nat.beq u 4 || Nat.beq u 41 || Nat.beq u 83) 14 83 _ _ _ _ _ ?_
          simp only [sm_run, sm_blk, sm_get, sm_ent, sm_ents, sm_wds, sm_wd, sm_nl, sm_pop, sm_back, sm_cases, oK, oLK, oL, oI, oA, oJ, oIs, oAs, oJs, oInc, oAdd, oSub, oMul, oDiv, oRem, oNeg, oAnd, oAndB, oOr, oShl, oI2c, oI2l, oL2i, oLand, oLor, oLshl, oLshr, oLushr, oLcmp, oDup, oDup2, oPop, oGo, oFg, oEq, oNe, oLt, oGe, oGt, oLe, oEq0, oNe0, oLt0, oGe0, oGt0, oLe0, oSw, oGi, oGr, oPi, oPz, oPr, oLen, oIl, oZl, oCl, oRl, oIst, oZst, oCst, oRst, oCopy, oNew, oNa, oNa2, oObj, oCs, oCv, oCi, oIr, oZr, oVr, Nat.beq, List.getElem?_cons_zero, List.getElem?_cons_succ, List.set_cons_zero, List.set_cons_succ, List.length_cons, List.length_nil, List.nil_append, List.cons_append, List.append_nil, List.replicate_succ, List.replicate_zero, Nat.reduceAdd, Nat.reduceSub, Nat.reduceLT, Nat.reduceLeDiff, Nat.reduceBEq, true_and, and_true, Nat.zero_add, Nat.add_zero, Nat.le_refl, Option.some.injEq, exists_eq_left', true_or, or_true, or_false, false_or, reduceCtorEq, Prod.mk.injEq, Sum.inl.injEq, and_self, false_and, and_false, not_true_eq_false, not_false_eq_true, false_implies, true_implies, sm_r, Int.add_zero, Int.zero_add, wI_wsI, wS_wsI, wR_wsI, wI_wCp, wS_wCp, wR_wCp, Nat.reduceEqDiff, reduceIte, sT_iff, sT_iffC, wIf_ne, ne_eq, Bool.false_or, Bool.true_or, Bool.or_false, Bool.or_true, Bool.or_self, Nat.left_eq_add, Nat.add_eq_left, Nat.add_left_inj, oMax, oMin, oAbs, tb_X4_nextOrder, p_X4_swap, f_X4_swap, p_X4_nextOrder, f_X4_nextOrder, hEW, hEB]
          repeat' (first | exact True.intro | with_reducible assumption | with_reducible refine And.intro ?_ ?_ | intro _)
          all_goals first
            | omega
            | assumption
            | rfl
            | (split <;> omega)
            | (have k9 := ih (by omega)
               (repeat' split at k9) <;> first | exact k9 | omega)
            | (have k9 := ih2 (by omega)
               (repeat' split at k9) <;> first | exact k9 | omega)
            | exact he (by omega)
            | ((with_reducible congr 1) <;> omega)
            | (rw [if_pos (by omega)] at he; exact he)
            | exact hD1 (by omega)
            | exact hD2 (by omega)
            | grind
            | skip
      )
    exact hl (5, zSw w A G, A + 1, n - 1) ⟨by dsimp only; omega, by dsimp only; omega, by dsimp only; omega, by dsimp only; omega, by dsimp only; omega, sT_wsI (sT_wsI hT), hW1.symm⟩
  have h41 : ¬ A < 0 → Z 41 [some (.inr (.inl 80)), some (.inl n), some (.inl A), some (.inl (n - 1)), none, none] [] w 0 0 := fun hA0 => by
    have h107 := h107 hA0
    clear hW0 hW1 hB0 hB1
    have hl := sm_loopM (S := Nat) Z 41 (fun s => s) (fun s => A + s ≤ n - 1 ∧ zGr w A s = G) (fun s => [some (.inr (.inl 80)), some (.inl n), some (.inl A), some (.inl (A + (s : Int))), none, none]) (fun s => w) 0 0 (fun s hI ih => by
      obtain ⟨i1, he⟩ := hI
      have hgb := zGr_b w A s
      cases s with
      | zero =>
        have he : A = G := he
        clear ih
        have hz : A + ((0 : Nat) : Int) = A := by omega
        refine hZ (fun u => Nat.beq u 4 || Nat.beq u 41 || Nat.beq u 83) 14 41 _ _ _ _ _ ?_
        simp only [sm_run, sm_blk, sm_get, sm_ent, sm_ents, sm_wds, sm_wd, sm_nl, sm_pop, sm_back, sm_cases, oK, oLK, oL, oI, oA, oJ, oIs, oAs, oJs, oInc, oAdd, oSub, oMul, oDiv, oRem, oNeg, oAnd, oAndB, oOr, oShl, oI2c, oI2l, oL2i, oLand, oLor, oLshl, oLshr, oLushr, oLcmp, oDup, oDup2, oPop, oGo, oFg, oEq, oNe, oLt, oGe, oGt, oLe, oEq0, oNe0, oLt0, oGe0, oGt0, oLe0, oSw, oGi, oGr, oPi, oPz, oPr, oLen, oIl, oZl, oCl, oRl, oIst, oZst, oCst, oRst, oCopy, oNew, oNa, oNa2, oObj, oCs, oCv, oCi, oIr, oZr, oVr, Nat.beq, List.getElem?_cons_zero, List.getElem?_cons_succ, List.set_cons_zero, List.set_cons_succ, List.length_cons, List.length_nil, List.nil_append, List.cons_append, List.append_nil, List.replicate_succ, List.replicate_zero, Nat.reduceAdd, Nat.reduceSub, Nat.reduceLT, Nat.reduceLeDiff, Nat.reduceBEq, true_and, and_true, Nat.zero_add, Nat.add_zero, Nat.le_refl, Option.some.injEq, exists_eq_left', true_or, or_true, or_false, false_or, reduceCtorEq, Prod.mk.injEq, Sum.inl.injEq, and_self, false_and, and_false, not_true_eq_false, not_false_eq_true, false_implies, true_implies, sm_r, Int.add_zero, Int.zero_add, wI_wsI, wS_wsI, wR_wsI, wI_wCp, wS_wCp, wR_wCp, Nat.reduceEqDiff, reduceIte, sT_iff, sT_iffC, wIf_ne, ne_eq, Bool.false_or, Bool.true_or, Bool.or_false, Bool.or_true, Bool.or_self, Nat.left_eq_add, Nat.add_eq_left, Nat.add_left_inj, oMax, oMin, oAbs, tb_X4_nextOrder, p_X4_swap, f_X4_swap, p_X4_nextOrder, f_X4_nextOrder, hT, sS_80 hT, hz, he]
        repeat' (first | exact True.intro | with_reducible assumption | with_reducible refine And.intro ?_ ?_ | intro _)
        all_goals first
          | omega
          | assumption
          | rfl
          | (split <;> omega)
          | (have k9 := ih (by omega)
             (repeat' split at k9) <;> first | exact k9 | omega)
          | (have k9 := ih2 (by omega)
             (repeat' split at k9) <;> first | exact k9 | omega)
          | exact he (by omega)
          | ((with_reducible congr 1) <;> omega)
          | (rw [if_pos (by omega)] at he; exact he)
          | exact hD1 (by omega)
          | exact hD2 (by omega)
          | grind
          | skip
      | succ k =>
        rw [zGr_s] at he
        have hc1 : A + ((k + 1 : Nat) : Int) + -1 = A + (k : Int) := by omega
        by_cases c : wI w 82 (A + ((k + 1 : Nat) : Int)) < wI w 82 A
        · rw [if_pos c] at he
          have ih := ih k ⟨by omega, he⟩ (Nat.lt_succ_self k)
          refine hZ (fun u => Nat.beq u 4 || Nat.beq u 41 || Nat.beq u 83) 14 41 _ _ _ _ _ ?_
          simp only [sm_run, sm_blk, sm_get, sm_ent, sm_ents, sm_wds, sm_wd, sm_nl, sm_pop, sm_back, sm_cases, oK, oLK, oL, oI, oA, oJ, oIs, oAs, oJs, oInc, oAdd, oSub, oMul, oDiv, oRem, oNeg, oAnd, oAndB, oOr, oShl, oI2c, oI2l, oL2i, oLand, oLor, oLshl, oLshr, oLushr, oLcmp, oDup, oDup2, oPop, oGo, oFg, oEq, oNe, oLt, oGe, oGt, oLe, oEq0, oNe0, oLt0, oGe0, oGt0, oLe0, oSw, oGi, oGr, oPi, oPz, oPr, oLen, oIl, oZl, oCl, oRl, oIst, oZst, oCst, oRst, oCopy, oNew, oNa, oNa2, oObj, oCs, oCv, oCi, oIr, oZr, oVr, Nat.beq, List.getElem?_cons_zero, List.getElem?_cons_succ, List.set_cons_zero, List.set_cons_succ, List.length_cons, List.length_nil, List.nil_append, List.cons_append, List.append_nil, List.replicate_succ, List.replicate_zero, Nat.reduceAdd, Nat.reduceSub, Nat.reduceLT, Nat.reduceLeDiff, Nat.reduceBEq, true_and, and_true, Nat.zero_add, Nat.add_zero, Nat.le_refl, Option.some.injEq, exists_eq_left', true_or, or_true, or_false, false_or, reduceCtorEq, Prod.mk.injEq, Sum.inl.injEq, and_self, false_and, and_false, not_true_eq_false, not_false_eq_true, false_implies, true_implies, sm_r, Int.add_zero, Int.zero_add, wI_wsI, wS_wsI, wR_wsI, wI_wCp, wS_wCp, wR_wCp, Nat.reduceEqDiff, reduceIte, sT_iff, sT_iffC, wIf_ne, ne_eq, Bool.false_or, Bool.true_or, Bool.or_false, Bool.or_true, Bool.or_self, Nat.left_eq_add, Nat.add_eq_left, Nat.add_left_inj, oMax, oMin, oAbs, tb_X4_nextOrder, p_X4_swap, f_X4_swap, p_X4_nextOrder, f_X4_nextOrder, hT, sS_80 hT, sR_80_2 hT, sS_82 hT, hc1]
          repeat' (first | exact True.intro | with_reducible assumption | with_reducible refine And.intro ?_ ?_ | intro _)
          all_goals first
            | omega
            | assumption
            | rfl
            | (split <;> omega)
            | (have k9 := ih (by omega)
               (repeat' split at k9) <;> first | exact k9 | omega)
            | (have k9 := ih2 (by omega)
               (repeat' split at k9) <;> first | exact k9 | omega)
            | exact he (by omega)
            | ((with_reducible congr 1) <;> omega)
            | (rw [if_pos (by omega)] at he; exact he)
            | exact hD1 (by omega)
            | exact hD2 (by omega)
            | grind
            | skip
        · rw [if_neg c] at he
          clear ih
          generalize A + ((k + 1 : Nat) : Int) = g at *
          subst he
          refine hZ (fun u => Nat.beq u 4 || Nat.beq u 41 || Nat.beq u 83) 14 41 _ _ _ _ _ ?_
          simp only [sm_run, sm_blk, sm_get, sm_ent, sm_ents, sm_wds, sm_wd, sm_nl, sm_pop, sm_back, sm_cases, oK, oLK, oL, oI, oA, oJ, oIs, oAs, oJs, oInc, oAdd, oSub, oMul, oDiv, oRem, oNeg, oAnd, oAndB, oOr, oShl, oI2c, oI2l, oL2i, oLand, oLor, oLshl, oLshr, oLushr, oLcmp, oDup, oDup2, oPop, oGo, oFg, oEq, oNe, oLt, oGe, oGt, oLe, oEq0, oNe0, oLt0, oGe0, oGt0, oLe0, oSw, oGi, oGr, oPi, oPz, oPr, oLen, oIl, oZl, oCl, oRl, oIst, oZst, oCst, oRst, oCopy, oNew, oNa, oNa2, oObj, oCs, oCv, oCi, oIr, oZr, oVr, Nat.beq, List.getElem?_cons_zero, List.getElem?_cons_succ, List.set_cons_zero, List.set_cons_succ, List.length_cons, List.length_nil, List.nil_append, List.cons_append, List.append_nil, List.replicate_succ, List.replicate_zero, Nat.reduceAdd, Nat.reduceSub, Nat.reduceLT, Nat.reduceLeDiff, Nat.reduceBEq, true_and, and_true, Nat.zero_add, Nat.add_zero, Nat.le_refl, Option.some.injEq, exists_eq_left', true_or, or_true, or_false, false_or, reduceCtorEq, Prod.mk.injEq, Sum.inl.injEq, and_self, false_and, and_false, not_true_eq_false, not_false_eq_true, false_implies, true_implies, sm_r, Int.add_zero, Int.zero_add, wI_wsI, wS_wsI, wR_wsI, wI_wCp, wS_wCp, wR_wCp, Nat.reduceEqDiff, reduceIte, sT_iff, sT_iffC, wIf_ne, ne_eq, Bool.false_or, Bool.true_or, Bool.or_false, Bool.or_true, Bool.or_self, Nat.left_eq_add, Nat.add_eq_left, Nat.add_left_inj, oMax, oMin, oAbs, tb_X4_nextOrder, p_X4_swap, f_X4_swap, p_X4_nextOrder, f_X4_nextOrder, hT, sS_80 hT, sR_80_2 hT, sS_82 hT]
          repeat' (first | exact True.intro | with_reducible assumption | with_reducible refine And.intro ?_ ?_ | intro _)
          all_goals first
            | omega
            | assumption
            | rfl
            | (split <;> omega)
            | (have k9 := ih (by omega)
               (repeat' split at k9) <;> first | exact k9 | omega)
            | (have k9 := ih2 (by omega)
               (repeat' split at k9) <;> first | exact k9 | omega)
            | exact he (by omega)
            | ((with_reducible congr 1) <;> omega)
            | (rw [if_pos (by omega)] at he; exact he)
            | exact hD1 (by omega)
            | exact hD2 (by omega)
            | grind
            | skip
      )
    have h9 := hl (n - 1 - A).toNat ⟨by omega, hG⟩
    rw [show A + (((n - 1 - A).toNat : Nat) : Int) = n - 1 by omega] at h9
    exact h9
  have hl := sm_loopM (S := Nat) Z 4 (fun s => s) (fun s => (s : Int) ≤ 4 ∧ (s : Int) ≤ n ∧ zAt w s = A) (fun s => [some (.inr (.inl 80)), some (.inl n), some (.inl ((s : Int) - 1)), none, none, none]) (fun s => w) 0 0 (fun s hI ih => by
    obtain ⟨i1, i2, he⟩ := hI
    cases s with
    | zero =>
      have he : -1 = A := he
      have hz : ((0 : Nat) : Int) - 1 = -1 := by omega
      have hW0 := hW0 (by omega)
      have hB0 := hB0 (by omega)
      clear ih h41 h107 hW1 hB1
      refine hZ (fun u => Nat.beq u 4 || Nat.beq u 41 || Nat.beq u 83) 14 4 _ _ _ _ _ ?_
      simp only [sm_run, sm_blk, sm_get, sm_ent, sm_ents, sm_wds, sm_wd, sm_nl, sm_pop, sm_back, sm_cases, oK, oLK, oL, oI, oA, oJ, oIs, oAs, oJs, oInc, oAdd, oSub, oMul, oDiv, oRem, oNeg, oAnd, oAndB, oOr, oShl, oI2c, oI2l, oL2i, oLand, oLor, oLshl, oLshr, oLushr, oLcmp, oDup, oDup2, oPop, oGo, oFg, oEq, oNe, oLt, oGe, oGt, oLe, oEq0, oNe0, oLt0, oGe0, oGt0, oLe0, oSw, oGi, oGr, oPi, oPz, oPr, oLen, oIl, oZl, oCl, oRl, oIst, oZst, oCst, oRst, oCopy, oNew, oNa, oNa2, oObj, oCs, oCv, oCi, oIr, oZr, oVr, Nat.beq, List.getElem?_cons_zero, List.getElem?_cons_succ, List.set_cons_zero, List.set_cons_succ, List.length_cons, List.length_nil, List.nil_append, List.cons_append, List.append_nil, List.replicate_succ, List.replicate_zero, Nat.reduceAdd, Nat.reduceSub, Nat.reduceLT, Nat.reduceLeDiff, Nat.reduceBEq, true_and, and_true, Nat.zero_add, Nat.add_zero, Nat.le_refl, Option.some.injEq, exists_eq_left', true_or, or_true, or_false, false_or, reduceCtorEq, Prod.mk.injEq, Sum.inl.injEq, and_self, false_and, and_false, not_true_eq_false, not_false_eq_true, false_implies, true_implies, sm_r, Int.add_zero, Int.zero_add, wI_wsI, wS_wsI, wR_wsI, wI_wCp, wS_wCp, wR_wCp, Nat.reduceEqDiff, reduceIte, sT_iff, sT_iffC, wIf_ne, ne_eq, Bool.false_or, Bool.true_or, Bool.or_false, Bool.or_true, Bool.or_self, Nat.left_eq_add, Nat.add_eq_left, Nat.add_left_inj, oMax, oMin, oAbs, tb_X4_nextOrder, p_X4_swap, f_X4_swap, p_X4_nextOrder, f_X4_nextOrder, hT, sS_80 hT, hz, hEW, hEB]
      repeat' (first | exact True.intro | with_reducible assumption | with_reducible refine And.intro ?_ ?_ | intro _)
      all_goals first
        | omega
        | assumption
        | rfl
        | (split <;> omega)
        | (have k9 := ih (by omega)
           (repeat' split at k9) <;> first | exact k9 | omega)
        | (have k9 := ih2 (by omega)
           (repeat' split at k9) <;> first | exact k9 | omega)
        | exact he (by omega)
        | ((with_reducible congr 1) <;> omega)
        | (rw [if_pos (by omega)] at he; exact he)
        | exact hD1 (by omega)
        | exact hD2 (by omega)
        | grind
        | skip
    | succ k =>
      rw [zAt_s] at he
      have hc1 : ((k + 1 : Nat) : Int) - 1 = (k : Int) := by omega
      have hc2 : ((k + 1 : Nat) : Int) - 1 + -1 = (k : Int) - 1 := by omega
      have hc3 : (k : Int) + -1 = (k : Int) - 1 := rfl
      by_cases c : wI w 82 ((k : Int) + 1) < wI w 82 k
      · rw [if_pos c] at he
        have ih := ih k ⟨by omega, by omega, he⟩ (Nat.lt_succ_self k)
        clear h41 h107 hW0 hB0 hW1 hB1
        refine hZ (fun u => Nat.beq u 4 || Nat.beq u 41 || Nat.beq u 83) 14 4 _ _ _ _ _ ?_
        simp only [sm_run, sm_blk, sm_get, sm_ent, sm_ents, sm_wds, sm_wd, sm_nl, sm_pop, sm_back, sm_cases, oK, oLK, oL, oI, oA, oJ, oIs, oAs, oJs, oInc, oAdd, oSub, oMul, oDiv, oRem, oNeg, oAnd, oAndB, oOr, oShl, oI2c, oI2l, oL2i, oLand, oLor, oLshl, oLshr, oLushr, oLcmp, oDup, oDup2, oPop, oGo, oFg, oEq, oNe, oLt, oGe, oGt, oLe, oEq0, oNe0, oLt0, oGe0, oGt0, oLe0, oSw, oGi, oGr, oPi, oPz, oPr, oLen, oIl, oZl, oCl, oRl, oIst, oZst, oCst, oRst, oCopy, oNew, oNa, oNa2, oObj, oCs, oCv, oCi, oIr, oZr, oVr, Nat.beq, List.getElem?_cons_zero, List.getElem?_cons_succ, List.set_cons_zero, List.set_cons_succ, List.length_cons, List.length_nil, List.nil_append, List.cons_append, List.append_nil, List.replicate_succ, List.replicate_zero, Nat.reduceAdd, Nat.reduceSub, Nat.reduceLT, Nat.reduceLeDiff, Nat.reduceBEq, true_and, and_true, Nat.zero_add, Nat.add_zero, Nat.le_refl, Option.some.injEq, exists_eq_left', true_or, or_true, or_false, false_or, reduceCtorEq, Prod.mk.injEq, Sum.inl.injEq, and_self, false_and, and_false, not_true_eq_false, not_false_eq_true, false_implies, true_implies, sm_r, Int.add_zero, Int.zero_add, wI_wsI, wS_wsI, wR_wsI, wI_wCp, wS_wCp, wR_wCp, Nat.reduceEqDiff, reduceIte, sT_iff, sT_iffC, wIf_ne, ne_eq, Bool.false_or, Bool.true_or, Bool.or_false, Bool.or_true, Bool.or_self, Nat.left_eq_add, Nat.add_eq_left, Nat.add_left_inj, oMax, oMin, oAbs, tb_X4_nextOrder, p_X4_swap, f_X4_swap, p_X4_nextOrder, f_X4_nextOrder, hT, sS_80 hT, sR_80_2 hT, sS_82 hT, hc1, hc3]
        repeat' (first | exact True.intro | with_reducible assumption | with_reducible refine And.intro ?_ ?_ | intro _)
        all_goals first
          | omega
          | assumption
          | rfl
          | (split <;> omega)
          | (have k9 := ih (by omega)
             (repeat' split at k9) <;> first | exact k9 | omega)
          | (have k9 := ih2 (by omega)
             (repeat' split at k9) <;> first | exact k9 | omega)
          | exact he (by omega)
          | ((with_reducible congr 1) <;> omega)
          | (rw [if_pos (by omega)] at he; exact he)
          | exact hD1 (by omega)
          | exact hD2 (by omega)
          | grind
          | skip
      · rw [if_neg c] at he
        have h41 := h41 (by omega)
        subst he
        clear ih h107 hW0 hB0 hW1 hB1
        refine hZ (fun u => Nat.beq u 4 || Nat.beq u 41 || Nat.beq u 83) 14 4 _ _ _ _ _ ?_
        simp only [sm_run, sm_blk, sm_get, sm_ent, sm_ents, sm_wds, sm_wd, sm_nl, sm_pop, sm_back, sm_cases, oK, oLK, oL, oI, oA, oJ, oIs, oAs, oJs, oInc, oAdd, oSub, oMul, oDiv, oRem, oNeg, oAnd, oAndB, oOr, oShl, oI2c, oI2l, oL2i, oLand, oLor, oLshl, oLshr, oLushr, oLcmp, oDup, oDup2, oPop, oGo, oFg, oEq, oNe, oLt, oGe, oGt, oLe, oEq0, oNe0, oLt0, oGe0, oGt0, oLe0, oSw, oGi, oGr, oPi, oPz, oPr, oLen, oIl, oZl, oCl, oRl, oIst, oZst, oCst, oRst, oCopy, oNew, oNa, oNa2, oObj, oCs, oCv, oCi, oIr, oZr, oVr, Nat.beq, List.getElem?_cons_zero, List.getElem?_cons_succ, List.set_cons_zero, List.set_cons_succ, List.length_cons, List.length_nil, List.nil_append, List.cons_append, List.append_nil, List.replicate_succ, List.replicate_zero, Nat.reduceAdd, Nat.reduceSub, Nat.reduceLT, Nat.reduceLeDiff, Nat.reduceBEq, true_and, and_true, Nat.zero_add, Nat.add_zero, Nat.le_refl, Option.some.injEq, exists_eq_left', true_or, or_true, or_false, false_or, reduceCtorEq, Prod.mk.injEq, Sum.inl.injEq, and_self, false_and, and_false, not_true_eq_false, not_false_eq_true, false_implies, true_implies, sm_r, Int.add_zero, Int.zero_add, wI_wsI, wS_wsI, wR_wsI, wI_wCp, wS_wCp, wR_wCp, Nat.reduceEqDiff, reduceIte, sT_iff, sT_iffC, wIf_ne, ne_eq, Bool.false_or, Bool.true_or, Bool.or_false, Bool.or_true, Bool.or_self, Nat.left_eq_add, Nat.add_eq_left, Nat.add_left_inj, oMax, oMin, oAbs, tb_X4_nextOrder, p_X4_swap, f_X4_swap, p_X4_nextOrder, f_X4_nextOrder, hT, sS_80 hT, sR_80_2 hT, sS_82 hT, hc1]
        repeat' (first | exact True.intro | with_reducible assumption | with_reducible refine And.intro ?_ ?_ | intro _)
        all_goals first
          | omega
          | assumption
          | rfl
          | (split <;> omega)
          | (have k9 := ih (by omega)
             (repeat' split at k9) <;> first | exact k9 | omega)
          | (have k9 := ih2 (by omega)
             (repeat' split at k9) <;> first | exact k9 | omega)
          | exact he (by omega)
          | ((with_reducible congr 1) <;> omega)
          | (rw [if_pos (by omega)] at he; exact he)
          | exact hD1 (by omega)
          | exact hD2 (by omega)
          | grind
          | skip
    )
  by_cases hn : 1 ≤ n
  · have h9 := hl (n - 1).toNat ⟨by omega, by omega, hA⟩
    rw [show (((n - 1).toNat : Nat) : Int) - 1 = n - 2 by omega] at h9
    clear h41 h107 hW0 hB0 hW1 hB1
    refine hZ (fun u => Nat.beq u 4 || Nat.beq u 41 || Nat.beq u 83) 14 0 _ _ _ _ _ ?_
    simp only [sm_run, sm_blk, sm_get, sm_ent, sm_ents, sm_wds, sm_wd, sm_nl, sm_pop, sm_back, sm_cases, oK, oLK, oL, oI, oA, oJ, oIs, oAs, oJs, oInc, oAdd, oSub, oMul, oDiv, oRem, oNeg, oAnd, oAndB, oOr, oShl, oI2c, oI2l, oL2i, oLand, oLor, oLshl, oLshr, oLushr, oLcmp, oDup, oDup2, oPop, oGo, oFg, oEq, oNe, oLt, oGe, oGt, oLe, oEq0, oNe0, oLt0, oGe0, oGt0, oLe0, oSw, oGi, oGr, oPi, oPz, oPr, oLen, oIl, oZl, oCl, oRl, oIst, oZst, oCst, oRst, oCopy, oNew, oNa, oNa2, oObj, oCs, oCv, oCi, oIr, oZr, oVr, Nat.beq, List.getElem?_cons_zero, List.getElem?_cons_succ, List.set_cons_zero, List.set_cons_succ, List.length_cons, List.length_nil, List.nil_append, List.cons_append, List.append_nil, List.replicate_succ, List.replicate_zero, Nat.reduceAdd, Nat.reduceSub, Nat.reduceLT, Nat.reduceLeDiff, Nat.reduceBEq, true_and, and_true, Nat.zero_add, Nat.add_zero, Nat.le_refl, Option.some.injEq, exists_eq_left', true_or, or_true, or_false, false_or, reduceCtorEq, Prod.mk.injEq, Sum.inl.injEq, and_self, false_and, and_false, not_true_eq_false, not_false_eq_true, false_implies, true_implies, sm_r, Int.add_zero, Int.zero_add, wI_wsI, wS_wsI, wR_wsI, wI_wCp, wS_wCp, wR_wCp, Nat.reduceEqDiff, reduceIte, sT_iff, sT_iffC, wIf_ne, ne_eq, Bool.false_or, Bool.true_or, Bool.or_false, Bool.or_true, Bool.or_self, Nat.left_eq_add, Nat.add_eq_left, Nat.add_left_inj, oMax, oMin, oAbs, tb_X4_nextOrder, p_X4_swap, f_X4_swap, p_X4_nextOrder, f_X4_nextOrder]
    repeat' (first | exact True.intro | with_reducible assumption | with_reducible refine And.intro ?_ ?_ | intro _)
    all_goals first
      | omega
      | assumption
      | rfl
      | (split <;> omega)
      | (have k9 := ih (by omega)
         (repeat' split at k9) <;> first | exact k9 | omega)
      | (have k9 := ih2 (by omega)
         (repeat' split at k9) <;> first | exact k9 | omega)
      | exact he (by omega)
      | ((with_reducible congr 1) <;> omega)
      | (rw [if_pos (by omega)] at he; exact he)
      | exact hD1 (by omega)
      | exact hD2 (by omega)
      | skip
  · have hn0 : n = 0 := by omega
    subst hn0
    have hA0 : A = -1 := by rw [← hA]; rfl
    have hW0 := hW0 (by omega)
    have hB0 := hB0 (by omega)
    clear h41 h107 hl hW1 hB1
    refine hZ (fun u => Nat.beq u 41 || Nat.beq u 83) 14 0 _ _ _ _ _ ?_
    simp only [sm_run, sm_blk, sm_get, sm_ent, sm_ents, sm_wds, sm_wd, sm_nl, sm_pop, sm_back, sm_cases, oK, oLK, oL, oI, oA, oJ, oIs, oAs, oJs, oInc, oAdd, oSub, oMul, oDiv, oRem, oNeg, oAnd, oAndB, oOr, oShl, oI2c, oI2l, oL2i, oLand, oLor, oLshl, oLshr, oLushr, oLcmp, oDup, oDup2, oPop, oGo, oFg, oEq, oNe, oLt, oGe, oGt, oLe, oEq0, oNe0, oLt0, oGe0, oGt0, oLe0, oSw, oGi, oGr, oPi, oPz, oPr, oLen, oIl, oZl, oCl, oRl, oIst, oZst, oCst, oRst, oCopy, oNew, oNa, oNa2, oObj, oCs, oCv, oCi, oIr, oZr, oVr, Nat.beq, List.getElem?_cons_zero, List.getElem?_cons_succ, List.set_cons_zero, List.set_cons_succ, List.length_cons, List.length_nil, List.nil_append, List.cons_append, List.append_nil, List.replicate_succ, List.replicate_zero, Nat.reduceAdd, Nat.reduceSub, Nat.reduceLT, Nat.reduceLeDiff, Nat.reduceBEq, true_and, and_true, Nat.zero_add, Nat.add_zero, Nat.le_refl, Option.some.injEq, exists_eq_left', true_or, or_true, or_false, false_or, reduceCtorEq, Prod.mk.injEq, Sum.inl.injEq, and_self, false_and, and_false, not_true_eq_false, not_false_eq_true, false_implies, true_implies, sm_r, Int.add_zero, Int.zero_add, wI_wsI, wS_wsI, wR_wsI, wI_wCp, wS_wCp, wR_wCp, Nat.reduceEqDiff, reduceIte, sT_iff, sT_iffC, wIf_ne, ne_eq, Bool.false_or, Bool.true_or, Bool.or_false, Bool.or_true, Bool.or_self, Nat.left_eq_add, Nat.add_eq_left, Nat.add_left_inj, oMax, oMin, oAbs, tb_X4_nextOrder, p_X4_swap, f_X4_swap, p_X4_nextOrder, f_X4_nextOrder, hEW, hEB]
    repeat' (first | exact True.intro | with_reducible assumption | with_reducible refine And.intro ?_ ?_ | intro _)
    all_goals first
      | omega
      | assumption
      | rfl
      | (split <;> omega)
      | (have k9 := ih (by omega)
         (repeat' split at k9) <;> first | exact k9 | omega)
      | (have k9 := ih2 (by omega)
         (repeat' split at k9) <;> first | exact k9 | omega)
      | exact he (by omega)
      | ((with_reducible congr 1) <;> omega)
      | (rw [if_pos (by omega)] at he; exact he)
      | exact hD1 (by omega)
      | exact hD2 (by omega)
      | grind
      | skip
theorem met_X4_nextOrder (l : Launch) : sm_Met l yX4_nextOrder cX4_nextOrder 6 (some .boolean) 1 0 0 p_X4_nextOrder f_X4_nextOrder := sm_met 2 (Or.inr (Or.inr ⟨rfl, rfl⟩)) (by decide +kernel) (sn_X4_nextOrder l) ok_X4_nextOrder
def zKb (w : sm_W) (D n : Int) : sm_W := if D < 0 then w else (if wI w 80 1 < 0 then wCp (wsI w 80 1 D) 82 81 n else (if D < wI w 80 1 then wCp (wsI w 80 1 D) 82 81 n else w))
def p_X4_keepIfBetter : List sm_V → sm_W → Prop
  | [.inr (.inl o), .inl D, .inl n], w => o = 80 ∧ sT w ∧ 0 ≤ n ∧ n ≤ 5
  | _, _ => False
def f_X4_keepIfBetter : sm_F
  | [.inr (.inl o), .inl D, .inl n], w => (none, zKb w D n)
  | _, w => (none, w)
def tb_X4_keepIfBetter : List (Nat × List sm_O) := [(0, [oI 1, oLt0 38, oA 0, oGi 4 3 1, oLt0 19, oI 1, oA 0, oGi 4 3 1, oGe 38, oGo 19]),
  (19, [oA 0, oI 1, oPi 4 3 1, oA 0, oGr 4 3 2, oK 0, oA 0, oGr 4 3 0, oK 0, oI 2, oCopy, oGo 38]),
  (38, [oVr])]
set_option maxRecDepth 100000 in
theorem sb_X4_keepIfBetter_0 (l : Launch) : sm_SndB l RX4 "keepIfBetter" cX4_keepIfBetter 3 0 1 0 [oI 1, oLt0 38, oA 0, oGi 4 3 1, oLt0 19, oI 1, oA 0, oGi 4 3 1, oGe 38, oGo 19] := sb_cons (sd_iload_n (by decide +kernel : decode cX4_keepIfBetter 0 = .ok (.iload_n 1, 1)) rfl) (sb_cons (sd_lt0 (by decide +kernel : decode cX4_keepIfBetter 1 = .ok (.ifCond .lt 37, 3)) (by decide)) (sb_cons (sd_aload_n (by decide +kernel : decode cX4_keepIfBetter 4 = .ok (.aload_n 0, 1)) rfl) (sb_cons (sd_geti (k := 1) kl_4 (by decide) rfl wm_117 (by decide +kernel : decode cX4_keepIfBetter 5 = .ok (.getfield 36, 3))) (sb_cons (sd_lt0 (by decide +kernel : decode cX4_keepIfBetter 8 = .ok (.ifCond .lt 11, 3)) (by decide)) (sb_cons (sd_iload_n (by decide +kernel : decode cX4_keepIfBetter 11 = .ok (.iload_n 1, 1)) rfl) (sb_cons (sd_aload_n (by decide +kernel : decode cX4_keepIfBetter 12 = .ok (.aload_n 0, 1)) rfl) (sb_cons (sd_geti (k := 1) kl_4 (by decide) rfl wm_117 (by decide +kernel : decode cX4_keepIfBetter 13 = .ok (.getfield 36, 3))) (sb_cons (sd_ge (by decide +kernel : decode cX4_keepIfBetter 16 = .ok (.if_icmp .ge 22, 3)) (by decide)) (sb_cons (sd_fall (x := 0)) sb_nil)))))))))
set_option maxRecDepth 100000 in
theorem sb_X4_keepIfBetter_19 (l : Launch) : sm_SndB l RX4 "keepIfBetter" cX4_keepIfBetter 3 0 1 19 [oA 0, oI 1, oPi 4 3 1, oA 0, oGr 4 3 2, oK 0, oA 0, oGr 4 3 0, oK 0, oI 2, oCopy, oGo 38] := sb_cons (sd_aload_n (by decide +kernel : decode cX4_keepIfBetter 19 = .ok (.aload_n 0, 1)) rfl) (sb_cons (sd_iload_n (by decide +kernel : decode cX4_keepIfBetter 20 = .ok (.iload_n 1, 1)) rfl) (sb_cons (sd_puti (k := 1) kl_4 (by decide) rfl (Or.inl rfl) wm_117 (by decide +kernel : decode cX4_keepIfBetter 21 = .ok (.putfield 36, 3))) (sb_cons (sd_aload_n (by decide +kernel : decode cX4_keepIfBetter 24 = .ok (.aload_n 0, 1)) rfl) (sb_cons (sd_getr (k := 2) kl_4 (by decide) rfl wm_119 (by decide +kernel : decode cX4_keepIfBetter 25 = .ok (.getfield 15, 3))) (sb_cons (sd_iconst (by decide +kernel : decode cX4_keepIfBetter 28 = .ok (.iconst 0, 1)) ⟨by decide, by decide⟩) (sb_cons (sd_aload_n (by decide +kernel : decode cX4_keepIfBetter 29 = .ok (.aload_n 0, 1)) rfl) (sb_cons (sd_getr (k := 0) kl_4 (by decide) rfl wm_115 (by decide +kernel : decode cX4_keepIfBetter 30 = .ok (.getfield 9, 3))) (sb_cons (sd_iconst (by decide +kernel : decode cX4_keepIfBetter 33 = .ok (.iconst 0, 1)) ⟨by decide, by decide⟩) (sb_cons (sd_iload_n (by decide +kernel : decode cX4_keepIfBetter 34 = .ok (.iload_n 2, 1)) rfl) (sb_cons (sd_copy (by decide) wm_548 wm_169 wm_168 wm_11 (by decide +kernel : decode cX4_keepIfBetter 35 = .ok (.invokestatic 60, 3))) (sb_cons (sd_fall (x := 0)) sb_nil)))))))))))
set_option maxRecDepth 100000 in
theorem sb_X4_keepIfBetter_38 (l : Launch) : sm_SndB l RX4 "keepIfBetter" cX4_keepIfBetter 3 0 1 38 [oVr] := sb_cons (sd_return (x := 0) rfl (by decide +kernel : decode cX4_keepIfBetter 38 = .ok (.return_, 1))) sb_nil
theorem sn_X4_keepIfBetter (l : Launch) : sm_SndT l RX4 "keepIfBetter" cX4_keepIfBetter 3 0 1 tb_X4_keepIfBetter := st_cons (sb_X4_keepIfBetter_0 l) (st_cons (sb_X4_keepIfBetter_19 l) (st_cons (sb_X4_keepIfBetter_38 l) (st_nil)))
set_option maxRecDepth 100000 in
set_option maxHeartbeats 4000000 in
theorem ok_X4_keepIfBetter : sm_Ok tb_X4_keepIfBetter 3 0 0 p_X4_keepIfBetter f_X4_keepIfBetter := by
  intro as w hp ha hw
  match as, hp with
  | [.inr (.inl o), .inl D, .inl n], hp =>
  refine ⟨Nat.le_of_ble_eq_true rfl, fun Z hZ => ?_⟩
  obtain ⟨rfl, hT, n0, n1⟩ := hp
  obtain ⟨z, hz⟩ : ∃ z, z = zKb w D n := ⟨_, rfl⟩
  have hze : zKb w D n = z := hz.symm
  unfold zKb at hz
  by_cases c : D < 0
  · rw [if_pos c] at hz
    refine hZ (fun _ => false) 16 0 _ _ _ _ _ ?_
    simp only [sm_run, sm_blk, sm_get, sm_ent, sm_ents, sm_wds, sm_wd, sm_nl, sm_pop, sm_back, sm_cases, oK, oLK, oL, oI, oA, oJ, oIs, oAs, oJs, oInc, oAdd, oSub, oMul, oDiv, oRem, oNeg, oAnd, oAndB, oOr, oShl, oI2c, oI2l, oL2i, oLand, oLor, oLshl, oLshr, oLushr, oLcmp, oDup, oDup2, oPop, oGo, oFg, oEq, oNe, oLt, oGe, oGt, oLe, oEq0, oNe0, oLt0, oGe0, oGt0, oLe0, oSw, oGi, oGr, oPi, oPz, oPr, oLen, oIl, oZl, oCl, oRl, oIst, oZst, oCst, oRst, oCopy, oNew, oNa, oNa2, oObj, oCs, oCv, oCi, oIr, oZr, oVr, Nat.beq, List.getElem?_cons_zero, List.getElem?_cons_succ, List.set_cons_zero, List.set_cons_succ, List.length_cons, List.length_nil, List.nil_append, List.cons_append, List.append_nil, List.replicate_succ, List.replicate_zero, Nat.reduceAdd, Nat.reduceSub, Nat.reduceLT, Nat.reduceLeDiff, Nat.reduceBEq, true_and, and_true, Nat.zero_add, Nat.add_zero, Nat.le_refl, Option.some.injEq, exists_eq_left', true_or, or_true, or_false, false_or, reduceCtorEq, Prod.mk.injEq, Sum.inl.injEq, and_self, false_and, and_false, not_true_eq_false, not_false_eq_true, false_implies, true_implies, sm_r, Int.add_zero, Int.zero_add, wI_wsI, wS_wsI, wR_wsI, wI_wCp, wS_wCp, wR_wCp, Nat.reduceEqDiff, reduceIte, sT_iff, sT_iffC, wIf_ne, ne_eq, Bool.false_or, Bool.true_or, Bool.or_false, Bool.or_true, Bool.or_self, Nat.left_eq_add, Nat.add_eq_left, Nat.add_left_inj, oMax, oMin, oAbs, tb_X4_keepIfBetter, p_X4_keepIfBetter, f_X4_keepIfBetter, sS_80 hT, sR_80_0 hT, sR_80_2 hT, sS_81 hT, sS_82 hT, hze]
    repeat' (first | exact True.intro | with_reducible assumption | with_reducible refine And.intro ?_ ?_ | intro _)
    all_goals first
      | omega
      | assumption
      | rfl
      | (split <;> omega)
      | grind
      | skip
  · rw [if_neg c] at hz
    by_cases c1 : wI w 80 1 < 0
    · rw [if_pos c1] at hz
      refine hZ (fun _ => false) 16 0 _ _ _ _ _ ?_
      simp only [sm_run, sm_blk, sm_get, sm_ent, sm_ents, sm_wds, sm_wd, sm_nl, sm_pop, sm_back, sm_cases, oK, oLK, oL, oI, oA, oJ, oIs, oAs, oJs, oInc, oAdd, oSub, oMul, oDiv, oRem, oNeg, oAnd, oAndB, oOr, oShl, oI2c, oI2l, oL2i, oLand, oLor, oLshl, oLshr, oLushr, oLcmp, oDup, oDup2, oPop, oGo, oFg, oEq, oNe, oLt, oGe, oGt, oLe, oEq0, oNe0, oLt0, oGe0, oGt0, oLe0, oSw, oGi, oGr, oPi, oPz, oPr, oLen, oIl, oZl, oCl, oRl, oIst, oZst, oCst, oRst, oCopy, oNew, oNa, oNa2, oObj, oCs, oCv, oCi, oIr, oZr, oVr, Nat.beq, List.getElem?_cons_zero, List.getElem?_cons_succ, List.set_cons_zero, List.set_cons_succ, List.length_cons, List.length_nil, List.nil_append, List.cons_append, List.append_nil, List.replicate_succ, List.replicate_zero, Nat.reduceAdd, Nat.reduceSub, Nat.reduceLT, Nat.reduceLeDiff, Nat.reduceBEq, true_and, and_true, Nat.zero_add, Nat.add_zero, Nat.le_refl, Option.some.injEq, exists_eq_left', true_or, or_true, or_false, false_or, reduceCtorEq, Prod.mk.injEq, Sum.inl.injEq, and_self, false_and, and_false, not_true_eq_false, not_false_eq_true, false_implies, true_implies, sm_r, Int.add_zero, Int.zero_add, wI_wsI, wS_wsI, wR_wsI, wI_wCp, wS_wCp, wR_wCp, Nat.reduceEqDiff, reduceIte, sT_iff, sT_iffC, wIf_ne, ne_eq, Bool.false_or, Bool.true_or, Bool.or_false, Bool.or_true, Bool.or_self, Nat.left_eq_add, Nat.add_eq_left, Nat.add_left_inj, oMax, oMin, oAbs, tb_X4_keepIfBetter, p_X4_keepIfBetter, f_X4_keepIfBetter, sS_80 hT, sR_80_0 hT, sR_80_2 hT, sS_81 hT, sS_82 hT, hze]
      repeat' (first | exact True.intro | with_reducible assumption | with_reducible refine And.intro ?_ ?_ | intro _)
      all_goals first
        | omega
        | assumption
        | rfl
        | (split <;> omega)
        | grind
        | skip
    · rw [if_neg c1] at hz
      by_cases c2 : D < wI w 80 1
      · rw [if_pos c2] at hz
        refine hZ (fun _ => false) 16 0 _ _ _ _ _ ?_
        simp only [sm_run, sm_blk, sm_get, sm_ent, sm_ents, sm_wds, sm_wd, sm_nl, sm_pop, sm_back, sm_cases, oK, oLK, oL, oI, oA, oJ, oIs, oAs, oJs, oInc, oAdd, oSub, oMul, oDiv, oRem, oNeg, oAnd, oAndB, oOr, oShl, oI2c, oI2l, oL2i, oLand, oLor, oLshl, oLshr, oLushr, oLcmp, oDup, oDup2, oPop, oGo, oFg, oEq, oNe, oLt, oGe, oGt, oLe, oEq0, oNe0, oLt0, oGe0, oGt0, oLe0, oSw, oGi, oGr, oPi, oPz, oPr, oLen, oIl, oZl, oCl, oRl, oIst, oZst, oCst, oRst, oCopy, oNew, oNa, oNa2, oObj, oCs, oCv, oCi, oIr, oZr, oVr, Nat.beq, List.getElem?_cons_zero, List.getElem?_cons_succ, List.set_cons_zero, List.set_cons_succ, List.length_cons, List.length_nil, List.nil_append, List.cons_append, List.append_nil, List.replicate_succ, List.replicate_zero, Nat.reduceAdd, Nat.reduceSub, Nat.reduceLT, Nat.reduceLeDiff, Nat.reduceBEq, true_and, and_true, Nat.zero_add, Nat.add_zero, Nat.le_refl, Option.some.injEq, exists_eq_left', true_or, or_true, or_false, false_or, reduceCtorEq, Prod.mk.injEq, Sum.inl.injEq, and_self, false_and, and_false, not_true_eq_false, not_false_eq_true, false_implies, true_implies, sm_r, Int.add_zero, Int.zero_add, wI_wsI, wS_wsI, wR_wsI, wI_wCp, wS_wCp, wR_wCp, Nat.reduceEqDiff, reduceIte, sT_iff, sT_iffC, wIf_ne, ne_eq, Bool.false_or, Bool.true_or, Bool.or_false, Bool.or_true, Bool.or_self, Nat.left_eq_add, Nat.add_eq_left, Nat.add_left_inj, oMax, oMin, oAbs, tb_X4_keepIfBetter, p_X4_keepIfBetter, f_X4_keepIfBetter, sS_80 hT, sR_80_0 hT, sR_80_2 hT, sS_81 hT, sS_82 hT, hze]
        repeat' (first | exact True.intro | with_reducible assumption | with_reducible refine And.intro ?_ ?_ | intro _)
        all_goals first
          | omega
          | assumption
          | rfl
          | (split <;> omega)
          | grind
          | skip
      · rw [if_neg c2] at hz
        refine hZ (fun _ => false) 16 0 _ _ _ _ _ ?_
        simp only [sm_run, sm_blk, sm_get, sm_ent, sm_ents, sm_wds, sm_wd, sm_nl, sm_pop, sm_back, sm_cases, oK, oLK, oL, oI, oA, oJ, oIs, oAs, oJs, oInc, oAdd, oSub, oMul, oDiv, oRem, oNeg, oAnd, oAndB, oOr, oShl, oI2c, oI2l, oL2i, oLand, oLor, oLshl, oLshr, oLushr, oLcmp, oDup, oDup2, oPop, oGo, oFg, oEq, oNe, oLt, oGe, oGt, oLe, oEq0, oNe0, oLt0, oGe0, oGt0, oLe0, oSw, oGi, oGr, oPi, oPz, oPr, oLen, oIl, oZl, oCl, oRl, oIst, oZst, oCst, oRst, oCopy, oNew, oNa, oNa2, oObj, oCs, oCv, oCi, oIr, oZr, oVr, Nat.beq, List.getElem?_cons_zero, List.getElem?_cons_succ, List.set_cons_zero, List.set_cons_succ, List.length_cons, List.length_nil, List.nil_append, List.cons_append, List.append_nil, List.replicate_succ, List.replicate_zero, Nat.reduceAdd, Nat.reduceSub, Nat.reduceLT, Nat.reduceLeDiff, Nat.reduceBEq, true_and, and_true, Nat.zero_add, Nat.add_zero, Nat.le_refl, Option.some.injEq, exists_eq_left', true_or, or_true, or_false, false_or, reduceCtorEq, Prod.mk.injEq, Sum.inl.injEq, and_self, false_and, and_false, not_true_eq_false, not_false_eq_true, false_implies, true_implies, sm_r, Int.add_zero, Int.zero_add, wI_wsI, wS_wsI, wR_wsI, wI_wCp, wS_wCp, wR_wCp, Nat.reduceEqDiff, reduceIte, sT_iff, sT_iffC, wIf_ne, ne_eq, Bool.false_or, Bool.true_or, Bool.or_false, Bool.or_true, Bool.or_self, Nat.left_eq_add, Nat.add_eq_left, Nat.add_left_inj, oMax, oMin, oAbs, tb_X4_keepIfBetter, p_X4_keepIfBetter, f_X4_keepIfBetter, sS_80 hT, sR_80_0 hT, sR_80_2 hT, sS_81 hT, sS_82 hT, hze]
        repeat' (first | exact True.intro | with_reducible assumption | with_reducible refine And.intro ?_ ?_ | intro _)
        all_goals first
          | omega
          | assumption
          | rfl
          | (split <;> omega)
          | grind
          | skip

theorem met_X4_keepIfBetter (l : Launch) : sm_Met l yX4_keepIfBetter cX4_keepIfBetter 3 none 1 0 0 p_X4_keepIfBetter f_X4_keepIfBetter := sm_met 0 (Or.inl ⟨rfl, rfl⟩) (by decide +kernel) (sn_X4_keepIfBetter l) ok_X4_keepIfBetter