/-! CONSTRUCTORS: what they make, as a list of makings -/
abbrev iOp : Type := Nat × Nat × Int × Nat
/-- 0: a cell; 1: a reference; 2: a row filled; 3: rows of 8 -/
def iO (o : iOp) (w : sm_W) : sm_W := match o.1 with
  | 0 => wNw w o.2.1 o.2.2.2
  | 1 => wsR w o.2.1 o.2.2.1 o.2.2.2
  | 2 => fiW o.2.1 o.2.2.1 (o.2.2.2 : Int) w
  | _ => wNw2 w o.2.2.2 8
def iW : List iOp → sm_W → sm_W
  | [], w => w
  | o :: r, w => iW r (iO o w)
theorem wsR_n (w : sm_W) (a : Nat) (i : Int) (v : Nat) : (wsR w a i v).1 = w.1 := rfl
theorem wNw_n (w : sm_W) (kd sz : Nat) : (wNw w kd sz).1 = w.1 + 1 := rfl
theorem wNw2_n (w : sm_W) (n m : Nat) : (wNw2 w n m).1 = w.1 + 1 + n := rfl
theorem wS_wNw (w : sm_W) (kd sz x : Nat) : wS (wNw w kd sz) x = if x = w.1 then (kd, sz) else wS w x := rfl
theorem wR_wNw (w : sm_W) (kd sz x : Nat) (j : Int) : wR (wNw w kd sz) x j = if x = w.1 then none else wR w x j := rfl
theorem wI_wNw (w : sm_W) (kd sz x : Nat) (j : Int) : wI (wNw w kd sz) x j = if x = w.1 then 0 else wI w x j := rfl
theorem wS_wNw2 (w : sm_W) (n m x : Nat) : wS (wNw2 w n m) x = if x = w.1 then (13, n) else if w.1 < x ∧ x < w.1 + 1 + n then (9, m) else wS w x := rfl
theorem wI_wNw2 (w : sm_W) (n m x : Nat) (j : Int) : wI (wNw2 w n m) x j = if w.1 ≤ x ∧ x < w.1 + 1 + n then 0 else wI w x j := rfl
theorem wR_wNw2 (w : sm_W) (n m x : Nat) (j : Int) : wR (wNw2 w n m) x j = if x = w.1 then (if 0 ≤ j ∧ j < (n : Int) then some (w.1 + 1 + j.toNat) else none) else if w.1 < x ∧ x < w.1 + 1 + n then none else wR w x j := rfl
theorem fiW_n (a : Nat) (v : Int) (n : Nat) (w : sm_W) : (fiW a v (n : Int) w).1 = w.1 := (fiW_in a v w _ (by omega)).2.2.2.1
theorem fiW_S (a b : Nat) (v : Int) (n : Nat) (w : sm_W) : wS (fiW a v (n : Int) w) b = wS w b := (fiW_in a v w _ (by omega)).1 b
theorem fiW_R (a b : Nat) (v j : Int) (n : Nat) (w : sm_W) : wR (fiW a v (n : Int) w) b j = wR w b j := (fiW_in a v w _ (by omega)).2.2.2.2 b j
def opsLine (a : Nat) : List iOp := [(0, 9, 0, 8), (1, a, 0, a + 1), (0, 9, 0, 7), (1, a, 1, a + 2), (0, 9, 0, 8), (1, a, 2, a + 3), (0, 9, 0, 8), (1, a, 3, a + 4), (0, 9, 0, 8), (1, a, 4, a + 5), (0, 9, 0, 8), (1, a, 5, a + 6), (0, 9, 0, 8), (1, a, 6, a + 7), (2, a + 1, 2, 8), (2, a + 2, 10, 7)]
def p_X2_init : List sm_V → sm_W → Prop
  | [.inr (.inl a)], w => w.1 = a + 1 ∧ wS w a = (2, 9) ∧ a ≤ 900
  | _, _ => False
def f_X2_init : sm_F
  | [.inr (.inl a)], w => (none, iW (opsLine a) w)
  | _, w => (none, w)
def tb_X2_init : List (Nat × List sm_O) := [(0, [oA 0, oObj, oA 0, oK 8, oNa 9, oPr 2 9 0, oA 0, oK 7, oNa 9, oPr 2 9 1, oA 0, oK 8, oNa 9, oPr 2 9 2, oA 0, oK 8, oNa 9, oPr 2 9 3, oA 0, oK 8, oNa 9, oPr 2 9 4, oA 0, oK 8, oNa 9, oPr 2 9 5, oA 0, oK 8, oNa 9, oPr 2 9 6, oA 0, oGr 2 9 0, oK 2, oCs p_J7_fill_53178 f_J7_fill_53178 0 0 2, oA 0, oGr 2 9 1, oK 10, oCs p_J7_fill_53178 f_J7_fill_53178 0 0 2, oVr])]
set_option maxRecDepth 100000 in
theorem sb_X2_init_0 (l : Launch) : sm_SndB l RX2 "<init>" cX2_init 1 0 1 0 [oA 0, oObj, oA 0, oK 8, oNa 9, oPr 2 9 0, oA 0, oK 7, oNa 9, oPr 2 9 1, oA 0, oK 8, oNa 9, oPr 2 9 2, oA 0, oK 8, oNa 9, oPr 2 9 3, oA 0, oK 8, oNa 9, oPr 2 9 4, oA 0, oK 8, oNa 9, oPr 2 9 5, oA 0, oK 8, oNa 9, oPr 2 9 6, oA 0, oGr 2 9 0, oK 2, oCs p_J7_fill_53178 f_J7_fill_53178 0 0 2, oA 0, oGr 2 9 1, oK 10, oCs p_J7_fill_53178 f_J7_fill_53178 0 0 2, oVr] := sb_cons (sd_aload_n (by decide +kernel : decode cX2_init 0 = .ok (.aload_n 0, 1)) rfl) (sb_cons (sd_obj (by decide) wm_34 wm_20 wm_21 (by decide +kernel : decode cX2_init 1 = .ok (.invokespecial 3, 3))) (sb_cons (sd_aload_n (by decide +kernel : decode cX2_init 4 = .ok (.aload_n 0, 1)) rfl) (sb_cons (sd_bipush (by decide +kernel : decode cX2_init 5 = .ok (.bipush 8, 2)) ⟨by decide, by decide⟩ (by decide)) (sb_cons (sd_newa_i wm_66 (by decide +kernel : decode cX2_init 7 = .ok (.newarray .int, 2))) (sb_cons (sd_putr (k := 0) kl_2 (by decide) rfl (fun _ => ⟨rfl, rfl⟩) (Or.inr ⟨rfl, rfl⟩) wm_39 (by decide +kernel : decode cX2_init 9 = .ok (.putfield 9, 3))) (sb_cons (sd_aload_n (by decide +kernel : decode cX2_init 12 = .ok (.aload_n 0, 1)) rfl) (sb_cons (sd_bipush (by decide +kernel : decode cX2_init 13 = .ok (.bipush 7, 2)) ⟨by decide, by decide⟩ (by decide)) (sb_cons (sd_newa_i wm_66 (by decide +kernel : decode cX2_init 15 = .ok (.newarray .int, 2))) (sb_cons (sd_putr (k := 1) kl_2 (by decide) rfl (fun _ => ⟨rfl, rfl⟩) (Or.inr ⟨rfl, rfl⟩) wm_42 (by decide +kernel : decode cX2_init 17 = .ok (.putfield 15, 3))) (sb_cons (sd_aload_n (by decide +kernel : decode cX2_init 20 = .ok (.aload_n 0, 1)) rfl) (sb_cons (sd_bipush (by decide +kernel : decode cX2_init 21 = .ok (.bipush 8, 2)) ⟨by decide, by decide⟩ (by decide)) (sb_cons (sd_newa_i wm_66 (by decide +kernel : decode cX2_init 23 = .ok (.newarray .int, 2))) (sb_cons (sd_putr (k := 2) kl_2 (by decide) rfl (fun _ => ⟨rfl, rfl⟩) (Or.inr ⟨rfl, rfl⟩) wm_45 (by decide +kernel : decode cX2_init 25 = .ok (.putfield 18, 3))) (sb_cons (sd_aload_n (by decide +kernel : decode cX2_init 28 = .ok (.aload_n 0, 1)) rfl) (sb_cons (sd_bipush (by decide +kernel : decode cX2_init 29 = .ok (.bipush 8, 2)) ⟨by decide, by decide⟩ (by decide)) (sb_cons (sd_newa_i wm_66 (by decide +kernel : decode cX2_init 31 = .ok (.newarray .int, 2))) (sb_cons (sd_putr (k := 3) kl_2 (by decide) rfl (fun _ => ⟨rfl, rfl⟩) (Or.inr ⟨rfl, rfl⟩) wm_47 (by decide +kernel : decode cX2_init 33 = .ok (.putfield 21, 3))) (sb_cons (sd_aload_n (by decide +kernel : decode cX2_init 36 = .ok (.aload_n 0, 1)) rfl) (sb_cons (sd_bipush (by decide +kernel : decode cX2_init 37 = .ok (.bipush 8, 2)) ⟨by decide, by decide⟩ (by decide)) (sb_cons (sd_newa_i wm_66 (by decide +kernel : decode cX2_init 39 = .ok (.newarray .int, 2))) (sb_cons (sd_putr (k := 4) kl_2 (by decide) rfl (fun _ => ⟨rfl, rfl⟩) (Or.inr ⟨rfl, rfl⟩) wm_49 (by decide +kernel : decode cX2_init 41 = .ok (.putfield 24, 3))) (sb_cons (sd_aload_n (by decide +kernel : decode cX2_init 44 = .ok (.aload_n 0, 1)) rfl) (sb_cons (sd_bipush (by decide +kernel : decode cX2_init 45 = .ok (.bipush 8, 2)) ⟨by decide, by decide⟩ (by decide)) (sb_cons (sd_newa_i wm_66 (by decide +kernel : decode cX2_init 47 = .ok (.newarray .int, 2))) (sb_cons (sd_putr (k := 5) kl_2 (by decide) rfl (fun _ => ⟨rfl, rfl⟩) (Or.inr ⟨rfl, rfl⟩) wm_51 (by decide +kernel : decode cX2_init 49 = .ok (.putfield 27, 3))) (sb_cons (sd_aload_n (by decide +kernel : decode cX2_init 52 = .ok (.aload_n 0, 1)) rfl) (sb_cons (sd_bipush (by decide +kernel : decode cX2_init 53 = .ok (.bipush 8, 2)) ⟨by decide, by decide⟩ (by decide)) (sb_cons (sd_newa_i wm_66 (by decide +kernel : decode cX2_init 55 = .ok (.newarray .int, 2))) (sb_cons (sd_putr (k := 6) kl_2 (by decide) rfl (fun _ => ⟨rfl, rfl⟩) (Or.inr ⟨rfl, rfl⟩) wm_53 (by decide +kernel : decode cX2_init 57 = .ok (.putfield 30, 3))) (sb_cons (sd_aload_n (by decide +kernel : decode cX2_init 60 = .ok (.aload_n 0, 1)) rfl) (sb_cons (sd_getr (k := 0) kl_2 (by decide) rfl wm_39 (by decide +kernel : decode cX2_init 61 = .ok (.getfield 9, 3))) (sb_cons (sd_iconst (by decide +kernel : decode cX2_init 64 = .ok (.iconst 2, 1)) ⟨by decide, by decide⟩) (sb_cons (sd_calls (n := 2) (met_J7_fill_53178 l) (by decide) (by decide) wm_37 wm_35 wm_4 ⟨by decide +kernel, by decide +kernel, by decide +kernel⟩ wm_36 (by decide +kernel : decode cX2_init 65 = .ok (.invokestatic 33, 3))) (sb_cons (sd_aload_n (by decide +kernel : decode cX2_init 68 = .ok (.aload_n 0, 1)) rfl) (sb_cons (sd_getr (k := 1) kl_2 (by decide) rfl wm_42 (by decide +kernel : decode cX2_init 69 = .ok (.getfield 15, 3))) (sb_cons (sd_bipush (by decide +kernel : decode cX2_init 72 = .ok (.bipush 10, 2)) ⟨by decide, by decide⟩ (by decide)) (sb_cons (sd_calls (n := 2) (met_J7_fill_53178 l) (by decide) (by decide) wm_37 wm_35 wm_4 ⟨by decide +kernel, by decide +kernel, by decide +kernel⟩ wm_36 (by decide +kernel : decode cX2_init 74 = .ok (.invokestatic 33, 3))) (sb_cons (sd_return (x := 0) rfl (by decide +kernel : decode cX2_init 77 = .ok (.return_, 1))) sb_nil))))))))))))))))))))))))))))))))))))))
theorem sn_X2_init (l : Launch) : sm_SndT l RX2 "<init>" cX2_init 1 0 1 tb_X2_init := st_cons (sb_X2_init_0 l) (st_nil)
set_option maxRecDepth 100000 in
set_option maxHeartbeats 4000000 in
theorem ok_X2_init : sm_Ok tb_X2_init 1 7 55 p_X2_init f_X2_init := by
  intro as w hp ha hw
  match as, hp with
  | [.inr (.inl a)], hp =>
  refine ⟨Nat.le_of_ble_eq_true rfl, fun Z hZ => ?_⟩
  obtain ⟨hn, hs, ha9⟩ := hp
  have hE : iW (opsLine a) w = iW (opsLine a) w := rfl
  refine hZ (fun _ => false) 16 0 _ _ _ _ _ ?_
  simp only [sm_run, sm_blk, sm_get, sm_ent, sm_ents, sm_wds, sm_wd, sm_nl, sm_pop, sm_back, sm_cases, oK, oLK, oL, oI, oA, oJ, oIs, oAs, oJs, oInc, oAdd, oSub, oMul, oDiv, oRem, oNeg, oAnd, oAndB, oOr, oShl, oI2c, oI2l, oL2i, oLand, oLor, oLshl, oLshr, oLushr, oLcmp, oDup, oDup2, oPop, oGo, oFg, oEq, oNe, oLt, oGe, oGt, oLe, oEq0, oNe0, oLt0, oGe0, oGt0, oLe0, oSw, oGi, oGr, oPi, oPz, oPr, oLen, oIl, oZl, oCl, oRl, oIst, oZst, oCst, oRst, oCopy, oNew, oNa, oNa2, oObj, oCs, oCv, oCi, oIr, oZr, oVr, Nat.beq, List.getElem?_cons_zero, List.getElem?_cons_succ, List.set_cons_zero, List.set_cons_succ, List.length_cons, List.length_nil, List.nil_append, List.cons_append, List.append_nil, List.replicate_succ, List.replicate_zero, Nat.reduceAdd, Nat.reduceSub, Nat.reduceLT, Nat.reduceLeDiff, Nat.reduceBEq, true_and, and_true, Nat.zero_add, Nat.add_zero, Nat.le_refl, Option.some.injEq, exists_eq_left', true_or, or_true, or_false, false_or, reduceCtorEq, Prod.mk.injEq, Sum.inl.injEq, and_self, false_and, and_false, not_true_eq_false, not_false_eq_true, false_implies, true_implies, sm_r, Int.add_zero, Int.zero_add, wI_wsI, wS_wsI, wR_wsI, wI_wCp, wS_wCp, wR_wCp, Nat.reduceEqDiff, reduceIte, sT_iff, sT_iffC, wIf_ne, ne_eq, Bool.false_or, Bool.true_or, Bool.or_false, Bool.or_true, Bool.or_self, Nat.left_eq_add, Nat.add_eq_left, Nat.add_left_inj, oMax, oMin, oAbs, tb_X2_init, p_J7_fill_53178, f_J7_fill_53178, p_X2_init, f_X2_init, hs, hn, wsR_n, wNw_n, wS_wNw, wR_wNw, wS_wsR, wR_wsR, fiW_S, fiW_R, Nat.add_assoc, Int.reduceEq]
  repeat' (first | exact True.intro | with_reducible assumption | with_reducible refine And.intro ?_ ?_ | intro _)
  all_goals first
    | omega
    | assumption
    | rfl
    | (split <;> omega)
    | grind
    | skip
theorem met_X2_init (l : Launch) : sm_Met l yX2_init cX2_init 1 none 1 7 55 p_X2_init f_X2_init := sm_met 0 (Or.inl ⟨rfl, rfl⟩) (by decide +kernel) (sn_X2_init l) ok_X2_init
def opsDay (d : Nat) : List iOp := (0, 2, 0, 9) :: opsLine (d + 1) ++ [(1, d, 0, d + 1), (3, 0, 0, 8), (1, d, 1, d + 9), (3, 0, 0, 8), (1, d, 2, d + 18), (0, 9, 0, 8), (1, d, 5, d + 27), (0, 10, 0, 8), (1, d, 6, d + 28), (0, 9, 0, 8), (1, d, 7, d + 29), (0, 9, 0, 8), (1, d, 8, d + 30), (0, 10, 0, 7), (1, d, 9, d + 31), (0, 9, 0, 8), (1, d, 10, d + 32)]
theorem iO_lt {o : iOp} {w : sm_W} : w.1 ≤ (iO o w).1 ∧ ∀ x, x < w.1 → wS (iO o w) x = wS w x := by
  obtain ⟨t, a, i, n⟩ := o
  unfold iO
  dsimp only
  split
  · exact ⟨by rw [wNw_n]; omega, fun x hx => by rw [wS_wNw, if_neg (by omega)]⟩
  · exact ⟨Nat.le_refl _, fun x hx => rfl⟩
  · exact ⟨by rw [fiW_n]; omega, fun x hx => fiW_S _ _ _ _ _⟩
  · exact ⟨by rw [wNw2_n]; omega, fun x hx => by rw [wS_wNw2, if_neg (by omega), if_neg (by omega)]⟩
theorem iW_S : ∀ (ops : List iOp) (w : sm_W) {x : Nat}, x < w.1 → wS (iW ops w) x = wS w x
  | [], _, _, _ => rfl
  | o :: r, w, x, h => by
    have h1 := iO_lt (o := o) (w := w)
    show wS (iW r (iO o w)) x = _
    rw [iW_S r (iO o w) (by omega), h1.2 x h]
theorem iO_R {o : iOp} {w : sm_W} {x : Nat} (h : x < w.1) (ho : ¬ (o.1 = 1 ∧ o.2.1 = x)) (j : Int) : wR (iO o w) x j = wR w x j := by
  obtain ⟨t, a, i, n⟩ := o
  unfold iO
  dsimp only at *
  split
  · rw [wR_wNw, if_neg (by omega)]
  · rw [wR_wsR, if_neg (fun e => ho ⟨rfl, e.1.symm⟩)]
  · exact fiW_R _ _ _ _ _ _
  · rw [wR_wNw2, if_neg (by omega), if_neg (by omega)]
theorem iW_R : ∀ (ops : List iOp) (w : sm_W) {x : Nat}, x < w.1 → (ops.all (fun o => !(o.1 == 1 && o.2.1 == x))) = true → ∀ j, wR (iW ops w) x j = wR w x j
  | [], _, _, _, _, _ => rfl
  | o :: r, w, x, h, ho, j => by
    have h1 := iO_lt (o := o) (w := w)
    rw [List.all_cons, Bool.and_eq_true] at ho
    show wR (iW r (iO o w)) x j = _
    rw [iW_R r (iO o w) (by omega) ho.2 j, iO_R h (fun e => by have := ho.1; simp [e.1, e.2] at this) j]
theorem ln_n (a : Nat) (w : sm_W) : (iW (opsLine a) w).1 = w.1 + 7 := by
  unfold opsLine
  simp only [iW, iO, fiW_n, wsR_n, wNw_n]
theorem dy_n (d : Nat) (w : sm_W) : (iW (opsDay d) w).1 = w.1 + 32 := by
  unfold opsDay opsLine
  simp only [iW, iO, fiW_n, wsR_n, wNw_n, wNw2_n, List.cons_append, List.nil_append]
def p_X0_init : List sm_V → sm_W → Prop
  | [.inr (.inl d)], w => (d = 1 ∨ d = 34) ∧ w.1 = d + 1 ∧ wS w d = (0, 11)
  | _, _ => False
def f_X0_init : sm_F
  | [.inr (.inl d)], w => (none, iW (opsDay d) w)
  | _, w => (none, w)
def tb_X0_init : List (Nat × List sm_O) := [(0, [oA 0, oObj, oA 0, oNew 2 9, oDup, oCi p_X2_init f_X2_init 7 55 1, oPr 0 11 0, oA 0, oK 8, oK 8, oNa2, oPr 0 11 1, oA 0, oK 8, oK 8, oNa2, oPr 0 11 2, oA 0, oK 8, oNa 9, oPr 0 11 5, oA 0, oK 8, oNa 10, oPr 0 11 6, oA 0, oK 8, oNa 9, oPr 0 11 7, oA 0, oK 8, oNa 9, oPr 0 11 8, oA 0, oK 7, oNa 10, oPr 0 11 9, oA 0, oK 8, oNa 9, oPr 0 11 10, oVr])]
set_option maxRecDepth 100000 in
theorem sb_X0_init_0 (l : Launch) : sm_SndB l RX0 "<init>" cX0_init 1 0 2 0 [oA 0, oObj, oA 0, oNew 2 9, oDup, oCi p_X2_init f_X2_init 7 55 1, oPr 0 11 0, oA 0, oK 8, oK 8, oNa2, oPr 0 11 1, oA 0, oK 8, oK 8, oNa2, oPr 0 11 2, oA 0, oK 8, oNa 9, oPr 0 11 5, oA 0, oK 8, oNa 10, oPr 0 11 6, oA 0, oK 8, oNa 9, oPr 0 11 7, oA 0, oK 8, oNa 9, oPr 0 11 8, oA 0, oK 7, oNa 10, oPr 0 11 9, oA 0, oK 8, oNa 9, oPr 0 11 10, oVr] := sb_cons (sd_aload_n (by decide +kernel : decode cX0_init 0 = .ok (.aload_n 0, 1)) rfl) (sb_cons (sd_obj (by decide) wm_27 wm_20 wm_21 (by decide +kernel : decode cX0_init 1 = .ok (.invokespecial 3, 3))) (sb_cons (sd_aload_n (by decide +kernel : decode cX0_init 4 = .ok (.aload_n 0, 1)) rfl) (sb_cons (sd_new kl_2 wm_28 wm_29 wm_3 (by decide +kernel : decode cX0_init 5 = .ok (.new 9, 3))) (sb_cons (sd_dup (by decide +kernel : decode cX0_init 8 = .ok (.dup, 1))) (sb_cons (sd_calli (n := 0) (met_X2_init l) (by decide) (by decide) wm_32 wm_30 wm_3 ⟨by decide +kernel, by decide +kernel, by decide +kernel⟩ rfl wm_31 (by decide +kernel : decode cX0_init 9 = .ok (.invokespecial 11, 3))) (sb_cons (sd_putr (k := 0) kl_0 (by decide) rfl (fun _ => ⟨rfl, rfl⟩) (Or.inr ⟨rfl, rfl⟩) wm_68 (by decide +kernel : decode cX0_init 12 = .ok (.putfield 12, 3))) (sb_cons (sd_aload_n (by decide +kernel : decode cX0_init 15 = .ok (.aload_n 0, 1)) rfl) (sb_cons (sd_bipush (by decide +kernel : decode cX0_init 16 = .ok (.bipush 8, 2)) ⟨by decide, by decide⟩ (by decide)) (sb_cons (sd_bipush (by decide +kernel : decode cX0_init 18 = .ok (.bipush 8, 2)) ⟨by decide, by decide⟩ (by decide)) (sb_cons (sd_mna wm_67 wm_66 (by decide +kernel : decode cX0_init 20 = .ok (.multianewarray 18 2, 4))) (sb_cons (sd_putr (k := 1) kl_0 (by decide) rfl (fun _ => ⟨rfl, rfl⟩) (Or.inr ⟨rfl, rfl⟩) wm_73 (by decide +kernel : decode cX0_init 24 = .ok (.putfield 20, 3))) (sb_cons (sd_aload_n (by decide +kernel : decode cX0_init 27 = .ok (.aload_n 0, 1)) rfl) (sb_cons (sd_bipush (by decide +kernel : decode cX0_init 28 = .ok (.bipush 8, 2)) ⟨by decide, by decide⟩ (by decide)) (sb_cons (sd_bipush (by decide +kernel : decode cX0_init 30 = .ok (.bipush 8, 2)) ⟨by decide, by decide⟩ (by decide)) (sb_cons (sd_mna wm_67 wm_66 (by decide +kernel : decode cX0_init 32 = .ok (.multianewarray 18 2, 4))) (sb_cons (sd_putr (k := 2) kl_0 (by decide) rfl (fun _ => ⟨rfl, rfl⟩) (Or.inr ⟨rfl, rfl⟩) wm_76 (by decide +kernel : decode cX0_init 36 = .ok (.putfield 23, 3))) (sb_cons (sd_aload_n (by decide +kernel : decode cX0_init 39 = .ok (.aload_n 0, 1)) rfl) (sb_cons (sd_bipush (by decide +kernel : decode cX0_init 40 = .ok (.bipush 8, 2)) ⟨by decide, by decide⟩ (by decide)) (sb_cons (sd_newa_i wm_66 (by decide +kernel : decode cX0_init 42 = .ok (.newarray .int, 2))) (sb_cons (sd_putr (k := 5) kl_0 (by decide) rfl (fun _ => ⟨rfl, rfl⟩) (Or.inr ⟨rfl, rfl⟩) wm_83 (by decide +kernel : decode cX0_init 44 = .ok (.putfield 26, 3))) (sb_cons (sd_aload_n (by decide +kernel : decode cX0_init 47 = .ok (.aload_n 0, 1)) rfl) (sb_cons (sd_bipush (by decide +kernel : decode cX0_init 48 = .ok (.bipush 8, 2)) ⟨by decide, by decide⟩ (by decide)) (sb_cons (sd_newa_z wm_89 (by decide +kernel : decode cX0_init 50 = .ok (.newarray .boolean, 2))) (sb_cons (sd_putr (k := 6) kl_0 (by decide) rfl (fun _ => ⟨rfl, rfl⟩) (Or.inr ⟨rfl, rfl⟩) wm_84 (by decide +kernel : decode cX0_init 52 = .ok (.putfield 30, 3))) (sb_cons (sd_aload_n (by decide +kernel : decode cX0_init 55 = .ok (.aload_n 0, 1)) rfl) (sb_cons (sd_bipush (by decide +kernel : decode cX0_init 56 = .ok (.bipush 8, 2)) ⟨by decide, by decide⟩ (by decide)) (sb_cons (sd_newa_i wm_66 (by decide +kernel : decode cX0_init 58 = .ok (.newarray .int, 2))) (sb_cons (sd_putr (k := 7) kl_0 (by decide) rfl (fun _ => ⟨rfl, rfl⟩) (Or.inr ⟨rfl, rfl⟩) wm_85 (by decide +kernel : decode cX0_init 60 = .ok (.putfield 34, 3))) (sb_cons (sd_aload_n (by decide +kernel : decode cX0_init 63 = .ok (.aload_n 0, 1)) rfl) (sb_cons (sd_bipush (by decide +kernel : decode cX0_init 64 = .ok (.bipush 8, 2)) ⟨by decide, by decide⟩ (by decide)) (sb_cons (sd_newa_i wm_66 (by decide +kernel : decode cX0_init 66 = .ok (.newarray .int, 2))) (sb_cons (sd_putr (k := 8) kl_0 (by decide) rfl (fun _ => ⟨rfl, rfl⟩) (Or.inr ⟨rfl, rfl⟩) wm_86 (by decide +kernel : decode cX0_init 68 = .ok (.putfield 37, 3))) (sb_cons (sd_aload_n (by decide +kernel : decode cX0_init 71 = .ok (.aload_n 0, 1)) rfl) (sb_cons (sd_bipush (by decide +kernel : decode cX0_init 72 = .ok (.bipush 7, 2)) ⟨by decide, by decide⟩ (by decide)) (sb_cons (sd_newa_z wm_89 (by decide +kernel : decode cX0_init 74 = .ok (.newarray .boolean, 2))) (sb_cons (sd_putr (k := 9) kl_0 (by decide) rfl (fun _ => ⟨rfl, rfl⟩) (Or.inr ⟨rfl, rfl⟩) wm_87 (by decide +kernel : decode cX0_init 76 = .ok (.putfield 40, 3))) (sb_cons (sd_aload_n (by decide +kernel : decode cX0_init 79 = .ok (.aload_n 0, 1)) rfl) (sb_cons (sd_bipush (by decide +kernel : decode cX0_init 80 = .ok (.bipush 8, 2)) ⟨by decide, by decide⟩ (by decide)) (sb_cons (sd_newa_i wm_66 (by decide +kernel : decode cX0_init 82 = .ok (.newarray .int, 2))) (sb_cons (sd_putr (k := 10) kl_0 (by decide) rfl (fun _ => ⟨rfl, rfl⟩) (Or.inr ⟨rfl, rfl⟩) wm_88 (by decide +kernel : decode cX0_init 84 = .ok (.putfield 43, 3))) (sb_cons (sd_return (x := 0) rfl (by decide +kernel : decode cX0_init 87 = .ok (.return_, 1))) sb_nil)))))))))))))))))))))))))))))))))))))))))
theorem sn_X0_init (l : Launch) : sm_SndT l RX0 "<init>" cX0_init 1 0 2 tb_X0_init := st_cons (sb_X0_init_0 l) (st_nil)
set_option maxRecDepth 100000 in
set_option maxHeartbeats 4000000 in
theorem ok_X0_init : sm_Ok tb_X0_init 1 32 255 p_X0_init f_X0_init := by
  intro as w hp ha hw
  match as, hp with
  | [.inr (.inl d)], hp =>
  refine ⟨Nat.le_of_ble_eq_true rfl, fun Z hZ => ?_⟩
  obtain ⟨hd, hn, hs⟩ := hp
  have hLS : wS (iW (opsLine (d + 1)) (wNw w 2 9)) d = (0, 11) := by
    rw [iW_S _ _ (by rw [wNw_n]; omega), wS_wNw, if_neg (by omega)]
    exact hs
  have hLn : (iW (opsLine (d + 1)) (wNw w 2 9)).1 = d + 9 := by rw [ln_n, wNw_n, hn]
  have hd9 : d ≤ 34 := by omega
  refine hZ (fun _ => false) 16 0 _ _ _ _ _ ?_
  simp only [sm_run, sm_blk, sm_get, sm_ent, sm_ents, sm_wds, sm_wd, sm_nl, sm_pop, sm_back, sm_cases, oK, oLK, oL, oI, oA, oJ, oIs, oAs, oJs, oInc, oAdd, oSub, oMul, oDiv, oRem, oNeg, oAnd, oAndB, oOr, oShl, oI2c, oI2l, oL2i, oLand, oLor, oLshl, oLshr, oLushr, oLcmp, oDup, oDup2, oPop, oGo, oFg, oEq, oNe, oLt, oGe, oGt, oLe, oEq0, oNe0, oLt0, oGe0, oGt0, oLe0, oSw, oGi, oGr, oPi, oPz, oPr, oLen, oIl, oZl, oCl, oRl, oIst, oZst, oCst, oRst, oCopy, oNew, oNa, oNa2, oObj, oCs, oCv, oCi, oIr, oZr, oVr, Nat.beq, List.getElem?_cons_zero, List.getElem?_cons_succ, List.set_cons_zero, List.set_cons_succ, List.length_cons, List.length_nil, List.nil_append, List.cons_append, List.append_nil, List.replicate_succ, List.replicate_zero, Nat.reduceAdd, Nat.reduceSub, Nat.reduceLT, Nat.reduceLeDiff, Nat.reduceBEq, true_and, and_true, Nat.zero_add, Nat.add_zero, Nat.le_refl, Option.some.injEq, exists_eq_left', true_or, or_true, or_false, false_or, reduceCtorEq, Prod.mk.injEq, Sum.inl.injEq, and_self, false_and, and_false, not_true_eq_false, not_false_eq_true, false_implies, true_implies, sm_r, Int.add_zero, Int.zero_add, wI_wsI, wS_wsI, wR_wsI, wI_wCp, wS_wCp, wR_wCp, Nat.reduceEqDiff, reduceIte, sT_iff, sT_iffC, wIf_ne, ne_eq, Bool.false_or, Bool.true_or, Bool.or_false, Bool.or_true, Bool.or_self, Nat.left_eq_add, Nat.add_eq_left, Nat.add_left_inj, oMax, oMin, oAbs, tb_X0_init, p_X2_init, f_X2_init, p_X0_init, f_X0_init, hs, hn, hLS, hLn, wsR_n, wNw_n, wNw2_n, wS_wNw, wS_wNw2, wS_wsR, Nat.add_assoc, Int.reduceToNat, Nat.reduceMul]
  repeat' (first | exact True.intro | with_reducible assumption | with_reducible refine And.intro ?_ ?_ | intro _)
  all_goals first
    | omega
    | assumption
    | rfl
    | (split <;> omega)
    | grind
    | skip

theorem met_X0_init (l : Launch) : sm_Met l yX0_init cX0_init 1 none 2 32 255 p_X0_init f_X0_init := sm_met 0 (Or.inl ⟨rfl, rfl⟩) (by decide +kernel) (sn_X0_init l) ok_X0_init