/-! THE CLASS: where a shuttle is, why it waits -/
def xPlL : Nat → sm_W → Nat → Int → Int → Int → Int
  | 0, _, _, _, _, p => 2 * p
  | n + 1, w, d, x, t, p => if wI w (dV d x) p < 0 then 2 * p else (if t < wI w (dV d x) p then 2 * p else (if t < wI w (dC d x) (p + mWay (vL w (d + 1)) x) then 2 * sFrom p (mWay (vL w (d + 1)) x) + 1 else xPlL n w d x t (p + mWay (vL w (d + 1)) x)))
theorem xPlL_s (n : Nat) (w : sm_W) (d : Nat) (x t p : Int) : xPlL (n + 1) w d x t p = if wI w (dV d x) p < 0 then 2 * p else (if t < wI w (dV d x) p then 2 * p else (if t < wI w (dC d x) (p + mWay (vL w (d + 1)) x) then 2 * sFrom p (mWay (vL w (d + 1)) x) + 1 else xPlL n w d x t (p + mWay (vL w (d + 1)) x))) := rfl
def xLegs (w : sm_W) (d : Nat) (x : Int) : Int := if 0 ≤ wI w (d + 1 + 4) x - wI w (d + 1 + 3) x then wI w (d + 1 + 4) x - wI w (d + 1 + 3) x else 0 - (wI w (d + 1 + 4) x - wI w (d + 1 + 3) x)
def xPl (w : sm_W) (d : Nat) (x t : Int) : Int := xPlL (xLegs w d x).toNat w d x t (wI w (d + 1 + 3) x)
theorem xPlL_b {w : sm_W} {d : Nat} (hD : dOK w d) {x t : Int} (x0 : 0 ≤ x) (x1 : x < wI w (d + 1) 7) : ∀ (n : Nat) (p : Int), (0 ≤ p ∧ p < 8) → (wI w (d + 1 + 3) x < wI w (d + 1 + 4) x → p + n ≤ wI w (d + 1 + 4) x) → (wI w (d + 1 + 4) x ≤ wI w (d + 1 + 3) x → wI w (d + 1 + 4) x ≤ p - n) → 0 ≤ xPlL n w d x t p ∧ xPlL n w d x t p ≤ 14
  | 0, p, h, _, _ => by
    show 0 ≤ 2 * p ∧ 2 * p ≤ 14
    omega
  | n + 1, p, h, h1, h2 => by
    have hw := lWay (w := w) (a := d + 1) x0
    have hq := lOK_s hD.2 x0 x1
    have hsf : (0 < mWay (vL w (d + 1)) x → sFrom p (mWay (vL w (d + 1)) x) = p) ∧ (¬ 0 < mWay (vL w (d + 1)) x → sFrom p (mWay (vL w (d + 1)) x) = p - 1) := ⟨fun h => if_pos h, fun h => if_neg h⟩
    rw [xPlL_s]
    split
    · omega
    · split
      · omega
      · split
        · omega
        · exact xPlL_b hD x0 x1 n _ (by omega) (by omega) (by omega)
theorem xPl_b {w : sm_W} {d : Nat} (hD : dOK w d) {x t : Int} (x0 : 0 ≤ x) (x1 : x < wI w (d + 1) 7) : 0 ≤ xPl w d x t ∧ xPl w d x t ≤ 14 := by
  have hq := lOK_s hD.2 x0 x1
  unfold xPl xLegs
  refine xPlL_b hD x0 x1 _ _ (by omega) (fun h => ?_) (fun h => ?_)
  · rw [if_pos (by omega)]; omega
  · split <;> omega
def p_X0_placeAt : List sm_V → sm_W → Prop
  | [.inr (.inl d), .inl x, .inl t], w => dOK w d ∧ 0 ≤ x ∧ x < wI w (d + 1) 7
  | _, _ => False
def f_X0_placeAt : sm_F
  | [.inr (.inl d), .inl x, .inl t], w => (some (.inl (xPl w d x t)), w)
  | _, w => (none, w)
def tb_X0_placeAt : List (Nat × List sm_O) := [(0, [oA 0, oGr 0 11 0, oGr 2 9 2, oI 1, oIl, oIs 3, oA 0, oGr 0 11 0, oGr 2 9 3, oI 1, oIl, oI 3, oSub, oAbs, oIs 4, oK 0, oIs 5, oFg 6, oGo 29]),
  (29, [oI 5, oI 4, oGe 110, oA 0, oGr 0 11 2, oI 1, oRl, oI 3, oIl, oLt0 59, oA 0, oGr 0 11 2, oI 1, oRl, oI 3, oIl, oI 2, oLe 63, oGo 59]),
  (59, [oK 2, oI 3, oMul, oIr]),
  (63, [oA 0, oGr 0 11 0, oI 1, oI 3, oCv 2 9 p_X2_nextStation f_X2_nextStation 0 0 3, oIs 6, oA 0, oGr 0 11 1, oI 1, oRl, oI 6, oIl, oI 2, oLe 101, oK 2, oA 0, oGr 0 11 0, oI 1, oI 3, oCv 2 9 p_X2_stretchAhead f_X2_stretchAhead 0 0 3, oMul, oK 1, oAdd, oIr]),
  (101, [oI 6, oIs 3, oInc 5 1, oFg 6, oGo 29]),
  (110, [oK 2, oI 3, oMul, oIr])]
set_option maxRecDepth 100000 in
theorem sb_X0_placeAt_0 (l : Launch) : sm_SndB l RX0 "placeAt" cX0_placeAt 7 1 2 0 [oA 0, oGr 0 11 0, oGr 2 9 2, oI 1, oIl, oIs 3, oA 0, oGr 0 11 0, oGr 2 9 3, oI 1, oIl, oI 3, oSub, oAbs, oIs 4, oK 0, oIs 5, oFg 6, oGo 29] := sb_cons (sd_aload_n (by decide +kernel : decode cX0_placeAt 0 = .ok (.aload_n 0, 1)) rfl) (sb_cons (sd_getr (k := 0) kl_0 (by decide) rfl wm_68 (by decide +kernel : decode cX0_placeAt 1 = .ok (.getfield 12, 3))) (sb_cons (sd_getr (k := 2) kl_2 (by decide) rfl wm_46 (by decide +kernel : decode cX0_placeAt 4 = .ok (.getfield 80, 3))) (sb_cons (sd_iload_n (by decide +kernel : decode cX0_placeAt 7 = .ok (.iload_n 1, 1)) rfl) (sb_cons (sd_iaload (by decide +kernel : decode cX0_placeAt 8 = .ok (.iaload, 1))) (sb_cons (sd_istore_n (by decide +kernel : decode cX0_placeAt 9 = .ok (.istore_n 3, 1)) rfl) (sb_cons (sd_aload_n (by decide +kernel : decode cX0_placeAt 10 = .ok (.aload_n 0, 1)) rfl) (sb_cons (sd_getr (k := 0) kl_0 (by decide) rfl wm_68 (by decide +kernel : decode cX0_placeAt 11 = .ok (.getfield 12, 3))) (sb_cons (sd_getr (k := 3) kl_2 (by decide) rfl wm_48 (by decide +kernel : decode cX0_placeAt 14 = .ok (.getfield 97, 3))) (sb_cons (sd_iload_n (by decide +kernel : decode cX0_placeAt 17 = .ok (.iload_n 1, 1)) rfl) (sb_cons (sd_iaload (by decide +kernel : decode cX0_placeAt 18 = .ok (.iaload, 1))) (sb_cons (sd_iload_n (by decide +kernel : decode cX0_placeAt 19 = .ok (.iload_n 3, 1)) rfl) (sb_cons (sd_isub (by decide +kernel : decode cX0_placeAt 20 = .ok (.isub, 1))) (sb_cons (sd_abs (by decide) wm_479 wm_480 wm_12 wm_481 (by decide +kernel : decode cX0_placeAt 21 = .ok (.invokestatic 159, 3))) (sb_cons (sd_istore (by decide +kernel : decode cX0_placeAt 24 = .ok (.istore 4, 2))) (sb_cons (sd_iconst (by decide +kernel : decode cX0_placeAt 26 = .ok (.iconst 0, 1)) ⟨by decide, by decide⟩) (sb_cons (sd_istore (by decide +kernel : decode cX0_placeAt 27 = .ok (.istore 5, 2))) (sb_cons (sd_fg) (sb_cons (sd_fall (x := 0)) sb_nil))))))))))))))))))
set_option maxRecDepth 100000 in
theorem sb_X0_placeAt_29 (l : Launch) : sm_SndB l RX0 "placeAt" cX0_placeAt 7 1 2 29 [oI 5, oI 4, oGe 110, oA 0, oGr 0 11 2, oI 1, oRl, oI 3, oIl, oLt0 59, oA 0, oGr 0 11 2, oI 1, oRl, oI 3, oIl, oI 2, oLe 63, oGo 59] := sb_cons (sd_iload (by decide +kernel : decode cX0_placeAt 29 = .ok (.iload 5, 2))) (sb_cons (sd_iload (by decide +kernel : decode cX0_placeAt 31 = .ok (.iload 4, 2))) (sb_cons (sd_ge (by decide +kernel : decode cX0_placeAt 33 = .ok (.if_icmp .ge 77, 3)) (by decide)) (sb_cons (sd_aload_n (by decide +kernel : decode cX0_placeAt 36 = .ok (.aload_n 0, 1)) rfl) (sb_cons (sd_getr (k := 2) kl_0 (by decide) rfl wm_76 (by decide +kernel : decode cX0_placeAt 37 = .ok (.getfield 23, 3))) (sb_cons (sd_iload_n (by decide +kernel : decode cX0_placeAt 40 = .ok (.iload_n 1, 1)) rfl) (sb_cons (sd_aaload (by decide +kernel : decode cX0_placeAt 41 = .ok (.aaload, 1))) (sb_cons (sd_iload_n (by decide +kernel : decode cX0_placeAt 42 = .ok (.iload_n 3, 1)) rfl) (sb_cons (sd_iaload (by decide +kernel : decode cX0_placeAt 43 = .ok (.iaload, 1))) (sb_cons (sd_lt0 (by decide +kernel : decode cX0_placeAt 44 = .ok (.ifCond .lt 15, 3)) (by decide)) (sb_cons (sd_aload_n (by decide +kernel : decode cX0_placeAt 47 = .ok (.aload_n 0, 1)) rfl) (sb_cons (sd_getr (k := 2) kl_0 (by decide) rfl wm_76 (by decide +kernel : decode cX0_placeAt 48 = .ok (.getfield 23, 3))) (sb_cons (sd_iload_n (by decide +kernel : decode cX0_placeAt 51 = .ok (.iload_n 1, 1)) rfl) (sb_cons (sd_aaload (by decide +kernel : decode cX0_placeAt 52 = .ok (.aaload, 1))) (sb_cons (sd_iload_n (by decide +kernel : decode cX0_placeAt 53 = .ok (.iload_n 3, 1)) rfl) (sb_cons (sd_iaload (by decide +kernel : decode cX0_placeAt 54 = .ok (.iaload, 1))) (sb_cons (sd_iload_n (by decide +kernel : decode cX0_placeAt 55 = .ok (.iload_n 2, 1)) rfl) (sb_cons (sd_le (by decide +kernel : decode cX0_placeAt 56 = .ok (.if_icmp .le 7, 3)) (by decide)) (sb_cons (sd_fall (x := 0)) sb_nil))))))))))))))))))
set_option maxRecDepth 100000 in
theorem sb_X0_placeAt_59 (l : Launch) : sm_SndB l RX0 "placeAt" cX0_placeAt 7 1 2 59 [oK 2, oI 3, oMul, oIr] := sb_cons (sd_iconst (by decide +kernel : decode cX0_placeAt 59 = .ok (.iconst 2, 1)) ⟨by decide, by decide⟩) (sb_cons (sd_iload_n (by decide +kernel : decode cX0_placeAt 60 = .ok (.iload_n 3, 1)) rfl) (sb_cons (sd_imul (by decide +kernel : decode cX0_placeAt 61 = .ok (.imul, 1))) (sb_cons (sd_ireturn (x := 0) rfl (by decide +kernel : decode cX0_placeAt 62 = .ok (.ireturn, 1))) sb_nil)))
set_option maxRecDepth 100000 in
theorem sb_X0_placeAt_63 (l : Launch) : sm_SndB l RX0 "placeAt" cX0_placeAt 7 1 2 63 [oA 0, oGr 0 11 0, oI 1, oI 3, oCv 2 9 p_X2_nextStation f_X2_nextStation 0 0 3, oIs 6, oA 0, oGr 0 11 1, oI 1, oRl, oI 6, oIl, oI 2, oLe 101, oK 2, oA 0, oGr 0 11 0, oI 1, oI 3, oCv 2 9 p_X2_stretchAhead f_X2_stretchAhead 0 0 3, oMul, oK 1, oAdd, oIr] := sb_cons (sd_aload_n (by decide +kernel : decode cX0_placeAt 63 = .ok (.aload_n 0, 1)) rfl) (sb_cons (sd_getr (k := 0) kl_0 (by decide) rfl wm_68 (by decide +kernel : decode cX0_placeAt 64 = .ok (.getfield 12, 3))) (sb_cons (sd_iload_n (by decide +kernel : decode cX0_placeAt 67 = .ok (.iload_n 1, 1)) rfl) (sb_cons (sd_iload_n (by decide +kernel : decode cX0_placeAt 68 = .ok (.iload_n 3, 1)) rfl) (sb_cons (sd_callv (n := 2) (met_X2_nextStation l) (by decide) (by decide) wm_306 wm_303 wm_3 ⟨by decide +kernel, by decide +kernel, by decide +kernel⟩ kl_2 wm_304 wm_305 (by decide +kernel : decode cX0_placeAt 69 = .ok (.invokevirtual 100, 3))) (sb_cons (sd_istore (by decide +kernel : decode cX0_placeAt 72 = .ok (.istore 6, 2))) (sb_cons (sd_aload_n (by decide +kernel : decode cX0_placeAt 74 = .ok (.aload_n 0, 1)) rfl) (sb_cons (sd_getr (k := 1) kl_0 (by decide) rfl wm_73 (by decide +kernel : decode cX0_placeAt 75 = .ok (.getfield 20, 3))) (sb_cons (sd_iload_n (by decide +kernel : decode cX0_placeAt 78 = .ok (.iload_n 1, 1)) rfl) (sb_cons (sd_aaload (by decide +kernel : decode cX0_placeAt 79 = .ok (.aaload, 1))) (sb_cons (sd_iload (by decide +kernel : decode cX0_placeAt 80 = .ok (.iload 6, 2))) (sb_cons (sd_iaload (by decide +kernel : decode cX0_placeAt 82 = .ok (.iaload, 1))) (sb_cons (sd_iload_n (by decide +kernel : decode cX0_placeAt 83 = .ok (.iload_n 2, 1)) rfl) (sb_cons (sd_le (by decide +kernel : decode cX0_placeAt 84 = .ok (.if_icmp .le 17, 3)) (by decide)) (sb_cons (sd_iconst (by decide +kernel : decode cX0_placeAt 87 = .ok (.iconst 2, 1)) ⟨by decide, by decide⟩) (sb_cons (sd_aload_n (by decide +kernel : decode cX0_placeAt 88 = .ok (.aload_n 0, 1)) rfl) (sb_cons (sd_getr (k := 0) kl_0 (by decide) rfl wm_68 (by decide +kernel : decode cX0_placeAt 89 = .ok (.getfield 12, 3))) (sb_cons (sd_iload_n (by decide +kernel : decode cX0_placeAt 92 = .ok (.iload_n 1, 1)) rfl) (sb_cons (sd_iload_n (by decide +kernel : decode cX0_placeAt 93 = .ok (.iload_n 3, 1)) rfl) (sb_cons (sd_callv (n := 2) (met_X2_stretchAhead l) (by decide) (by decide) wm_316 wm_313 wm_3 ⟨by decide +kernel, by decide +kernel, by decide +kernel⟩ kl_2 wm_314 wm_315 (by decide +kernel : decode cX0_placeAt 94 = .ok (.invokevirtual 103, 3))) (sb_cons (sd_imul (by decide +kernel : decode cX0_placeAt 97 = .ok (.imul, 1))) (sb_cons (sd_iconst (by decide +kernel : decode cX0_placeAt 98 = .ok (.iconst 1, 1)) ⟨by decide, by decide⟩) (sb_cons (sd_iadd (by decide +kernel : decode cX0_placeAt 99 = .ok (.iadd, 1))) (sb_cons (sd_ireturn (x := 0) rfl (by decide +kernel : decode cX0_placeAt 100 = .ok (.ireturn, 1))) sb_nil)))))))))))))))))))))))
set_option maxRecDepth 100000 in
theorem sb_X0_placeAt_101 (l : Launch) : sm_SndB l RX0 "placeAt" cX0_placeAt 7 1 2 101 [oI 6, oIs 3, oInc 5 1, oFg 6, oGo 29] := sb_cons (sd_iload (by decide +kernel : decode cX0_placeAt 101 = .ok (.iload 6, 2))) (sb_cons (sd_istore_n (by decide +kernel : decode cX0_placeAt 103 = .ok (.istore_n 3, 1)) rfl) (sb_cons (sd_iinc (by decide +kernel : decode cX0_placeAt 104 = .ok (.iinc 5 1, 3))) (sb_cons (sd_fg) (sb_cons (sd_goto (x := 0) (by decide +kernel : decode cX0_placeAt 107 = .ok (.goto (-78), 3)) (by decide)) sb_nil))))
set_option maxRecDepth 100000 in
theorem sb_X0_placeAt_110 (l : Launch) : sm_SndB l RX0 "placeAt" cX0_placeAt 7 1 2 110 [oK 2, oI 3, oMul, oIr] := sb_cons (sd_iconst (by decide +kernel : decode cX0_placeAt 110 = .ok (.iconst 2, 1)) ⟨by decide, by decide⟩) (sb_cons (sd_iload_n (by decide +kernel : decode cX0_placeAt 111 = .ok (.iload_n 3, 1)) rfl) (sb_cons (sd_imul (by decide +kernel : decode cX0_placeAt 112 = .ok (.imul, 1))) (sb_cons (sd_ireturn (x := 0) rfl (by decide +kernel : decode cX0_placeAt 113 = .ok (.ireturn, 1))) sb_nil)))
theorem sn_X0_placeAt (l : Launch) : sm_SndT l RX0 "placeAt" cX0_placeAt 7 1 2 tb_X0_placeAt := st_cons (sb_X0_placeAt_0 l) (st_cons (sb_X0_placeAt_29 l) (st_cons (sb_X0_placeAt_59 l) (st_cons (sb_X0_placeAt_63 l) (st_cons (sb_X0_placeAt_101 l) (st_cons (sb_X0_placeAt_110 l) (st_nil))))))
set_option maxRecDepth 100000 in
set_option maxHeartbeats 4000000 in
theorem ok_X0_placeAt : sm_Ok tb_X0_placeAt 7 0 0 p_X0_placeAt f_X0_placeAt := by
  intro as w hp ha hw
  match as, hp with
  | [.inr (.inl d), .inl x, .inl t], hp =>
  refine ⟨Nat.le_of_ble_eq_true rfl, fun Z hZ => ?_⟩
  obtain ⟨hD, x0, x1⟩ := hp
  have hn := dOK_n hD
  obtain ⟨d0, d9, d18, d27, d28, d29, d30, d31, d32, s0, s1, s2, s5, s6, s7, s8, s9, s10⟩ := dS hD.2.1 hD.1
  obtain ⟨l0, l1, l2, l3, l4, l5, l6, l7, r0, r1, r2, r3, r4, r5, r6⟩ := lS hD.2.1 (dL hD.1)
  obtain ⟨c9, c18, cC, cV⟩ := dRC hD.2.1 hD.1 x0 (show x < 8 by omega)
  have hT := hD.2.1
  have hL := hD.2.2.1
  have hq := lOK_s hD.2 x0 x1
  have hw := lWay (w := w) (a := d + 1) x0
  have hlg : 0 ≤ xLegs w d x ∧ (wI w (d + 1 + 3) x < wI w (d + 1 + 4) x → xLegs w d x = wI w (d + 1 + 4) x - wI w (d + 1 + 3) x) ∧ (wI w (d + 1 + 4) x ≤ wI w (d + 1 + 3) x → xLegs w d x = wI w (d + 1 + 3) x - wI w (d + 1 + 4) x) := by
    unfold xLegs
    refine ⟨?_, fun h => ?_, fun h => ?_⟩
    · split <;> omega
    · split <;> omega
    · split <;> omega
  have hLe : (if 0 ≤ wI w (d + 1 + 4) x - wI w (d + 1 + 3) x then wI w (d + 1 + 4) x - wI w (d + 1 + 3) x else 0 - (wI w (d + 1 + 4) x - wI w (d + 1 + 3) x)) = xLegs w d x := rfl
  have hE0 : xPlL (xLegs w d x).toNat w d x t (wI w (d + 1 + 3) x) = xPl w d x t := rfl
  generalize hE : xPl w d x t = E at *
  generalize hLg : xLegs w d x = lg at *
  have hl := sm_loopM (S := Nat × Int) Z 29 (fun s => s.1) (fun s => (s.1 : Int) ≤ lg ∧ (0 ≤ s.2 ∧ s.2 < 8) ∧ (wI w (d + 1 + 3) x < wI w (d + 1 + 4) x → s.2 + s.1 ≤ wI w (d + 1 + 4) x) ∧ (wI w (d + 1 + 4) x ≤ wI w (d + 1 + 3) x → wI w (d + 1 + 4) x ≤ s.2 - s.1) ∧ xPlL s.1 w d x t s.2 = E) (fun s => [some (.inr (.inl d)), some (.inl x), some (.inl t), some (.inl s.2), some (.inl lg), some (.inl (lg - s.1)), none]) (fun _ => w) 0 0 (fun s hI ih => by
    obtain ⟨n, p⟩ := s
    dsimp only at hI ih ⊢
    obtain ⟨i1, i2, i3, i4, he⟩ := hI
    have hlt : xLegs w d x ≤ 7 := by rw [hLg]; omega
    cases n with
    | zero =>
      have he : 2 * p = E := he
      clear ih
      refine hZ (fun u => Nat.beq u 29) 14 29 _ _ _ _ _ ?_
      simp only [sm_run, sm_blk, sm_get, sm_ent, sm_ents, sm_wds, sm_wd, sm_nl, sm_pop, sm_back, sm_cases, oK, oLK, oL, oI, oA, oJ, oIs, oAs, oJs, oInc, oAdd, oSub, oMul, oDiv, oRem, oNeg, oAnd, oAndB, oOr, oShl, oI2c, oI2l, oL2i, oLand, oLor, oLshl, oLshr, oLushr, oLcmp, oDup, oDup2, oPop, oGo, oFg, oEq, oNe, oLt, oGe, oGt, oLe, oEq0, oNe0, oLt0, oGe0, oGt0, oLe0, oSw, oGi, oGr, oPi, oPz, oPr, oLen, oIl, oZl, oCl, oRl, oIst, oZst, oCst, oRst, oCopy, oNew, oNa, oNa2, oObj, oCs, oCv, oCi, oIr, oZr, oVr, Nat.beq, List.getElem?_cons_zero, List.getElem?_cons_succ, List.set_cons_zero, List.set_cons_succ, List.length_cons, List.length_nil, List.nil_append, List.cons_append, List.append_nil, List.replicate_succ, List.replicate_zero, Nat.reduceAdd, Nat.reduceSub, Nat.reduceLT, Nat.reduceLeDiff, Nat.reduceBEq, true_and, and_true, Nat.zero_add, Nat.add_zero, Nat.le_refl, Option.some.injEq, exists_eq_left', true_or, or_true, or_false, false_or, reduceCtorEq, Prod.mk.injEq, Sum.inl.injEq, and_self, false_and, and_false, not_true_eq_false, not_false_eq_true, false_implies, true_implies, sm_r, Int.add_zero, Int.zero_add, wI_wsI, wS_wsI, wR_wsI, wI_wCp, wS_wCp, wR_wCp, Nat.reduceEqDiff, reduceIte, sT_iff, sT_iffC, wIf_ne, ne_eq, Bool.false_or, Bool.true_or, Bool.or_false, Bool.or_true, Bool.or_self, Nat.left_eq_add, Nat.add_eq_left, Nat.add_left_inj, oMax, oMin, oAbs, tb_X0_placeAt, p_X2_nextStation, p_X2_stretchAhead, f_X2_nextStation, f_X2_stretchAhead, p_X0_placeAt, f_X0_placeAt, hE, he]
      repeat' (first | exact True.intro | with_reducible assumption | with_reducible refine And.intro ?_ ?_ | intro _)
      all_goals first
        | omega
        | assumption
        | rfl
        | (split <;> omega)
        | (have k9 := ih (by omega)
           (repeat' split at k9) <;> first | exact k9 | omega)
        | (have k9 := ih2 (by omega)
           (repeat' split at k9) <;> first | exact k9 | omega)
        | exact he (by omega)
        | ((with_reducible congr 1) <;> omega)
        | (rw [if_pos (by omega)] at he; exact he)
        | exact hD1 (by omega)
        | exact hD2 (by omega)
        | grind
        | skip
    | succ n =>
      rw [xPlL_s] at he
      have ih := fun a => ih (n, p + mWay (vL w (d + 1)) x) ⟨by dsimp only; omega, by dsimp only; omega, fun h => by dsimp only; omega, fun h => by dsimp only; omega, a⟩ (Nat.lt_succ_self n)
      have hcast : (lg : Int) - ((n + 1 : Nat) : Int) + 1 = lg - (n : Int) := by omega
      have hsf : (0 < mWay (vL w (d + 1)) x → sFrom p (mWay (vL w (d + 1)) x) = p) ∧ (¬ 0 < mWay (vL w (d + 1)) x → sFrom p (mWay (vL w (d + 1)) x) = p - 1) := ⟨fun h => if_pos h, fun h => if_neg h⟩
      by_cases c1 : wI w (dV d x) p < 0
      · rw [if_pos c1] at he
        clear ih
        refine hZ (fun u => Nat.beq u 29) 14 29 _ _ _ _ _ ?_
        simp only [sm_run, sm_blk, sm_get, sm_ent, sm_ents, sm_wds, sm_wd, sm_nl, sm_pop, sm_back, sm_cases, oK, oLK, oL, oI, oA, oJ, oIs, oAs, oJs, oInc, oAdd, oSub, oMul, oDiv, oRem, oNeg, oAnd, oAndB, oOr, oShl, oI2c, oI2l, oL2i, oLand, oLor, oLshl, oLshr, oLushr, oLcmp, oDup, oDup2, oPop, oGo, oFg, oEq, oNe, oLt, oGe, oGt, oLe, oEq0, oNe0, oLt0, oGe0, oGt0, oLe0, oSw, oGi, oGr, oPi, oPz, oPr, oLen, oIl, oZl, oCl, oRl, oIst, oZst, oCst, oRst, oCopy, oNew, oNa, oNa2, oObj, oCs, oCv, oCi, oIr, oZr, oVr, Nat.beq, List.getElem?_cons_zero, List.getElem?_cons_succ, List.set_cons_zero, List.set_cons_succ, List.length_cons, List.length_nil, List.nil_append, List.cons_append, List.append_nil, List.replicate_succ, List.replicate_zero, Nat.reduceAdd, Nat.reduceSub, Nat.reduceLT, Nat.reduceLeDiff, Nat.reduceBEq, true_and, and_true, Nat.zero_add, Nat.add_zero, Nat.le_refl, Option.some.injEq, exists_eq_left', true_or, or_true, or_false, false_or, reduceCtorEq, Prod.mk.injEq, Sum.inl.injEq, and_self, false_and, and_false, not_true_eq_false, not_false_eq_true, false_implies, true_implies, sm_r, Int.add_zero, Int.zero_add, wI_wsI, wS_wsI, wR_wsI, wI_wCp, wS_wCp, wR_wCp, Nat.reduceEqDiff, reduceIte, sT_iff, sT_iffC, wIf_ne, ne_eq, Bool.false_or, Bool.true_or, Bool.or_false, Bool.or_true, Bool.or_self, Nat.left_eq_add, Nat.add_eq_left, Nat.add_left_inj, oMax, oMin, oAbs, tb_X0_placeAt, p_X2_nextStation, p_X2_stretchAhead, f_X2_nextStation, f_X2_stretchAhead, p_X0_placeAt, f_X0_placeAt, d0, s2, d18, c18, cV, s0, l0, hT, hL, hE, s1, d9, c9, cC]
        repeat' (first | exact True.intro | with_reducible assumption | with_reducible refine And.intro ?_ ?_ | intro _)
        all_goals first
          | omega
          | assumption
          | rfl
          | (split <;> omega)
          | (have k9 := ih (by omega)
             (repeat' split at k9) <;> first | exact k9 | omega)
          | (have k9 := ih2 (by omega)
             (repeat' split at k9) <;> first | exact k9 | omega)
          | exact he (by omega)
          | ((with_reducible congr 1) <;> omega)
          | (rw [if_pos (by omega)] at he; exact he)
          | exact hD1 (by omega)
          | exact hD2 (by omega)
          | grind
          | skip
      · rw [if_neg c1] at he
        by_cases c2 : t < wI w (dV d x) p
        · rw [if_pos c2] at he
          clear ih
          refine hZ (fun u => Nat.beq u 29) 14 29 _ _ _ _ _ ?_
          simp only [sm_run, sm_blk, sm_get, sm_ent, sm_ents, sm_wds, sm_wd, sm_nl, sm_pop, sm_back, sm_cases, oK, oLK, oL, oI, oA, oJ, oIs, oAs, oJs, oInc, oAdd, oSub, oMul, oDiv, oRem, oNeg, oAnd, oAndB, oOr, oShl, oI2c, oI2l, oL2i, oLand, oLor, oLshl, oLshr, oLushr, oLcmp, oDup, oDup2, oPop, oGo, oFg, oEq, oNe, oLt, oGe, oGt, oLe, oEq0, oNe0, oLt0, oGe0, oGt0, oLe0, oSw, oGi, oGr, oPi, oPz, oPr, oLen, oIl, oZl, oCl, oRl, oIst, oZst, oCst, oRst, oCopy, oNew, oNa, oNa2, oObj, oCs, oCv, oCi, oIr, oZr, oVr, Nat.beq, List.getElem?_cons_zero, List.getElem?_cons_succ, List.set_cons_zero, List.set_cons_succ, List.length_cons, List.length_nil, List.nil_append, List.cons_append, List.append_nil, List.replicate_succ, List.replicate_zero, Nat.reduceAdd, Nat.reduceSub, Nat.reduceLT, Nat.reduceLeDiff, Nat.reduceBEq, true_and, and_true, Nat.zero_add, Nat.add_zero, Nat.le_refl, Option.some.injEq, exists_eq_left', true_or, or_true, or_false, false_or, reduceCtorEq, Prod.mk.injEq, Sum.inl.injEq, and_self, false_and, and_false, not_true_eq_false, not_false_eq_true, false_implies, true_implies, sm_r, Int.add_zero, Int.zero_add, wI_wsI, wS_wsI, wR_wsI, wI_wCp, wS_wCp, wR_wCp, Nat.reduceEqDiff, reduceIte, sT_iff, sT_iffC, wIf_ne, ne_eq, Bool.false_or, Bool.true_or, Bool.or_false, Bool.or_true, Bool.or_self, Nat.left_eq_add, Nat.add_eq_left, Nat.add_left_inj, oMax, oMin, oAbs, tb_X0_placeAt, p_X2_nextStation, p_X2_stretchAhead, f_X2_nextStation, f_X2_stretchAhead, p_X0_placeAt, f_X0_placeAt, d0, s2, d18, c18, cV, s0, l0, hT, hL, hE, s1, d9, c9, cC]
          repeat' (first | exact True.intro | with_reducible assumption | with_reducible refine And.intro ?_ ?_ | intro _)
          all_goals first
            | omega
            | assumption
            | rfl
            | (split <;> omega)
            | (have k9 := ih (by omega)
               (repeat' split at k9) <;> first | exact k9 | omega)
            | (have k9 := ih2 (by omega)
               (repeat' split at k9) <;> first | exact k9 | omega)
            | exact he (by omega)
            | ((with_reducible congr 1) <;> omega)
            | (rw [if_pos (by omega)] at he; exact he)
            | exact hD1 (by omega)
            | exact hD2 (by omega)
            | grind
            | skip
        · rw [if_neg c2] at he
          by_cases c3 : t < wI w (dC d x) (p + mWay (vL w (d + 1)) x)
          · rw [if_pos c3] at he
            clear ih
            refine hZ (fun u => Nat.beq u 29) 14 29 _ _ _ _ _ ?_
            simp only [sm_run, sm_blk, sm_get, sm_ent, sm_ents, sm_wds, sm_wd, sm_nl, sm_pop, sm_back, sm_cases, oK, oLK, oL, oI, oA, oJ, oIs, oAs, oJs, oInc, oAdd, oSub, oMul, oDiv, oRem, oNeg, oAnd, oAndB, oOr, oShl, oI2c, oI2l, oL2i, oLand, oLor, oLshl, oLshr, oLushr, oLcmp, oDup, oDup2, oPop, oGo, oFg, oEq, oNe, oLt, oGe, oGt, oLe, oEq0, oNe0, oLt0, oGe0, oGt0, oLe0, oSw, oGi, oGr, oPi, oPz, oPr, oLen, oIl, oZl, oCl, oRl, oIst, oZst, oCst, oRst, oCopy, oNew, oNa, oNa2, oObj, oCs, oCv, oCi, oIr, oZr, oVr, Nat.beq, List.getElem?_cons_zero, List.getElem?_cons_succ, List.set_cons_zero, List.set_cons_succ, List.length_cons, List.length_nil, List.nil_append, List.cons_append, List.append_nil, List.replicate_succ, List.replicate_zero, Nat.reduceAdd, Nat.reduceSub, Nat.reduceLT, Nat.reduceLeDiff, Nat.reduceBEq, true_and, and_true, Nat.zero_add, Nat.add_zero, Nat.le_refl, Option.some.injEq, exists_eq_left', true_or, or_true, or_false, false_or, reduceCtorEq, Prod.mk.injEq, Sum.inl.injEq, and_self, false_and, and_false, not_true_eq_false, not_false_eq_true, false_implies, true_implies, sm_r, Int.add_zero, Int.zero_add, wI_wsI, wS_wsI, wR_wsI, wI_wCp, wS_wCp, wR_wCp, Nat.reduceEqDiff, reduceIte, sT_iff, sT_iffC, wIf_ne, ne_eq, Bool.false_or, Bool.true_or, Bool.or_false, Bool.or_true, Bool.or_self, Nat.left_eq_add, Nat.add_eq_left, Nat.add_left_inj, oMax, oMin, oAbs, tb_X0_placeAt, p_X2_nextStation, p_X2_stretchAhead, f_X2_nextStation, f_X2_stretchAhead, p_X0_placeAt, f_X0_placeAt, d0, s2, d18, c18, cV, s0, l0, hT, hL, hE, s1, d9, c9, cC]
            repeat' (first | exact True.intro | with_reducible assumption | with_reducible refine And.intro ?_ ?_ | intro _)
            all_goals first
              | omega
              | assumption
              | rfl
              | (split <;> omega)
              | (have k9 := ih (by omega)
                 (repeat' split at k9) <;> first | exact k9 | omega)
              | (have k9 := ih2 (by omega)
                 (repeat' split at k9) <;> first | exact k9 | omega)
              | exact he (by omega)
              | ((with_reducible congr 1) <;> omega)
              | (rw [if_pos (by omega)] at he; exact he)
              | exact hD1 (by omega)
              | exact hD2 (by omega)
              | grind
              | skip
          · rw [if_neg c3] at he
            have ih := ih he
            dsimp only at ih
            refine hZ (fun u => Nat.beq u 29) 14 29 _ _ _ _ _ ?_
            simp only [sm_run, sm_blk, sm_get, sm_ent, sm_ents, sm_wds, sm_wd, sm_nl, sm_pop, sm_back, sm_cases, oK, oLK, oL, oI, oA, oJ, oIs, oAs, oJs, oInc, oAdd, oSub, oMul, oDiv, oRem, oNeg, oAnd, oAndB, oOr, oShl, oI2c, oI2l, oL2i, oLand, oLor, oLshl, oLshr, oLushr, oLcmp, oDup, oDup2, oPop, oGo, oFg, oEq, oNe, oLt, oGe, oGt, oLe, oEq0, oNe0, oLt0, oGe0, oGt0, oLe0, oSw, oGi, oGr, oPi, oPz, oPr, oLen, oIl, oZl, oCl, oRl, oIst, oZst, oCst, oRst, oCopy, oNew, oNa, oNa2, oObj, oCs, oCv, oCi, oIr, oZr, oVr, Nat.beq, List.getElem?_cons_zero, List.getElem?_cons_succ, List.set_cons_zero, List.set_cons_succ, List.length_cons, List.length_nil, List.nil_append, List.cons_append, List.append_nil, List.replicate_succ, List.replicate_zero, Nat.reduceAdd, Nat.reduceSub, Nat.reduceLT, Nat.reduceLeDiff, Nat.reduceBEq, true_and, and_true, Nat.zero_add, Nat.add_zero, Nat.le_refl, Option.some.injEq, exists_eq_left', true_or, or_true, or_false, false_or, reduceCtorEq, Prod.mk.injEq, Sum.inl.injEq, and_self, false_and, and_false, not_true_eq_false, not_false_eq_true, false_implies, true_implies, sm_r, Int.add_zero, Int.zero_add, wI_wsI, wS_wsI, wR_wsI, wI_wCp, wS_wCp, wR_wCp, Nat.reduceEqDiff, reduceIte, sT_iff, sT_iffC, wIf_ne, ne_eq, Bool.false_or, Bool.true_or, Bool.or_false, Bool.or_true, Bool.or_self, Nat.left_eq_add, Nat.add_eq_left, Nat.add_left_inj, oMax, oMin, oAbs, tb_X0_placeAt, p_X2_nextStation, p_X2_stretchAhead, f_X2_nextStation, f_X2_stretchAhead, p_X0_placeAt, f_X0_placeAt, d0, s2, d18, c18, cV, s0, l0, hT, hL, hE, s1, d9, c9, cC, hcast]
            repeat' (first | exact True.intro | with_reducible assumption | with_reducible refine And.intro ?_ ?_ | intro _)
            all_goals first
              | omega
              | assumption
              | rfl
              | (split <;> omega)
              | (have k9 := ih (by omega)
                 (repeat' split at k9) <;> first | exact k9 | omega)
              | (have k9 := ih2 (by omega)
                 (repeat' split at k9) <;> first | exact k9 | omega)
              | exact he (by omega)
              | ((with_reducible congr 1) <;> omega)
              | (rw [if_pos (by omega)] at he; exact he)
              | exact hD1 (by omega)
              | exact hD2 (by omega)
              | grind
              | skip
    )
  have h9 := hl (lg.toNat, wI w (d + 1 + 3) x) ⟨by dsimp only; omega, by dsimp only; omega, fun h => by dsimp only; omega, fun h => by dsimp only; omega, hE0⟩
  dsimp only at h9
  rw [show lg - ((lg.toNat : Nat) : Int) = 0 by omega] at h9
  refine hZ (fun u => Nat.beq u 29) 14 0 _ _ _ _ _ ?_
  simp only [sm_run, sm_blk, sm_get, sm_ent, sm_ents, sm_wds, sm_wd, sm_nl, sm_pop, sm_back, sm_cases, oK, oLK, oL, oI, oA, oJ, oIs, oAs, oJs, oInc, oAdd, oSub, oMul, oDiv, oRem, oNeg, oAnd, oAndB, oOr, oShl, oI2c, oI2l, oL2i, oLand, oLor, oLshl, oLshr, oLushr, oLcmp, oDup, oDup2, oPop, oGo, oFg, oEq, oNe, oLt, oGe, oGt, oLe, oEq0, oNe0, oLt0, oGe0, oGt0, oLe0, oSw, oGi, oGr, oPi, oPz, oPr, oLen, oIl, oZl, oCl, oRl, oIst, oZst, oCst, oRst, oCopy, oNew, oNa, oNa2, oObj, oCs, oCv, oCi, oIr, oZr, oVr, Nat.beq, List.getElem?_cons_zero, List.getElem?_cons_succ, List.set_cons_zero, List.set_cons_succ, List.length_cons, List.length_nil, List.nil_append, List.cons_append, List.append_nil, List.replicate_succ, List.replicate_zero, Nat.reduceAdd, Nat.reduceSub, Nat.reduceLT, Nat.reduceLeDiff, Nat.reduceBEq, true_and, and_true, Nat.zero_add, Nat.add_zero, Nat.le_refl, Option.some.injEq, exists_eq_left', true_or, or_true, or_false, false_or, reduceCtorEq, Prod.mk.injEq, Sum.inl.injEq, and_self, false_and, and_false, not_true_eq_false, not_false_eq_true, false_implies, true_implies, sm_r, Int.add_zero, Int.zero_add, wI_wsI, wS_wsI, wR_wsI, wI_wCp, wS_wCp, wR_wCp, Nat.reduceEqDiff, reduceIte, sT_iff, sT_iffC, wIf_ne, ne_eq, Bool.false_or, Bool.true_or, Bool.or_false, Bool.or_true, Bool.or_self, Nat.left_eq_add, Nat.add_eq_left, Nat.add_left_inj, oMax, oMin, oAbs, tb_X0_placeAt, p_X2_nextStation, p_X2_stretchAhead, f_X2_nextStation, f_X2_stretchAhead, p_X0_placeAt, f_X0_placeAt, d0, s0, l0, r2, l3, r3, l4, hLe]
  repeat' (first | exact True.intro | with_reducible assumption | with_reducible refine And.intro ?_ ?_ | intro _)
  all_goals first
    | omega
    | assumption
    | rfl
    | (split <;> omega)
    | (have k9 := ih (by omega)
       (repeat' split at k9) <;> first | exact k9 | omega)
    | (have k9 := ih2 (by omega)
       (repeat' split at k9) <;> first | exact k9 | omega)
    | exact he (by omega)
    | ((with_reducible congr 1) <;> omega)
    | (rw [if_pos (by omega)] at he; exact he)
    | exact hD1 (by omega)
    | exact hD2 (by omega)
    | skip
theorem met_X0_placeAt (l : Launch) : sm_Met l yX0_placeAt cX0_placeAt 7 (some .int) 2 0 0 p_X0_placeAt f_X0_placeAt := sm_met 1 (Or.inr (Or.inl ⟨rfl, rfl⟩)) (by decide +kernel) (sn_X0_placeAt l) ok_X0_placeAt
/-- the first other shuttle on the stretch ahead, in a minute -/
def xRa1 (w : sm_W) (d : Nat) (x s t y : Int) (r : Option Int) : Option Int := if r = none then (if xMn w d y s t (t + 1) ≤ 0 then none else some (xFor w d x y)) else r
def xRaL (w : sm_W) (d : Nat) (x s t : Int) : Int → Option Int := itI (xRa1 w d x s t) none
def xRa (w : sm_W) (d : Nat) (x t : Int) : Int := if wI w d 3 < t then 0 else (if xPl w d x t % 2 = 1 then 0 else (if xPl w d x t / 2 = wI w (d + 1 + 4) x then 0 else (if t < xRdy w d x (xPl w d x t / 2) then 0 else (xRaL w d x (sFrom (xPl w d x t / 2) (mWay (vL w (d + 1)) x)) t (wI w (d + 1) 7)).getD 3)))
theorem xPlL_on {w : sm_W} {d : Nat} (hD : dOK w d) {x t : Int} (x0 : 0 ≤ x) (x1 : x < wI w (d + 1) 7) : ∀ (n : Nat) (p : Int), (wI w (d + 1 + 3) x < wI w (d + 1 + 4) x → wI w (d + 1 + 3) x ≤ p ∧ p + n ≤ wI w (d + 1 + 4) x) → (wI w (d + 1 + 4) x ≤ wI w (d + 1 + 3) x → wI w (d + 1 + 4) x ≤ p - n ∧ p ≤ wI w (d + 1 + 3) x) → xPlL n w d x t p % 2 = 0 → (wI w (d + 1 + 3) x < wI w (d + 1 + 4) x → wI w (d + 1 + 3) x ≤ xPlL n w d x t p / 2 ∧ xPlL n w d x t p / 2 ≤ wI w (d + 1 + 4) x) ∧ (wI w (d + 1 + 4) x ≤ wI w (d + 1 + 3) x → wI w (d + 1 + 4) x ≤ xPlL n w d x t p / 2 ∧ xPlL n w d x t p / 2 ≤ wI w (d + 1 + 3) x)
  | 0, p, h1, h2, _ => by
    have e : xPlL 0 w d x t p = 2 * p := rfl
    rw [e]
    omega
  | n + 1, p, h1, h2, h3 => by
    have hw := lWay (w := w) (a := d + 1) x0
    rw [xPlL_s] at h3 ⊢
    by_cases c1 : wI w (dV d x) p < 0
    · rw [if_pos c1]; omega
    · rw [if_neg c1] at h3 ⊢
      by_cases c2 : t < wI w (dV d x) p
      · rw [if_pos c2]; omega
      · rw [if_neg c2] at h3 ⊢
        by_cases c3 : t < wI w (dC d x) (p + mWay (vL w (d + 1)) x)
        · rw [if_pos c3] at h3; omega
        · rw [if_neg c3] at h3 ⊢
          exact xPlL_on hD x0 x1 n _ (by omega) (by omega) h3
theorem xPl_on {w : sm_W} {d : Nat} (hD : dOK w d) {x t : Int} (x0 : 0 ≤ x) (x1 : x < wI w (d + 1) 7) (h : xPl w d x t % 2 = 0) : (wI w (d + 1 + 3) x < wI w (d + 1 + 4) x → wI w (d + 1 + 3) x ≤ xPl w d x t / 2 ∧ xPl w d x t / 2 ≤ wI w (d + 1 + 4) x) ∧ (wI w (d + 1 + 4) x ≤ wI w (d + 1 + 3) x → wI w (d + 1 + 4) x ≤ xPl w d x t / 2 ∧ xPl w d x t / 2 ≤ wI w (d + 1 + 3) x) := by
  have hq := lOK_s hD.2 x0 x1
  have hlg : (wI w (d + 1 + 3) x < wI w (d + 1 + 4) x → xLegs w d x = wI w (d + 1 + 4) x - wI w (d + 1 + 3) x) ∧ (wI w (d + 1 + 4) x ≤ wI w (d + 1 + 3) x → xLegs w d x = wI w (d + 1 + 3) x - wI w (d + 1 + 4) x) := by
    unfold xLegs
    refine ⟨fun h => ?_, fun h => ?_⟩
    · split <;> omega
    · split <;> omega
  exact xPlL_on hD x0 x1 _ _ (by omega) (by omega) h
def p_X0_reasonAt : List sm_V → sm_W → Prop
  | [.inr (.inl d), .inl x, .inl t], w => xOK w d ∧ 0 ≤ x ∧ x < wI w (d + 1) 7 ∧ 0 ≤ t ∧ t ≤ 10000
  | _, _ => False
def f_X0_reasonAt : sm_F
  | [.inr (.inl d), .inl x, .inl t], w => (some (.inl (xRa w d x t)), w)
  | _, w => (none, w)
def tb_X0_reasonAt : List (Nat × List sm_O) := [(0, [oA 0, oI 1, oI 2, oCv 0 11 p_X0_placeAt f_X0_placeAt 0 0 3, oIs 3, oI 3, oK 2, oDiv, oIs 4, oI 2, oA 0, oGi 0 11 3, oGt 52, oI 3, oK 2, oRem, oK 1, oEq 52, oI 4, oA 0, oGr 0 11 0, oGr 2 9 3, oI 1, oIl, oEq 52, oI 2, oA 0, oI 1, oI 4, oCv 0 11 p_X0_readyAt f_X0_readyAt 0 0 3, oGe 54, oGo 52]),
  (52, [oK 0, oIr]),
  (54, [oA 0, oGr 0 11 0, oI 1, oI 4, oCv 2 9 p_X2_stretchAhead f_X2_stretchAhead 0 0 3, oIs 5, oK 0, oIs 6, oFg 3, oFg 4, oGo 69]),
  (69, [oI 6, oA 0, oGr 0 11 0, oGi 2 9 7, oGe 110, oA 0, oI 6, oI 5, oI 2, oI 2, oK 1, oAdd, oCv 0 11 p_X0_minutesOn f_X0_minutesOn 0 0 5, oLe0 104, oA 0, oI 1, oI 6, oCv 0 11 p_X0_reasonFor f_X0_reasonFor 0 0 3, oIr]),
  (104, [oInc 6 1, oFg 3, oFg 4, oGo 69]),
  (110, [oK 3, oIr])]
set_option maxRecDepth 100000 in
theorem sb_X0_reasonAt_0 (l : Launch) : sm_SndB l RX0 "reasonAt" cX0_reasonAt 7 1 3 0 [oA 0, oI 1, oI 2, oCv 0 11 p_X0_placeAt f_X0_placeAt 0 0 3, oIs 3, oI 3, oK 2, oDiv, oIs 4, oI 2, oA 0, oGi 0 11 3, oGt 52, oI 3, oK 2, oRem, oK 1, oEq 52, oI 4, oA 0, oGr 0 11 0, oGr 2 9 3, oI 1, oIl, oEq 52, oI 2, oA 0, oI 1, oI 4, oCv 0 11 p_X0_readyAt f_X0_readyAt 0 0 3, oGe 54, oGo 52] := sb_cons (sd_aload_n (by decide +kernel : decode cX0_reasonAt 0 = .ok (.aload_n 0, 1)) rfl) (sb_cons (sd_iload_n (by decide +kernel : decode cX0_reasonAt 1 = .ok (.iload_n 1, 1)) rfl) (sb_cons (sd_iload_n (by decide +kernel : decode cX0_reasonAt 2 = .ok (.iload_n 2, 1)) rfl) (sb_cons (sd_callv (n := 2) (met_X0_placeAt l) (by decide) (by decide) wm_477 wm_499 wm_2 ⟨by decide +kernel, by decide +kernel, by decide +kernel⟩ kl_0 wm_475 wm_476 (by decide +kernel : decode cX0_reasonAt 3 = .ok (.invokevirtual 162, 3))) (sb_cons (sd_istore_n (by decide +kernel : decode cX0_reasonAt 6 = .ok (.istore_n 3, 1)) rfl) (sb_cons (sd_iload_n (by decide +kernel : decode cX0_reasonAt 7 = .ok (.iload_n 3, 1)) rfl) (sb_cons (sd_iconst (by decide +kernel : decode cX0_reasonAt 8 = .ok (.iconst 2, 1)) ⟨by decide, by decide⟩) (sb_cons (sd_idiv (by decide +kernel : decode cX0_reasonAt 9 = .ok (.idiv, 1))) (sb_cons (sd_istore (by decide +kernel : decode cX0_reasonAt 10 = .ok (.istore 4, 2))) (sb_cons (sd_iload_n (by decide +kernel : decode cX0_reasonAt 12 = .ok (.iload_n 2, 1)) rfl) (sb_cons (sd_aload_n (by decide +kernel : decode cX0_reasonAt 13 = .ok (.aload_n 0, 1)) rfl) (sb_cons (sd_geti (k := 3) kl_0 (by decide) rfl wm_79 (by decide +kernel : decode cX0_reasonAt 14 = .ok (.getfield 49, 3))) (sb_cons (sd_gt (by decide +kernel : decode cX0_reasonAt 17 = .ok (.if_icmp .gt 35, 3)) (by decide)) (sb_cons (sd_iload_n (by decide +kernel : decode cX0_reasonAt 20 = .ok (.iload_n 3, 1)) rfl) (sb_cons (sd_iconst (by decide +kernel : decode cX0_reasonAt 21 = .ok (.iconst 2, 1)) ⟨by decide, by decide⟩) (sb_cons (sd_irem (by decide +kernel : decode cX0_reasonAt 22 = .ok (.irem, 1))) (sb_cons (sd_iconst (by decide +kernel : decode cX0_reasonAt 23 = .ok (.iconst 1, 1)) ⟨by decide, by decide⟩) (sb_cons (sd_eq (by decide +kernel : decode cX0_reasonAt 24 = .ok (.if_icmp .eq 28, 3)) (by decide)) (sb_cons (sd_iload (by decide +kernel : decode cX0_reasonAt 27 = .ok (.iload 4, 2))) (sb_cons (sd_aload_n (by decide +kernel : decode cX0_reasonAt 29 = .ok (.aload_n 0, 1)) rfl) (sb_cons (sd_getr (k := 0) kl_0 (by decide) rfl wm_68 (by decide +kernel : decode cX0_reasonAt 30 = .ok (.getfield 12, 3))) (sb_cons (sd_getr (k := 3) kl_2 (by decide) rfl wm_48 (by decide +kernel : decode cX0_reasonAt 33 = .ok (.getfield 97, 3))) (sb_cons (sd_iload_n (by decide +kernel : decode cX0_reasonAt 36 = .ok (.iload_n 1, 1)) rfl) (sb_cons (sd_iaload (by decide +kernel : decode cX0_reasonAt 37 = .ok (.iaload, 1))) (sb_cons (sd_eq (by decide +kernel : decode cX0_reasonAt 38 = .ok (.if_icmp .eq 14, 3)) (by decide)) (sb_cons (sd_iload_n (by decide +kernel : decode cX0_reasonAt 41 = .ok (.iload_n 2, 1)) rfl) (sb_cons (sd_aload_n (by decide +kernel : decode cX0_reasonAt 42 = .ok (.aload_n 0, 1)) rfl) (sb_cons (sd_iload_n (by decide +kernel : decode cX0_reasonAt 43 = .ok (.iload_n 1, 1)) rfl) (sb_cons (sd_iload (by decide +kernel : decode cX0_reasonAt 44 = .ok (.iload 4, 2))) (sb_cons (sd_callv (n := 2) (met_X0_readyAt l) (by decide) (by decide) wm_384 wm_463 wm_2 ⟨by decide +kernel, by decide +kernel, by decide +kernel⟩ kl_0 wm_382 wm_383 (by decide +kernel : decode cX0_reasonAt 46 = .ok (.invokevirtual 156, 3))) (sb_cons (sd_ge (by decide +kernel : decode cX0_reasonAt 49 = .ok (.if_icmp .ge 5, 3)) (by decide)) (sb_cons (sd_fall (x := 0)) sb_nil)))))))))))))))))))))))))))))))
set_option maxRecDepth 100000 in
theorem sb_X0_reasonAt_52 (l : Launch) : sm_SndB l RX0 "reasonAt" cX0_reasonAt 7 1 3 52 [oK 0, oIr] := sb_cons (sd_iconst (by decide +kernel : decode cX0_reasonAt 52 = .ok (.iconst 0, 1)) ⟨by decide, by decide⟩) (sb_cons (sd_ireturn (x := 0) rfl (by decide +kernel : decode cX0_reasonAt 53 = .ok (.ireturn, 1))) sb_nil)
set_option maxRecDepth 100000 in
theorem sb_X0_reasonAt_54 (l : Launch) : sm_SndB l RX0 "reasonAt" cX0_reasonAt 7 1 3 54 [oA 0, oGr 0 11 0, oI 1, oI 4, oCv 2 9 p_X2_stretchAhead f_X2_stretchAhead 0 0 3, oIs 5, oK 0, oIs 6, oFg 3, oFg 4, oGo 69] := sb_cons (sd_aload_n (by decide +kernel : decode cX0_reasonAt 54 = .ok (.aload_n 0, 1)) rfl) (sb_cons (sd_getr (k := 0) kl_0 (by decide) rfl wm_68 (by decide +kernel : decode cX0_reasonAt 55 = .ok (.getfield 12, 3))) (sb_cons (sd_iload_n (by decide +kernel : decode cX0_reasonAt 58 = .ok (.iload_n 1, 1)) rfl) (sb_cons (sd_iload (by decide +kernel : decode cX0_reasonAt 59 = .ok (.iload 4, 2))) (sb_cons (sd_callv (n := 2) (met_X2_stretchAhead l) (by decide) (by decide) wm_316 wm_313 wm_3 ⟨by decide +kernel, by decide +kernel, by decide +kernel⟩ kl_2 wm_314 wm_315 (by decide +kernel : decode cX0_reasonAt 61 = .ok (.invokevirtual 103, 3))) (sb_cons (sd_istore (by decide +kernel : decode cX0_reasonAt 64 = .ok (.istore 5, 2))) (sb_cons (sd_iconst (by decide +kernel : decode cX0_reasonAt 66 = .ok (.iconst 0, 1)) ⟨by decide, by decide⟩) (sb_cons (sd_istore (by decide +kernel : decode cX0_reasonAt 67 = .ok (.istore 6, 2))) (sb_cons (sd_fg) (sb_cons (sd_fg) (sb_cons (sd_fall (x := 0)) sb_nil))))))))))
set_option maxRecDepth 100000 in
theorem sb_X0_reasonAt_69 (l : Launch) : sm_SndB l RX0 "reasonAt" cX0_reasonAt 7 1 3 69 [oI 6, oA 0, oGr 0 11 0, oGi 2 9 7, oGe 110, oA 0, oI 6, oI 5, oI 2, oI 2, oK 1, oAdd, oCv 0 11 p_X0_minutesOn f_X0_minutesOn 0 0 5, oLe0 104, oA 0, oI 1, oI 6, oCv 0 11 p_X0_reasonFor f_X0_reasonFor 0 0 3, oIr] := sb_cons (sd_iload (by decide +kernel : decode cX0_reasonAt 69 = .ok (.iload 6, 2))) (sb_cons (sd_aload_n (by decide +kernel : decode cX0_reasonAt 71 = .ok (.aload_n 0, 1)) rfl) (sb_cons (sd_getr (k := 0) kl_0 (by decide) rfl wm_68 (by decide +kernel : decode cX0_reasonAt 72 = .ok (.getfield 12, 3))) (sb_cons (sd_geti (k := 7) kl_2 (by decide) rfl wm_59 (by decide +kernel : decode cX0_reasonAt 75 = .ok (.getfield 77, 3))) (sb_cons (sd_ge (by decide +kernel : decode cX0_reasonAt 78 = .ok (.if_icmp .ge 32, 3)) (by decide)) (sb_cons (sd_aload_n (by decide +kernel : decode cX0_reasonAt 81 = .ok (.aload_n 0, 1)) rfl) (sb_cons (sd_iload (by decide +kernel : decode cX0_reasonAt 82 = .ok (.iload 6, 2))) (sb_cons (sd_iload (by decide +kernel : decode cX0_reasonAt 84 = .ok (.iload 5, 2))) (sb_cons (sd_iload_n (by decide +kernel : decode cX0_reasonAt 86 = .ok (.iload_n 2, 1)) rfl) (sb_cons (sd_iload_n (by decide +kernel : decode cX0_reasonAt 87 = .ok (.iload_n 2, 1)) rfl) (sb_cons (sd_iconst (by decide +kernel : decode cX0_reasonAt 88 = .ok (.iconst 1, 1)) ⟨by decide, by decide⟩) (sb_cons (sd_iadd (by decide +kernel : decode cX0_reasonAt 89 = .ok (.iadd, 1))) (sb_cons (sd_callv (n := 4) (met_X0_minutesOn l) (by decide) (by decide) wm_395 wm_500 wm_2 ⟨by decide +kernel, by decide +kernel, by decide +kernel⟩ kl_0 wm_393 wm_394 (by decide +kernel : decode cX0_reasonAt 90 = .ok (.invokevirtual 165, 3))) (sb_cons (sd_le0 (by decide +kernel : decode cX0_reasonAt 93 = .ok (.ifCond .le 11, 3)) (by decide)) (sb_cons (sd_aload_n (by decide +kernel : decode cX0_reasonAt 96 = .ok (.aload_n 0, 1)) rfl) (sb_cons (sd_iload_n (by decide +kernel : decode cX0_reasonAt 97 = .ok (.iload_n 1, 1)) rfl) (sb_cons (sd_iload (by decide +kernel : decode cX0_reasonAt 98 = .ok (.iload 6, 2))) (sb_cons (sd_callv (n := 2) (met_X0_reasonFor l) (by decide) (by decide) wm_403 wm_501 wm_2 ⟨by decide +kernel, by decide +kernel, by decide +kernel⟩ kl_0 wm_401 wm_402 (by decide +kernel : decode cX0_reasonAt 100 = .ok (.invokevirtual 169, 3))) (sb_cons (sd_ireturn (x := 0) rfl (by decide +kernel : decode cX0_reasonAt 103 = .ok (.ireturn, 1))) sb_nil))))))))))))))))))
set_option maxRecDepth 100000 in
theorem sb_X0_reasonAt_104 (l : Launch) : sm_SndB l RX0 "reasonAt" cX0_reasonAt 7 1 3 104 [oInc 6 1, oFg 3, oFg 4, oGo 69] := sb_cons (sd_iinc (by decide +kernel : decode cX0_reasonAt 104 = .ok (.iinc 6 1, 3))) (sb_cons (sd_fg) (sb_cons (sd_fg) (sb_cons (sd_goto (x := 0) (by decide +kernel : decode cX0_reasonAt 107 = .ok (.goto (-38), 3)) (by decide)) sb_nil)))
set_option maxRecDepth 100000 in
theorem sb_X0_reasonAt_110 (l : Launch) : sm_SndB l RX0 "reasonAt" cX0_reasonAt 7 1 3 110 [oK 3, oIr] := sb_cons (sd_iconst (by decide +kernel : decode cX0_reasonAt 110 = .ok (.iconst 3, 1)) ⟨by decide, by decide⟩) (sb_cons (sd_ireturn (x := 0) rfl (by decide +kernel : decode cX0_reasonAt 111 = .ok (.ireturn, 1))) sb_nil)
theorem sn_X0_reasonAt (l : Launch) : sm_SndT l RX0 "reasonAt" cX0_reasonAt 7 1 3 tb_X0_reasonAt := st_cons (sb_X0_reasonAt_0 l) (st_cons (sb_X0_reasonAt_52 l) (st_cons (sb_X0_reasonAt_54 l) (st_cons (sb_X0_reasonAt_69 l) (st_cons (sb_X0_reasonAt_104 l) (st_cons (sb_X0_reasonAt_110 l) (st_nil))))))
set_option maxRecDepth 100000 in
set_option maxHeartbeats 4000000 in
theorem ok_X0_reasonAt : sm_Ok tb_X0_reasonAt 7 0 0 p_X0_reasonAt f_X0_reasonAt := by
  intro as w hp ha hw
  match as, hp with
  | [.inr (.inl d), .inl x, .inl t], hp =>
  refine ⟨Nat.le_of_ble_eq_true rfl, fun Z hZ => ?_⟩
  obtain ⟨hX, x0, x1, t0, t1⟩ := hp
  have hD := hX.1
  have hn := dOK_n hD
  obtain ⟨d0, d9, d18, d27, d28, d29, d30, d31, d32, s0, s1, s2, s5, s6, s7, s8, s9, s10⟩ := dS hD.2.1 hD.1
  obtain ⟨l0, l1, l2, l3, l4, l5, l6, l7, r0, r1, r2, r3, r4, r5, r6⟩ := lS hD.2.1 (dL hD.1)
  have hT := hD.2.1
  have hL := hD.2.2.1
  have hq := lOK_s hD.2 x0 x1
  have hw := lWay (w := w) (a := d + 1) x0
  have hb := xPl_b (t := t) hD x0 x1
  have hon := xPl_on (t := t) hD x0 x1
  have key : xRa w d x t = if wI w d 3 < t then 0 else (if xPl w d x t % 2 = 1 then 0 else (if xPl w d x t / 2 = wI w (d + 1 + 4) x then 0 else (if t < xRdy w d x (xPl w d x t / 2) then 0 else (xRaL w d x (sFrom (xPl w d x t / 2) (mWay (vL w (d + 1)) x)) t (wI w (d + 1) 7)).getD 3))) := rfl
  generalize hE : xRa w d x t = E at *
  generalize hPl : xPl w d x t = P at *
  have hP8 : 0 ≤ P / 2 ∧ P / 2 < 8 := by omega
  by_cases c1 : wI w d 3 < t
  · rw [if_pos c1] at key
    refine hZ (fun u => Nat.beq u 69) 14 0 _ _ _ _ _ ?_
    simp only [sm_run, sm_blk, sm_get, sm_ent, sm_ents, sm_wds, sm_wd, sm_nl, sm_pop, sm_back, sm_cases, oK, oLK, oL, oI, oA, oJ, oIs, oAs, oJs, oInc, oAdd, oSub, oMul, oDiv, oRem, oNeg, oAnd, oAndB, oOr, oShl, oI2c, oI2l, oL2i, oLand, oLor, oLshl, oLshr, oLushr, oLcmp, oDup, oDup2, oPop, oGo, oFg, oEq, oNe, oLt, oGe, oGt, oLe, oEq0, oNe0, oLt0, oGe0, oGt0, oLe0, oSw, oGi, oGr, oPi, oPz, oPr, oLen, oIl, oZl, oCl, oRl, oIst, oZst, oCst, oRst, oCopy, oNew, oNa, oNa2, oObj, oCs, oCv, oCi, oIr, oZr, oVr, Nat.beq, List.getElem?_cons_zero, List.getElem?_cons_succ, List.set_cons_zero, List.set_cons_succ, List.length_cons, List.length_nil, List.nil_append, List.cons_append, List.append_nil, List.replicate_succ, List.replicate_zero, Nat.reduceAdd, Nat.reduceSub, Nat.reduceLT, Nat.reduceLeDiff, Nat.reduceBEq, true_and, and_true, Nat.zero_add, Nat.add_zero, Nat.le_refl, Option.some.injEq, exists_eq_left', true_or, or_true, or_false, false_or, reduceCtorEq, Prod.mk.injEq, Sum.inl.injEq, and_self, false_and, and_false, not_true_eq_false, not_false_eq_true, false_implies, true_implies, sm_r, Int.add_zero, Int.zero_add, wI_wsI, wS_wsI, wR_wsI, wI_wCp, wS_wCp, wR_wCp, Nat.reduceEqDiff, reduceIte, sT_iff, sT_iffC, wIf_ne, ne_eq, Bool.false_or, Bool.true_or, Bool.or_false, Bool.or_true, Bool.or_self, Nat.left_eq_add, Nat.add_eq_left, Nat.add_left_inj, oMax, oMin, oAbs, tb_X0_reasonAt, p_X0_minutesOn, p_X0_placeAt, p_X0_readyAt, p_X0_reasonFor, p_X2_stretchAhead, f_X0_minutesOn, f_X0_placeAt, f_X0_readyAt, f_X0_reasonFor, f_X2_stretchAhead, p_X0_reasonAt, f_X0_reasonAt, d0, hD, hPl, hE, s0, l0, r3, l4, hX, hT, hL]
    repeat' (first | exact True.intro | with_reducible assumption | with_reducible refine And.intro ?_ ?_ | intro _)
    all_goals first
      | omega
      | assumption
      | rfl
      | (split <;> omega)
      | (have k9 := ih (by omega)
         (repeat' split at k9) <;> first | exact k9 | omega)
      | (have k9 := ih2 (by omega)
         (repeat' split at k9) <;> first | exact k9 | omega)
      | exact he (by omega)
      | ((with_reducible congr 1) <;> omega)
      | (rw [if_pos (by omega)] at he; exact he)
      | exact hD1 (by omega)
      | exact hD2 (by omega)
      | grind
      | skip
  · rw [if_neg c1] at key
    by_cases c2 : P % 2 = 1
    · rw [if_pos c2] at key
      refine hZ (fun u => Nat.beq u 69) 14 0 _ _ _ _ _ ?_
      simp only [sm_run, sm_blk, sm_get, sm_ent, sm_ents, sm_wds, sm_wd, sm_nl, sm_pop, sm_back, sm_cases, oK, oLK, oL, oI, oA, oJ, oIs, oAs, oJs, oInc, oAdd, oSub, oMul, oDiv, oRem, oNeg, oAnd, oAndB, oOr, oShl, oI2c, oI2l, oL2i, oLand, oLor, oLshl, oLshr, oLushr, oLcmp, oDup, oDup2, oPop, oGo, oFg, oEq, oNe, oLt, oGe, oGt, oLe, oEq0, oNe0, oLt0, oGe0, oGt0, oLe0, oSw, oGi, oGr, oPi, oPz, oPr, oLen, oIl, oZl, oCl, oRl, oIst, oZst, oCst, oRst, oCopy, oNew, oNa, oNa2, oObj, oCs, oCv, oCi, oIr, oZr, oVr, Nat.beq, List.getElem?_cons_zero, List.getElem?_cons_succ, List.set_cons_zero, List.set_cons_succ, List.length_cons, List.length_nil, List.nil_append, List.cons_append, List.append_nil, List.replicate_succ, List.replicate_zero, Nat.reduceAdd, Nat.reduceSub, Nat.reduceLT, Nat.reduceLeDiff, Nat.reduceBEq, true_and, and_true, Nat.zero_add, Nat.add_zero, Nat.le_refl, Option.some.injEq, exists_eq_left', true_or, or_true, or_false, false_or, reduceCtorEq, Prod.mk.injEq, Sum.inl.injEq, and_self, false_and, and_false, not_true_eq_false, not_false_eq_true, false_implies, true_implies, sm_r, Int.add_zero, Int.zero_add, wI_wsI, wS_wsI, wR_wsI, wI_wCp, wS_wCp, wR_wCp, Nat.reduceEqDiff, reduceIte, sT_iff, sT_iffC, wIf_ne, ne_eq, Bool.false_or, Bool.true_or, Bool.or_false, Bool.or_true, Bool.or_self, Nat.left_eq_add, Nat.add_eq_left, Nat.add_left_inj, oMax, oMin, oAbs, tb_X0_reasonAt, p_X0_minutesOn, p_X0_placeAt, p_X0_readyAt, p_X0_reasonFor, p_X2_stretchAhead, f_X0_minutesOn, f_X0_placeAt, f_X0_readyAt, f_X0_reasonFor, f_X2_stretchAhead, p_X0_reasonAt, f_X0_reasonAt, d0, hD, hPl, hE, s0, l0, r3, l4, hX, hT, hL]
      repeat' (first | exact True.intro | with_reducible assumption | with_reducible refine And.intro ?_ ?_ | intro _)
      all_goals first
        | omega
        | assumption
        | rfl
        | (split <;> omega)
        | (have k9 := ih (by omega)
           (repeat' split at k9) <;> first | exact k9 | omega)
        | (have k9 := ih2 (by omega)
           (repeat' split at k9) <;> first | exact k9 | omega)
        | exact he (by omega)
        | ((with_reducible congr 1) <;> omega)
        | (rw [if_pos (by omega)] at he; exact he)
        | exact hD1 (by omega)
        | exact hD2 (by omega)
        | grind
        | skip
    · rw [if_neg c2] at key
      by_cases c3 : P / 2 = wI w (d + 1 + 4) x
      · rw [if_pos c3] at key
        refine hZ (fun u => Nat.beq u 69) 14 0 _ _ _ _ _ ?_
        simp only [sm_run, sm_blk, sm_get, sm_ent, sm_ents, sm_wds, sm_wd, sm_nl, sm_pop, sm_back, sm_cases, oK, oLK, oL, oI, oA, oJ, oIs, oAs, oJs, oInc, oAdd, oSub, oMul, oDiv, oRem, oNeg, oAnd, oAndB, oOr, oShl, oI2c, oI2l, oL2i, oLand, oLor, oLshl, oLshr, oLushr, oLcmp, oDup, oDup2, oPop, oGo, oFg, oEq, oNe, oLt, oGe, oGt, oLe, oEq0, oNe0, oLt0, oGe0, oGt0, oLe0, oSw, oGi, oGr, oPi, oPz, oPr, oLen, oIl, oZl, oCl, oRl, oIst, oZst, oCst, oRst, oCopy, oNew, oNa, oNa2, oObj, oCs, oCv, oCi, oIr, oZr, oVr, Nat.beq, List.getElem?_cons_zero, List.getElem?_cons_succ, List.set_cons_zero, List.set_cons_succ, List.length_cons, List.length_nil, List.nil_append, List.cons_append, List.append_nil, List.replicate_succ, List.replicate_zero, Nat.reduceAdd, Nat.reduceSub, Nat.reduceLT, Nat.reduceLeDiff, Nat.reduceBEq, true_and, and_true, Nat.zero_add, Nat.add_zero, Nat.le_refl, Option.some.injEq, exists_eq_left', true_or, or_true, or_false, false_or, reduceCtorEq, Prod.mk.injEq, Sum.inl.injEq, and_self, false_and, and_false, not_true_eq_false, not_false_eq_true, false_implies, true_implies, sm_r, Int.add_zero, Int.zero_add, wI_wsI, wS_wsI, wR_wsI, wI_wCp, wS_wCp, wR_wCp, Nat.reduceEqDiff, reduceIte, sT_iff, sT_iffC, wIf_ne, ne_eq, Bool.false_or, Bool.true_or, Bool.or_false, Bool.or_true, Bool.or_self, Nat.left_eq_add, Nat.add_eq_left, Nat.add_left_inj, oMax, oMin, oAbs, tb_X0_reasonAt, p_X0_minutesOn, p_X0_placeAt, p_X0_readyAt, p_X0_reasonFor, p_X2_stretchAhead, f_X0_minutesOn, f_X0_placeAt, f_X0_readyAt, f_X0_reasonFor, f_X2_stretchAhead, p_X0_reasonAt, f_X0_reasonAt, d0, hD, hPl, hE, s0, l0, r3, l4, hX, hT, hL]
        repeat' (first | exact True.intro | with_reducible assumption | with_reducible refine And.intro ?_ ?_ | intro _)
        all_goals first
          | omega
          | assumption
          | rfl
          | (split <;> omega)
          | (have k9 := ih (by omega)
             (repeat' split at k9) <;> first | exact k9 | omega)
          | (have k9 := ih2 (by omega)
             (repeat' split at k9) <;> first | exact k9 | omega)
          | exact he (by omega)
          | ((with_reducible congr 1) <;> omega)
          | (rw [if_pos (by omega)] at he; exact he)
          | exact hD1 (by omega)
          | exact hD2 (by omega)
          | grind
          | skip
      · rw [if_neg c3] at key
        by_cases c4 : t < xRdy w d x (P / 2)
        · rw [if_pos c4] at key
          refine hZ (fun u => Nat.beq u 69) 14 0 _ _ _ _ _ ?_
          simp only [sm_run, sm_blk, sm_get, sm_ent, sm_ents, sm_wds, sm_wd, sm_nl, sm_pop, sm_back, sm_cases, oK, oLK, oL, oI, oA, oJ, oIs, oAs, oJs, oInc, oAdd, oSub, oMul, oDiv, oRem, oNeg, oAnd, oAndB, oOr, oShl, oI2c, oI2l, oL2i, oLand, oLor, oLshl, oLshr, oLushr, oLcmp, oDup, oDup2, oPop, oGo, oFg, oEq, oNe, oLt, oGe, oGt, oLe, oEq0, oNe0, oLt0, oGe0, oGt0, oLe0, oSw, oGi, oGr, oPi, oPz, oPr, oLen, oIl, oZl, oCl, oRl, oIst, oZst, oCst, oRst, oCopy, oNew, oNa, oNa2, oObj, oCs, oCv, oCi, oIr, oZr, oVr, Nat.beq, List.getElem?_cons_zero, List.getElem?_cons_succ, List.set_cons_zero, List.set_cons_succ, List.length_cons, List.length_nil, List.nil_append, List.cons_append, List.append_nil, List.replicate_succ, List.replicate_zero, Nat.reduceAdd, Nat.reduceSub, Nat.reduceLT, Nat.reduceLeDiff, Nat.reduceBEq, true_and, and_true, Nat.zero_add, Nat.add_zero, Nat.le_refl, Option.some.injEq, exists_eq_left', true_or, or_true, or_false, false_or, reduceCtorEq, Prod.mk.injEq, Sum.inl.injEq, and_self, false_and, and_false, not_true_eq_false, not_false_eq_true, false_implies, true_implies, sm_r, Int.add_zero, Int.zero_add, wI_wsI, wS_wsI, wR_wsI, wI_wCp, wS_wCp, wR_wCp, Nat.reduceEqDiff, reduceIte, sT_iff, sT_iffC, wIf_ne, ne_eq, Bool.false_or, Bool.true_or, Bool.or_false, Bool.or_true, Bool.or_self, Nat.left_eq_add, Nat.add_eq_left, Nat.add_left_inj, oMax, oMin, oAbs, tb_X0_reasonAt, p_X0_minutesOn, p_X0_placeAt, p_X0_readyAt, p_X0_reasonFor, p_X2_stretchAhead, f_X0_minutesOn, f_X0_placeAt, f_X0_readyAt, f_X0_reasonFor, f_X2_stretchAhead, p_X0_reasonAt, f_X0_reasonAt, d0, hD, hPl, hE, s0, l0, r3, l4, hX, hT, hL]
          repeat' (first | exact True.intro | with_reducible assumption | with_reducible refine And.intro ?_ ?_ | intro _)
          all_goals first
            | omega
            | assumption
            | rfl
            | (split <;> omega)
            | (have k9 := ih (by omega)
               (repeat' split at k9) <;> first | exact k9 | omega)
            | (have k9 := ih2 (by omega)
               (repeat' split at k9) <;> first | exact k9 | omega)
            | exact he (by omega)
            | ((with_reducible congr 1) <;> omega)
            | (rw [if_pos (by omega)] at he; exact he)
            | exact hD1 (by omega)
            | exact hD2 (by omega)
            | grind
            | skip
        · rw [if_neg c4] at key
          have hsf : (0 < mWay (vL w (d + 1)) x → sFrom (P / 2) (mWay (vL w (d + 1)) x) = P / 2) ∧ (¬ 0 < mWay (vL w (d + 1)) x → sFrom (P / 2) (mWay (vL w (d + 1)) x) = P / 2 - 1) := ⟨fun h => if_pos h, fun h => if_neg h⟩
          have hon := hon (by omega)
          have hS : 0 ≤ sFrom (P / 2) (mWay (vL w (d + 1)) x) ∧ sFrom (P / 2) (mWay (vL w (d + 1)) x) < 7 := by omega
          generalize hSe : sFrom (P / 2) (mWay (vL w (d + 1)) x) = S at *
          have hl := sm_loopM (S := Int) Z 69 (fun i => (wI w (d + 1) 7 - i).toNat) (fun i => 0 ≤ i ∧ i ≤ wI w (d + 1) 7 ∧ xRaL w d x S t i = none) (fun i => [some (.inr (.inl d)), some (.inl x), some (.inl t), none, none, some (.inl S), some (.inl i)]) (fun _ => w) 0 0 (fun i hI ih => by
            obtain ⟨h0, h1, hno⟩ := hI
            have hu : xRaL w d x S t (i + 1) = xRa1 w d x S t i none := by rw [← hno]; exact itI_s _ _ h0
            have ihn := fun hlt : i < wI w (d + 1) 7 => fun hb : xRa1 w d x S t i none = none => ih (i + 1) ⟨by omega, by omega, hu.trans hb⟩ (by omega)
            have hxx : ∀ v, i < wI w (d + 1) 7 → xRa1 w d x S t i none = some v → xRaL w d x S t (wI w (d + 1) 7) = some v := fun v hlt hv => itI_abs (f := xRa1 w d x S t) (r0 := some v) (fun k _ => rfl) (i := i + 1) (by omega) (by omega) (hu.trans hv)
            clear ih
            by_cases e : i = wI w (d + 1) 7
            · have key : E = 3 := by rw [key, ← e, hno]; rfl
              clear ihn hxx
              refine hZ (fun u => Nat.beq u 69) 14 69 _ _ _ _ _ ?_
              simp only [sm_run, sm_blk, sm_get, sm_ent, sm_ents, sm_wds, sm_wd, sm_nl, sm_pop, sm_back, sm_cases, oK, oLK, oL, oI, oA, oJ, oIs, oAs, oJs, oInc, oAdd, oSub, oMul, oDiv, oRem, oNeg, oAnd, oAndB, oOr, oShl, oI2c, oI2l, oL2i, oLand, oLor, oLshl, oLshr, oLushr, oLcmp, oDup, oDup2, oPop, oGo, oFg, oEq, oNe, oLt, oGe, oGt, oLe, oEq0, oNe0, oLt0, oGe0, oGt0, oLe0, oSw, oGi, oGr, oPi, oPz, oPr, oLen, oIl, oZl, oCl, oRl, oIst, oZst, oCst, oRst, oCopy, oNew, oNa, oNa2, oObj, oCs, oCv, oCi, oIr, oZr, oVr, Nat.beq, List.getElem?_cons_zero, List.getElem?_cons_succ, List.set_cons_zero, List.set_cons_succ, List.length_cons, List.length_nil, List.nil_append, List.cons_append, List.append_nil, List.replicate_succ, List.replicate_zero, Nat.reduceAdd, Nat.reduceSub, Nat.reduceLT, Nat.reduceLeDiff, Nat.reduceBEq, true_and, and_true, Nat.zero_add, Nat.add_zero, Nat.le_refl, Option.some.injEq, exists_eq_left', true_or, or_true, or_false, false_or, reduceCtorEq, Prod.mk.injEq, Sum.inl.injEq, and_self, false_and, and_false, not_true_eq_false, not_false_eq_true, false_implies, true_implies, sm_r, Int.add_zero, Int.zero_add, wI_wsI, wS_wsI, wR_wsI, wI_wCp, wS_wCp, wR_wCp, Nat.reduceEqDiff, reduceIte, sT_iff, sT_iffC, wIf_ne, ne_eq, Bool.false_or, Bool.true_or, Bool.or_false, Bool.or_true, Bool.or_self, Nat.left_eq_add, Nat.add_eq_left, Nat.add_left_inj, oMax, oMin, oAbs, tb_X0_reasonAt, p_X0_minutesOn, p_X0_placeAt, p_X0_readyAt, p_X0_reasonFor, p_X2_stretchAhead, f_X0_minutesOn, f_X0_placeAt, f_X0_readyAt, f_X0_reasonFor, f_X2_stretchAhead, p_X0_reasonAt, f_X0_reasonAt, d0, s0, l0, hE]
              repeat' (first | exact True.intro | with_reducible assumption | with_reducible refine And.intro ?_ ?_ | intro _)
              all_goals first
                | omega
                | assumption
                | rfl
                | (split <;> omega)
                | (have k9 := ih (by omega)
                   (repeat' split at k9) <;> first | exact k9 | omega)
                | (have k9 := ih2 (by omega)
                   (repeat' split at k9) <;> first | exact k9 | omega)
                | exact he (by omega)
                | ((with_reducible congr 1) <;> omega)
                | (rw [if_pos (by omega)] at he; exact he)
                | exact hD1 (by omega)
                | exact hD2 (by omega)
                | grind
                | skip
            · have hlt : i < wI w (d + 1) 7 := by omega
              have hq2 : xRa1 w d x S t i none = if xMn w d i S t (t + 1) ≤ 0 then none else some (xFor w d x i) := rfl
              by_cases c : xMn w d i S t (t + 1) ≤ 0
              · rw [if_pos c] at hq2
                have ih := ihn hlt hq2
                clear ihn hxx
                generalize hMe : xMn w d i S t (t + 1) = M at *
                refine hZ (fun u => Nat.beq u 69) 14 69 _ _ _ _ _ ?_
                simp only [sm_run, sm_blk, sm_get, sm_ent, sm_ents, sm_wds, sm_wd, sm_nl, sm_pop, sm_back, sm_cases, oK, oLK, oL, oI, oA, oJ, oIs, oAs, oJs, oInc, oAdd, oSub, oMul, oDiv, oRem, oNeg, oAnd, oAndB, oOr, oShl, oI2c, oI2l, oL2i, oLand, oLor, oLshl, oLshr, oLushr, oLcmp, oDup, oDup2, oPop, oGo, oFg, oEq, oNe, oLt, oGe, oGt, oLe, oEq0, oNe0, oLt0, oGe0, oGt0, oLe0, oSw, oGi, oGr, oPi, oPz, oPr, oLen, oIl, oZl, oCl, oRl, oIst, oZst, oCst, oRst, oCopy, oNew, oNa, oNa2, oObj, oCs, oCv, oCi, oIr, oZr, oVr, Nat.beq, List.getElem?_cons_zero, List.getElem?_cons_succ, List.set_cons_zero, List.set_cons_succ, List.length_cons, List.length_nil, List.nil_append, List.cons_append, List.append_nil, List.replicate_succ, List.replicate_zero, Nat.reduceAdd, Nat.reduceSub, Nat.reduceLT, Nat.reduceLeDiff, Nat.reduceBEq, true_and, and_true, Nat.zero_add, Nat.add_zero, Nat.le_refl, Option.some.injEq, exists_eq_left', true_or, or_true, or_false, false_or, reduceCtorEq, Prod.mk.injEq, Sum.inl.injEq, and_self, false_and, and_false, not_true_eq_false, not_false_eq_true, false_implies, true_implies, sm_r, Int.add_zero, Int.zero_add, wI_wsI, wS_wsI, wR_wsI, wI_wCp, wS_wCp, wR_wCp, Nat.reduceEqDiff, reduceIte, sT_iff, sT_iffC, wIf_ne, ne_eq, Bool.false_or, Bool.true_or, Bool.or_false, Bool.or_true, Bool.or_self, Nat.left_eq_add, Nat.add_eq_left, Nat.add_left_inj, oMax, oMin, oAbs, tb_X0_reasonAt, p_X0_minutesOn, p_X0_placeAt, p_X0_readyAt, p_X0_reasonFor, p_X2_stretchAhead, f_X0_minutesOn, f_X0_placeAt, f_X0_readyAt, f_X0_reasonFor, f_X2_stretchAhead, p_X0_reasonAt, f_X0_reasonAt, d0, s0, l0, hX, hD, hMe]
                repeat' (first | exact True.intro | with_reducible assumption | with_reducible refine And.intro ?_ ?_ | intro _)
                all_goals first
                  | omega
                  | assumption
                  | rfl
                  | (split <;> omega)
                  | (have k9 := ih (by omega)
                     (repeat' split at k9) <;> first | exact k9 | omega)
                  | (have k9 := ih2 (by omega)
                     (repeat' split at k9) <;> first | exact k9 | omega)
                  | exact he (by omega)
                  | ((with_reducible congr 1) <;> omega)
                  | (rw [if_pos (by omega)] at he; exact he)
                  | exact hD1 (by omega)
                  | exact hD2 (by omega)
                  | grind
                  | skip
              · rw [if_neg c] at hq2
                have key : E = xFor w d x i := by rw [key, hxx _ hlt hq2]; rfl
                clear ihn hxx
                generalize hMe : xMn w d i S t (t + 1) = M at *
                refine hZ (fun u => Nat.beq u 69) 14 69 _ _ _ _ _ ?_
                simp only [sm_run, sm_blk, sm_get, sm_ent, sm_ents, sm_wds, sm_wd, sm_nl, sm_pop, sm_back, sm_cases, oK, oLK, oL, oI, oA, oJ, oIs, oAs, oJs, oInc, oAdd, oSub, oMul, oDiv, oRem, oNeg, oAnd, oAndB, oOr, oShl, oI2c, oI2l, oL2i, oLand, oLor, oLshl, oLshr, oLushr, oLcmp, oDup, oDup2, oPop, oGo, oFg, oEq, oNe, oLt, oGe, oGt, oLe, oEq0, oNe0, oLt0, oGe0, oGt0, oLe0, oSw, oGi, oGr, oPi, oPz, oPr, oLen, oIl, oZl, oCl, oRl, oIst, oZst, oCst, oRst, oCopy, oNew, oNa, oNa2, oObj, oCs, oCv, oCi, oIr, oZr, oVr, Nat.beq, List.getElem?_cons_zero, List.getElem?_cons_succ, List.set_cons_zero, List.set_cons_succ, List.length_cons, List.length_nil, List.nil_append, List.cons_append, List.append_nil, List.replicate_succ, List.replicate_zero, Nat.reduceAdd, Nat.reduceSub, Nat.reduceLT, Nat.reduceLeDiff, Nat.reduceBEq, true_and, and_true, Nat.zero_add, Nat.add_zero, Nat.le_refl, Option.some.injEq, exists_eq_left', true_or, or_true, or_false, false_or, reduceCtorEq, Prod.mk.injEq, Sum.inl.injEq, and_self, false_and, and_false, not_true_eq_false, not_false_eq_true, false_implies, true_implies, sm_r, Int.add_zero, Int.zero_add, wI_wsI, wS_wsI, wR_wsI, wI_wCp, wS_wCp, wR_wCp, Nat.reduceEqDiff, reduceIte, sT_iff, sT_iffC, wIf_ne, ne_eq, Bool.false_or, Bool.true_or, Bool.or_false, Bool.or_true, Bool.or_self, Nat.left_eq_add, Nat.add_eq_left, Nat.add_left_inj, oMax, oMin, oAbs, tb_X0_reasonAt, p_X0_minutesOn, p_X0_placeAt, p_X0_readyAt, p_X0_reasonFor, p_X2_stretchAhead, f_X0_minutesOn, f_X0_placeAt, f_X0_readyAt, f_X0_reasonFor, f_X2_stretchAhead, p_X0_reasonAt, f_X0_reasonAt, d0, s0, l0, hX, hD, hMe, hE]
                repeat' (first | exact True.intro | with_reducible assumption | with_reducible refine And.intro ?_ ?_ | intro _)
                all_goals first
                  | omega
                  | assumption
                  | rfl
                  | (split <;> omega)
                  | (have k9 := ih (by omega)
                     (repeat' split at k9) <;> first | exact k9 | omega)
                  | (have k9 := ih2 (by omega)
                     (repeat' split at k9) <;> first | exact k9 | omega)
                  | exact he (by omega)
                  | ((with_reducible congr 1) <;> omega)
                  | (rw [if_pos (by omega)] at he; exact he)
                  | exact hD1 (by omega)
                  | exact hD2 (by omega)
                  | grind
                  | skip
            ) 0 ⟨Int.le_refl _, hn.1, rfl⟩
          refine hZ (fun u => Nat.beq u 69) 14 0 _ _ _ _ _ ?_
          simp only [sm_run, sm_blk, sm_get, sm_ent, sm_ents, sm_wds, sm_wd, sm_nl, sm_pop, sm_back, sm_cases, oK, oLK, oL, oI, oA, oJ, oIs, oAs, oJs, oInc, oAdd, oSub, oMul, oDiv, oRem, oNeg, oAnd, oAndB, oOr, oShl, oI2c, oI2l, oL2i, oLand, oLor, oLshl, oLshr, oLushr, oLcmp, oDup, oDup2, oPop, oGo, oFg, oEq, oNe, oLt, oGe, oGt, oLe, oEq0, oNe0, oLt0, oGe0, oGt0, oLe0, oSw, oGi, oGr, oPi, oPz, oPr, oLen, oIl, oZl, oCl, oRl, oIst, oZst, oCst, oRst, oCopy, oNew, oNa, oNa2, oObj, oCs, oCv, oCi, oIr, oZr, oVr, Nat.beq, List.getElem?_cons_zero, List.getElem?_cons_succ, List.set_cons_zero, List.set_cons_succ, List.length_cons, List.length_nil, List.nil_append, List.cons_append, List.append_nil, List.replicate_succ, List.replicate_zero, Nat.reduceAdd, Nat.reduceSub, Nat.reduceLT, Nat.reduceLeDiff, Nat.reduceBEq, true_and, and_true, Nat.zero_add, Nat.add_zero, Nat.le_refl, Option.some.injEq, exists_eq_left', true_or, or_true, or_false, false_or, reduceCtorEq, Prod.mk.injEq, Sum.inl.injEq, and_self, false_and, and_false, not_true_eq_false, not_false_eq_true, false_implies, true_implies, sm_r, Int.add_zero, Int.zero_add, wI_wsI, wS_wsI, wR_wsI, wI_wCp, wS_wCp, wR_wCp, Nat.reduceEqDiff, reduceIte, sT_iff, sT_iffC, wIf_ne, ne_eq, Bool.false_or, Bool.true_or, Bool.or_false, Bool.or_true, Bool.or_self, Nat.left_eq_add, Nat.add_eq_left, Nat.add_left_inj, oMax, oMin, oAbs, tb_X0_reasonAt, p_X0_minutesOn, p_X0_placeAt, p_X0_readyAt, p_X0_reasonFor, p_X2_stretchAhead, f_X0_minutesOn, f_X0_placeAt, f_X0_readyAt, f_X0_reasonFor, f_X2_stretchAhead, p_X0_reasonAt, f_X0_reasonAt, d0, hD, hPl, hE, s0, l0, r3, l4, hX, hT, hL, hSe]
          repeat' (first | exact True.intro | with_reducible assumption | with_reducible refine And.intro ?_ ?_ | intro _)
          all_goals first
            | omega
            | assumption
            | rfl
            | (split <;> omega)
            | (have k9 := ih (by omega)
               (repeat' split at k9) <;> first | exact k9 | omega)
            | (have k9 := ih2 (by omega)
               (repeat' split at k9) <;> first | exact k9 | omega)
            | exact he (by omega)
            | ((with_reducible congr 1) <;> omega)
            | (rw [if_pos (by omega)] at he; exact he)
            | exact hD1 (by omega)
            | exact hD2 (by omega)
            | grind
            | skip

theorem met_X0_reasonAt (l : Launch) : sm_Met l yX0_reasonAt cX0_reasonAt 7 (some .int) 3 0 0 p_X0_reasonAt f_X0_reasonAt := sm_met 1 (Or.inr (Or.inl ⟨rfl, rfl⟩)) (by decide +kernel) (sn_X0_reasonAt l) ok_X0_reasonAt