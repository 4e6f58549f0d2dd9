/-! THE REFERENCE: the best order -/
/-- the digits are below the base -/
theorem mLo_dig {w : sm_W} {n num : Int} (hn : 0 ≤ n) (h0 : 0 ≤ num) (j : Int) (j0 : 0 ≤ j) (j1 : j ≤ n) : ∀ k, n - j ≤ k → k < n → 0 ≤ wI (mLo w n num j).1 171 k ∧ wI (mLo w n num j).1 171 k < n := by
  refine itI_ind (f := mLo1 n) (fun i s => ∀ k, n - i ≤ k → k < n → 0 ≤ wI s.1 171 k ∧ wI s.1 171 k < n) n (fun k h1 h2 => by omega) (fun i s i0 i1 hs k h1 h2 => ?_) j j0 j1
  unfold mLo1
  dsimp only
  rw [wI_wsI]
  by_cases c : k = n - 1 - i
  · rw [if_pos ⟨rfl, c⟩]
    exact ⟨Int.emod_nonneg _ (by omega), Int.emod_lt_of_pos _ (by omega)⟩
  · rw [if_neg (fun h => c h.2)]
    exact hs k (by omega) h2
def mBoT (n num : Int) (w : sm_W) : sm_W × Int := if (mLo w n num n).2.2 = 0 then ((mLo w n num n).1, -6) else (mRun (mDo (mLo w n num n).1), mDl (mRun (mDo (mLo w n num n).1)))
def mBoC (n : Int) (b : Int) (r : sm_W × Int) : sm_W × Int := if r.2 < 0 then (r.1, b) else (if b < 0 then (itI (mCpA 171 172) r.1 n, r.2) else (if r.2 < b then (itI (mCpA 171 172) r.1 n, r.2) else (r.1, b)))
def mBo1 (n num : Int) (r : sm_W × Int) : sm_W × Int := mBoC n r.2 (mBoT n num r.1)
def mBo0 (w : sm_W) : sm_W := wsI (mAs0 w) 155 0 0
def mBo (w : sm_W) : Int → sm_W × Int := itI (mBo1 (wI w 155 1)) (mBo0 w, -6)
theorem mLo_gd {u : sm_W} {n num : Int} (hG : mGd0 u) (h1 : wI u 155 1 = n) (h0 : 0 ≤ num) : mGd0 (mLo u n num n).1 ∧ wI (mLo u n num n).1 155 = wI u 155 ∧ (n ≤ 5 → mDoP (mLo u n num n).1) ∧ ((mLo u n num n).2.2 = 0 ∨ (mLo u n num n).2.2 = 1) := by
  have hm := vOK_many hG.1.2
  have h := mLo_inv (w := u) (n := n) (num := num) (by omega) h0 n (by omega) (Int.le_refl _)
  have hd := mLo_dig (w := u) (n := n) (num := num) (by omega) h0 n (by omega) (Int.le_refl _)
  have e := h.1 155 (by decide)
  refine ⟨mGd0_of hG (h.2.1 hG.1.1) (by rw [e]; exact hG.1.2) (fun b _ _ h3 _ => h.1 b h3), e, fun h5 => ⟨by rw [e]; omega, fun k k0 k1 => ?_⟩, h.2.2.2⟩
  rw [e, h1] at k1 ⊢
  exact hd k (by omega) k1
theorem mBoT_gd {u : sm_W} {n num : Int} (hG : mGd0 u) (h1 : wI u 155 1 = n) (h5 : n ≤ 5) (h0 : 0 ≤ num) : mGd0 (mBoT n num u).1 ∧ wI (mBoT n num u).1 155 1 = n := by
  have h := mLo_gd hG h1 h0
  unfold mBoT
  split
  · exact ⟨h.1, by rw [h.2.1, h1]⟩
  · have h2 := mDo_gd h.1 (h.2.2.1 h5)
    have h3 := mRun_st h2.1
    exact ⟨h3.1, by rw [h3.2, h2.2, h.2.1, h1]⟩
theorem mCp_gd {u : sm_W} {n : Int} (hG : mGd0 u) (n0 : 0 ≤ n) : mGd0 (itI (mCpA 171 172) u n) ∧ wI (itI (mCpA 171 172) u n) 155 = wI u 155 := by
  have h := mCpAL (src := 171) (dst := 172) u n n0
  have e := h.1 155 (by decide)
  exact ⟨mGd0_of hG (h.2 hG.1.1) (by rw [e]; exact hG.1.2) (fun b _ _ _ h4 => h.1 b h4), e⟩
theorem mBo1_gd {r : sm_W × Int} {n num : Int} (hG : mGd0 r.1) (h1 : wI r.1 155 1 = n) (h5 : n ≤ 5) (h0 : 0 ≤ num) : mGd0 (mBo1 n num r).1 ∧ wI (mBo1 n num r).1 155 1 = n := by
  have hm := vOK_many hG.1.2
  have h := mBoT_gd hG h1 h5 h0
  have hc := mCp_gd (n := n) h.1 (by omega)
  have hc1 : wI (itI (mCpA 171 172) (mBoT n num r.1).1 n) 155 1 = n := by rw [hc.2]; exact h.2
  unfold mBo1 mBoC
  split
  · exact h
  · split
    · exact ⟨hc.1, hc1⟩
    · split
      · exact ⟨hc.1, hc1⟩
      · exact h
theorem mBo0_gd {w : sm_W} (hG : mGd0 w) : mGd0 (mBo0 w) ∧ wI (mBo0 w) 155 1 = wI w 155 1 := by
  have a := mAs0_in w
  have h5 : wI (mAs0 w) 155 = wI w 155 := a.1 155 (by decide)
  refine ⟨mGd0_of hG (sT_wsI (a.2 hG.1.1)) (vOK_cell (by rw [h5]; exact hG.1.2) (by omega)) (fun b h1 h2 _ _ => ?_), ?_⟩
  · unfold mBo0
    rw [wIf_ne h1, a.1 b h2]
  · unfold mBo0
    rw [wI_wsI, if_neg (by omega), h5]
theorem mBo_inv {w : sm_W} (hG : mGd0 w) (h5 : wI w 155 1 ≤ 5) (k : Int) (k0 : 0 ≤ k) : mGd0 (mBo w k).1 ∧ wI (mBo w k).1 155 1 = wI w 155 1 := by
  unfold mBo
  refine itI_ind (f := mBo1 (wI w 155 1)) (fun _ r => mGd0 r.1 ∧ wI r.1 155 1 = wI w 155 1) k ?_ (fun i r i0 i1 hr => ?_) k k0 (Int.le_refl _)
  · exact mBo0_gd hG
  · exact mBo1_gd hr.1 hr.2 h5 i0
def mBoA (w : sm_W) (k : Int) (b : sm_W × Int) : Int := if b.2 < 0 then b.2 else (if k = 0 then b.2 else wI b.1 172 (k - 1))
def p_X8_bestOrder : List sm_V → sm_W → Prop
  | [.inr (.inl m), .inl k], w => m = 154 ∧ mGd0 w
  | _, _ => False
def f_X8_bestOrder : sm_F
  | [.inr (.inl m), .inl k], w => (some (.inl (if 0 ≤ k ∧ k ≤ wI w 155 1 then (if 5 < wI w 155 1 then -5 else mBoA w k (mBo w (mOrds (wI w 155 1) (wI w 155 1)))) else -2)), (if 0 ≤ k ∧ k ≤ wI w 155 1 then (if 5 < wI w 155 1 then w else mBack (mBo w (mOrds (wI w 155 1) (wI w 155 1))).1) else w))
  | _, w => (none, w)
def tb_X8_bestOrder : List (Nat × List sm_O) := [(0, [oI 1, oK 0, oA 0, oGr 8 30 0, oK 1, oIl, oCs p_X8_in f_X8_in 0 0 3, oNe0 17, oK (-2), oIr]),
  (17, [oA 0, oGr 8 30 0, oK 1, oIl, oK 5, oLe 30, oK (-5), oIr]),
  (30, [oA 0, oCv 8 30 p_X8_layAside f_X8_layAside 0 0 1, oA 0, oGr 8 30 0, oK 0, oK 0, oIst, oK (-6), oIs 2, oK 0, oIs 3, oFg 4, oFg 5, oGo 46]),
  (46, [oI 3, oA 0, oCv 8 30 p_X8_orders f_X8_orders 0 0 1, oGe 131, oA 0, oI 3, oCv 8 30 p_X8_layOrder f_X8_layOrder 0 0 2, oEq0 69, oA 0, oCv 8 30 p_X8_delayInOrder f_X8_delayInOrder 0 0 1, oGo 71]),
  (69, [oK (-6), oGo 71]),
  (71, [oIs 4, oI 4, oLt0 125, oI 2, oLt0 88, oI 4, oI 2, oGe 125, oGo 88]),
  (88, [oI 4, oIs 2, oK 0, oIs 5, oFg 4, oGo 94]),
  (94, [oI 5, oA 0, oGr 8 30 0, oK 1, oIl, oGe 125, oA 0, oGr 8 30 22, oI 5, oA 0, oGr 8 30 21, oI 5, oIl, oIst, oInc 5 1, oFg 4, oGo 94]),
  (125, [oInc 3 1, oFg 4, oFg 5, oGo 46]),
  (131, [oA 0, oCv 8 30 p_X8_layBack f_X8_layBack 0 0 1, oI 2, oLt0 143, oI 1, oNe0 147, oGo 143]),
  (143, [oI 2, oGo 155]),
  (147, [oA 0, oGr 8 30 22, oI 1, oK 1, oSub, oIl, oGo 155]),
  (155, [oIr])]
set_option maxRecDepth 100000 in
theorem sb_X8_bestOrder_0 (l : Launch) : sm_SndB l RX8 "bestOrder" cX8_bestOrder 6 1 9 0 [oI 1, oK 0, oA 0, oGr 8 30 0, oK 1, oIl, oCs p_X8_in f_X8_in 0 0 3, oNe0 17, oK (-2), oIr] := sb_cons (sd_iload_n (by decide +kernel : decode cX8_bestOrder 0 = .ok (.iload_n 1, 1)) rfl) (sb_cons (sd_iconst (by decide +kernel : decode cX8_bestOrder 1 = .ok (.iconst 0, 1)) ⟨by decide, by decide⟩) (sb_cons (sd_aload_n (by decide +kernel : decode cX8_bestOrder 2 = .ok (.aload_n 0, 1)) rfl) (sb_cons (sd_getr (k := 0) kl_8 (by decide) rfl wm_673 (by decide +kernel : decode cX8_bestOrder 3 = .ok (.getfield 7, 3))) (sb_cons (sd_iconst (by decide +kernel : decode cX8_bestOrder 6 = .ok (.iconst 1, 1)) ⟨by decide, by decide⟩) (sb_cons (sd_iaload (by decide +kernel : decode cX8_bestOrder 7 = .ok (.iaload, 1))) (sb_cons (sd_calls (n := 3) (met_X8_in l) (by decide) (by decide) wm_710 wm_708 wm_10 ⟨by decide +kernel, by decide +kernel, by decide +kernel⟩ wm_709 (by decide +kernel : decode cX8_bestOrder 8 = .ok (.invokestatic 74, 3))) (sb_cons (sd_ne0 (by decide +kernel : decode cX8_bestOrder 11 = .ok (.ifCond .ne 6, 3)) (by decide)) (sb_cons (sd_bipush (by decide +kernel : decode cX8_bestOrder 14 = .ok (.bipush (-2), 2)) ⟨by decide, by decide⟩ (by decide)) (sb_cons (sd_ireturn (x := 0) rfl (by decide +kernel : decode cX8_bestOrder 16 = .ok (.ireturn, 1))) sb_nil)))))))))
set_option maxRecDepth 100000 in
theorem sb_X8_bestOrder_17 (l : Launch) : sm_SndB l RX8 "bestOrder" cX8_bestOrder 6 1 9 17 [oA 0, oGr 8 30 0, oK 1, oIl, oK 5, oLe 30, oK (-5), oIr] := sb_cons (sd_aload_n (by decide +kernel : decode cX8_bestOrder 17 = .ok (.aload_n 0, 1)) rfl) (sb_cons (sd_getr (k := 0) kl_8 (by decide) rfl wm_673 (by decide +kernel : decode cX8_bestOrder 18 = .ok (.getfield 7, 3))) (sb_cons (sd_iconst (by decide +kernel : decode cX8_bestOrder 21 = .ok (.iconst 1, 1)) ⟨by decide, by decide⟩) (sb_cons (sd_iaload (by decide +kernel : decode cX8_bestOrder 22 = .ok (.iaload, 1))) (sb_cons (sd_iconst (by decide +kernel : decode cX8_bestOrder 23 = .ok (.iconst 5, 1)) ⟨by decide, by decide⟩) (sb_cons (sd_le (by decide +kernel : decode cX8_bestOrder 24 = .ok (.if_icmp .le 6, 3)) (by decide)) (sb_cons (sd_bipush (by decide +kernel : decode cX8_bestOrder 27 = .ok (.bipush (-5), 2)) ⟨by decide, by decide⟩ (by decide)) (sb_cons (sd_ireturn (x := 0) rfl (by decide +kernel : decode cX8_bestOrder 29 = .ok (.ireturn, 1))) sb_nil)))))))
set_option maxRecDepth 100000 in
theorem sb_X8_bestOrder_30 (l : Launch) : sm_SndB l RX8 "bestOrder" cX8_bestOrder 6 1 9 30 [oA 0, oCv 8 30 p_X8_layAside f_X8_layAside 0 0 1, oA 0, oGr 8 30 0, oK 0, oK 0, oIst, oK (-6), oIs 2, oK 0, oIs 3, oFg 4, oFg 5, oGo 46] := sb_cons (sd_aload_n (by decide +kernel : decode cX8_bestOrder 30 = .ok (.aload_n 0, 1)) rfl) (sb_cons (sd_callv (n := 0) (met_X8_layAside l) (by decide) (by decide) wm_972 wm_970 wm_10 ⟨by decide +kernel, by decide +kernel, by decide +kernel⟩ kl_8 wm_971 wm_1148 (by decide +kernel : decode cX8_bestOrder 31 = .ok (.invokevirtual 250, 3))) (sb_cons (sd_aload_n (by decide +kernel : decode cX8_bestOrder 34 = .ok (.aload_n 0, 1)) rfl) (sb_cons (sd_getr (k := 0) kl_8 (by decide) rfl wm_673 (by decide +kernel : decode cX8_bestOrder 35 = .ok (.getfield 7, 3))) (sb_cons (sd_iconst (by decide +kernel : decode cX8_bestOrder 38 = .ok (.iconst 0, 1)) ⟨by decide, by decide⟩) (sb_cons (sd_iconst (by decide +kernel : decode cX8_bestOrder 39 = .ok (.iconst 0, 1)) ⟨by decide, by decide⟩) (sb_cons (sd_iastore (by decide +kernel : decode cX8_bestOrder 40 = .ok (.iastore, 1))) (sb_cons (sd_bipush (by decide +kernel : decode cX8_bestOrder 41 = .ok (.bipush (-6), 2)) ⟨by decide, by decide⟩ (by decide)) (sb_cons (sd_istore_n (by decide +kernel : decode cX8_bestOrder 43 = .ok (.istore_n 2, 1)) rfl) (sb_cons (sd_iconst (by decide +kernel : decode cX8_bestOrder 44 = .ok (.iconst 0, 1)) ⟨by decide, by decide⟩) (sb_cons (sd_istore_n (by decide +kernel : decode cX8_bestOrder 45 = .ok (.istore_n 3, 1)) rfl) (sb_cons (sd_fg) (sb_cons (sd_fg) (sb_cons (sd_fall (x := 0)) sb_nil)))))))))))))
set_option maxRecDepth 100000 in
theorem sb_X8_bestOrder_46 (l : Launch) : sm_SndB l RX8 "bestOrder" cX8_bestOrder 6 1 9 46 [oI 3, oA 0, oCv 8 30 p_X8_orders f_X8_orders 0 0 1, oGe 131, oA 0, oI 3, oCv 8 30 p_X8_layOrder f_X8_layOrder 0 0 2, oEq0 69, oA 0, oCv 8 30 p_X8_delayInOrder f_X8_delayInOrder 0 0 1, oGo 71] := sb_cons (sd_iload_n (by decide +kernel : decode cX8_bestOrder 46 = .ok (.iload_n 3, 1)) rfl) (sb_cons (sd_aload_n (by decide +kernel : decode cX8_bestOrder 47 = .ok (.aload_n 0, 1)) rfl) (sb_cons (sd_callv (n := 0) (met_X8_orders l) (by decide) (by decide) wm_999 wm_997 wm_10 ⟨by decide +kernel, by decide +kernel, by decide +kernel⟩ kl_8 wm_998 wm_1151 (by decide +kernel : decode cX8_bestOrder 48 = .ok (.invokevirtual 259, 3))) (sb_cons (sd_ge (by decide +kernel : decode cX8_bestOrder 51 = .ok (.if_icmp .ge 80, 3)) (by decide)) (sb_cons (sd_aload_n (by decide +kernel : decode cX8_bestOrder 54 = .ok (.aload_n 0, 1)) rfl) (sb_cons (sd_iload_n (by decide +kernel : decode cX8_bestOrder 55 = .ok (.iload_n 3, 1)) rfl) (sb_cons (sd_callv (n := 1) (met_X8_layOrder l) (by decide) (by decide) wm_1003 wm_1001 wm_10 ⟨by decide +kernel, by decide +kernel, by decide +kernel⟩ kl_8 wm_1002 wm_1152 (by decide +kernel : decode cX8_bestOrder 56 = .ok (.invokevirtual 262, 3))) (sb_cons (sd_eq0 (by decide +kernel : decode cX8_bestOrder 59 = .ok (.ifCond .eq 10, 3)) (by decide)) (sb_cons (sd_aload_n (by decide +kernel : decode cX8_bestOrder 62 = .ok (.aload_n 0, 1)) rfl) (sb_cons (sd_callv (n := 0) (met_X8_delayInOrder l) (by decide) (by decide) wm_1007 wm_1005 wm_10 ⟨by decide +kernel, by decide +kernel, by decide +kernel⟩ kl_8 wm_1006 wm_1153 (by decide +kernel : decode cX8_bestOrder 63 = .ok (.invokevirtual 265, 3))) (sb_cons (sd_goto (x := 0) (by decide +kernel : decode cX8_bestOrder 66 = .ok (.goto 5, 3)) (by decide)) sb_nil))))))))))
set_option maxRecDepth 100000 in
theorem sb_X8_bestOrder_69 (l : Launch) : sm_SndB l RX8 "bestOrder" cX8_bestOrder 6 1 9 69 [oK (-6), oGo 71] := sb_cons (sd_bipush (by decide +kernel : decode cX8_bestOrder 69 = .ok (.bipush (-6), 2)) ⟨by decide, by decide⟩ (by decide)) (sb_cons (sd_fall (x := 0)) sb_nil)
set_option maxRecDepth 100000 in
theorem sb_X8_bestOrder_71 (l : Launch) : sm_SndB l RX8 "bestOrder" cX8_bestOrder 6 1 9 71 [oIs 4, oI 4, oLt0 125, oI 2, oLt0 88, oI 4, oI 2, oGe 125, oGo 88] := sb_cons (sd_istore (by decide +kernel : decode cX8_bestOrder 71 = .ok (.istore 4, 2))) (sb_cons (sd_iload (by decide +kernel : decode cX8_bestOrder 73 = .ok (.iload 4, 2))) (sb_cons (sd_lt0 (by decide +kernel : decode cX8_bestOrder 75 = .ok (.ifCond .lt 50, 3)) (by decide)) (sb_cons (sd_iload_n (by decide +kernel : decode cX8_bestOrder 78 = .ok (.iload_n 2, 1)) rfl) (sb_cons (sd_lt0 (by decide +kernel : decode cX8_bestOrder 79 = .ok (.ifCond .lt 9, 3)) (by decide)) (sb_cons (sd_iload (by decide +kernel : decode cX8_bestOrder 82 = .ok (.iload 4, 2))) (sb_cons (sd_iload_n (by decide +kernel : decode cX8_bestOrder 84 = .ok (.iload_n 2, 1)) rfl) (sb_cons (sd_ge (by decide +kernel : decode cX8_bestOrder 85 = .ok (.if_icmp .ge 40, 3)) (by decide)) (sb_cons (sd_fall (x := 0)) sb_nil))))))))
set_option maxRecDepth 100000 in
theorem sb_X8_bestOrder_88 (l : Launch) : sm_SndB l RX8 "bestOrder" cX8_bestOrder 6 1 9 88 [oI 4, oIs 2, oK 0, oIs 5, oFg 4, oGo 94] := sb_cons (sd_iload (by decide +kernel : decode cX8_bestOrder 88 = .ok (.iload 4, 2))) (sb_cons (sd_istore_n (by decide +kernel : decode cX8_bestOrder 90 = .ok (.istore_n 2, 1)) rfl) (sb_cons (sd_iconst (by decide +kernel : decode cX8_bestOrder 91 = .ok (.iconst 0, 1)) ⟨by decide, by decide⟩) (sb_cons (sd_istore (by decide +kernel : decode cX8_bestOrder 92 = .ok (.istore 5, 2))) (sb_cons (sd_fg) (sb_cons (sd_fall (x := 0)) sb_nil)))))
set_option maxRecDepth 100000 in
theorem sb_X8_bestOrder_94 (l : Launch) : sm_SndB l RX8 "bestOrder" cX8_bestOrder 6 1 9 94 [oI 5, oA 0, oGr 8 30 0, oK 1, oIl, oGe 125, oA 0, oGr 8 30 22, oI 5, oA 0, oGr 8 30 21, oI 5, oIl, oIst, oInc 5 1, oFg 4, oGo 94] := sb_cons (sd_iload (by decide +kernel : decode cX8_bestOrder 94 = .ok (.iload 5, 2))) (sb_cons (sd_aload_n (by decide +kernel : decode cX8_bestOrder 96 = .ok (.aload_n 0, 1)) rfl) (sb_cons (sd_getr (k := 0) kl_8 (by decide) rfl wm_673 (by decide +kernel : decode cX8_bestOrder 97 = .ok (.getfield 7, 3))) (sb_cons (sd_iconst (by decide +kernel : decode cX8_bestOrder 100 = .ok (.iconst 1, 1)) ⟨by decide, by decide⟩) (sb_cons (sd_iaload (by decide +kernel : decode cX8_bestOrder 101 = .ok (.iaload, 1))) (sb_cons (sd_ge (by decide +kernel : decode cX8_bestOrder 102 = .ok (.if_icmp .ge 23, 3)) (by decide)) (sb_cons (sd_aload_n (by decide +kernel : decode cX8_bestOrder 105 = .ok (.aload_n 0, 1)) rfl) (sb_cons (sd_getr (k := 22) kl_8 (by decide) rfl wm_695 (by decide +kernel : decode cX8_bestOrder 106 = .ok (.getfield 62, 3))) (sb_cons (sd_iload (by decide +kernel : decode cX8_bestOrder 109 = .ok (.iload 5, 2))) (sb_cons (sd_aload_n (by decide +kernel : decode cX8_bestOrder 111 = .ok (.aload_n 0, 1)) rfl) (sb_cons (sd_getr (k := 21) kl_8 (by decide) rfl wm_694 (by decide +kernel : decode cX8_bestOrder 112 = .ok (.getfield 59, 3))) (sb_cons (sd_iload (by decide +kernel : decode cX8_bestOrder 115 = .ok (.iload 5, 2))) (sb_cons (sd_iaload (by decide +kernel : decode cX8_bestOrder 117 = .ok (.iaload, 1))) (sb_cons (sd_iastore (by decide +kernel : decode cX8_bestOrder 118 = .ok (.iastore, 1))) (sb_cons (sd_iinc (by decide +kernel : decode cX8_bestOrder 119 = .ok (.iinc 5 1, 3))) (sb_cons (sd_fg) (sb_cons (sd_goto (x := 0) (by decide +kernel : decode cX8_bestOrder 122 = .ok (.goto (-28), 3)) (by decide)) sb_nil))))))))))))))))
set_option maxRecDepth 100000 in
theorem sb_X8_bestOrder_125 (l : Launch) : sm_SndB l RX8 "bestOrder" cX8_bestOrder 6 1 9 125 [oInc 3 1, oFg 4, oFg 5, oGo 46] := sb_cons (sd_iinc (by decide +kernel : decode cX8_bestOrder 125 = .ok (.iinc 3 1, 3))) (sb_cons (sd_fg) (sb_cons (sd_fg) (sb_cons (sd_goto (x := 0) (by decide +kernel : decode cX8_bestOrder 128 = .ok (.goto (-82), 3)) (by decide)) sb_nil)))
set_option maxRecDepth 100000 in
theorem sb_X8_bestOrder_131 (l : Launch) : sm_SndB l RX8 "bestOrder" cX8_bestOrder 6 1 9 131 [oA 0, oCv 8 30 p_X8_layBack f_X8_layBack 0 0 1, oI 2, oLt0 143, oI 1, oNe0 147, oGo 143] := sb_cons (sd_aload_n (by decide +kernel : decode cX8_bestOrder 131 = .ok (.aload_n 0, 1)) rfl) (sb_cons (sd_callv (n := 0) (met_X8_layBack l) (by decide) (by decide) wm_980 wm_978 wm_10 ⟨by decide +kernel, by decide +kernel, by decide +kernel⟩ kl_8 wm_979 wm_1150 (by decide +kernel : decode cX8_bestOrder 132 = .ok (.invokevirtual 256, 3))) (sb_cons (sd_iload_n (by decide +kernel : decode cX8_bestOrder 135 = .ok (.iload_n 2, 1)) rfl) (sb_cons (sd_lt0 (by decide +kernel : decode cX8_bestOrder 136 = .ok (.ifCond .lt 7, 3)) (by decide)) (sb_cons (sd_iload_n (by decide +kernel : decode cX8_bestOrder 139 = .ok (.iload_n 1, 1)) rfl) (sb_cons (sd_ne0 (by decide +kernel : decode cX8_bestOrder 140 = .ok (.ifCond .ne 7, 3)) (by decide)) (sb_cons (sd_fall (x := 0)) sb_nil))))))
set_option maxRecDepth 100000 in
theorem sb_X8_bestOrder_143 (l : Launch) : sm_SndB l RX8 "bestOrder" cX8_bestOrder 6 1 9 143 [oI 2, oGo 155] := sb_cons (sd_iload_n (by decide +kernel : decode cX8_bestOrder 143 = .ok (.iload_n 2, 1)) rfl) (sb_cons (sd_goto (x := 0) (by decide +kernel : decode cX8_bestOrder 144 = .ok (.goto 11, 3)) (by decide)) sb_nil)
set_option maxRecDepth 100000 in
theorem sb_X8_bestOrder_147 (l : Launch) : sm_SndB l RX8 "bestOrder" cX8_bestOrder 6 1 9 147 [oA 0, oGr 8 30 22, oI 1, oK 1, oSub, oIl, oGo 155] := sb_cons (sd_aload_n (by decide +kernel : decode cX8_bestOrder 147 = .ok (.aload_n 0, 1)) rfl) (sb_cons (sd_getr (k := 22) kl_8 (by decide) rfl wm_695 (by decide +kernel : decode cX8_bestOrder 148 = .ok (.getfield 62, 3))) (sb_cons (sd_iload_n (by decide +kernel : decode cX8_bestOrder 151 = .ok (.iload_n 1, 1)) rfl) (sb_cons (sd_iconst (by decide +kernel : decode cX8_bestOrder 152 = .ok (.iconst 1, 1)) ⟨by decide, by decide⟩) (sb_cons (sd_isub (by decide +kernel : decode cX8_bestOrder 153 = .ok (.isub, 1))) (sb_cons (sd_iaload (by decide +kernel : decode cX8_bestOrder 154 = .ok (.iaload, 1))) (sb_cons (sd_fall (x := 0)) sb_nil))))))
set_option maxRecDepth 100000 in
theorem sb_X8_bestOrder_155 (l : Launch) : sm_SndB l RX8 "bestOrder" cX8_bestOrder 6 1 9 155 [oIr] := sb_cons (sd_ireturn (x := 0) rfl (by decide +kernel : decode cX8_bestOrder 155 = .ok (.ireturn, 1))) sb_nil
theorem sn_X8_bestOrder (l : Launch) : sm_SndT l RX8 "bestOrder" cX8_bestOrder 6 1 9 tb_X8_bestOrder := st_cons (sb_X8_bestOrder_0 l) (st_cons (sb_X8_bestOrder_17 l) (st_cons (sb_X8_bestOrder_30 l) (st_cons (sb_X8_bestOrder_46 l) (st_cons (sb_X8_bestOrder_69 l) (st_cons (sb_X8_bestOrder_71 l) (st_cons (sb_X8_bestOrder_88 l) (st_cons (sb_X8_bestOrder_94 l) (st_cons (sb_X8_bestOrder_125 l) (st_cons (sb_X8_bestOrder_131 l) (st_cons (sb_X8_bestOrder_143 l) (st_cons (sb_X8_bestOrder_147 l) (st_cons (sb_X8_bestOrder_155 l) (st_nil)))))))))))))
set_option maxRecDepth 100000 in
set_option maxHeartbeats 4000000 in
theorem ok_X8_bestOrder : sm_Ok tb_X8_bestOrder 6 0 0 p_X8_bestOrder f_X8_bestOrder := by
  intro as w hp ha hw
  match as, hp with
  | [.inr (.inl m), .inl k], hp =>
  refine ⟨Nat.le_of_ble_eq_true rfl, fun Z hZ => ?_⟩
  obtain ⟨rfl, hG⟩ := hp
  have hT := hG.1.1
  have hm := vOK_many hG.1.2
  by_cases hk : 0 ≤ k ∧ k ≤ wI w 155 1
  · by_cases h5 : 5 < wI w 155 1
    · skip
      refine hZ (fun u => Nat.beq u 46 || Nat.beq u 94) 14 0 _ _ _ _ _ ?_
      simp only [sm_run, sm_blk, sm_get, sm_ent, sm_ents, sm_wds, sm_wd, sm_nl, sm_pop, sm_back, sm_cases, oK, oLK, oL, oI, oA, oJ, oIs, oAs, oJs, oInc, oAdd, oSub, oMul, oDiv, oRem, oNeg, oAnd, oAndB, oOr, oShl, oI2c, oI2l, oL2i, oLand, oLor, oLshl, oLshr, oLushr, oLcmp, oDup, oDup2, oPop, oGo, oFg, oEq, oNe, oLt, oGe, oGt, oLe, oEq0, oNe0, oLt0, oGe0, oGt0, oLe0, oSw, oGi, oGr, oPi, oPz, oPr, oLen, oIl, oZl, oCl, oRl, oIst, oZst, oCst, oRst, oCopy, oNew, oNa, oNa2, oObj, oCs, oCv, oCi, oIr, oZr, oVr, Nat.beq, List.getElem?_cons_zero, List.getElem?_cons_succ, List.set_cons_zero, List.set_cons_succ, List.length_cons, List.length_nil, List.nil_append, List.cons_append, List.append_nil, List.replicate_succ, List.replicate_zero, Nat.reduceAdd, Nat.reduceSub, Nat.reduceLT, Nat.reduceLeDiff, Nat.reduceBEq, true_and, and_true, Nat.zero_add, Nat.add_zero, Nat.le_refl, Option.some.injEq, exists_eq_left', true_or, or_true, or_false, false_or, reduceCtorEq, Prod.mk.injEq, Sum.inl.injEq, and_self, false_and, and_false, not_true_eq_false, not_false_eq_true, false_implies, true_implies, sm_r, Int.add_zero, Int.zero_add, wI_wsI, wS_wsI, wR_wsI, wI_wCp, wS_wCp, wR_wCp, Nat.reduceEqDiff, reduceIte, sT_iff, sT_iffC, wIf_ne, ne_eq, Bool.false_or, Bool.true_or, Bool.or_false, Bool.or_true, Bool.or_self, tb_X8_bestOrder, p_X8_delayInOrder, p_X8_in, p_X8_layAside, p_X8_layBack, p_X8_layOrder, p_X8_orders, f_X8_delayInOrder, f_X8_in, f_X8_layAside, f_X8_layBack, f_X8_layOrder, f_X8_orders, p_X8_bestOrder, f_X8_bestOrder, sS_154 hT, sR_154_0 hT, sS_155 hT, b01, if_pos hk, if_pos h5]
      repeat' (first | exact True.intro | with_reducible assumption | with_reducible refine And.intro ?_ ?_ | intro _)
      all_goals first
        | omega
        | assumption
        | rfl
        | (split <;> omega)
        | (have k9 := ih (by omega)
           (repeat' split at k9) <;> first | exact k9 | omega)
        | (have k9 := ih2 (by omega)
           (repeat' split at k9) <;> first | exact k9 | omega)
        | exact he (by omega)
        | ((with_reducible congr 1) <;> omega)
        | (rw [if_pos (by omega)] at he; exact he)
        | exact hD1 (by omega)
        | exact hD2 (by omega)
        | grind
        | skip
    · have hmo := (mOrds_b hm.1 (by omega) hm.1 (Int.le_refl _)).1
      have hGo := (mOrds_b hm.1 (by omega) hm.1 (Int.le_refl _)).2.1
      have hl := sm_loopI Z 46 0 (mOrds (wI w 155 1) (wI w 155 1)) (fun i => [some (.inr (.inl 154)), some (.inl k), some (.inl (mBo w i).2), some (.inl i), none, none]) (fun i => (mBo w i).1) 0 0 hmo (fun i g0 g1 ih => by
        have hI := mBo_inv hG (by omega) i g0
        have hu : mBo w (i + 1) = mBo1 (wI w 155 1) i (mBo w i) := itI_s _ _ g0
        have he : i = mOrds (wI w 155 1) (wI w 155 1) → mBo w i = mBo w (mOrds (wI w 155 1) (wI w 155 1)) := fun e => by rw [e]
        rw [hu] at ih
        generalize hE : mBo w (mOrds (wI w 155 1) (wI w 155 1)) = E at *
        generalize mBo w i = r at *
        generalize hn : wI w 155 1 = n at *
        obtain ⟨u, b⟩ := r
        dsimp only at *
        obtain ⟨hU, h1⟩ := hI
        have hTu := hU.1.1
        have hOu := hU.1
        by_cases e : i = mOrds n n
        · subst e
          have he := he rfl
          subst he
          clear ih
          have hb := mBack_in u
          have hbT := hb.2 hTu
          have hb2 : wI (mBack u) 172 = wI u 172 := hb.1 172 (by decide)
          have eb : itI (mCpA 159 155) u 57 = mBack u := rfl
          have hza : (if b < 0 then b else (if k = 0 then b else wI u 172 (k - 1))) = mBoA w k (u, b) := rfl
          generalize hzz : mBoA w k (u, b) = za at *
          refine hZ (fun u => Nat.beq u 46 || Nat.beq u 94) 14 46 _ _ _ _ _ ?_
          simp only [sm_run, sm_blk, sm_get, sm_ent, sm_ents, sm_wds, sm_wd, sm_nl, sm_pop, sm_back, sm_cases, oK, oLK, oL, oI, oA, oJ, oIs, oAs, oJs, oInc, oAdd, oSub, oMul, oDiv, oRem, oNeg, oAnd, oAndB, oOr, oShl, oI2c, oI2l, oL2i, oLand, oLor, oLshl, oLshr, oLushr, oLcmp, oDup, oDup2, oPop, oGo, oFg, oEq, oNe, oLt, oGe, oGt, oLe, oEq0, oNe0, oLt0, oGe0, oGt0, oLe0, oSw, oGi, oGr, oPi, oPz, oPr, oLen, oIl, oZl, oCl, oRl, oIst, oZst, oCst, oRst, oCopy, oNew, oNa, oNa2, oObj, oCs, oCv, oCi, oIr, oZr, oVr, Nat.beq, List.getElem?_cons_zero, List.getElem?_cons_succ, List.set_cons_zero, List.set_cons_succ, List.length_cons, List.length_nil, List.nil_append, List.cons_append, List.append_nil, List.replicate_succ, List.replicate_zero, Nat.reduceAdd, Nat.reduceSub, Nat.reduceLT, Nat.reduceLeDiff, Nat.reduceBEq, true_and, and_true, Nat.zero_add, Nat.add_zero, Nat.le_refl, Option.some.injEq, exists_eq_left', true_or, or_true, or_false, false_or, reduceCtorEq, Prod.mk.injEq, Sum.inl.injEq, and_self, false_and, and_false, not_true_eq_false, not_false_eq_true, false_implies, true_implies, sm_r, Int.add_zero, Int.zero_add, wI_wsI, wS_wsI, wR_wsI, wI_wCp, wS_wCp, wR_wCp, Nat.reduceEqDiff, reduceIte, sT_iff, sT_iffC, wIf_ne, ne_eq, Bool.false_or, Bool.true_or, Bool.or_false, Bool.or_true, Bool.or_self, tb_X8_bestOrder, p_X8_delayInOrder, p_X8_in, p_X8_layAside, p_X8_layBack, p_X8_layOrder, p_X8_orders, f_X8_delayInOrder, f_X8_in, f_X8_layAside, f_X8_layBack, f_X8_layOrder, f_X8_orders, p_X8_bestOrder, f_X8_bestOrder, hn, hE, if_pos hk, if_neg h5, hTu, hOu, sS_154 hTu, sS_154 hbT, sR_154_22 hbT, sS_172 hbT, h1, eb, hb2, hzz]
          repeat' (first | exact True.intro | with_reducible assumption | with_reducible refine And.intro ?_ ?_ | intro _)
          all_goals first
            | omega
            | assumption
            | rfl
            | (split <;> omega)
            | (have k9 := ih (by omega)
               (repeat' split at k9) <;> first | exact k9 | omega)
            | (have k9 := ih2 (by omega)
               (repeat' split at k9) <;> first | exact k9 | omega)
            | exact he (by omega)
            | ((with_reducible congr 1) <;> omega)
            | (rw [if_pos (by omega)] at he; exact he)
            | exact hD1 (by omega)
            | exact hD2 (by omega)
            | grind
            | skip
        · have hlt : i < mOrds n n := by omega
          have ih := ih hlt
          clear he
          have hL := mLo_gd hU h1 g0
          have hC := mBoT_gd hU h1 (by omega) g0
          have h125 : ∀ (l4 l5 : Option sm_V) (v : sm_W × Int), mBo1 n i (u, b) = v → Z 125 [some (.inr (.inl 154)), some (.inl k), some (.inl v.2), some (.inl i), l4, l5] [] v.1 0 0 := fun l4 l5 v hv => by
            rw [hv] at ih
            refine hZ (fun u => Nat.beq u 46 || Nat.beq u 94) 14 125 _ _ _ _ _ ?_
            simp only [sm_run, sm_blk, sm_get, sm_ent, sm_ents, sm_wds, sm_wd, sm_nl, sm_pop, sm_back, sm_cases, oK, oLK, oL, oI, oA, oJ, oIs, oAs, oJs, oInc, oAdd, oSub, oMul, oDiv, oRem, oNeg, oAnd, oAndB, oOr, oShl, oI2c, oI2l, oL2i, oLand, oLor, oLshl, oLshr, oLushr, oLcmp, oDup, oDup2, oPop, oGo, oFg, oEq, oNe, oLt, oGe, oGt, oLe, oEq0, oNe0, oLt0, oGe0, oGt0, oLe0, oSw, oGi, oGr, oPi, oPz, oPr, oLen, oIl, oZl, oCl, oRl, oIst, oZst, oCst, oRst, oCopy, oNew, oNa, oNa2, oObj, oCs, oCv, oCi, oIr, oZr, oVr, Nat.beq, List.getElem?_cons_zero, List.getElem?_cons_succ, List.set_cons_zero, List.set_cons_succ, List.length_cons, List.length_nil, List.nil_append, List.cons_append, List.append_nil, List.replicate_succ, List.replicate_zero, Nat.reduceAdd, Nat.reduceSub, Nat.reduceLT, Nat.reduceLeDiff, Nat.reduceBEq, true_and, and_true, Nat.zero_add, Nat.add_zero, Nat.le_refl, Option.some.injEq, exists_eq_left', true_or, or_true, or_false, false_or, reduceCtorEq, Prod.mk.injEq, Sum.inl.injEq, and_self, false_and, and_false, not_true_eq_false, not_false_eq_true, false_implies, true_implies, sm_r, Int.add_zero, Int.zero_add, wI_wsI, wS_wsI, wR_wsI, wI_wCp, wS_wCp, wR_wCp, Nat.reduceEqDiff, reduceIte, sT_iff, sT_iffC, wIf_ne, ne_eq, Bool.false_or, Bool.true_or, Bool.or_false, Bool.or_true, Bool.or_self, tb_X8_bestOrder, p_X8_delayInOrder, p_X8_in, p_X8_layAside, p_X8_layBack, p_X8_layOrder, p_X8_orders, f_X8_delayInOrder, f_X8_in, f_X8_layAside, f_X8_layBack, f_X8_layOrder, f_X8_orders, p_X8_bestOrder, f_X8_bestOrder]
            repeat' (first | exact True.intro | with_reducible assumption | with_reducible refine And.intro ?_ ?_ | intro _)
            all_goals first
              | omega
              | assumption
              | rfl
              | (split <;> omega)
              | (have k9 := ih (by omega)
                 (repeat' split at k9) <;> first | exact k9 | omega)
              | (have k9 := ih2 (by omega)
                 (repeat' split at k9) <;> first | exact k9 | omega)
              | exact he (by omega)
              | ((with_reducible congr 1) <;> omega)
              | (rw [if_pos (by omega)] at he; exact he)
              | exact hD1 (by omega)
              | exact hD2 (by omega)
              | skip
          clear ih
          have e1 : mBo1 n i (u, b) = mBoC n b (mBoT n i u) := rfl
          rw [e1] at h125
          have hT71 : ∀ v : sm_W × Int, mBoT n i u = v → Z 71 [some (.inr (.inl 154)), some (.inl k), some (.inl b), some (.inl i), none, none] [.inl v.2] v.1 0 0 := fun v hv => by
            rw [hv] at h125 hC
            obtain ⟨x, D⟩ := v
            dsimp only at *
            have hTx := hC.1.1.1
            have hx1 := hC.2
            have hcp : D < 0 ∨ (0 ≤ D ∧ (b < 0 ∨ D < b)) ∨ (0 ≤ D ∧ 0 ≤ b ∧ b ≤ D) := by omega
            have l2 := fun h125 : ∀ l5 : Option sm_V, Z 125 [some (.inr (.inl 154)), some (.inl k), some (.inl D), some (.inl i), none, l5] [] (itI (mCpA 171 172) x n) 0 0 => sm_loopI Z 94 0 n (fun j => [some (.inr (.inl 154)), some (.inl k), some (.inl D), some (.inl i), none, some (.inl j)]) (fun j => itI (mCpA 171 172) x j) 0 0 (by omega) (fun j f0 f1 ih => by
              have hj := mCp_gd hC.1 f0
              rw [itI_s _ _ f0] at ih
              have hj1 : wI (itI (mCpA 171 172) x j) 155 1 = n := by rw [hj.2]; exact hx1
              have ih2 : j = n → Z 125 [some (.inr (.inl 154)), some (.inl k), some (.inl D), some (.inl i), none, some (.inl j)] [] (itI (mCpA 171 172) x j) 0 0 := fun e => by
                rw [e]
                exact h125 _
              generalize itI (mCpA 171 172) x j = y at *
              have hTy := hj.1.1.1
              unfold mCpA at ih
              refine hZ (fun u => Nat.beq u 46 || Nat.beq u 94 || Nat.beq u 125) 14 94 _ _ _ _ _ ?_
              simp only [sm_run, sm_blk, sm_get, sm_ent, sm_ents, sm_wds, sm_wd, sm_nl, sm_pop, sm_back, sm_cases, oK, oLK, oL, oI, oA, oJ, oIs, oAs, oJs, oInc, oAdd, oSub, oMul, oDiv, oRem, oNeg, oAnd, oAndB, oOr, oShl, oI2c, oI2l, oL2i, oLand, oLor, oLshl, oLshr, oLushr, oLcmp, oDup, oDup2, oPop, oGo, oFg, oEq, oNe, oLt, oGe, oGt, oLe, oEq0, oNe0, oLt0, oGe0, oGt0, oLe0, oSw, oGi, oGr, oPi, oPz, oPr, oLen, oIl, oZl, oCl, oRl, oIst, oZst, oCst, oRst, oCopy, oNew, oNa, oNa2, oObj, oCs, oCv, oCi, oIr, oZr, oVr, Nat.beq, List.getElem?_cons_zero, List.getElem?_cons_succ, List.set_cons_zero, List.set_cons_succ, List.length_cons, List.length_nil, List.nil_append, List.cons_append, List.append_nil, List.replicate_succ, List.replicate_zero, Nat.reduceAdd, Nat.reduceSub, Nat.reduceLT, Nat.reduceLeDiff, Nat.reduceBEq, true_and, and_true, Nat.zero_add, Nat.add_zero, Nat.le_refl, Option.some.injEq, exists_eq_left', true_or, or_true, or_false, false_or, reduceCtorEq, Prod.mk.injEq, Sum.inl.injEq, and_self, false_and, and_false, not_true_eq_false, not_false_eq_true, false_implies, true_implies, sm_r, Int.add_zero, Int.zero_add, wI_wsI, wS_wsI, wR_wsI, wI_wCp, wS_wCp, wR_wCp, Nat.reduceEqDiff, reduceIte, sT_iff, sT_iffC, wIf_ne, ne_eq, Bool.false_or, Bool.true_or, Bool.or_false, Bool.or_true, Bool.or_self, tb_X8_bestOrder, p_X8_delayInOrder, p_X8_in, p_X8_layAside, p_X8_layBack, p_X8_layOrder, p_X8_orders, f_X8_delayInOrder, f_X8_in, f_X8_layAside, f_X8_layBack, f_X8_layOrder, f_X8_orders, p_X8_bestOrder, f_X8_bestOrder, sS_154 hTy, sR_154_0 hTy, sS_155 hTy, hj1, sR_154_21 hTy, sS_171 hTy, sR_154_22 hTy, sS_172 hTy]
              repeat' (first | exact True.intro | with_reducible assumption | with_reducible refine And.intro ?_ ?_ | intro _)
              all_goals first
                | omega
                | assumption
                | rfl
                | (split <;> omega)
                | (have k9 := ih (by omega)
                   (repeat' split at k9) <;> first | exact k9 | omega)
                | (have k9 := ih2 (by omega)
                   (repeat' split at k9) <;> first | exact k9 | omega)
                | exact he (by omega)
                | ((with_reducible congr 1) <;> omega)
                | (rw [if_pos (by omega)] at he; exact he)
                | exact hD1 (by omega)
                | exact hD2 (by omega)
                | grind
                | skip
              )
            rcases hcp with c | ⟨c0, c⟩ | ⟨c0, c1, c2⟩
            · have e2 : mBoC n b (x, D) = (x, b) := if_pos c
              have h125 := h125 (some (.inl D)) none _ e2
              dsimp only at h125
              clear l2
              refine hZ (fun u => Nat.beq u 46 || Nat.beq u 94 || Nat.beq u 125) 14 71 _ _ _ _ _ ?_
              simp only [sm_run, sm_blk, sm_get, sm_ent, sm_ents, sm_wds, sm_wd, sm_nl, sm_pop, sm_back, sm_cases, oK, oLK, oL, oI, oA, oJ, oIs, oAs, oJs, oInc, oAdd, oSub, oMul, oDiv, oRem, oNeg, oAnd, oAndB, oOr, oShl, oI2c, oI2l, oL2i, oLand, oLor, oLshl, oLshr, oLushr, oLcmp, oDup, oDup2, oPop, oGo, oFg, oEq, oNe, oLt, oGe, oGt, oLe, oEq0, oNe0, oLt0, oGe0, oGt0, oLe0, oSw, oGi, oGr, oPi, oPz, oPr, oLen, oIl, oZl, oCl, oRl, oIst, oZst, oCst, oRst, oCopy, oNew, oNa, oNa2, oObj, oCs, oCv, oCi, oIr, oZr, oVr, Nat.beq, List.getElem?_cons_zero, List.getElem?_cons_succ, List.set_cons_zero, List.set_cons_succ, List.length_cons, List.length_nil, List.nil_append, List.cons_append, List.append_nil, List.replicate_succ, List.replicate_zero, Nat.reduceAdd, Nat.reduceSub, Nat.reduceLT, Nat.reduceLeDiff, Nat.reduceBEq, true_and, and_true, Nat.zero_add, Nat.add_zero, Nat.le_refl, Option.some.injEq, exists_eq_left', true_or, or_true, or_false, false_or, reduceCtorEq, Prod.mk.injEq, Sum.inl.injEq, and_self, false_and, and_false, not_true_eq_false, not_false_eq_true, false_implies, true_implies, sm_r, Int.add_zero, Int.zero_add, wI_wsI, wS_wsI, wR_wsI, wI_wCp, wS_wCp, wR_wCp, Nat.reduceEqDiff, reduceIte, sT_iff, sT_iffC, wIf_ne, ne_eq, Bool.false_or, Bool.true_or, Bool.or_false, Bool.or_true, Bool.or_self, tb_X8_bestOrder, p_X8_delayInOrder, p_X8_in, p_X8_layAside, p_X8_layBack, p_X8_layOrder, p_X8_orders, f_X8_delayInOrder, f_X8_in, f_X8_layAside, f_X8_layBack, f_X8_layOrder, f_X8_orders, p_X8_bestOrder, f_X8_bestOrder]
              repeat' (first | exact True.intro | with_reducible assumption | with_reducible refine And.intro ?_ ?_ | intro _)
              all_goals first
                | omega
                | assumption
                | rfl
                | (split <;> omega)
                | (have k9 := ih (by omega)
                   (repeat' split at k9) <;> first | exact k9 | omega)
                | (have k9 := ih2 (by omega)
                   (repeat' split at k9) <;> first | exact k9 | omega)
                | exact he (by omega)
                | ((with_reducible congr 1) <;> omega)
                | (rw [if_pos (by omega)] at he; exact he)
                | exact hD1 (by omega)
                | exact hD2 (by omega)
                | skip
            · have e2 : mBoC n b (x, D) = (itI (mCpA 171 172) x n, D) := by
                unfold mBoC
                rw [if_neg (by omega)]
                split
                · rfl
                · rw [if_pos (by omega)]
              have l2 := l2 (fun l5 => h125 none l5 _ e2)
              rw [itI_0] at l2
              clear h125
              refine hZ (fun u => Nat.beq u 46 || Nat.beq u 94 || Nat.beq u 125) 14 71 _ _ _ _ _ ?_
              simp only [sm_run, sm_blk, sm_get, sm_ent, sm_ents, sm_wds, sm_wd, sm_nl, sm_pop, sm_back, sm_cases, oK, oLK, oL, oI, oA, oJ, oIs, oAs, oJs, oInc, oAdd, oSub, oMul, oDiv, oRem, oNeg, oAnd, oAndB, oOr, oShl, oI2c, oI2l, oL2i, oLand, oLor, oLshl, oLshr, oLushr, oLcmp, oDup, oDup2, oPop, oGo, oFg, oEq, oNe, oLt, oGe, oGt, oLe, oEq0, oNe0, oLt0, oGe0, oGt0, oLe0, oSw, oGi, oGr, oPi, oPz, oPr, oLen, oIl, oZl, oCl, oRl, oIst, oZst, oCst, oRst, oCopy, oNew, oNa, oNa2, oObj, oCs, oCv, oCi, oIr, oZr, oVr, Nat.beq, List.getElem?_cons_zero, List.getElem?_cons_succ, List.set_cons_zero, List.set_cons_succ, List.length_cons, List.length_nil, List.nil_append, List.cons_append, List.append_nil, List.replicate_succ, List.replicate_zero, Nat.reduceAdd, Nat.reduceSub, Nat.reduceLT, Nat.reduceLeDiff, Nat.reduceBEq, true_and, and_true, Nat.zero_add, Nat.add_zero, Nat.le_refl, Option.some.injEq, exists_eq_left', true_or, or_true, or_false, false_or, reduceCtorEq, Prod.mk.injEq, Sum.inl.injEq, and_self, false_and, and_false, not_true_eq_false, not_false_eq_true, false_implies, true_implies, sm_r, Int.add_zero, Int.zero_add, wI_wsI, wS_wsI, wR_wsI, wI_wCp, wS_wCp, wR_wCp, Nat.reduceEqDiff, reduceIte, sT_iff, sT_iffC, wIf_ne, ne_eq, Bool.false_or, Bool.true_or, Bool.or_false, Bool.or_true, Bool.or_self, tb_X8_bestOrder, p_X8_delayInOrder, p_X8_in, p_X8_layAside, p_X8_layBack, p_X8_layOrder, p_X8_orders, f_X8_delayInOrder, f_X8_in, f_X8_layAside, f_X8_layBack, f_X8_layOrder, f_X8_orders, p_X8_bestOrder, f_X8_bestOrder]
              repeat' (first | exact True.intro | with_reducible assumption | with_reducible refine And.intro ?_ ?_ | intro _)
              all_goals first
                | omega
                | assumption
                | rfl
                | (split <;> omega)
                | (have k9 := ih (by omega)
                   (repeat' split at k9) <;> first | exact k9 | omega)
                | (have k9 := ih2 (by omega)
                   (repeat' split at k9) <;> first | exact k9 | omega)
                | exact he (by omega)
                | ((with_reducible congr 1) <;> omega)
                | (rw [if_pos (by omega)] at he; exact he)
                | exact hD1 (by omega)
                | exact hD2 (by omega)
                | skip
            · have e2 : mBoC n b (x, D) = (x, b) := by
                unfold mBoC
                rw [if_neg (by omega), if_neg (by omega), if_neg (by omega)]
              have h125 := h125 (some (.inl D)) none _ e2
              dsimp only at h125
              clear l2
              refine hZ (fun u => Nat.beq u 46 || Nat.beq u 94 || Nat.beq u 125) 14 71 _ _ _ _ _ ?_
              simp only [sm_run, sm_blk, sm_get, sm_ent, sm_ents, sm_wds, sm_wd, sm_nl, sm_pop, sm_back, sm_cases, oK, oLK, oL, oI, oA, oJ, oIs, oAs, oJs, oInc, oAdd, oSub, oMul, oDiv, oRem, oNeg, oAnd, oAndB, oOr, oShl, oI2c, oI2l, oL2i, oLand, oLor, oLshl, oLshr, oLushr, oLcmp, oDup, oDup2, oPop, oGo, oFg, oEq, oNe, oLt, oGe, oGt, oLe, oEq0, oNe0, oLt0, oGe0, oGt0, oLe0, oSw, oGi, oGr, oPi, oPz, oPr, oLen, oIl, oZl, oCl, oRl, oIst, oZst, oCst, oRst, oCopy, oNew, oNa, oNa2, oObj, oCs, oCv, oCi, oIr, oZr, oVr, Nat.beq, List.getElem?_cons_zero, List.getElem?_cons_succ, List.set_cons_zero, List.set_cons_succ, List.length_cons, List.length_nil, List.nil_append, List.cons_append, List.append_nil, List.replicate_succ, List.replicate_zero, Nat.reduceAdd, Nat.reduceSub, Nat.reduceLT, Nat.reduceLeDiff, Nat.reduceBEq, true_and, and_true, Nat.zero_add, Nat.add_zero, Nat.le_refl, Option.some.injEq, exists_eq_left', true_or, or_true, or_false, false_or, reduceCtorEq, Prod.mk.injEq, Sum.inl.injEq, and_self, false_and, and_false, not_true_eq_false, not_false_eq_true, false_implies, true_implies, sm_r, Int.add_zero, Int.zero_add, wI_wsI, wS_wsI, wR_wsI, wI_wCp, wS_wCp, wR_wCp, Nat.reduceEqDiff, reduceIte, sT_iff, sT_iffC, wIf_ne, ne_eq, Bool.false_or, Bool.true_or, Bool.or_false, Bool.or_true, Bool.or_self, tb_X8_bestOrder, p_X8_delayInOrder, p_X8_in, p_X8_layAside, p_X8_layBack, p_X8_layOrder, p_X8_orders, f_X8_delayInOrder, f_X8_in, f_X8_layAside, f_X8_layBack, f_X8_layOrder, f_X8_orders, p_X8_bestOrder, f_X8_bestOrder]
              repeat' (first | exact True.intro | with_reducible assumption | with_reducible refine And.intro ?_ ?_ | intro _)
              all_goals first
                | omega
                | assumption
                | rfl
                | (split <;> omega)
                | (have k9 := ih (by omega)
                   (repeat' split at k9) <;> first | exact k9 | omega)
                | (have k9 := ih2 (by omega)
                   (repeat' split at k9) <;> first | exact k9 | omega)
                | exact he (by omega)
                | ((with_reducible congr 1) <;> omega)
                | (rw [if_pos (by omega)] at he; exact he)
                | exact hD1 (by omega)
                | exact hD2 (by omega)
                | skip
          clear h125
          have hP := hL.2.2.1 (by omega)
          have hdf := hL.2.2.2
          have hTl := hL.1.1.1
          have hGl := hL.1
          by_cases c : (mLo u n i n).2.2 = 0
          · have h71 := hT71 ((mLo u n i n).1, -6) (if_pos c)
            clear hT71
            refine hZ (fun u => Nat.beq u 71) 14 46 _ _ _ _ _ ?_
            simp only [sm_run, sm_blk, sm_get, sm_ent, sm_ents, sm_wds, sm_wd, sm_nl, sm_pop, sm_back, sm_cases, oK, oLK, oL, oI, oA, oJ, oIs, oAs, oJs, oInc, oAdd, oSub, oMul, oDiv, oRem, oNeg, oAnd, oAndB, oOr, oShl, oI2c, oI2l, oL2i, oLand, oLor, oLshl, oLshr, oLushr, oLcmp, oDup, oDup2, oPop, oGo, oFg, oEq, oNe, oLt, oGe, oGt, oLe, oEq0, oNe0, oLt0, oGe0, oGt0, oLe0, oSw, oGi, oGr, oPi, oPz, oPr, oLen, oIl, oZl, oCl, oRl, oIst, oZst, oCst, oRst, oCopy, oNew, oNa, oNa2, oObj, oCs, oCv, oCi, oIr, oZr, oVr, Nat.beq, List.getElem?_cons_zero, List.getElem?_cons_succ, List.set_cons_zero, List.set_cons_succ, List.length_cons, List.length_nil, List.nil_append, List.cons_append, List.append_nil, List.replicate_succ, List.replicate_zero, Nat.reduceAdd, Nat.reduceSub, Nat.reduceLT, Nat.reduceLeDiff, Nat.reduceBEq, true_and, and_true, Nat.zero_add, Nat.add_zero, Nat.le_refl, Option.some.injEq, exists_eq_left', true_or, or_true, or_false, false_or, reduceCtorEq, Prod.mk.injEq, Sum.inl.injEq, and_self, false_and, and_false, not_true_eq_false, not_false_eq_true, false_implies, true_implies, sm_r, Int.add_zero, Int.zero_add, wI_wsI, wS_wsI, wR_wsI, wI_wCp, wS_wCp, wR_wCp, Nat.reduceEqDiff, reduceIte, sT_iff, sT_iffC, wIf_ne, ne_eq, Bool.false_or, Bool.true_or, Bool.or_false, Bool.or_true, Bool.or_self, tb_X8_bestOrder, p_X8_delayInOrder, p_X8_in, p_X8_layAside, p_X8_layBack, p_X8_layOrder, p_X8_orders, f_X8_delayInOrder, f_X8_in, f_X8_layAside, f_X8_layBack, f_X8_layOrder, f_X8_orders, p_X8_bestOrder, f_X8_bestOrder, hTu, hOu, sS_154 hTu, h1, c]
            repeat' (first | exact True.intro | with_reducible assumption | with_reducible refine And.intro ?_ ?_ | intro _)
            all_goals first
              | omega
              | assumption
              | rfl
              | (split <;> omega)
              | (have k9 := ih (by omega)
                 (repeat' split at k9) <;> first | exact k9 | omega)
              | (have k9 := ih2 (by omega)
                 (repeat' split at k9) <;> first | exact k9 | omega)
              | exact he (by omega)
              | ((with_reducible congr 1) <;> omega)
              | (rw [if_pos (by omega)] at he; exact he)
              | exact hD1 (by omega)
              | exact hD2 (by omega)
              | skip
          · have h71 := hT71 (mRun (mDo (mLo u n i n).1), mDl (mRun (mDo (mLo u n i n).1))) (if_neg c)
            have c1 : (mLo u n i n).2.2 = 1 := by omega
            clear hT71
            refine hZ (fun u => Nat.beq u 71) 14 46 _ _ _ _ _ ?_
            simp only [sm_run, sm_blk, sm_get, sm_ent, sm_ents, sm_wds, sm_wd, sm_nl, sm_pop, sm_back, sm_cases, oK, oLK, oL, oI, oA, oJ, oIs, oAs, oJs, oInc, oAdd, oSub, oMul, oDiv, oRem, oNeg, oAnd, oAndB, oOr, oShl, oI2c, oI2l, oL2i, oLand, oLor, oLshl, oLshr, oLushr, oLcmp, oDup, oDup2, oPop, oGo, oFg, oEq, oNe, oLt, oGe, oGt, oLe, oEq0, oNe0, oLt0, oGe0, oGt0, oLe0, oSw, oGi, oGr, oPi, oPz, oPr, oLen, oIl, oZl, oCl, oRl, oIst, oZst, oCst, oRst, oCopy, oNew, oNa, oNa2, oObj, oCs, oCv, oCi, oIr, oZr, oVr, Nat.beq, List.getElem?_cons_zero, List.getElem?_cons_succ, List.set_cons_zero, List.set_cons_succ, List.length_cons, List.length_nil, List.nil_append, List.cons_append, List.append_nil, List.replicate_succ, List.replicate_zero, Nat.reduceAdd, Nat.reduceSub, Nat.reduceLT, Nat.reduceLeDiff, Nat.reduceBEq, true_and, and_true, Nat.zero_add, Nat.add_zero, Nat.le_refl, Option.some.injEq, exists_eq_left', true_or, or_true, or_false, false_or, reduceCtorEq, Prod.mk.injEq, Sum.inl.injEq, and_self, false_and, and_false, not_true_eq_false, not_false_eq_true, false_implies, true_implies, sm_r, Int.add_zero, Int.zero_add, wI_wsI, wS_wsI, wR_wsI, wI_wCp, wS_wCp, wR_wCp, Nat.reduceEqDiff, reduceIte, sT_iff, sT_iffC, wIf_ne, ne_eq, Bool.false_or, Bool.true_or, Bool.or_false, Bool.or_true, Bool.or_self, tb_X8_bestOrder, p_X8_delayInOrder, p_X8_in, p_X8_layAside, p_X8_layBack, p_X8_layOrder, p_X8_orders, f_X8_delayInOrder, f_X8_in, f_X8_layAside, f_X8_layBack, f_X8_layOrder, f_X8_orders, p_X8_bestOrder, f_X8_bestOrder, hTu, hOu, sS_154 hTu, h1, c1, sS_154 hTl, hGl, hP]
            repeat' (first | exact True.intro | with_reducible assumption | with_reducible refine And.intro ?_ ?_ | intro _)
            all_goals first
              | omega
              | assumption
              | rfl
              | (split <;> omega)
              | (have k9 := ih (by omega)
                 (repeat' split at k9) <;> first | exact k9 | omega)
              | (have k9 := ih2 (by omega)
                 (repeat' split at k9) <;> first | exact k9 | omega)
              | exact he (by omega)
              | ((with_reducible congr 1) <;> omega)
              | (rw [if_pos (by omega)] at he; exact he)
              | exact hD1 (by omega)
              | exact hD2 (by omega)
              | skip
        )
      have hf : itI (mCpA 155 159) w 57 = mAs0 w := rfl
      have e0 : wsI (mAs0 w) 155 0 0 = mBo0 w := rfl
      have hT1 := (mAs0_in w).2 hT
      have hl : Z 46 [some (.inr (.inl 154)), some (.inl k), some (.inl (-6)), some (.inl 0), none, none] [] (mBo0 w) 0 0 := hl
      refine hZ (fun u => Nat.beq u 46) 14 0 _ _ _ _ _ ?_
      simp only [sm_run, sm_blk, sm_get, sm_ent, sm_ents, sm_wds, sm_wd, sm_nl, sm_pop, sm_back, sm_cases, oK, oLK, oL, oI, oA, oJ, oIs, oAs, oJs, oInc, oAdd, oSub, oMul, oDiv, oRem, oNeg, oAnd, oAndB, oOr, oShl, oI2c, oI2l, oL2i, oLand, oLor, oLshl, oLshr, oLushr, oLcmp, oDup, oDup2, oPop, oGo, oFg, oEq, oNe, oLt, oGe, oGt, oLe, oEq0, oNe0, oLt0, oGe0, oGt0, oLe0, oSw, oGi, oGr, oPi, oPz, oPr, oLen, oIl, oZl, oCl, oRl, oIst, oZst, oCst, oRst, oCopy, oNew, oNa, oNa2, oObj, oCs, oCv, oCi, oIr, oZr, oVr, Nat.beq, List.getElem?_cons_zero, List.getElem?_cons_succ, List.set_cons_zero, List.set_cons_succ, List.length_cons, List.length_nil, List.nil_append, List.cons_append, List.append_nil, List.replicate_succ, List.replicate_zero, Nat.reduceAdd, Nat.reduceSub, Nat.reduceLT, Nat.reduceLeDiff, Nat.reduceBEq, true_and, and_true, Nat.zero_add, Nat.add_zero, Nat.le_refl, Option.some.injEq, exists_eq_left', true_or, or_true, or_false, false_or, reduceCtorEq, Prod.mk.injEq, Sum.inl.injEq, and_self, false_and, and_false, not_true_eq_false, not_false_eq_true, false_implies, true_implies, sm_r, Int.add_zero, Int.zero_add, wI_wsI, wS_wsI, wR_wsI, wI_wCp, wS_wCp, wR_wCp, Nat.reduceEqDiff, reduceIte, sT_iff, sT_iffC, wIf_ne, ne_eq, Bool.false_or, Bool.true_or, Bool.or_false, Bool.or_true, Bool.or_self, tb_X8_bestOrder, p_X8_delayInOrder, p_X8_in, p_X8_layAside, p_X8_layBack, p_X8_layOrder, p_X8_orders, f_X8_delayInOrder, f_X8_in, f_X8_layAside, f_X8_layBack, f_X8_layOrder, f_X8_orders, p_X8_bestOrder, f_X8_bestOrder, sS_154 hT, sR_154_0 hT, sS_155 hT, hT, hf, sS_154 hT1, sR_154_0 hT1, sS_155 hT1, e0, b01, if_pos hk]
      repeat' (first | exact True.intro | with_reducible assumption | with_reducible refine And.intro ?_ ?_ | intro _)
      all_goals first
        | omega
        | assumption
        | rfl
        | (split <;> omega)
        | (have k9 := ih (by omega)
           (repeat' split at k9) <;> first | exact k9 | omega)
        | (have k9 := ih2 (by omega)
           (repeat' split at k9) <;> first | exact k9 | omega)
        | exact he (by omega)
        | ((with_reducible congr 1) <;> omega)
        | (rw [if_pos (by omega)] at he; exact he)
        | exact hD1 (by omega)
        | exact hD2 (by omega)
        | grind
        | skip
  · skip
    refine hZ (fun u => Nat.beq u 46 || Nat.beq u 94) 14 0 _ _ _ _ _ ?_
    simp only [sm_run, sm_blk, sm_get, sm_ent, sm_ents, sm_wds, sm_wd, sm_nl, sm_pop, sm_back, sm_cases, oK, oLK, oL, oI, oA, oJ, oIs, oAs, oJs, oInc, oAdd, oSub, oMul, oDiv, oRem, oNeg, oAnd, oAndB, oOr, oShl, oI2c, oI2l, oL2i, oLand, oLor, oLshl, oLshr, oLushr, oLcmp, oDup, oDup2, oPop, oGo, oFg, oEq, oNe, oLt, oGe, oGt, oLe, oEq0, oNe0, oLt0, oGe0, oGt0, oLe0, oSw, oGi, oGr, oPi, oPz, oPr, oLen, oIl, oZl, oCl, oRl, oIst, oZst, oCst, oRst, oCopy, oNew, oNa, oNa2, oObj, oCs, oCv, oCi, oIr, oZr, oVr, Nat.beq, List.getElem?_cons_zero, List.getElem?_cons_succ, List.set_cons_zero, List.set_cons_succ, List.length_cons, List.length_nil, List.nil_append, List.cons_append, List.append_nil, List.replicate_succ, List.replicate_zero, Nat.reduceAdd, Nat.reduceSub, Nat.reduceLT, Nat.reduceLeDiff, Nat.reduceBEq, true_and, and_true, Nat.zero_add, Nat.add_zero, Nat.le_refl, Option.some.injEq, exists_eq_left', true_or, or_true, or_false, false_or, reduceCtorEq, Prod.mk.injEq, Sum.inl.injEq, and_self, false_and, and_false, not_true_eq_false, not_false_eq_true, false_implies, true_implies, sm_r, Int.add_zero, Int.zero_add, wI_wsI, wS_wsI, wR_wsI, wI_wCp, wS_wCp, wR_wCp, Nat.reduceEqDiff, reduceIte, sT_iff, sT_iffC, wIf_ne, ne_eq, Bool.false_or, Bool.true_or, Bool.or_false, Bool.or_true, Bool.or_self, tb_X8_bestOrder, p_X8_delayInOrder, p_X8_in, p_X8_layAside, p_X8_layBack, p_X8_layOrder, p_X8_orders, f_X8_delayInOrder, f_X8_in, f_X8_layAside, f_X8_layBack, f_X8_layOrder, f_X8_orders, p_X8_bestOrder, f_X8_bestOrder, sS_154 hT, sR_154_0 hT, sS_155 hT, b01, if_neg hk]
    repeat' (first | exact True.intro | with_reducible assumption | with_reducible refine And.intro ?_ ?_ | intro _)
    all_goals first
      | omega
      | assumption
      | rfl
      | (split <;> omega)
      | (have k9 := ih (by omega)
         (repeat' split at k9) <;> first | exact k9 | omega)
      | (have k9 := ih2 (by omega)
         (repeat' split at k9) <;> first | exact k9 | omega)
      | exact he (by omega)
      | ((with_reducible congr 1) <;> omega)
      | (rw [if_pos (by omega)] at he; exact he)
      | exact hD1 (by omega)
      | exact hD2 (by omega)
      | grind
      | skip

theorem met_X8_bestOrder (l : Launch) : sm_Met l yX8_bestOrder cX8_bestOrder 6 (some .int) 9 0 0 p_X8_bestOrder f_X8_bestOrder := sm_met 1 (Or.inr (Or.inl ⟨rfl, rfl⟩)) (by decide +kernel) (sn_X8_bestOrder l) ok_X8_bestOrder