/-! STEPS OF A RUN: undo, saved states, the pad's end -/
theorem vL_57 {w u : sm_W} {y : Nat} (e : ∀ k, k ≤ 7 → wI u (y + k) = wI w (y + k)) : eq57 (vL u y) (vL w y) := by rw [vL_of8 e]; exact eq57.rf _
theorem st_undo {a b : sm_W} (h : Rel a b) : (if wI a 86 0 = 0 then -5 else wI a 86 0 - 1) = (if wI b 154 3 = 0 then -5 else wI b 154 3 - 1) ∧ Rel (if wI a 86 0 = 0 then a else hGv a) (if wI b 154 3 = 0 then b else mUndo b) := by
  have hh := h
  obtain ⟨⟨⟨l1, l2⟩, hd, hko⟩, ⟨r1, r2, r3, r4, r5, r6⟩, x1, x2, x3, x4⟩ := h
  rw [x2.1]
  refine ⟨rfl, ?_⟩
  by_cases c : wI b 154 3 = 0
  · rw [if_pos c, if_pos c]
    exact hh
  · rw [if_neg c, if_neg c]
    have h3 := r3.2
    obtain ⟨K, hK⟩ : ∃ K, K = wI b 154 3 - 1 := ⟨_, rfl⟩
    have hm := hLn_mem l1.1 (i := K) (by omega) (by omega)
    have hmi := (hLn_in l1.1 (i := K) (by omega) (by omega)).2
    -- the class
    have eg : hGv a = cpL 2 (hLn a K) (wsI a 86 0 K) := by unfold hGv; rw [x2.1, hK]
    have hf := cpL_fr 2 (hLn a K) (wsI a 86 0 K)
    have g1 : ∀ x, x ≠ 86 → ¬ (2 ≤ x ∧ x ≤ 9) → wI (hGv a) x = wI a x := fun x h1 h2 => by rw [eg, hf.outA (fun i v hs => h2 (by unfold sLn at hs; omega)), wIf_ne h1]
    have g86 : wI (hGv a) 86 0 = K := by rw [eg, hf.outA (a := 86) (fun i v hs => by unfold sLn at hs; omega), wI_wsI, if_pos ⟨rfl, rfl⟩]
    have gT : sT (hGv a) := by rw [eg]; exact sFr_sT hf (sT_wsI l1.1)
    have gR : ∀ i, wR (hGv a) 87 i = wR a 87 i := fun i => by rw [eg]; rfl
    have gL : ∀ i, hLn (hGv a) i = hLn a i := fun i => by unfold hLn; rw [gR]
    have gv : ∀ x, 88 ≤ x → vL (hGv a) x = vL a x := fun x hx => vL_of8 (fun k hk => g1 _ (by omega) (by omega))
    have gl : eq57 (vL (hGv a) 2) (vL a (hLn a K)) := by
      rw [eg]
      refine (vL_cp (by omega)).tr (vL_57 (fun k hk => wIf_ne (by omega)))
    -- the reference
    have eu : mUndo b = itI (mUn1 ((wI b 154 2 + K) % 6)) (wsI b 154 3 K) 57 := by unfold mUndo; rw [← hK]
    have hu := mUnL ((wI b 154 2 + K) % 6) (wsI b 154 3 K) 57 (by decide)
    have u1 : ∀ x, x ≠ 155 → x ≠ 154 → wI (mUndo b) x = wI b x := fun x h1 h2 => by rw [eu, hu.1 x h1, wIf_ne h2]
    have u154 : ∀ k, k ≠ 3 → wI (mUndo b) 154 k = wI b 154 k := fun k hk => by rw [eu, hu.1 154 (by decide), wI_wsI, if_neg (fun q => hk q.2)]
    have u3 : wI (mUndo b) 154 3 = K := by rw [eu, hu.1 154 (by decide), wI_wsI, if_pos ⟨rfl, rfl⟩]
    have ul : eq57 (wI (mUndo b) 155) (bPast b K) := fun j j0 j1 => by
      have key : ∀ n : Int, 0 ≤ n → n ≤ 57 → ∀ j, 0 ≤ j → j < n → wI (itI (mUn1 ((wI b 154 2 + K) % 6)) (wsI b 154 3 K) n) 155 j = wI b 156 (57 * ((wI b 154 2 + K) % 6) + j) := fun n n0 n1 => by
        refine itI_ind (f := mUn1 ((wI b 154 2 + K) % 6)) (a := wsI b 154 3 K) (fun i r => (∀ j, 0 ≤ j → j < i → wI r 155 j = wI b 156 (57 * ((wI b 154 2 + K) % 6) + j)) ∧ wI r 156 = wI b 156) n ⟨fun j j0 j1 => by omega, wIf_ne (by decide)⟩ (fun i r i0 i1 hr => ?_) n n0 (Int.le_refl _) |>.1
        unfold mUn1
        refine ⟨fun j j0 j1 => ?_, by rw [wIf_ne (by decide)]; exact hr.2⟩
        rw [wI_wsI]
        by_cases e : j = i
        · rw [if_pos ⟨rfl, e⟩, hr.2, e]
        · rw [if_neg (fun q => e q.2)]; exact hr.1 j j0 (by omega)
      rw [eu, key 57 (by decide) (by decide) j j0 j1]
      rfl
    have hx2 := x2.2 K (by omega) (by omega)
    have hv := r5 K (by omega) (by omega)
    have hT : sT (mUndo b) := by rw [eu]; exact hu.2 (sT_wsI r1.1.1)
    have bp : ∀ i, bPast (mUndo b) i = bPast b i := fun i => funext fun k => by unfold bPast; rw [u154 2 (by decide), u1 156 (by decide) (by decide)]
    have bs : ∀ i, bSlot (mUndo b) i = bSlot b i := fun i => funext fun k => by unfold bSlot; rw [u1 157 (by decide) (by decide)]
    have t := tOK_F0.mp r4
    have vz := vOK_57 ul hv
    refine ⟨⟨⟨⟨gT, is2, vOK_57 (gl.tr hx2) hv⟩, by rw [g86]; omega⟩, fun i j i0 i1 j0 j1 hne => by rw [gL, gL]; exact hd i j i0 i1 j0 j1 hne, kOK_83 hko gT (by rw [g1 83 (by decide) (by omega)]) (g1 84 (by decide) (by omega))⟩, ⟨mGd0_c r1 hT vz (u154 20 (by decide)) (fun x h0 h1 => u1 x (by omega) (by omega)), mCh_c r2 (u154 17 (by decide)) (u154 18 (by decide)) (u154 20 (by decide)) (fun x h0 h1 => u1 x (by omega) (by omega)), ?_, tOK_F0.mpr ⟨hT, by rw [u154 24 (by decide)]; exact t.2.1, by rw [u1 173 (by decide) (by decide)]; exact t.2.2⟩, fun i i0 i1 => by rw [bp]; exact r5 i i0 (by rw [u3] at i1; omega), fun s s0 s1 => by rw [u1 158 (by decide) (by decide), bs]; exact r6 s s0 s1⟩, (gl.tr hx2).tr ul.sy, ⟨by rw [g86, u3], fun i i0 i1 => ?_⟩, fun s s0 s1 => ?_, ?_⟩
    · unfold mH
      rw [u154 2 (by decide), u3]
      exact ⟨r3.1, by omega⟩
    · rw [u3] at i1
      have := hLn_mem l1.1 i0 (by omega)
      rw [gL, gv _ this.1, bp]
      exact x2.2 i i0 (by omega)
    · have hc := cSl_b s
      rw [g1 137 (by decide) (by omega), u1 158 (by decide) (by decide), gv _ (by omega), bs]
      exact x3 s s0 s1
    · rw [g1 83 (by decide) (by omega), g1 84 (by decide) (by omega), u154 24 (by decide), u1 173 (by decide) (by decide)]
      exact x4
theorem st_save {a b : sm_W} (h : Rel a b) (s : Int) : (if 0 ≤ s ∧ s < 2 then wI a 2 7 else -2) = (if 0 ≤ s ∧ s ≤ 1 then wI b 155 1 else -2) ∧ Rel (if 0 ≤ s ∧ s < 2 then cSv a s else a) (if 0 ≤ s ∧ s ≤ 1 then mSave b s else b) := by
  have hh := h
  have hn := Rel_n h
  obtain ⟨⟨⟨l1, l2⟩, hd, hko⟩, ⟨r1, r2, r3, r4, r5, r6⟩, x1, x2, x3, x4⟩ := h
  by_cases c : 0 ≤ s ∧ s < 2
  · have c' : 0 ≤ s ∧ s ≤ 1 := by omega
    rw [if_pos c, if_pos c', if_pos c, if_pos c', hn]
    refine ⟨rfl, ?_⟩
    have hc := cSl_b s
    have hf := cpL_fr (cSl s) 2 a
    have eg : cSv a s = wsI (cpL (cSl s) 2 a) 137 s 1 := rfl
    have g1 : ∀ x, x ≠ 137 → x < 138 → wI (cSv a s) x = wI a x := fun x h1 h2 => by rw [eg, wIf_ne h1, hf.outA (fun i v hs => by unfold sLn at hs; omega)]
    have gT : sT (cSv a s) := by rw [eg]; exact sT_wsI (sFr_sT hf l1.1)
    have gL : ∀ i, hLn (cSv a s) i = hLn a i := fun i => rfl
    have gv : ∀ x, x ≤ 129 → vL (cSv a s) x = vL a x := fun x hx => vL_of8 (fun k hk => g1 _ (by omega) (by omega))
    have gs : eq57 (vL (cSv a s) (cSl s)) (vL a 2) := by
      refine (vL_57 (fun k hk => ?_)).tr (vL_cp (w := a) (a := cSl s) (b := 2) (by omega))
      rw [eg, wIf_ne (by omega)]
    have gq : ∀ q, 0 ≤ q → q < 2 → q ≠ s → vL (cSv a s) (cSl q) = vL a (cSl q) := fun q q0 q1 hq => vL_of8 (fun k hk => by
      rw [eg, wIf_ne (by have := cSl_b q; omega), hf.outA (fun i v hs => by
        unfold sLn cSl at hs
        by_cases z0 : s = 0
        · rw [if_pos z0] at hs; rw [if_neg (show ¬ q = 0 by omega)] at hs; omega
        · rw [if_neg z0] at hs; rw [if_pos (show q = 0 by omega)] at hs; omega)])
    have eu : mSave b s = wsI (itI (mSv1 s) b 57) 158 s 1 := rfl
    have hu := mSvL s b 57 (by decide)
    have u1 : ∀ x, x ≠ 157 → x ≠ 158 → wI (mSave b s) x = wI b x := fun x h1 h2 => by rw [eu, wIf_ne h2, hu.1 x h1]
    have u157 : ∀ j, wI (mSave b s) 157 j = if 57 * s ≤ j ∧ j < 57 * s + 57 then wI b 155 (j - 57 * s) else wI b 157 j := fun j => by
      have key : ∀ n : Int, 0 ≤ n → ∀ j, wI (itI (mSv1 s) b n) 157 j = (if 57 * s ≤ j ∧ j < 57 * s + n then wI b 155 (j - 57 * s) else wI b 157 j) ∧ wI (itI (mSv1 s) b n) 155 = wI b 155 := fun n n0 => by
        refine itI_ind (f := mSv1 s) (a := b) (fun i r => ∀ j, wI r 157 j = (if 57 * s ≤ j ∧ j < 57 * s + i then wI b 155 (j - 57 * s) else wI b 157 j) ∧ wI r 155 = wI b 155) n (fun j => ⟨by rw [if_neg (by omega)], rfl⟩) (fun i r i0 i1 hr j => ?_) n n0 (Int.le_refl _)
        unfold mSv1
        refine ⟨?_, by rw [wIf_ne (by omega)]; exact (hr j).2⟩
        rw [wI_wsI, (hr j).2]
        by_cases c : j = 57 * s + i
        · rw [if_pos ⟨rfl, c⟩, if_pos (by omega), show j - 57 * s = i by omega]
        · rw [if_neg (fun q => c q.2), (hr j).1]
          by_cases c2 : 57 * s ≤ j ∧ j < 57 * s + i
          · rw [if_pos c2, if_pos (by omega)]
          · rw [if_neg c2, if_neg (by omega)]
      rw [eu, wIf_ne (by decide)]
      exact (key 57 (by decide) j).1
    have u158 : ∀ q, wI (mSave b s) 158 q = if q = s then 1 else wI b 158 q := fun q => by
      rw [eu, wI_wsI, hu.1 158 (by decide)]
      by_cases e : q = s
      · rw [if_pos ⟨rfl, e⟩, if_pos e]
      · rw [if_neg (fun z => e z.2), if_neg e]
    have us : eq57 (bSlot (mSave b s) s) (wI b 155) := fun k k0 k1 => by
      unfold bSlot
      rw [u157, if_pos (by omega), show 57 * s + k - 57 * s = k by omega]
    have uq : ∀ q, 0 ≤ q → q < 2 → q ≠ s → eq57 (bSlot (mSave b s) q) (bSlot b q) := fun q q0 q1 hq k k0 k1 => by
      unfold bSlot
      rw [u157, if_neg (by omega)]
    have hT : sT (mSave b s) := by rw [eu]; exact sT_wsI (hu.2 r1.1.1)
    have bp : ∀ i, bPast (mSave b s) i = bPast b i := fun i => funext fun k => by unfold bPast; rw [u1 154 (by decide) (by decide), u1 156 (by decide) (by decide)]
    have t := tOK_F0.mp r4
    have e155 := u1 155 (by decide) (by decide)
    have e154 := u1 154 (by decide) (by decide)
    refine ⟨⟨⟨⟨gT, is2, by rw [gv 2 (by decide)]; exact l1.2.2⟩, by rw [g1 86 (by decide) (by decide)]; exact l2⟩, fun i j i0 i1 j0 j1 hne => hd i j i0 i1 j0 j1 hne, kOK_83 hko gT (by rw [g1 83 (by decide) (by omega)]) (g1 84 (by decide) (by omega))⟩, ⟨mGd0_c r1 hT (by rw [e155]; exact r1.1.2) (by rw [e154]) (fun x h0 h1 => u1 x (by omega) (by omega)), mCh_c r2 (by rw [e154]) (by rw [e154]) (by rw [e154]) (fun x h0 h1 => u1 x (by omega) (by omega)), by unfold mH; rw [e154]; exact r3, tOK_F0.mpr ⟨hT, by rw [e154]; exact t.2.1, by rw [u1 173 (by decide) (by decide)]; exact t.2.2⟩, fun i i0 i1 => by rw [bp]; exact r5 i i0 (by rw [e154] at i1; exact i1), fun q q0 q1 => ?_⟩, by rw [gv 2 (by decide), e155]; exact x1, ⟨by rw [g1 86 (by decide) (by decide), e154]; exact x2.1, fun i i0 i1 => ?_⟩, fun q q0 q1 => ?_, ?_⟩
    · rw [u158]
      by_cases e : q = s
      · rw [if_pos e, e]
        exact ⟨Or.inr rfl, fun _ => vOK_57 us r1.1.2⟩
      · rw [if_neg e]
        exact ⟨(r6 q q0 q1).1, fun z => vOK_57 (uq q q0 q1 e) ((r6 q q0 q1).2 z)⟩
    · rw [e154] at i1
      have := hLn_mem l1.1 i0 (by have := r3.2; omega)
      rw [gL, gv _ (by omega), bp]
      exact x2.2 i i0 i1
    · have e137 : wI (cSv a s) 137 q = if q = s then 1 else wI a 137 q := by
        rw [eg, wI_wsI, hf.outA (a := 137) (fun i v hs => by unfold sLn at hs; omega)]
        by_cases e : q = s
        · rw [if_pos ⟨rfl, e⟩, if_pos e]
        · rw [if_neg (fun z => e z.2), if_neg e]
      rw [u158, e137]
      by_cases e : q = s
      · rw [if_pos e, if_pos e, e]
        exact ⟨rfl, fun _ => (gs.tr x1).tr us.sy⟩
      · rw [if_neg e, if_neg e, gq q q0 q1 e]
        exact ⟨(x3 q q0 q1).1, fun z => ((x3 q q0 q1).2 z).tr (uq q q0 q1 e).sy⟩
    · rw [g1 83 (by decide) (by omega), g1 84 (by decide) (by omega), e154, u1 173 (by decide) (by decide)]
      exact x4
  · have c' : ¬ (0 ≤ s ∧ s ≤ 1) := by omega
    rw [if_neg c, if_neg c', if_neg c, if_neg c']
    exact ⟨rfl, hh⟩
theorem st_restore {a b : sm_W} (h : Rel a b) (s : Int) : (if 0 ≤ s ∧ s < 2 then (if wI a 137 s = 0 then -5 else wI (cRs a s) 2 7) else -2) = (if 0 ≤ s ∧ s ≤ 1 then (if wI b 158 s = 0 then -5 else wI (mRest b s) 155 1) else -2) ∧ Rel (if 0 ≤ s ∧ s < 2 then (if wI a 137 s = 0 then a else cChg (cRs a s) (wI (cRs a s) 2 7)) else a) (if 0 ≤ s ∧ s ≤ 1 then (if wI b 158 s = 0 then b else mRest b s) else b) := by
  by_cases c : 0 ≤ s ∧ s < 2
  · have c' : 0 ≤ s ∧ s ≤ 1 := by omega
    rw [if_pos c, if_pos c', if_pos c, if_pos c', (h.2.2.2.2.1 s c.1 c.2).1]
    by_cases c2 : wI b 158 s = 0
    · rw [if_pos c2, if_pos c2, if_pos c2, if_pos c2]
      exact ⟨rfl, h⟩
    · rw [if_neg c2, if_neg c2, if_neg c2, if_neg c2]
      have h1 : wI b 158 s = 1 := by have := (h.2.1.2.2.2.2.2 s c.1 c.2).1; omega
      have hv := (h.2.1.2.2.2.2.2 s c.1 c.2).2 h1
      have hx := (h.2.2.2.2.1 s c.1 c.2).2 h1
      have hc := cSl_b s
      have hB := cB_in h.1.1
      have hl : eq57 (vL (cRs a s) 2) (bSlot b s) := by
        refine (vL_cp (w := cB a) (a := 2) (b := cSl s) (by omega)).tr ?_
        have : vL (cB a) (cSl s) = vL a (cSl s) := vL_of8 (fun k hk => hB.2.2.2.2.1 _ (by omega))
        rw [this]
        exact hx
      have hK := mKeep_keep (w := b)
      have hz : eq57 (wI (mRest b s) 155) (bSlot b s) := fun j j0 j1 => by
        have key : ∀ n : Int, 0 ≤ n → (∀ j, 0 ≤ j → j < n → wI (itI (mRs1 s) (mKeep b) n) 155 j = wI b 157 (57 * s + j)) ∧ wI (itI (mRs1 s) (mKeep b) n) 157 = wI b 157 := fun n n0 => by
          refine itI_ind (f := mRs1 s) (a := mKeep b) (fun i r => (∀ j, 0 ≤ j → j < i → wI r 155 j = wI b 157 (57 * s + j)) ∧ wI r 157 = wI b 157) n ⟨fun j j0 j1 => by omega, hK.1 157 (by decide) (by decide)⟩ (fun i r i0 i1 hr => ?_) n n0 (Int.le_refl _)
          unfold mRs1
          refine ⟨fun j j0 j1 => ?_, by rw [wIf_ne (by decide)]; exact hr.2⟩
          rw [wI_wsI]
          by_cases e : j = i
          · rw [if_pos ⟨rfl, e⟩, hr.2, e]
          · rw [if_neg (fun q => e q.2)]; exact hr.1 j j0 (by omega)
        exact (key 57 (by decide)).1 j j0 j1
      have e1 : wI (cRs a s) 2 7 = wI (mRest b s) 155 1 := (hl 1 (by decide) (by decide)).trans (hz 1 (by decide) (by decide)).symm
      have vz := vOK_57 hz hv
      refine ⟨e1, ?_⟩
      have hm := vOK_many vz
      unfold cChg
      rw [if_neg (by rw [e1]; omega)]
      exact Rel_ch1 h (cpL_fr 2 (cSl s) (cB a)) (sFr.it (f := mRs1 s) 57 (by decide) (fun i r _ _ _ => (sFr.refl r).st rfl)) vz (hl.tr hz.sy)
  · have c' : ¬ (0 ≤ s ∧ s ≤ 1) := by omega
    rw [if_neg c, if_neg c', if_neg c, if_neg c']
    exact ⟨rfl, h⟩
/-- the reference's cells that the reading of a text writes -/
theorem rKp_t {b z : sm_W} (h : rH b) (hT : sT z) (ho : ∀ x, x ≠ 154 → x ≠ 174 → x ≠ 175 → wI z x = wI b x) (h4 : ∀ k, k ≠ 25 → k ≠ 26 → k ≠ 27 → wI z 154 k = wI b 154 k) : rKp b z := by
  refine ⟨mGd0_c h.1 hT (by rw [ho 155 (by decide) (by decide) (by decide)]; exact h.1.1.2) (h4 20 (by decide) (by decide) (by decide)) (fun x h0 h1 => ho x (by omega) (by omega) (by omega)), mCh_c h.2.1 (h4 17 (by decide) (by decide) (by decide)) (h4 18 (by decide) (by decide) (by decide)) (h4 20 (by decide) (by decide) (by decide)) (fun x h0 h1 => ho x (by omega) (by omega) (by omega)), by rw [ho 155 (by decide) (by decide) (by decide)]; exact eq57.rf _, ⟨h4 2 (by decide) (by decide) (by decide), h4 3 (by decide) (by decide) (by decide), h4 24 (by decide) (by decide) (by decide)⟩, fun x hx => ho x (by omega) (by omega) (by omega)⟩
theorem st_wipe {a b : sm_W} (h : Rel a b) : wI a 83 0 = wI b 154 24 ∧ Rel (wsI a 83 0 0) (wsI b 154 24 0) := by
  obtain ⟨⟨⟨l1, l2⟩, hd, hko⟩, ⟨r1, r2, r3, r4, r5, r6⟩, x1, x2, x3, x4⟩ := h
  refine ⟨x4.1, ?_⟩
  have ga : ∀ x, x ≠ 83 → wI (wsI a 83 0 0) x = wI a x := fun x hx => wIf_ne hx
  have gb : ∀ x, x ≠ 154 → wI (wsI b 154 24 0) x = wI b x := fun x hx => wIf_ne hx
  have gk : ∀ k, k ≠ 24 → wI (wsI b 154 24 0) 154 k = wI b 154 k := fun k hk => by rw [wI_wsI, if_neg (fun q => hk q.2)]
  have g24 : wI (wsI b 154 24 0) 154 24 = 0 := by rw [wI_wsI, if_pos ⟨rfl, rfl⟩]
  have g83 : wI (wsI a 83 0 0) 83 0 = 0 := by rw [wI_wsI, if_pos ⟨rfl, rfl⟩]
  have gv : ∀ x, (x + 7 < 83 ∨ 83 < x) → vL (wsI a 83 0 0) x = vL a x := fun x hx => vL_of8 (fun k hk => ga _ (by omega))
  have bp : ∀ i, bPast (wsI b 154 24 0) i = bPast b i := fun i => funext fun k => by unfold bPast; rw [gk 2 (by decide), gb 156 (by decide)]
  have bs : ∀ i, bSlot (wsI b 154 24 0) i = bSlot b i := fun i => funext fun k => by unfold bSlot; rw [gb 157 (by decide)]
  have t := tOK_F0.mp r4
  obtain ⟨k1, k2, k3, k4⟩ := hko
  refine ⟨⟨⟨⟨sT_wsI l1.1, is2, by rw [gv 2 (by decide)]; exact l1.2.2⟩, by rw [ga 86 (by decide)]; exact l2⟩, hd, ⟨sT_wsI (sT_wsI l1.1), ?_, ?_, fun k => ?_⟩⟩, ⟨mGd0_c r1 (sT_wsI r1.1.1) r1.1.2 (gk 20 (by decide)) (fun x h0 h1 => gb x (by omega)), mCh_c r2 (gk 17 (by decide)) (gk 18 (by decide)) (gk 20 (by decide)) (fun x h0 h1 => gb x (by omega)), r3, tOK_F0.mpr ⟨sT_wsI r1.1.1, by rw [g24]; omega, t.2.2⟩, fun i i0 i1 => by rw [bp]; exact r5 i i0 i1, fun s s0 s1 => by rw [bs]; exact r6 s s0 s1⟩, x1, ⟨x2.1, fun i i0 i1 => ?_⟩, fun s s0 s1 => ?_, by rw [g83, g24], fun i i0 i1 => by rw [g24] at i1; omega⟩
  · unfold kF0; rw [wI_wsI, if_neg (by omega), g83]; omega
  · unfold kF0; rw [wI_wsI, if_pos ⟨rfl, rfl⟩]; omega
  · have e : wI (kF0 (wsI a 83 0 0)) 84 k = wI (kF0 a) 84 k := rfl
    rw [e]
    exact k4 k
  · have := hLn_mem l1.1 i0 (by have := r3.2; have : wI (wsI b 154 24 0) 154 3 = wI b 154 3 := rfl; omega)
    have e : hLn (wsI a 83 0 0) i = hLn a i := rfl
    rw [e, gv _ (by omega), bp]
    exact x2.2 i i0 i1
  · have hc := cSl_b s
    rw [gv _ (by omega), bs]
    exact x3 s s0 s1
