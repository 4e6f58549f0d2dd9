/-! STEPS OF A RUN: the history -/
theorem hK0_hl {u : sm_W} (h : sT u) (k : 0 ≤ wI u 86 0 ∧ wI u 86 0 ≤ 6) : wI (hK0 u) 86 0 = (if wI u 86 0 = 6 then 5 else wI u 86 0) ∧ (∀ i, 0 ≤ i → i < 6 → hLn (hK0 u) i = if wI u 86 0 = 6 then (if i < 5 then hLn u (i + 1) else hLn u 0) else hLn u i) := by
  have d := hDr_in h
  unfold hK0
  by_cases c : wI u 86 0 = 6
  · rw [if_pos c, if_pos c]
    refine ⟨by rw [d.2.2.1, c]; rfl, fun i i0 i1 => ?_⟩
    rw [if_pos c]
    by_cases q : i < 5
    · rw [if_pos q]; exact d.2.2.2.1 i i0 q
    · rw [if_neg q, show i = 5 by omega]; exact d.2.2.2.2.1
  · rw [if_neg c, if_neg c]
    exact ⟨rfl, fun i _ _ => by rw [if_neg c]⟩
theorem hK0_R {u : sm_W} (h : sT u) (a : Nat) (ha : a ≠ 87) (i : Int) : wR (hK0 u) a i = wR u a i := by
  unfold hK0
  split
  · have d := hDrL h 5 (by decide) (by decide)
    unfold hDr
    show wR (wsR (itI hD1 u 5) 87 5 (hLn u 0)) a i = _
    rw [wR_wsR, if_neg (fun q => ha q.1)]
    exact d.2.2.2.2.2 a i ha
  · rfl
theorem isL_sep {x y : Nat} (hx : x ∈ [88, 96, 104, 112, 120, 128]) (hy : y ∈ [88, 96, 104, 112, 120, 128]) (h : x ≠ y) : x + 8 ≤ y ∨ y + 8 ≤ x := isL_ne (hL_isL hx).1 (hL_isL hy).1 h
theorem vL_sep {w u : sm_W} {x y : Nat} (hf : sFr (sLn x) w u) (h : x + 8 ≤ y ∨ y + 9 ≤ x) : vL u y = vL w y := vL_cong (fun k hk => hf.outA (fun i v hs => by unfold sLn at hs; omega))
theorem vL_sep8 {w : sm_W} {x y z : Nat} (h : x + 8 ≤ y ∨ y + 8 ≤ x) : vL (cpL x z w) y = vL w y := by
  have hf := cpL_fr x z w
  have e : ∀ k, k ≤ 7 → wI (cpL x z w) (y + k) = wI w (y + k) := fun k hk => hf.outA (fun i v hs => by unfold sLn at hs; omega)
  have e0 := e 0 (by decide)
  rw [Nat.add_zero] at e0
  funext j
  unfold vL
  rw [e0, e 1 (by decide), e 2 (by decide), e 3 (by decide), e 4 (by decide), e 5 (by decide), e 6 (by decide), e 7 (by decide)]
theorem vL_of8 {w u : sm_W} {y : Nat} (e : ∀ k, k ≤ 7 → wI u (y + k) = wI w (y + k)) : vL u y = vL w y := by
  have e0 := e 0 (by decide)
  rw [Nat.add_zero] at e0
  funext j
  unfold vL
  rw [e0, e 1 (by decide), e 2 (by decide), e 3 (by decide), e 4 (by decide), e 5 (by decide), e 6 (by decide), e 7 (by decide)]
/-- the class records the line before -/
theorem hKp_in {u : sm_W} (h : sT u) (k : 0 ≤ wI u 86 0 ∧ wI u 86 0 ≤ 6) (hd : ∀ i j, 0 ≤ i → i < 6 → 0 ≤ j → j < 6 → i ≠ j → hLn u i ≠ hLn u j) : sT (hKp u 67) ∧ (∀ x, x ≠ 86 → (x < 88 ∨ 136 ≤ x) → wI (hKp u 67) x = wI u x) ∧ wI (hKp u 67) 86 0 = (if wI u 86 0 = 6 then 5 else wI u 86 0) + 1 ∧ (∀ i j, 0 ≤ i → i < 6 → 0 ≤ j → j < 6 → i ≠ j → hLn (hKp u 67) i ≠ hLn (hKp u 67) j) ∧ (∀ i, 0 ≤ i → i < (if wI u 86 0 = 6 then 5 else wI u 86 0) → vL (hKp u 67) (hLn (hKp u 67) i) = vL u (hLn u (if wI u 86 0 = 6 then i + 1 else i))) ∧ eq57 (vL (hKp u 67) (hLn (hKp u 67) (if wI u 86 0 = 6 then 5 else wI u 86 0))) (vL u 67) := by
  obtain ⟨q1, q2⟩ := hK0_hl h k
  obtain ⟨s1, s2, s3⟩ := hK0_in h k
  have hlK : ∀ i, hLn (hKp u 67) i = hLn (hK0 u) i := fun i => rfl
  have hmem : ∀ i, 0 ≤ i → i < 6 → hLn (hK0 u) i ∈ [88, 96, 104, 112, 120, 128] := fun i i0 i1 => (hLn_in s1 i0 i1).2
  have hdis : ∀ i j, 0 ≤ i → i < 6 → 0 ≤ j → j < 6 → i ≠ j → hLn (hK0 u) i ≠ hLn (hK0 u) j := fun i j i0 i1 j0 j1 hne => by
    rw [q2 i i0 i1, q2 j j0 j1]
    by_cases c : wI u 86 0 = 6
    · rw [if_pos c, if_pos c]
      by_cases ci : i < 5
      · rw [if_pos ci]
        by_cases cj : j < 5
        · rw [if_pos cj]; exact hd _ _ (by omega) (by omega) (by omega) (by omega) (by omega)
        · rw [if_neg cj]; exact hd _ _ (by omega) (by omega) (by omega) (by omega) (by omega)
      · rw [if_neg ci]
        by_cases cj : j < 5
        · rw [if_pos cj]; exact hd _ _ (by omega) (by omega) (by omega) (by omega) (by omega)
        · omega
    · rw [if_neg c, if_neg c]
      exact hd i j i0 i1 j0 j1 hne
  generalize hN : (if wI u 86 0 = 6 then (5 : Int) else wI u 86 0) = N at *
  have hNr : 0 ≤ N ∧ N ≤ 5 := by
    rw [← hN]
    split <;> omega
  have hx := hmem N hNr.1 (by omega)
  have hxl := hL_isL hx
  have eK : hKp u 67 = wsI (cpL (hLn (hK0 u) N) 67 (hK0 u)) 86 0 (N + 1) := by unfold hKp; rw [q1]
  have hf := cpL_fr (hLn (hK0 u) N) 67 (hK0 u)
  have hcell : ∀ x, x ≠ 86 → (x < 88 ∨ 136 ≤ x) → wI (hKp u 67) x = wI u x := fun x hx1 hx2 => by
    rw [eK, wIf_ne hx1, hf.outA (fun i v hs => by unfold sLn at hs; omega), s2 x hx1]
  refine ⟨?_, hcell, ?_, hdis, fun i i0 i1 => ?_, ?_⟩
  · rw [eK]
    exact sT_wsI (sFr_sT hf s1)
  · rw [eK, wI_wsI, if_pos ⟨rfl, rfl⟩]
  · rw [hlK]
    have hy := hmem i i0 (by omega)
    have hyl := hL_isL hy
    have hsep := isL_sep hx hy (hdis N i hNr.1 (by omega) i0 (by omega) (by omega))
    have e1 : vL (hKp u 67) (hLn (hK0 u) i) = vL u (hLn (hK0 u) i) := vL_of8 (fun j hj => by
      rw [eK, wIf_ne (by omega), hf.outA (fun i v hs => by unfold sLn at hs; omega), s2 _ (by omega)])
    rw [e1, q2 i i0 (by omega)]
    by_cases c : wI u 86 0 = 6
    · rw [if_pos c, if_pos c, if_pos (by rw [if_pos c] at hN; omega)]
    · rw [if_neg c, if_neg c]
  · rw [hlK]
    have e1 : vL (hKp u 67) (hLn (hK0 u) N) = vL (cpL (hLn (hK0 u) N) 67 (hK0 u)) (hLn (hK0 u) N) := vL_of8 (fun j hj => by rw [eK, wIf_ne (by omega)])
    have e2 : vL (hK0 u) 67 = vL u 67 := vL_of8 (fun j hj => s2 _ (by omega))
    rw [e1, ← e2]
    exact vL_cp (by omega)
/-- the reference records its line -/
theorem mKeep_in {b : sm_W} (hH : mH b) : wI (mKeep b) 154 3 = (if wI b 154 3 = 6 then 5 else wI b 154 3) + 1 ∧ mH (mKeep b) ∧ (∀ i, 0 ≤ i → i < (if wI b 154 3 = 6 then 5 else wI b 154 3) → eq57 (bPast (mKeep b) i) (bPast b (if wI b 154 3 = 6 then i + 1 else i))) ∧ eq57 (bPast (mKeep b) (if wI b 154 3 = 6 then 5 else wI b 154 3)) (wI b 155) := by
  have k0 := mKp0_keep b
  have h0 := (k0.2.2 hH).1
  have e3 : wI (mKp0 b) 154 3 = (if wI b 154 3 = 6 then 5 else wI b 154 3) ∧ wI (mKp0 b) 154 2 = (if wI b 154 3 = 6 then (wI b 154 2 + 1) % 6 else wI b 154 2) := by
    unfold mKp0
    by_cases c : wI b 154 3 = 6
    · rw [if_pos c, if_pos c, if_pos c]
      refine ⟨?_, ?_⟩
      · rw [wI_wsI, if_pos ⟨rfl, rfl⟩, c]; rfl
      · rw [wI_wsI, if_neg (by omega), wI_wsI, if_pos ⟨rfl, rfl⟩]
    · rw [if_neg c, if_neg c, if_neg c]
      exact ⟨rfl, rfl⟩
  have h56 : wI (mKp0 b) 156 = wI b 156 ∧ wI (mKp0 b) 155 = wI b 155 := ⟨k0.1 156 (by decide), k0.1 155 (by decide)⟩
  generalize hs : (wI (mKp0 b) 154 2 + wI (mKp0 b) 154 3) % 6 = s at *
  have eK : mKeep b = wsI (itI (mKp1 s) (mKp0 b) 57) 154 3 (wI (mKp0 b) 154 3 + 1) := by unfold mKeep; rw [hs]
  have hL := mKpL s (mKp0 b) 57 (by decide)
  have hp : ∀ n : Int, 0 ≤ n → ∀ j, wI (itI (mKp1 s) (mKp0 b) n) 156 j = (if 57 * s ≤ j ∧ j < 57 * s + n then wI b 155 (j - 57 * s) else wI b 156 j) ∧ wI (itI (mKp1 s) (mKp0 b) n) 155 = wI b 155 := fun n n0 => by
    refine itI_ind (f := mKp1 s) (a := mKp0 b) (fun i r => ∀ j, wI r 156 j = (if 57 * s ≤ j ∧ j < 57 * s + i then wI b 155 (j - 57 * s) else wI b 156 j) ∧ wI r 155 = wI b 155) n (fun j => ⟨by rw [if_neg (by omega), h56.1], h56.2⟩) (fun i r i0 i1 hr j => ?_) n n0 (Int.le_refl _)
    unfold mKp1
    refine ⟨?_, by rw [wIf_ne (by omega)]; exact (hr j).2⟩
    rw [wI_wsI, (hr j).2]
    by_cases c : j = 57 * s + i
    · rw [if_pos ⟨rfl, c⟩, if_pos (by omega), show j - 57 * s = i by omega]
    · rw [if_neg (fun q => c q.2), (hr j).1]
      by_cases c2 : 57 * s ≤ j ∧ j < 57 * s + i
      · rw [if_pos c2, if_pos (by omega)]
      · rw [if_neg c2, if_neg (by omega)]
  have e156 : ∀ j, wI (mKeep b) 156 j = (if 57 * s ≤ j ∧ j < 57 * s + 57 then wI b 155 (j - 57 * s) else wI b 156 j) := fun j => by
    rw [eK, wI_wsI, if_neg (by omega)]
    exact (hp 57 (by decide) j).1
  have e154 : wI (mKeep b) 154 2 = wI (mKp0 b) 154 2 := by
    rw [eK, wI_wsI, if_neg (by omega), hL.1 154 (by decide)]
  generalize hN : (if wI b 154 3 = 6 then (5 : Int) else wI b 154 3) = N at *
  have hNr : 0 ≤ N ∧ N ≤ 5 := by
    rw [← hN]
    have := hH.2
    split <;> omega
  have h2r := hH.1
  rw [e3.1, e3.2] at hs
  have ePb : ∀ w i k, bPast w i k = wI w 156 (57 * ((wI w 154 2 + i) % 6) + k) := fun _ _ _ => rfl
  refine ⟨by rw [eK, wI_wsI, if_pos ⟨rfl, rfl⟩, e3.1], (mKeep_154 hH).1, fun i i0 i1 k k0 k1 => ?_, fun k k0 k1 => ?_⟩
  · rw [ePb, ePb, e156, e154, e3.2]
    by_cases c : wI b 154 3 = 6
    · rw [if_pos c] at hs hN ⊢
      rw [if_pos c, if_neg (by omega)]
      rw [show ((wI b 154 2 + 1) % 6 + i) % 6 = (wI b 154 2 + (i + 1)) % 6 by omega]
    · rw [if_neg c] at hs hN ⊢
      rw [if_neg c, if_neg (by omega)]
  · rw [ePb, e156, e154, e3.2]
    rw [if_pos (by omega)]
    congr 1
    omega
theorem mGd0_c {w u : sm_W} (h : mGd0 w) (hT : sT u) (hv : vOK (wI u 155)) (h20 : wI u 154 20 = wI w 154 20) (ho : ∀ a, 160 ≤ a → a ≤ 169 → wI u a = wI w a) : mGd0 u := by
  obtain ⟨h1, h2, h3, h4⟩ := h
  refine ⟨⟨hT, hv⟩, by rw [h20]; exact h2, mZ_same (ho 168 (by decide) (by decide)) (ho 169 (by decide) (by decide)) h3, ?_⟩
  unfold mRec mCtr at *
  rw [ho 163 (by decide) (by decide), ho 164 (by decide) (by decide), ho 165 (by decide) (by decide), ho 168 (by decide) (by decide), ho 169 (by decide) (by decide)]
  exact h4
theorem mCh_c {w u : sm_W} (h : mCh w) (h17 : wI u 154 17 = wI w 154 17) (h18 : wI u 154 18 = wI w 154 18) (h20 : wI u 154 20 = wI w 154 20) (ho : ∀ a, 160 ≤ a → a ≤ 170 → wI u a = wI w a) : mCh u := by
  unfold mCh bDs at *
  rw [h20, h17, h18, ho 170 (by decide) (by decide)]
  intro k
  obtain ⟨b0, g1, g2, g3⟩ := h k
  exact ⟨b0, g1, g2, fun a h0 h1 => by rw [ho a h0 (by omega)]; exact g3.1 a h0 h1, g3.2⟩
/-- a change: the class's line of u, the reference's of z; what was before is recorded -/
theorem Rel_chg {a b u z : sm_W} (h : Rel a b) (hT : sT u) (hu : ∀ x, ¬ (2 ≤ x ∧ x ≤ 9) → x ≠ 83 → x ≠ 85 → wI u x = wI (cB a) x) (hR : ∀ i, wR u 87 i = wR a 87 i) (hL : lOK u 2) (hZ : sT z) (hz : ∀ x, x ≠ 155 → x ≠ 154 → x < 171 → wI z x = wI (mKeep b) x) (hz4 : ∀ k, k ≠ 24 → k ≠ 25 → k ≠ 26 → k ≠ 27 → wI z 154 k = wI (mKeep b) 154 k) (he : eq57 (vL u 2) (wI z 155)) (hk : kOK (kF0 u)) (ht : tOK (tF0 z)) (hp : wI u 83 0 = wI z 154 24 ∧ ∀ i, 0 ≤ i → i < wI z 154 24 → wI u 84 i = wI z 173 i) : Rel (hKp u 67) z := by
  obtain ⟨⟨⟨l1, l2⟩, hd, hko⟩, ⟨r1, r2, r3, r4, r5, r6⟩, x1, x2, x3, x4⟩ := h
  have hB := cB_in (w := a) ⟨l1, l2⟩
  have u86 : wI u 86 = wI a 86 := (hu 86 (by omega) (by omega) (by omega)).trans hB.2.2.1
  have hlu : ∀ i, hLn u i = hLn a i := fun i => by unfold hLn; rw [hR i]
  obtain ⟨g1, g2, g3, g4, g5, g6⟩ := hKp_in hT (by rw [u86]; exact l2) (fun i j i0 i1 j0 j1 hne => by rw [hlu, hlu]; exact hd i j i0 i1 j0 j1 hne)
  obtain ⟨m1, m2, m3, m4⟩ := mKeep_in r3
  have kk := mKeep_keep (w := b)
  have k154 := (mKeep_154 r3).2
  rw [u86, x2.1] at g3 g5 g6
  have vz : vOK (wI z 155) := vOK_57 he.sy hL.2.2
  have z3 : wI z 154 3 = wI (mKeep b) 154 3 := hz4 3 (by decide) (by decide) (by decide) (by decide)
  have z2 : wI z 154 2 = wI (mKeep b) 154 2 := hz4 2 (by decide) (by decide) (by decide) (by decide)
  have bp : ∀ i, bPast z i = bPast (mKeep b) i := fun i => funext fun k => by unfold bPast; rw [z2, hz 156 (by omega) (by omega) (by omega)]
  have bs : ∀ i, bSlot z i = bSlot b i := fun i => funext fun k => by unfold bSlot; rw [hz 157 (by omega) (by omega) (by omega), kk.1 157 (by omega) (by omega)]
  have z158 : wI z 158 = wI b 158 := by rw [hz 158 (by omega) (by omega) (by omega), kk.1 158 (by omega) (by omega)]
  have k17 : ∀ k, k = 17 ∨ k = 18 ∨ k = 20 → wI z 154 k = wI b 154 k := fun k hk => by rw [hz4 k (by omega) (by omega) (by omega) (by omega), k154 k (by omega) (by omega)]
  have k160 : ∀ x, 160 ≤ x → x ≤ 170 → wI z x = wI b x := fun x h0 h1 => by rw [hz x (by omega) (by omega) (by omega), kk.1 x (by omega) (by omega)]
  -- one kept state's row
  generalize hN : (if wI b 154 3 = 6 then (5 : Int) else wI b 154 3) = N at *
  have hNr : 0 ≤ N ∧ N ≤ 5 := by
    rw [← hN]
    have := r3.2
    split <;> omega
  have u67 : eq57 (vL u 67) (wI b 155) := by
    have : vL u 67 = vL (cB a) 67 := vL_of8 (fun k hk => hu _ (by omega) (by omega) (by omega))
    rw [this]
    exact hB.2.2.2.2.2.tr x1
  have uh : ∀ i, 0 ≤ i → i < 6 → vL u (hLn u i) = vL a (hLn a i) := fun i i0 i1 => by
    rw [hlu]
    have hm := hLn_mem l1.1 i0 i1
    exact vL_of8 (fun k hk => by rw [hu _ (by omega) (by omega) (by omega), hB.2.2.2.2.1 _ (by omega)])
  have rowE : ∀ i, 0 ≤ i → i < N → eq57 (vL (hKp u 67) (hLn (hKp u 67) i)) (bPast z i) := fun i i0 i1 => by
    rw [g5 i i0 i1, bp]
    have hi : 0 ≤ (if wI b 154 3 = 6 then i + 1 else i) ∧ (if wI b 154 3 = 6 then i + 1 else i) < wI b 154 3 := by
      by_cases c : wI b 154 3 = 6
      · rw [if_pos c] at hN ⊢; omega
      · rw [if_neg c] at hN ⊢; omega
    rw [uh _ hi.1 (by have := r3.2; omega)]
    exact (x2.2 _ hi.1 hi.2).tr (m3 i i0 i1).sy
  have rowL : eq57 (vL (hKp u 67) (hLn (hKp u 67) N)) (bPast z N) := by
    rw [bp]
    exact (g6.tr u67).tr m4.sy
  have rowV : ∀ i, 0 ≤ i → i < N + 1 → vOK (bPast z i) := fun i i0 i1 => by
    rw [bp]
    by_cases c : i = N
    · rw [c]; exact vOK_57 m4 r1.1.2
    · have hi : 0 ≤ (if wI b 154 3 = 6 then i + 1 else i) ∧ (if wI b 154 3 = 6 then i + 1 else i) < wI b 154 3 := by
        by_cases c : wI b 154 3 = 6
        · rw [if_pos c] at hN ⊢; omega
        · rw [if_neg c] at hN ⊢; omega
      exact vOK_57 (m3 i i0 (by omega)) (r5 _ hi.1 hi.2)
  have v2 : vL (hKp u 67) 2 = vL u 2 := vL_of8 (fun k hk => g2 _ (by omega) (by omega))
  refine ⟨⟨⟨⟨g1, is2, by rw [v2]; exact hL.2.2⟩, by rw [g3]; omega⟩, g4, ?_⟩, ⟨mGd0_c r1 hZ vz (k17 20 (by omega)) (fun x h0 h1 => k160 x h0 (by omega)), mCh_c r2 (k17 17 (by omega)) (k17 18 (by omega)) (k17 20 (by omega)) k160, ?_, ht, fun i i0 i1 => rowV i i0 (by rw [z3, m1] at i1; exact i1), fun s s0 s1 => by rw [z158, bs]; exact r6 s s0 s1⟩, by rw [v2]; exact he, ⟨by rw [g3, z3, m1], fun i i0 i1 => ?_⟩, fun s s0 s1 => ?_, ?_⟩
  · obtain ⟨k1, k2, k3, k4⟩ := hk
    have e83 : wI (kF0 (hKp u 67)) 83 = wI (kF0 u) 83 := by unfold kF0; funext j; rw [wI_wsI, wI_wsI, g2 83 (by omega) (by omega)]
    have e84 : wI (kF0 (hKp u 67)) 84 = wI (kF0 u) 84 := by unfold kF0; rw [wIf_ne (by omega), wIf_ne (by omega), g2 84 (by omega) (by omega)]
    refine ⟨g1, ?_, ?_, ?_⟩
    · rw [e83]; exact k2
    · rw [e83]; exact k3
    · rw [e84]; exact k4
  · unfold mH
    rw [z2, z3]
    exact m2
  · rw [z3, m1] at i1
    by_cases c : i = N
    · rw [c]; exact rowL
    · exact rowE i i0 (by omega)
  · have hc := cSl_b s
    have e137 : wI (hKp u 67) 137 = wI a 137 := by rw [g2 137 (by omega) (by omega), hu 137 (by omega) (by omega) (by omega), hB.2.2.2.2.1 137 (by omega)]
    have eS : vL (hKp u 67) (cSl s) = vL a (cSl s) := vL_of8 (fun k hk => by rw [g2 _ (by omega) (by omega), hu _ (by omega) (by omega) (by omega), hB.2.2.2.2.1 _ (by omega)])
    rw [e137, z158, eS, bs]
    exact x3 s s0 s1
  · rw [g2 83 (by omega) (by omega), g2 84 (by omega) (by omega)]
    exact hp
