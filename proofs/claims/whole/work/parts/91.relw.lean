/-! THE TWO STATES: the class's of the world a, the reference's of the world b -/
/-- a state that the reference keeps, and one that the class keeps -/
def bPast (b : sm_W) (i k : Int) : Int := wI b 156 (57 * ((wI b 154 2 + i) % 6) + k)
def bSlot (b : sm_W) (s k : Int) : Int := wI b 157 (57 * s + k)
def rH (b : sm_W) : Prop := mGd0 b ∧ mCh b ∧ mH b ∧ tOK (tF0 b) ∧ (∀ i, 0 ≤ i → i < wI b 154 3 → vOK (bPast b i)) ∧ ∀ s, 0 ≤ s → s < 2 → (wI b 158 s = 0 ∨ wI b 158 s = 1) ∧ (wI b 158 s = 1 → vOK (bSlot b s))
def cH (a : sm_W) : Prop := cOK a ∧ (∀ i j, 0 ≤ i → i < 6 → 0 ≤ j → j < 6 → i ≠ j → hLn a i ≠ hLn a j) ∧ kOK (kF0 a)
def xR (a b : sm_W) : Prop := eq57 (vL a 2) (wI b 155) ∧ (wI a 86 0 = wI b 154 3 ∧ ∀ i, 0 ≤ i → i < wI b 154 3 → eq57 (vL a (hLn a i)) (bPast b i)) ∧ (∀ s, 0 ≤ s → s < 2 → wI a 137 s = wI b 158 s ∧ (wI b 158 s = 1 → eq57 (vL a (cSl s)) (bSlot b s))) ∧ (wI a 83 0 = wI b 154 24 ∧ ∀ i, 0 ≤ i → i < wI b 154 24 → wI a 84 i = wI b 173 i)
def Rel (a b : sm_W) : Prop := cH a ∧ rH b ∧ xR a b
/-- the class's cells that tell its state are the same -/
def cAg (a u : sm_W) : Prop := sT u ∧ (∀ x, (2 ≤ x ∧ x ≤ 9) ∨ x = 84 ∨ (86 ≤ x ∧ x < 154) → wI u x = wI a x) ∧ wI u 83 0 = wI a 83 0 ∧ ∀ i, wR u 87 i = wR a 87 i
theorem cAg.rf {a : sm_W} (h : sT a) : cAg a a := ⟨h, fun _ _ => rfl, rfl, fun _ => rfl⟩
theorem cAg.tr {a u v : sm_W} (h : cAg a u) (k : cAg u v) : cAg a v := ⟨k.1, fun x hx => (k.2.1 x hx).trans (h.2.1 x hx), k.2.2.1.trans h.2.2.1, fun i => (k.2.2.2 i).trans (h.2.2.2 i)⟩
theorem vL_86 {a u : sm_W} {x : Nat} (h : ∀ y, (2 ≤ y ∧ y ≤ 9) ∨ y = 84 ∨ (86 ≤ y ∧ y < 154) → wI u y = wI a y) (hx : x = 2 ∨ (86 ≤ x ∧ x ≤ 146)) : vL u x = vL a x := by
  have e : ∀ k, k ≤ 7 → wI u (x + k) = wI a (x + k) := fun k hk => h _ (by omega)
  have e0 := e 0 (by decide)
  rw [Nat.add_zero] at e0
  funext j
  unfold vL
  rw [e0, e 1 (by decide), e 2 (by decide), e 3 (by decide), e 4 (by decide), e 5 (by decide), e 6 (by decide), e 7 (by decide)]
theorem hLn_mem {a : sm_W} (h : sT a) {i : Int} (i0 : 0 ≤ i) (i1 : i < 6) : 88 ≤ hLn a i ∧ hLn a i ≤ 128 := (hL_isL (hLn_in h i0 i1).2).2.2.2
theorem cSl_b (s : Int) : cSl s = 138 ∨ cSl s = 146 := by unfold cSl; split <;> omega
theorem cAg.hln {a u : sm_W} (h : cAg a u) (i : Int) : hLn u i = hLn a i := by unfold hLn; rw [h.2.2.2 i]
theorem cAg.rel {a u b : sm_W} (h : cAg a u) (k : Rel a b) : Rel u b := by
  obtain ⟨⟨⟨l1, l2⟩, h1, h2⟩, hR, x1, x2, x3, x4⟩ := k
  obtain ⟨g1, g2, g3, g4⟩ := h
  have v2 : vL u 2 = vL a 2 := vL_86 g2 (Or.inl rfl)
  have hl : ∀ i, hLn u i = hLn a i := fun i => by unfold hLn; rw [g4 i]
  have v86 : wI u 86 = wI a 86 := g2 86 (by omega)
  have v84 : wI u 84 = wI a 84 := g2 84 (by omega)
  have v137 : wI u 137 = wI a 137 := g2 137 (by omega)
  refine ⟨⟨⟨⟨g1, l1.2.1, by rw [v2]; exact l1.2.2⟩, by rw [v86]; exact l2⟩, fun i j i0 i1 j0 j1 hne => by rw [hl, hl]; exact h1 i j i0 i1 j0 j1 hne, ?_⟩, hR, by rw [v2]; exact x1, ⟨by rw [v86]; exact x2.1, fun i i0 i1 => ?_⟩, fun s s0 s1 => ⟨by rw [v137]; exact (x3 s s0 s1).1, fun q => ?_⟩, by rw [g3]; exact x4.1, fun i i0 i1 => by rw [v84]; exact x4.2 i i0 i1⟩
  · obtain ⟨k1, k2, k3, k4⟩ := h2
    refine ⟨g1, ?_, ?_, fun k => ?_⟩
    · show 0 ≤ wI (wsI u 83 2 0) 83 0 ∧ wI (wsI u 83 2 0) 83 0 ≤ 80
      rw [wI_wsI, if_neg (by omega), g3]
      have : wI (kF0 a) 83 0 = wI a 83 0 := by unfold kF0; rw [wI_wsI, if_neg (by omega)]
      rw [this] at k2
      exact k2
    · show 0 ≤ wI (wsI u 83 2 0) 83 2 ∧ wI (wsI u 83 2 0) 83 2 ≤ 81
      rw [wI_wsI, if_pos ⟨rfl, rfl⟩]
      omega
    · have e1 : wI (kF0 u) 84 k = wI u 84 k := by unfold kF0; rw [wI_wsI, if_neg (by omega)]
      have e2 : wI (kF0 a) 84 k = wI a 84 k := by unfold kF0; rw [wI_wsI, if_neg (by omega)]
      rw [e1, v84, ← e2]
      exact k4 k
  · have hm := hR.2.2.1
    have := hLn_mem l1.1 i0 (by have := hm.2; omega)
    rw [hl, vL_86 g2 (by omega)]
    exact x2.2 i i0 i1
  · have := cSl_b s
    rw [vL_86 g2 (by omega)]
    exact (x3 s s0 s1).2 q
/-- the reference's state is told by these -/
def rKp (b z : sm_W) : Prop := mGd0 z ∧ mCh z ∧ eq57 (wI z 155) (wI b 155) ∧ (wI z 154 2 = wI b 154 2 ∧ wI z 154 3 = wI b 154 3 ∧ wI z 154 24 = wI b 154 24) ∧ (∀ x, (156 ≤ x ∧ x ≤ 158) ∨ x = 173 → wI z x = wI b x)
theorem tOK_F0 {b : sm_W} : tOK (tF0 b) ↔ sT b ∧ (0 ≤ wI b 154 24 ∧ wI b 154 24 ≤ 80) ∧ ∀ k, 0 ≤ wI b 173 k ∧ wI b 173 k ≤ 127 := by
  have e24 : wI (tF0 b) 154 24 = wI b 154 24 := by unfold tF0; simp only [wI_wsI]; simp
  have e25 : wI (tF0 b) 154 25 = 0 := by unfold tF0; simp only [wI_wsI]; simp
  have e26 : wI (tF0 b) 154 26 = 0 := by unfold tF0; simp only [wI_wsI]; simp
  have e27 : wI (tF0 b) 154 27 = 0 := by unfold tF0; simp only [wI_wsI]; simp
  have e173 : wI (tF0 b) 173 = wI b 173 := by unfold tF0; rw [wIf_ne (by omega), wIf_ne (by omega), wIf_ne (by omega)]
  unfold tOK
  rw [e24, e25, e26, e27, e173]
  constructor
  · rintro ⟨h1, h2, _, _, _, h3⟩
    exact ⟨h1, h2, h3⟩
  · rintro ⟨h1, h2, h3⟩
    exact ⟨h1, h2, by omega, Or.inl rfl, by omega, h3⟩
theorem rKp.rel {a b z : sm_W} (h : rKp b z) (k : Rel a b) : Rel a z := by
  obtain ⟨hC, ⟨r1, r2, r3, r4, r5, r6⟩, x1, x2, x3, x4⟩ := k
  obtain ⟨g1, g2, g3, ⟨g4, g5, g6⟩, g7⟩ := h
  have p : ∀ i, bPast z i = bPast b i := fun i => funext fun k => by unfold bPast; rw [g4, g7 156 (by omega)]
  have q : ∀ i, bSlot z i = bSlot b i := fun i => funext fun k => by unfold bSlot; rw [g7 157 (by omega)]
  have t := tOK_F0.mp r4
  refine ⟨hC, ⟨g1, g2, ?_, tOK_F0.mpr ⟨g1.1.1, by rw [g6]; exact t.2.1, by rw [g7 173 (by omega)]; exact t.2.2⟩, fun i i0 i1 => by rw [p]; exact r5 i i0 (by rw [← g5]; exact i1), fun s s0 s1 => by rw [g7 158 (by omega), q]; exact r6 s s0 s1⟩, x1.tr g3.sy, ⟨by rw [g5]; exact x2.1, fun i i0 i1 => by rw [p]; exact x2.2 i i0 (by rw [← g5]; exact i1)⟩, fun s s0 s1 => by rw [g7 158 (by omega), q]; exact x3 s s0 s1, by rw [g6]; exact x4.1, fun i i0 i1 => by rw [g7 173 (by omega)]; exact x4.2 i i0 (by rw [← g6]; exact i1)⟩
  unfold mH
  rw [g4, g5]
  exact r3
theorem rKp.rf {b : sm_W} (h : rH b) : rKp b b := ⟨h.1, h.2.1, eq57.rf _, ⟨rfl, rfl, rfl⟩, fun _ _ => rfl⟩
theorem rKp.tr {b z y : sm_W} (h : rKp b z) (k : rKp z y) : rKp b y := ⟨k.1, k.2.1, k.2.2.1.tr h.2.2.1, ⟨k.2.2.2.1.1.trans h.2.2.2.1.1, k.2.2.2.1.2.1.trans h.2.2.2.1.2.1, k.2.2.2.1.2.2.trans h.2.2.2.1.2.2⟩, fun x hx => (k.2.2.2.2 x hx).trans (h.2.2.2.2 x hx)⟩
theorem mRun_kp {b : sm_W} (hG : mGd0 b) (hC : mCh b) : rKp b (mRun b) := by
  have f := mRun_fr hG
  have s := mRun_st hG
  refine ⟨s.1, (mRun_ch hG hC).1, by rw [s.2]; exact eq57.rf _, ⟨f.out (fun v hs => by unfold sRun at hs; omega), f.out (fun v hs => by unfold sRun at hs; omega), f.out (fun v hs => by unfold sRun at hs; omega)⟩, fun x hx => f.outA (fun i v hs => by unfold sRun at hs; omega)⟩
theorem xRun_ag {a : sm_W} {d : Nat} (hD : dOK a d) : cAg a (xRun d a) := by
  have f := (xRun_fr hD).1
  refine ⟨(xRun_ok hD).1.1.2.1, fun x hx => f.outA (fun i v hs => ?_), f.out (fun v hs => ?_), fun i => f.R 87 ▸ rfl⟩
  · unfold sDy at hs
    rcases hD.1 with h | h <;> subst h <;> omega
  · unfold sDy at hs
    rcases hD.1 with h | h <;> subst h <;> omega
/-- a frame that leaves the class's state alone -/
theorem cAg_fr {S : Nat → Int → Int → Prop} {a u : sm_W} (h : sFr S a u) (hT : sT a) (hS : ∀ x i v, S x i v → ¬ ((2 ≤ x ∧ x ≤ 9) ∨ x = 84 ∨ (86 ≤ x ∧ x < 154) ∨ (x = 83 ∧ i = 0))) : cAg a u := by
  refine ⟨sFr_sT h hT, fun x hx => h.outA (fun i v hs => hS x i v hs (by omega)), h.out (fun v hs => hS 83 0 v hs (by omega)), fun i => by rw [h.R]⟩
theorem Rel_n {a b : sm_W} (h : Rel a b) : wI a 2 7 = wI b 155 1 := h.2.2.1 1 (by decide) (by decide)
/-- both days of the lines as they are -/
theorem Rel_day {a b : sm_W} (h : Rel a b) : ∃ R, rEq (xRun 1 a) 1 R ∧ bQ (mRun b) R ∧ Rel (xRun 1 a) (mRun b) := by
  obtain ⟨R, h1, h2⟩ := day_eq (cOK_d h.1.1) h.2.1.1 h.2.1.2.1 (lEq_57 h.2.1.1.1.2 h.2.2.1)
  exact ⟨R, h1, h2, (mRun_kp h.2.1.1 h.2.1.2.1).rel ((xRun_ag (cOK_d h.1.1)).rel h)⟩
