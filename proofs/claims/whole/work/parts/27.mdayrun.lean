/-! THE REFERENCE: run -/
/-- cells of the counters that no shuttle has are 0 -/
def mZ (w : sm_W) : Prop := (∀ i, (i < 0 ∨ 64 ≤ i) → wI w 168 i = 0) ∧ (∀ i, (i < 0 ∨ 32 ≤ i) → wI w 169 i = 0)
theorem mZ_same {w u : sm_W} (h1 : wI u 168 = wI w 168) (h2 : wI u 169 = wI w 169) (h : mZ w) : mZ u := by unfold mZ; rw [h1, h2]; exact h
theorem mB1_in (w : sm_W) (n : Int) (hn : 0 ≤ n) : ∀ i, (0 ≤ i ∧ i < n → wI (itI mB1 w n) 168 i = 0 ∧ wI (itI mB1 w n) 163 i = -6 ∧ wI (itI mB1 w n) 164 i = -6 ∧ wI (itI mB1 w n) 165 i = -6 ∧ wI (itI mB1 w n) 166 i = -6 ∧ wI (itI mB1 w n) 167 i = -6) ∧ (¬ (0 ≤ i ∧ i < n) → wI (itI mB1 w n) 168 i = wI w 168 i ∧ wI (itI mB1 w n) 163 i = wI w 163 i ∧ wI (itI mB1 w n) 164 i = wI w 164 i ∧ wI (itI mB1 w n) 165 i = wI w 165 i ∧ wI (itI mB1 w n) 166 i = wI w 166 i ∧ wI (itI mB1 w n) 167 i = wI w 167 i) ∧ wI (itI mB1 w n) 169 i = wI w 169 i := by
  intro i
  refine itI_ind (f := mB1) (fun k r => (0 ≤ i ∧ i < k → wI r 168 i = 0 ∧ wI r 163 i = -6 ∧ wI r 164 i = -6 ∧ wI r 165 i = -6 ∧ wI r 166 i = -6 ∧ wI r 167 i = -6) ∧ (¬ (0 ≤ i ∧ i < k) → wI r 168 i = wI w 168 i ∧ wI r 163 i = wI w 163 i ∧ wI r 164 i = wI w 164 i ∧ wI r 165 i = wI w 165 i ∧ wI r 166 i = wI w 166 i ∧ wI r 167 i = wI w 167 i) ∧ wI r 169 i = wI w 169 i) n ⟨fun h => by omega, fun _ => ⟨rfl, rfl, rfl, rfl, rfl, rfl⟩, rfl⟩ (fun k r k0 k1 hr => ?_) n hn (Int.le_refl _)
  simp only [mB1, wI_wsI, Nat.reduceEqDiff, false_and, true_and, if_false]
  by_cases c : i = k
  · subst c
    simp only [if_true]
    exact ⟨fun _ => ⟨trivial, trivial, trivial, trivial, trivial, trivial⟩, fun h => absurd ⟨k0, by omega⟩ h, hr.2.2⟩
  · simp only [c, if_false]
    exact ⟨fun h => hr.1 (by omega), fun h => hr.2.1 (by omega), hr.2.2⟩
theorem mB2_in (w : sm_W) (n : Int) (hn : 0 ≤ n) : (∀ i, (0 ≤ i ∧ i < n → wI (itI mB2 w n) 169 i = 0) ∧ (¬ (0 ≤ i ∧ i < n) → wI (itI mB2 w n) 169 i = wI w 169 i)) ∧ (∀ a, a ≠ 169 → wI (itI mB2 w n) a = wI w a) := by
  refine itI_ind (f := mB2) (fun k r => (∀ i, (0 ≤ i ∧ i < k → wI r 169 i = 0) ∧ (¬ (0 ≤ i ∧ i < k) → wI r 169 i = wI w 169 i)) ∧ (∀ a, a ≠ 169 → wI r a = wI w a)) n ⟨fun i => ⟨fun h => by omega, fun _ => rfl⟩, fun _ _ => rfl⟩ (fun k r k0 k1 hr => ?_) n hn (Int.le_refl _)
  refine ⟨fun i => ?_, fun a h => by unfold mB2; rw [wIf_ne h]; exact hr.2 a h⟩
  simp only [mB2, wI_wsI, true_and]
  have := hr.1 i
  by_cases c : i = k
  · rw [if_pos c]; exact ⟨fun _ => rfl, fun h => by omega⟩
  · rw [if_neg c]; exact ⟨fun h => this.1 (by omega), fun h => this.2 (by omega)⟩
theorem mB3_in (w : sm_W) (n : Int) (hn : 0 ≤ n) : (∀ i, 0 ≤ i → i < n → wI (itI mB3 w n) 160 i = 0 ∧ wI (itI mB3 w n) 161 i = wI w 155 (17 + 5 * i) ∧ wI (itI mB3 w n) 162 i = 0) ∧ (∀ a, a ≠ 160 → a ≠ 161 → a ≠ 162 → wI (itI mB3 w n) a = wI w a) := by
  refine itI_ind (f := mB3) (fun k r => (∀ i, 0 ≤ i → i < k → wI r 160 i = 0 ∧ wI r 161 i = wI w 155 (17 + 5 * i) ∧ wI r 162 i = 0) ∧ (∀ a, a ≠ 160 → a ≠ 161 → a ≠ 162 → wI r a = wI w a)) n ⟨fun i h h1 => by omega, fun _ _ _ _ => rfl⟩ (fun k r k0 k1 hr => ?_) n hn (Int.le_refl _)
  refine ⟨fun i i0 i1 => ?_, fun a h0 h1 h2 => by unfold mB3; rw [wIf_ne h2, wIf_ne h1, wIf_ne h0]; exact hr.2 a h0 h1 h2⟩
  simp only [mB3, wI_wsI, Nat.reduceEqDiff, false_and, true_and, if_false]
  by_cases c : i = k
  · subst c
    simp only [if_true]
    exact ⟨trivial, by rw [hr.2 155 (by decide) (by decide) (by decide)], trivial⟩
  · simp only [c, if_false]
    exact hr.1 i i0 (by omega)
/-- a day that has just begun -/
theorem mBegin_in (w : sm_W) (hm : 0 ≤ wI w 155 1) : (∀ i, 0 ≤ i → i < wI w 155 1 → wI (mBegin w) 160 i = 0 ∧ wI (mBegin w) 161 i = wI w 155 (17 + 5 * i) ∧ wI (mBegin w) 162 i = 0) ∧ (∀ i, 0 ≤ i → i < 64 → wI (mBegin w) 163 i = -6 ∧ wI (mBegin w) 164 i = -6 ∧ wI (mBegin w) 165 i = -6 ∧ wI (mBegin w) 166 i = -6 ∧ wI (mBegin w) 167 i = -6 ∧ wI (mBegin w) 168 i = 0) ∧ (∀ i, 0 ≤ i → i < 32 → wI (mBegin w) 169 i = 0) ∧ (∀ a i, (a = 168 ∨ a = 163 ∨ a = 164 ∨ a = 165) → ¬ (0 ≤ i ∧ i < 64) → wI (mBegin w) a i = wI w a i) ∧ (∀ i, ¬ (0 ≤ i ∧ i < 32) → wI (mBegin w) 169 i = wI w 169 i) ∧ (∀ a, a ≠ 154 → (a < 160 ∨ 169 < a) → wI (mBegin w) a = wI w a) ∧ (∀ i, i ≠ 18 → wI (mBegin w) 154 i = wI w 154 i) ∧ wI (mBegin w) 154 18 = 0 ∧ (sT w → sT (mBegin w)) := by
  have a1 := mB1_in w 64 (by decide)
  have k1 := mB1_keep w 64 (by decide)
  have a2 := mB2_in (mBegin1 w) 32 (by decide)
  have k2 := mB2_keep (mBegin1 w) 32 (by decide)
  have e2 : wI (mBegin2 w) 155 = wI w 155 := k2.1.trans k1.1
  have a3 := mB3_in (mBegin2 w) (wI w 155 1) hm
  have k3 := mB3_keep (mBegin2 w) (wI w 155 1) hm
  rw [e2] at a3
  have e3 : itI mB3 (mBegin2 w) (wI w 155 1) = mBegin3 w := rfl
  rw [e3] at a3
  have eb : mBegin w = wsI (mBegin3 w) 154 18 0 := rfl
  have f : ∀ a, a ≠ 154 → wI (mBegin w) a = wI (mBegin3 w) a := fun a h => by rw [eb, wIf_ne h]
  have g1 : ∀ a, a ≠ 163 → a ≠ 164 → a ≠ 165 → a ≠ 166 → a ≠ 167 → a ≠ 168 → wI (mBegin1 w) a = wI w a := by
    intro a h1 h2 h3 h4 h5 h6
    exact itI_ind (f := mB1) (fun _ r => wI r a = wI w a) 64 rfl (fun i r _ _ hr => by unfold mB1; rw [wIf_ne h6, wIf_ne h5, wIf_ne h4, wIf_ne h3, wIf_ne h2, wIf_ne h1]; exact hr) 64 (by decide) (Int.le_refl _)
  have g2 : ∀ a, a ≠ 169 → wI (mBegin2 w) a = wI (mBegin1 w) a := a2.2
  have g3 : ∀ a, a ≠ 160 → a ≠ 161 → a ≠ 162 → wI (mBegin3 w) a = wI (mBegin2 w) a := a3.2
  have r1 : itI mB1 w 64 = mBegin1 w := rfl
  have r2 : itI mB2 (mBegin1 w) 32 = mBegin2 w := rfl
  rw [r1] at a1
  rw [r2] at a2
  refine ⟨fun i i0 i1 => by rw [f _ (by decide), f _ (by decide), f _ (by decide)]; exact a3.1 i i0 i1, fun i i0 i1 => ?_, fun i i0 i1 => ?_, fun a i ha hi => ?_, fun i hi => ?_, fun a h4 h => ?_, fun i hi => ?_, ?_, fun h => k3.2 (k2.2 (k1.2 h))⟩
  · rw [f _ (by decide), f _ (by decide), f _ (by decide), f _ (by decide), f _ (by decide), f _ (by decide), g3 _ (by decide) (by decide) (by decide), g3 _ (by decide) (by decide) (by decide), g3 _ (by decide) (by decide) (by decide), g3 _ (by decide) (by decide) (by decide), g3 _ (by decide) (by decide) (by decide), g3 _ (by decide) (by decide) (by decide), g2 _ (by decide), g2 _ (by decide), g2 _ (by decide), g2 _ (by decide), g2 _ (by decide), g2 _ (by decide)]
    have := (a1 i).1 ⟨i0, i1⟩
    exact ⟨this.2.1, this.2.2.1, this.2.2.2.1, this.2.2.2.2.1, this.2.2.2.2.2, this.1⟩
  · rw [f _ (by decide), g3 _ (by decide) (by decide) (by decide)]
    exact (a2.1 i).1 ⟨i0, i1⟩
  · have := (a1 i).2.1 hi
    rcases ha with rfl | rfl | rfl | rfl
    · rw [f _ (by decide), g3 _ (by decide) (by decide) (by decide), g2 _ (by decide)]; exact this.1
    · rw [f _ (by decide), g3 _ (by decide) (by decide) (by decide), g2 _ (by decide)]; exact this.2.1
    · rw [f _ (by decide), g3 _ (by decide) (by decide) (by decide), g2 _ (by decide)]; exact this.2.2.1
    · rw [f _ (by decide), g3 _ (by decide) (by decide) (by decide), g2 _ (by decide)]; exact this.2.2.2.1
  · rw [f _ (by decide), g3 _ (by decide) (by decide) (by decide), (a2.1 i).2 hi]
    exact (a1 i).2.2
  · rw [f _ h4, g3 _ (by omega) (by omega) (by omega), g2 _ (by omega), g1 _ (by omega) (by omega) (by omega) (by omega) (by omega) (by omega)]
  · rw [eb, wI_wsI]
    rw [if_neg (by omega), g3 _ (by decide) (by decide) (by decide), g2 _ (by decide), g1 _ (by decide) (by decide) (by decide) (by decide) (by decide) (by decide)]
  · rw [eb, wI_wsI, if_pos ⟨rfl, rfl⟩]
theorem mCpA_in (a b : Nat) (hab : a ≠ b) (w : sm_W) (n : Int) (hn : 0 ≤ n) : (∀ i, (0 ≤ i ∧ i < n → wI (itI (mCpA a b) w n) b i = wI w a i) ∧ (¬ (0 ≤ i ∧ i < n) → wI (itI (mCpA a b) w n) b i = wI w b i)) ∧ (∀ c, c ≠ b → wI (itI (mCpA a b) w n) c = wI w c) ∧ (sT w → sT (itI (mCpA a b) w n)) := by
  refine itI_ind (f := mCpA a b) (fun k r => (∀ i, (0 ≤ i ∧ i < k → wI r b i = wI w a i) ∧ (¬ (0 ≤ i ∧ i < k) → wI r b i = wI w b i)) ∧ (∀ c, c ≠ b → wI r c = wI w c) ∧ (sT w → sT r)) n ⟨fun i => ⟨fun h => by omega, fun _ => rfl⟩, fun _ _ => rfl, id⟩ (fun k r k0 k1 hr => ?_) n hn (Int.le_refl _)
  refine ⟨fun i => ?_, fun c h => by unfold mCpA; rw [wIf_ne h]; exact hr.2.1 c h, hr.2.2⟩
  simp only [mCpA, wI_wsI, true_and]
  have := hr.1 i
  by_cases c : i = k
  · rw [if_pos c, hr.2.1 a hab, c]; exact ⟨fun _ => rfl, fun h => by omega⟩
  · rw [if_neg c]; exact ⟨fun h => this.1 (by omega), fun h => this.2 (by omega)⟩
