/-! WHAT A LINE HOLDS, as 57 numbers; loops -/
def vOK (v : Int → Int) : Prop := (0 ≤ v 0 ∧ v 0 ≤ 2) ∧ (0 ≤ v 1 ∧ v 1 ≤ 8) ∧ (∀ k, 0 ≤ k → k < 8 → 1 ≤ v (2 + k) ∧ v (2 + k) ≤ 4) ∧ (∀ k, 0 ≤ k → k < 7 → 1 ≤ v (10 + k) ∧ v (10 + k) ≤ 30) ∧
  ∀ x, 0 ≤ x → x < v 1 → (0 ≤ v (17 + 5 * x) ∧ v (17 + 5 * x) < 8) ∧ (0 ≤ v (17 + 5 * x + 1) ∧ v (17 + 5 * x + 1) < 8) ∧ v (17 + 5 * x) ≠ v (17 + 5 * x + 1) ∧ (0 ≤ v (17 + 5 * x + 2) ∧ v (17 + 5 * x + 2) ≤ 300) ∧ (0 ≤ v (17 + 5 * x + 3) ∧ v (17 + 5 * x + 3) ≤ 20) ∧ (0 ≤ v (17 + 5 * x + 4) ∧ v (17 + 5 * x + 4) ≤ 9)
theorem vOK_many {v : Int → Int} (h : vOK v) : 0 ≤ v 1 ∧ v 1 ≤ 8 := h.2.1
theorem vOK_first {v : Int → Int} (h : vOK v) : 0 ≤ v 0 ∧ v 0 ≤ 2 := h.1
theorem vOK_tr {v : Int → Int} (h : vOK v) {k : Int} (h0 : 0 ≤ k) (h1 : k < 8) : 1 ≤ v (2 + k) ∧ v (2 + k) ≤ 4 := h.2.2.1 k h0 h1
theorem vOK_ru {v : Int → Int} (h : vOK v) {k : Int} (h0 : 0 ≤ k) (h1 : k < 7) : 1 ≤ v (10 + k) ∧ v (10 + k) ≤ 30 := h.2.2.2.1 k h0 h1
theorem vOK_sh {v : Int → Int} (h : vOK v) {x : Int} (h0 : 0 ≤ x) (h1 : x < v 1) : (0 ≤ v (17 + 5 * x) ∧ v (17 + 5 * x) < 8) ∧ (0 ≤ v (17 + 5 * x + 1) ∧ v (17 + 5 * x + 1) < 8) ∧ v (17 + 5 * x) ≠ v (17 + 5 * x + 1) ∧ (0 ≤ v (17 + 5 * x + 2) ∧ v (17 + 5 * x + 2) ≤ 300) ∧ (0 ≤ v (17 + 5 * x + 3) ∧ v (17 + 5 * x + 3) ≤ 20) ∧ (0 ≤ v (17 + 5 * x + 4) ∧ v (17 + 5 * x + 4) ≤ 9) := h.2.2.2.2 x h0 h1
/-- a loop with a counter that goes up -/
theorem sm_loop (Z : Nat → sm_K) (h : Nat) (N : Nat) (ls : Nat → List (Option sm_V)) (w : Nat → sm_W) (k q : Nat) (step : ∀ i, i ≤ N → (i < N → Z h (ls (i + 1)) [] (w (i + 1)) k q) → Z h (ls i) [] (w i) k q) : Z h (ls 0) [] (w 0) k q := by
  have key : ∀ j, j ≤ N → Z h (ls (N - j)) [] (w (N - j)) k q := by
    intro j
    induction j with
    | zero => exact fun _ => step N (Nat.le_refl _) (fun hlt => absurd hlt (Nat.lt_irrefl _))
    | succ j ih =>
      intro hj
      refine step (N - (j + 1)) (by omega) (fun _ => ?_)
      have := ih (by omega)
      rw [show N - (j + 1) + 1 = N - j by omega]
      exact this
  have := key N (Nat.le_refl _)
  rw [Nat.sub_self] at this
  exact this
/-- a loop with a measure that falls -/
theorem sm_loopM {S : Type} (Z : Nat → sm_K) (h : Nat) (μ : S → Nat) (I : S → Prop) (ls : S → List (Option sm_V)) (w : S → sm_W) (k q : Nat) (step : ∀ s, I s → (∀ s', I s' → μ s' < μ s → Z h (ls s') [] (w s') k q) → Z h (ls s) [] (w s) k q) : ∀ s, I s → Z h (ls s) [] (w s) k q := by
  have key : ∀ n s, μ s < n → I s → Z h (ls s) [] (w s) k q := by
    intro n
    induction n with
    | zero => exact fun s hs _ => absurd hs (Nat.not_lt_zero _)
    | succ n ih => exact fun s hs hi => step s hi (fun s' hi' hlt => ih s' (by omega) hi')
  exact fun s hi => key (μ s + 1) s (Nat.lt_succ_self _) hi
/-- f 0, f 1 .. up to n -/
def itI {α : Type} (f : Int → α → α) (a : α) (n : Int) : α := Nat.rec a (fun k r => f k r) n.toNat
theorem itI_0 {α : Type} (f : Int → α → α) (a : α) : itI f a 0 = a := rfl
theorem itI_s {α : Type} (f : Int → α → α) (a : α) {i : Int} (h : 0 ≤ i) : itI f a (i + 1) = f i (itI f a i) := by
  obtain ⟨n, rfl⟩ : ∃ n : Nat, i = n := ⟨i.toNat, by omega⟩
  show Nat.rec a (fun (k : Nat) r => f k r) ((n : Int) + 1).toNat = f n (Nat.rec a (fun (k : Nat) r => f k r) ((n : Int)).toNat)
  rw [show ((n : Int) + 1).toNat = n + 1 by omega, Int.toNat_natCast]
theorem itI_ind {α : Type} {f : Int → α → α} {a : α} (P : Int → α → Prop) (n : Int) (h0 : P 0 a) (hs : ∀ i r, 0 ≤ i → i < n → P i r → P (i + 1) (f i r)) : ∀ i, 0 ≤ i → i ≤ n → P i (itI f a i) := by
  have key : ∀ k : Nat, (k : Int) ≤ n → P k (itI f a k) := by
    intro k
    induction k with
    | zero => exact fun _ => h0
    | succ k ih =>
      intro hk
      have h1 := hs k _ (by omega) (by omega) (ih (by omega))
      rw [← itI_s f a (by omega)] at h1
      exact h1
  intro i hi hn
  have := key i.toNat (by omega)
  rw [Int.toNat_of_nonneg hi] at this
  exact this
theorem sm_loopI (Z : Nat → sm_K) (h : Nat) (a N : Int) (ls : Int → List (Option sm_V)) (w : Int → sm_W) (k q : Nat) (hN : a ≤ N) (step : ∀ i, a ≤ i → i ≤ N → (i < N → Z h (ls (i + 1)) [] (w (i + 1)) k q) → Z h (ls i) [] (w i) k q) : Z h (ls a) [] (w a) k q := by
  have key : ∀ j : Nat, (j : Int) ≤ N - a → Z h (ls (N - j)) [] (w (N - j)) k q := by
    intro j
    induction j with
    | zero =>
      intro _
      have := step N hN (Int.le_refl _) (fun hlt => absurd hlt (Int.lt_irrefl _))
      rw [show N - ((0 : Nat) : Int) = N by omega]
      exact this
    | succ j ih =>
      intro hj
      refine step (N - ((j + 1 : Nat) : Int)) (by omega) (by omega) (fun _ => ?_)
      have := ih (by omega)
      rw [show N - ((j + 1 : Nat) : Int) + 1 = N - j by omega]
      exact this
  have := key (N - a).toNat (by omega)
  rw [show N - (((N - a).toNat : Nat) : Int) = a by omega] at this
  exact this
theorem sT_iff {w : sm_W} {a : Nat} {i v : Int} : sT (wsI w a i v) ↔ sT w := Iff.rfl
theorem sT_iffC {w : sm_W} {a b : Nat} {n : Int} : sT (wCp w a b n) ↔ sT w := Iff.rfl
theorem wIf_ne {w : sm_W} {a : Nat} {i v : Int} {x : Nat} (h : ¬ x = a) : wI (wsI w a i v) x = wI w x := funext fun j => wI_wsI_ne h j
theorem itI_abs {α : Type} {f : Int → α → α} {a r0 : α} (h : ∀ k, 0 ≤ k → f k r0 = r0) {i n : Int} (h0 : 0 ≤ i) (hn : i ≤ n) (hi : itI f a i = r0) : itI f a n = r0 := by
  have key : ∀ k : Nat, itI f a (i + k) = r0 := by
    intro k
    induction k with
    | zero => rw [show i + ((0 : Nat) : Int) = i by omega]; exact hi
    | succ k ih =>
      rw [show i + ((k + 1 : Nat) : Int) = (i + k) + 1 by omega, itI_s f a (by omega), ih]
      exact h _ (by omega)
  have := key (n - i).toNat
  rw [show i + (((n - i).toNat : Nat) : Int) = n by omega] at this
  exact this
/-- how many x below n are so -/
def cntP (p : Int → Bool) (n : Int) : Int := itI (fun x r => if p x = true then r + 1 else r) 0 n
theorem cntP_le (p : Int → Bool) (n : Int) (hn : 0 ≤ n) : 0 ≤ cntP p n ∧ cntP p n ≤ n := by
  refine itI_ind (fun i r => 0 ≤ r ∧ r ≤ i) n ⟨Int.le_refl _, Int.le_refl _⟩ (fun i r h0 h1 h => ?_) n hn (Int.le_refl _)
  split <;> omega
theorem cntP_upd {p q : Int → Bool} {x : Int} (hp : p x = true) (hq : q x = false) (he : ∀ y, y ≠ x → q y = p y) (h0 : 0 ≤ x) : ∀ n : Nat, (x < n → cntP q n + 1 = cntP p n) ∧ ((n : Int) ≤ x → cntP q n = cntP p n) := by
  intro n
  induction n with
  | zero => exact ⟨fun h => absurd h (by omega), fun _ => rfl⟩
  | succ n ih =>
    have e : ((n + 1 : Nat) : Int) = (n : Int) + 1 := by omega
    have s1 : cntP q ((n : Int) + 1) = if q n = true then cntP q n + 1 else cntP q n := itI_s _ _ (by omega)
    have s2 : cntP p ((n : Int) + 1) = if p n = true then cntP p n + 1 else cntP p n := itI_s _ _ (by omega)
    rw [e, s1, s2]
    by_cases hx : (n : Int) = x
    · subst hx
      have h2 := ih.2 (Int.le_refl _)
      rw [hp, hq, h2]
      constructor
      · intro _; rfl
      · intro h; omega
    · rw [he n hx]
      constructor
      · intro h
        have := ih.1 (by omega)
        split <;> omega
      · intro h
        have := ih.2 (by omega)
        split <;> omega
