/-! ORDERS: the next order, and the orders as numbers, both on lists -/
def pAt (q : List Nat) : Nat → Nat
  | 0 => 0
  | k + 1 => if q.getD (k + 1) 0 < q.getD k 0 then pAt q k else k + 1
def pGr (q : List Nat) (a : Nat) : Nat → Nat
  | 0 => a
  | m + 1 => if q.getD (a + (m + 1)) 0 < q.getD a 0 then pGr q a m else a + (m + 1)
def pSw (q : List Nat) (i j : Nat) : List Nat := (q.set i (q.getD j 0)).set j (q.getD i 0)
def pRv : Nat → List Nat → Nat → Nat → List Nat
  | 0, q, _, _ => q
  | k + 1, q, lo, hi => if lo < hi then pRv k (pSw q lo hi) (lo + 1) (hi - 1) else q
def pNx (q : List Nat) (n : Nat) : List Nat := if pAt q (n - 1) = 0 then q else pRv 5 (pSw q (pAt q (n - 1) - 1) (pGr q (pAt q (n - 1) - 1) (n - pAt q (n - 1)))) (pAt q (n - 1)) (n - 1)
def pB (q : List Nat) (n : Nat) : Nat := if pAt q (n - 1) = 0 then 0 else 1
def pLp : Nat → Nat → List Nat → Nat → List (List Nat)
  | 0, _, _, _ => []
  | k + 1, n, q, m => if m = 0 then [] else q :: pLp k n (pNx q n) (pB q n)
def pLo (n num : Nat) : Nat → Nat × List Nat × Nat
  | 0 => (num, [], 1)
  | j + 1 => ((pLo n num j).1 / n, ((pLo n num j).1 % n) :: (pLo n num j).2.1, if ((pLo n num j).1 % n) ∈ (pLo n num j).2.1 then 0 else (pLo n num j).2.2)
def pNm (n num : Nat) : Option (List Nat) := if (pLo n num n).2.2 = 0 then none else some (pLo n num n).2.1
def pAll (n N : Nat) : List (List Nat) := (List.range N).filterMap (pNm n)
def pOk (n : Nat) (q : List Nat) : Bool := decide (q.length = n) && (List.range n).all (fun x => decide (q.getD x 0 < n) && (List.range n).all (fun y => decide (q.getD x 0 = q.getD y 0 → x = y)) && (List.range n).any (fun p => decide (q.getD p 0 = x)))
set_option maxRecDepth 100000 in
theorem pEq : ∀ n, n < 6 → pLp 120 n (List.range n) 1 = pAll n (n ^ n) := by decide +kernel
set_option maxRecDepth 100000 in
theorem pOks : ∀ n, n < 6 → ∀ q ∈ pAll n (n ^ n), pOk n q = true := by decide +kernel
/-- the order in the class's row 82 -/
def zE (n : Nat) (w : sm_W) (q : List Nat) : Prop := q.length = n ∧ ∀ p : Nat, p < n → wI w 82 (p : Int) = (q.getD p 0 : Nat)
theorem zE_at {n : Nat} {w : sm_W} {q : List Nat} (h : zE n w q) : ∀ k : Nat, k + 1 ≤ n ∨ k = 0 → zAt w k = (pAt q k : Int) - 1 := by
  intro k
  induction k with
  | zero => intro _; rfl
  | succ k ih =>
    intro hk
    have a := h.2 (k + 1) (by omega)
    have b := h.2 k (by omega)
    rw [zAt_s, show (k : Int) + 1 = ((k + 1 : Nat) : Int) by omega, a, b, ih (by omega)]
    unfold pAt
    by_cases c : q.getD (k + 1) 0 < q.getD k 0
    · rw [if_pos c, if_pos (by omega)]
      cases k <;> rfl
    · rw [if_neg c, if_neg (by omega)]
      omega
theorem zE_gr {n : Nat} {w : sm_W} {q : List Nat} (h : zE n w q) (a : Nat) : ∀ m : Nat, a + m < n → zGr w a m = (pGr q a m : Nat) := by
  intro m
  induction m with
  | zero => intro _; rfl
  | succ m ih =>
    intro hm
    have x := h.2 (a + (m + 1)) (by omega)
    have y := h.2 a (by omega)
    rw [zGr_s, show (a : Int) + ((m + 1 : Nat) : Int) = ((a + (m + 1) : Nat) : Int) by omega, x, y, ih (by omega)]
    unfold pGr
    by_cases c : q.getD (a + (m + 1)) 0 < q.getD a 0
    · rw [if_pos c, if_pos (by omega)]
      cases m <;> rfl
    · rw [if_neg c, if_neg (by omega)]
theorem getD_set {q : List Nat} {i v p : Nat} : (q.set i v).getD p 0 = if i = p ∧ p < q.length then v else q.getD p 0 := by
  rw [List.getD_eq_getElem?_getD, List.getElem?_set, List.getD_eq_getElem?_getD]
  by_cases c : i = p
  · subst c
    by_cases c2 : i < q.length
    · rw [if_pos rfl, if_pos c2, if_pos ⟨rfl, c2⟩]; rfl
    · rw [if_pos rfl, if_neg c2, if_neg (fun e => c2 e.2), List.getElem?_eq_none (by omega)]
  · rw [if_neg c, if_neg (fun e => c e.1)]
theorem zE_sw {n : Nat} {w : sm_W} {q : List Nat} (h : zE n w q) {i j : Nat} (hi : i < n) (hj : j < n) : zE n (zSw w i j) (pSw q i j) := by
  refine ⟨by unfold pSw; rw [List.length_set, List.length_set]; exact h.1, fun p hp => ?_⟩
  have a := h.2 i hi
  have b := h.2 j hj
  unfold zSw pSw
  rw [wI_wsI, wI_wsI, getD_set, getD_set, List.length_set, h.1, a, b]
  by_cases c : j = p
  · rw [if_pos (show (82 : Nat) = 82 ∧ (p : Int) = (j : Int) from ⟨rfl, by omega⟩), if_pos (show j = p ∧ p < n from ⟨c, hp⟩)]
  · rw [if_neg (show ¬ ((82 : Nat) = 82 ∧ (p : Int) = (j : Int)) by omega), if_neg (show ¬ (j = p ∧ p < n) from fun e => c e.1)]
    by_cases c2 : i = p
    · rw [if_pos (show (82 : Nat) = 82 ∧ (p : Int) = (i : Int) from ⟨rfl, by omega⟩), if_pos (show i = p ∧ p < n from ⟨c2, hp⟩)]
    · rw [if_neg (show ¬ ((82 : Nat) = 82 ∧ (p : Int) = (i : Int)) by omega), if_neg (show ¬ (i = p ∧ p < n) from fun e => c2 e.1)]
      exact h.2 p hp
theorem zE_rv {n : Nat} : ∀ (k : Nat) (w : sm_W) (q : List Nat) (lo hi : Nat), zE n w q → hi < n → zE n (zRv k w lo hi) (pRv k q lo hi)
  | 0, _, _, _, _, h, _ => h
  | k + 1, w, q, lo, hi, h, hh => by
    rw [zRv_s]
    show zE n _ (if lo < hi then pRv k (pSw q lo hi) (lo + 1) (hi - 1) else q)
    by_cases c : lo < hi
    · rw [if_pos c, if_pos (by omega), show (lo : Int) + 1 = ((lo + 1 : Nat) : Int) by omega, show (hi : Int) - 1 = ((hi - 1 : Nat) : Int) by omega]
      exact zE_rv k _ _ _ _ (zE_sw h (by omega) hh) (by omega)
    · rw [if_neg c, if_neg (by omega)]
      exact h
theorem pAt_b (q : List Nat) : ∀ k, pAt q k ≤ k
  | 0 => Nat.le_refl _
  | k + 1 => by
    have := pAt_b q k
    unfold pAt
    split
    · cases k <;> omega
    · omega
theorem pGr_b (q : List Nat) (a : Nat) : ∀ m, pGr q a m ≤ a + m
  | 0 => Nat.le_refl _
  | m + 1 => by
    have := pGr_b q a m
    unfold pGr
    split
    · cases m <;> omega
    · omega
theorem zE_nx {n : Nat} {w : sm_W} {q : List Nat} (h : zE n w q) : zE n (zNxW w n) (pNx q n) ∧ zNxB w n = (pB q n : Nat) := by
  have hA : zNxA w n = (pAt q (n - 1) : Int) - 1 := by
    unfold zNxA
    rw [show ((n : Int) - 1).toNat = n - 1 by omega]
    exact zE_at h (n - 1) (by omega)
  have hb := pAt_b q (n - 1)
  unfold zNxW zNxB pNx pB zNxG
  rw [hA]
  generalize pAt q (n - 1) = A at *
  by_cases c : A = 0
  · rw [if_pos c, if_pos c, if_pos (by omega), if_pos (by omega)]
    exact ⟨h, rfl⟩
  · rw [if_neg c, if_neg c, if_neg (by omega), if_neg (by omega)]
    refine ⟨?_, rfl⟩
    have hg := zE_gr h (A - 1) (n - A) (by omega)
    have gb := pGr_b q (A - 1) (n - A)
    rw [show (A : Int) - 1 = ((A - 1 : Nat) : Int) by omega, show ((n : Int) - 1 - ((A - 1 : Nat) : Int)).toNat = n - A by omega, hg, show ((A - 1 : Nat) : Int) + 1 = ((A : Nat) : Int) by omega, show (n : Int) - 1 = ((n - 1 : Nat) : Int) by omega]
    exact zE_rv 5 _ _ _ _ (zE_sw h (by omega) (by omega)) (by omega)
/-- the order in the reference's row 171 -/
def yE (n : Nat) (f : Int → Int) (q : List Nat) : Prop := q.length = n ∧ ∀ p : Nat, p < n → f (p : Int) = (q.getD p 0 : Nat)
theorem mDf_in {w : sm_W} {n j : Nat} {l : List Nat} {c : Nat} (hj : j + 1 ≤ n) (hl : l.length = j) (hw : ∀ p : Nat, p < j → wI w 171 ((n - j + p : Nat) : Int) = (l.getD p 0 : Nat)) (hc : wI w 171 ((n - 1 - j : Nat) : Int) = c) {d : Int} : ∀ m : Nat, m ≤ j → mDf w ((n - 1 - j : Nat) : Int) d m = if c ∈ l.take m then 0 else d := by
  intro m
  induction m with
  | zero => intro _; rw [List.take_zero, if_neg List.not_mem_nil]; rfl
  | succ m ih =>
    intro hm
    have e : mDf w ((n - 1 - j : Nat) : Int) d ((m : Int) + 1) = mDf1 w ((n - 1 - j : Nat) : Int) (((n - 1 - j : Nat) : Int) + 1 + m) (mDf w ((n - 1 - j : Nat) : Int) d m) := itI_s _ _ (by omega)
    have h1 := hw m (by omega)
    rw [show ((m + 1 : Nat) : Int) = (m : Int) + 1 by omega, e, ih (by omega)]
    unfold mDf1
    rw [show ((n - 1 - j : Nat) : Int) + 1 + m = ((n - j + m : Nat) : Int) by omega, h1, hc]
    have h2 : l.getD m 0 = l[m]'(by omega) := by rw [List.getD_eq_getElem?_getD, List.getElem?_eq_getElem (by omega)]; rfl
    rw [List.take_add_one, List.getElem?_eq_getElem (show m < l.length by omega), h2]
    simp only [Option.toList_some, List.mem_append, List.mem_singleton]
    by_cases a1 : c ∈ l.take m
    · rw [if_pos a1, if_pos (Or.inl a1)]
      split <;> rfl
    · rw [if_neg a1]
      by_cases a2 : c = l[m]'(by omega)
      · rw [if_pos (by omega), if_pos (Or.inr a2)]
      · rw [if_neg (by omega), if_neg (fun e => e.elim a1 a2)]
theorem mLo_p {w : sm_W} {n num : Nat} : ∀ j : Nat, j ≤ n → (pLo n num j).2.1.length = j ∧ (mLo w n num j).2.1 = ((pLo n num j).1 : Nat) ∧ (mLo w n num j).2.2 = ((pLo n num j).2.2 : Nat) ∧ ∀ p : Nat, p < j → wI (mLo w n num j).1 171 ((n - j + p : Nat) : Int) = ((pLo n num j).2.1.getD p 0 : Nat) := by
  intro j
  induction j with
  | zero => intro _; exact ⟨rfl, rfl, rfl, fun p hp => absurd hp (Nat.not_lt_zero p)⟩
  | succ j ih =>
    intro hj
    obtain ⟨i1, i2, i3, i4⟩ := ih (by omega)
    have e : mLo w n num ((j : Int) + 1) = mLo1 n j (mLo w n num j) := itI_s _ _ (by omega)
    have ep : pLo n num (j + 1) = ((pLo n num j).1 / n, ((pLo n num j).1 % n) :: (pLo n num j).2.1, if ((pLo n num j).1 % n) ∈ (pLo n num j).2.1 then 0 else (pLo n num j).2.2) := rfl
    rw [show ((j + 1 : Nat) : Int) = (j : Int) + 1 by omega, e, ep]
    generalize pLo n num j = P at *
    generalize mLo w n num j = M at *
    obtain ⟨r, l, f⟩ := P
    obtain ⟨u, g, d⟩ := M
    dsimp only at *
    unfold mLo1
    dsimp only
    rw [i2, show (n : Int) - 1 - (j : Int) = ((n - 1 - j : Nat) : Int) by omega, show ((r : Nat) : Int) % (n : Int) = ((r % n : Nat) : Int) by omega, show ((r : Nat) : Int) / (n : Int) = ((r / n : Nat) : Int) by omega]
    have hw : ∀ p : Nat, p < j → wI (wsI u 171 ((n - 1 - j : Nat) : Int) ((r % n : Nat) : Int)) 171 ((n - j + p : Nat) : Int) = (l.getD p 0 : Nat) := fun p hp => by
      rw [wI_wsI, if_neg (by omega)]
      exact i4 p hp
    have hc : wI (wsI u 171 ((n - 1 - j : Nat) : Int) ((r % n : Nat) : Int)) 171 ((n - 1 - j : Nat) : Int) = ((r % n : Nat) : Int) := by
      rw [wI_wsI, if_pos ⟨rfl, rfl⟩]
    refine ⟨by rw [List.length_cons, i1], rfl, ?_, fun p hp => ?_⟩
    · have := mDf_in (d := d) (by omega) i1 hw hc j (Nat.le_refl _)
      rw [show (n : Int) - (((n - 1 - j : Nat) : Int) + 1) = (j : Int) by omega, this, i3, List.take_of_length_le (by omega)]
      split <;> rfl
    · cases p with
      | zero =>
        rw [show n - (j + 1) + 0 = n - 1 - j by omega, hc]
        rfl
      | succ p =>
        rw [show n - (j + 1) + (p + 1) = n - j + p by omega]
        exact hw p (by omega)
theorem mLo_q {w : sm_W} {n num : Nat} : ((pNm n num = none ∧ (mLo w n num n).2.2 = 0) ∨ ∃ q, pNm n num = some q ∧ (mLo w n num n).2.2 ≠ 0 ∧ yE n (wI (mLo w n num n).1 171) q) := by
  obtain ⟨i1, i2, i3, i4⟩ := mLo_p (w := w) (num := num) n (Nat.le_refl n)
  unfold pNm
  by_cases c : (pLo n num n).2.2 = 0
  · rw [if_pos c]
    exact Or.inl ⟨rfl, by rw [i3, c]; rfl⟩
  · rw [if_neg c]
    refine Or.inr ⟨_, rfl, by rw [i3]; omega, i1, fun p hp => ?_⟩
    have := i4 p hp
    rw [show n - n + p = p by omega] at this
    exact this
theorem mOrds_p : ∀ n : Nat, n < 6 → mOrds n n = ((n ^ n : Nat) : Int) := by decide
theorem pAll_s (n N : Nat) : pAll n (N + 1) = pAll n N ++ (match pNm n N with | none => [] | some q => [q]) := by
  unfold pAll
  rw [List.range_succ, List.filterMap_append]
  congr 1
  cases h : pNm n N <;> simp [h]
