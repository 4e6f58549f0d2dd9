/-! THE START: the world behind both constructors, read off the list of makings -/
def iwN : List iOp → Nat → Nat
  | [], n => n
  | o :: l, n => match o.1 with
    | 0 => iwN l (n + 1)
    | 1 => iwN l n
    | 2 => iwN l n
    | _ => iwN l (n + 1 + o.2.2.2)
def iwS : List iOp → Nat → Nat → Option (Nat × Nat) → Option (Nat × Nat)
  | [], _, _, r => r
  | o :: l, n, x, r => match o.1 with
    | 0 => iwS l (n + 1) x (if x = n then some (o.2.1, o.2.2.2) else r)
    | 1 => iwS l n x r
    | 2 => iwS l n x r
    | _ => iwS l (n + 1 + o.2.2.2) x (if x = n then some (13, o.2.2.2) else if n < x ∧ x < n + 1 + o.2.2.2 then some (9, 8) else r)
def iwR : List iOp → Nat → Nat → Int → Option Nat → Option Nat
  | [], _, _, _, r => r
  | o :: l, n, x, j, r => match o.1 with
    | 0 => iwR l (n + 1) x j (if x = n then none else r)
    | 1 => iwR l n x j (if x = o.2.1 ∧ j = o.2.2.1 then some o.2.2.2 else r)
    | 2 => iwR l n x j r
    | _ => iwR l (n + 1 + o.2.2.2) x j (if x = n then (if 0 ≤ j ∧ j < (o.2.2.2 : Int) then some (n + 1 + j.toNat) else none) else if n < x ∧ x < n + 1 + o.2.2.2 then none else r)
/-- the fills of a row since it was made; none: not made -/
def iwI : List iOp → Nat → Nat → Option (List (Int × Nat)) → Option (List (Int × Nat))
  | [], _, _, r => r
  | o :: l, n, x, r => match o.1 with
    | 0 => iwI l (n + 1) x (if x = n then some [] else r)
    | 1 => iwI l n x r
    | 2 => iwI l n x (if x = o.2.1 then r.map (fun q => (o.2.2.1, o.2.2.2) :: q) else r)
    | _ => iwI l (n + 1 + o.2.2.2) x (if n ≤ x ∧ x < n + 1 + o.2.2.2 then some [] else r)
def ivF : List (Int × Nat) → Int → Int
  | [], _ => 0
  | q :: r, j => if 0 ≤ j ∧ j < (q.2 : Int) then q.1 else ivF r j
theorem iwN_ok : ∀ (ops : List iOp) (w : sm_W), (iW ops w).1 = iwN ops w.1
  | [], _ => rfl
  | (0, a, i, n) :: l, w => by
    show (iW l (wNw w a n)).1 = iwN l (w.1 + 1)
    rw [iwN_ok l, wNw_n]
  | (1, a, i, n) :: l, w => by
    show (iW l (wsR w a i n)).1 = iwN l w.1
    rw [iwN_ok l, wsR_n]
  | (2, a, i, n) :: l, w => by
    show (iW l (fiW a i (n : Int) w)).1 = iwN l w.1
    rw [iwN_ok l, fiW_n]
  | (t + 3, a, i, n) :: l, w => by
    show (iW l (wNw2 w n 8)).1 = iwN l (w.1 + 1 + n)
    rw [iwN_ok l, wNw2_n]
theorem iwS_ok : ∀ (ops : List iOp) (w : sm_W) (x : Nat) (d : Nat × Nat) (r : Option (Nat × Nat)), wS w x = r.getD d → wS (iW ops w) x = (iwS ops w.1 x r).getD d
  | [], _, _, _, _, h => h
  | (0, a, i, n) :: l, w, x, d, r, h => by
    show wS (iW l (wNw w a n)) x = (iwS l (w.1 + 1) x (if x = w.1 then some (a, n) else r)).getD d
    rw [iwS_ok l _ x d (if x = w.1 then some (a, n) else r) (by rw [wS_wNw]; split <;> first | rfl | exact h), wNw_n]
  | (1, a, i, n) :: l, w, x, d, r, h => by
    show wS (iW l (wsR w a i n)) x = (iwS l w.1 x r).getD d
    exact iwS_ok l (wsR w a i n) x d r h
  | (2, a, i, n) :: l, w, x, d, r, h => by
    show wS (iW l (fiW a i (n : Int) w)) x = (iwS l w.1 x r).getD d
    rw [iwS_ok l _ x d r (by rw [fiW_S]; exact h), fiW_n]
  | (t + 3, a, i, n) :: l, w, x, d, r, h => by
    show wS (iW l (wNw2 w n 8)) x = (iwS l (w.1 + 1 + n) x (if x = w.1 then some (13, n) else if w.1 < x ∧ x < w.1 + 1 + n then some (9, 8) else r)).getD d
    rw [iwS_ok l _ x d (if x = w.1 then some (13, n) else if w.1 < x ∧ x < w.1 + 1 + n then some (9, 8) else r) (by
      rw [wS_wNw2]
      split
      · rfl
      · split
        · rfl
        · exact h), wNw2_n]
theorem iwR_ok : ∀ (ops : List iOp) (w : sm_W) (x : Nat) (j : Int) (r : Option Nat), wR w x j = r → wR (iW ops w) x j = iwR ops w.1 x j r
  | [], _, _, _, _, h => h
  | (0, a, i, n) :: l, w, x, j, r, h => by
    show wR (iW l (wNw w a n)) x j = iwR l (w.1 + 1) x j (if x = w.1 then none else r)
    rw [iwR_ok l _ x j (if x = w.1 then none else r) (by rw [wR_wNw, h]), wNw_n]
  | (1, a, i, n) :: l, w, x, j, r, h => by
    show wR (iW l (wsR w a i n)) x j = iwR l w.1 x j (if x = a ∧ j = i then some n else r)
    rw [iwR_ok l _ x j (if x = a ∧ j = i then some n else r) (by rw [wR_wsR, h]), wsR_n]
  | (2, a, i, n) :: l, w, x, j, r, h => by
    show wR (iW l (fiW a i (n : Int) w)) x j = iwR l w.1 x j r
    rw [iwR_ok l _ x j r (by rw [fiW_R]; exact h), fiW_n]
  | (t + 3, a, i, n) :: l, w, x, j, r, h => by
    show wR (iW l (wNw2 w n 8)) x j = iwR l (w.1 + 1 + n) x j (if x = w.1 then (if 0 ≤ j ∧ j < (n : Int) then some (w.1 + 1 + j.toNat) else none) else if w.1 < x ∧ x < w.1 + 1 + n then none else r)
    rw [iwR_ok l _ x j (if x = w.1 then (if 0 ≤ j ∧ j < (n : Int) then some (w.1 + 1 + j.toNat) else none) else if w.1 < x ∧ x < w.1 + 1 + n then none else r) (by rw [wR_wNw2, h]), wNw2_n]
def iwV (r : Option (List (Int × Nat))) (d : Int → Int) (j : Int) : Int := match r with
  | none => d j
  | some q => ivF q j
theorem iwI_ok : ∀ (ops : List iOp) (w : sm_W) (x : Nat) (d : Int → Int) (r : Option (List (Int × Nat))), (r = none → ∀ o ∈ ops, ¬ (o.1 = 2 ∧ o.2.1 = x)) → (∀ j, wI w x j = iwV r d j) → ∀ j, wI (iW ops w) x j = iwV (iwI ops w.1 x r) d j
  | [], _, _, _, _, _, h => h
  | (0, a, i, n) :: l, w, x, d, r, hr, h => by
    intro j
    have hr' : r = none → ∀ o ∈ l, ¬ (o.1 = 2 ∧ o.2.1 = x) := fun e o ho => hr e o (List.mem_cons_of_mem _ ho)
    show wI (iW l (wNw w a n)) x j = iwV (iwI l (w.1 + 1) x (if x = w.1 then some [] else r)) d j
    by_cases c : x = w.1
    · rw [if_pos c, iwI_ok l _ x d (some []) (fun e => by cases e) (fun j => by rw [wI_wNw, if_pos c]; rfl), wNw_n]
    · rw [if_neg c, iwI_ok l _ x d r hr' (fun j => by rw [wI_wNw, if_neg c]; exact h j), wNw_n]
  | (1, a, i, n) :: l, w, x, d, r, hr, h => by
    intro j
    have hr' : r = none → ∀ o ∈ l, ¬ (o.1 = 2 ∧ o.2.1 = x) := fun e o ho => hr e o (List.mem_cons_of_mem _ ho)
    show wI (iW l (wsR w a i n)) x j = iwV (iwI l w.1 x r) d j
    exact iwI_ok l (wsR w a i n) x d r hr' h j
  | (2, a, i, n) :: l, w, x, d, r, hr, h => by
    intro j
    have hr' : r = none → ∀ o ∈ l, ¬ (o.1 = 2 ∧ o.2.1 = x) := fun e o ho => hr e o (List.mem_cons_of_mem _ ho)
    have h0 : r = none → ¬ ((2 : Nat) = 2 ∧ a = x) := fun e => hr e _ List.mem_cons_self
    show wI (iW l (fiW a i (n : Int) w)) x j = iwV (iwI l w.1 x (if x = a then r.map (fun q => (i, n) :: q) else r)) d j
    by_cases c : x = a
    · rw [if_pos c]
      cases r with
      | none => exact absurd ⟨rfl, c.symm⟩ (h0 rfl)
      | some q =>
        show _ = iwV (iwI l w.1 x (some ((i, n) :: q))) d j
        rw [iwI_ok l _ x d (some ((i, n) :: q)) (fun e => by cases e) (fun j => by
          rw [(fiW_in a i w n (by omega)).2.1]
          show _ = if 0 ≤ j ∧ j < (n : Int) then i else ivF q j
          by_cases c2 : 0 ≤ j ∧ j < (n : Int)
          · rw [if_pos ⟨c, c2⟩, if_pos c2]
          · rw [if_neg (fun e => c2 e.2), if_neg c2]
            exact h j), fiW_n]
    · rw [if_neg c, iwI_ok l _ x d r hr' (fun j => by rw [(fiW_in a i w n (by omega)).2.1, if_neg (fun e => c e.1)]; exact h j), fiW_n]
  | (t + 3, a, i, n) :: l, w, x, d, r, hr, h => by
    intro j
    have hr' : r = none → ∀ o ∈ l, ¬ (o.1 = 2 ∧ o.2.1 = x) := fun e o ho => hr e o (List.mem_cons_of_mem _ ho)
    show wI (iW l (wNw2 w n 8)) x j = iwV (iwI l (w.1 + 1 + n) x (if w.1 ≤ x ∧ x < w.1 + 1 + n then some [] else r)) d j
    by_cases c : w.1 ≤ x ∧ x < w.1 + 1 + n
    · rw [if_pos c, iwI_ok l _ x d (some []) (fun e => by cases e) (fun j => by rw [wI_wNw2, if_pos c]; rfl), wNw2_n]
    · rw [if_neg c, iwI_ok l _ x d r hr' (fun j => by rw [wI_wNw2, if_neg c]; exact h j), wNw2_n]
theorem io0 (u : sm_W) (kd sz : Nat) : wNw u kd sz = iW [(0, kd, 0, sz)] u := rfl
theorem io1 (u : sm_W) (a : Nat) (i : Int) (v : Nat) : wsR u a i v = iW [(1, a, i, v)] u := rfl
def opsC : List iOp := [(0, 7, 0, 12)] ++ [(0, 0, 0, 11)] ++ opsDay 1 ++ [(1, 0, 0, 1)] ++ [(1, 0, 1, 2)] ++ [(0, 0, 0, 11)] ++ opsDay 34 ++ [(1, 0, 2, 34)] ++ [(1, 0, 3, 35)] ++ [(0, 2, 0, 9)] ++ opsLine 67 ++ [(1, 0, 4, 67)] ++ [(0, 6, 0, 2)] ++ opsX6 ++ [(1, 0, 5, 75)] ++ [(0, 3, 0, 2)] ++ opsX3 ++ [(1, 0, 6, 78)] ++ [(0, 4, 0, 3)] ++ opsX4 ++ [(1, 0, 7, 80)] ++ [(0, 5, 0, 5)] ++ opsX5 ++ [(1, 0, 8, 83)] ++ [(0, 1, 0, 2)] ++ opsHist ++ [(1, 0, 9, 86)] ++ [(0, 12, 0, 2)] ++ [(1, 0, 10, 136)] ++ [(0, 10, 0, 2)] ++ [(1, 0, 11, 137)] ++ opsLns 138 136 2
set_option maxRecDepth 100000 in
theorem opsC_eq (w : sm_W) : cCtr (wNw w 7 12) = iW opsC w := by
  unfold opsC cCtr cC9 cC8 eX8 cC7 eX7 cC6 eX6 cC5 eX5 cC4 eX4 cC3 eX3 cC2 eX2 cC1 eX1
  simp only [io0, io1, ← iW_app]
def opsA : List iOp := opsC ++ [(0, 8, 0, 30)] ++ [(0, 9, 0, 57)] ++ [(1, 154, 0, 155)] ++ [(0, 9, 0, 342)] ++ [(1, 154, 1, 156)] ++ [(0, 9, 0, 114)] ++ [(1, 154, 4, 157)] ++ [(0, 10, 0, 2)] ++ [(1, 154, 5, 158)] ++ [(0, 9, 0, 57)] ++ [(1, 154, 6, 159)] ++ [(0, 9, 0, 8)] ++ [(1, 154, 7, 160)] ++ [(0, 9, 0, 8)] ++ [(1, 154, 8, 161)] ++ [(0, 9, 0, 8)] ++ [(1, 154, 9, 162)] ++ [(0, 9, 0, 64)] ++ [(1, 154, 10, 163)] ++ [(0, 9, 0, 64)] ++ [(1, 154, 11, 164)] ++ [(0, 9, 0, 64)] ++ [(1, 154, 12, 165)] ++ [(0, 9, 0, 64)] ++ [(1, 154, 13, 166)] ++ [(0, 9, 0, 64)] ++ [(1, 154, 14, 167)] ++ [(0, 9, 0, 64)] ++ [(1, 154, 15, 168)] ++ [(0, 9, 0, 32)] ++ [(1, 154, 16, 169)] ++ [(0, 9, 0, 57)] ++ [(1, 154, 19, 170)] ++ [(0, 9, 0, 5)] ++ [(1, 154, 21, 171)] ++ [(0, 9, 0, 5)] ++ [(1, 154, 22, 172)] ++ [(0, 9, 0, 80)] ++ [(1, 154, 23, 173)] ++ [(0, 9, 0, 29)] ++ [(1, 154, 28, 174)] ++ [(0, 9, 0, 145)] ++ [(1, 154, 29, 175)]
set_option maxRecDepth 100000 in
theorem opsA_eq (w : sm_W) : mG21 (wNw (cCtr (wNw w 7 12)) 8 30) = iW opsA w := by
  rw [opsC_eq]
  unfold opsA mG21 mG20 mG19 mG18 mG17 mG16 mG15 mG14 mG13 mG12 mG11 mG10 mG9 mG8 mG7 mG6 mG5 mG4 mG3 mG2 mG1 mG0
  simp only [io0, io1, ← iW_app]
set_option maxRecDepth 100000 in
theorem opsA_S : ∀ a, a < 176 → iwS opsA 0 a none = sm_shl[a]? := by decide +kernel
set_option maxRecDepth 100000 in
theorem opsA_R : ∀ q ∈ sm_rfl, iwR opsA 0 q.1 q.2.1 none = some q.2.2 := by decide +kernel
set_option maxRecDepth 100000 in
theorem opsA_87 : ∀ k : Nat, k < 6 → iwR opsA 0 87 (k : Int) none = some (88 + 8 * k) := by decide +kernel
set_option maxRecDepth 100000 in
theorem opsA_1000 : iwS opsA 0 1000 none = none ∧ iwI opsA 0 1000 none = none ∧ ∀ o ∈ opsA, ¬ (o.1 = 2 ∧ o.2.1 = 1000) := by decide +kernel
set_option maxRecDepth 100000 in
theorem opsA_I : ∀ x, x < 176 → (x < 3 ∨ 5 ≤ x ∧ x < 35 ∨ 75 ≤ x ∧ x < 89 ∨ 136 ≤ x ∧ x < 138 ∨ 154 ≤ x) → iwI opsA 0 x (some []) = some [] := by decide +kernel
set_option maxRecDepth 100000 in
theorem opsA_3 : iwI opsA 0 3 (some []) = some [(2, 8)] ∧ iwI opsA 0 4 (some []) = some [(10, 7)] := by decide +kernel
set_option maxRecDepth 100000 in
theorem opsA_n : iwN opsC 0 = 154 ∧ iwN opsA 0 = 176 ∧ iwS opsC 0 0 none = some (7, 12) := by decide +kernel
/-- the world at the law's start, but for its script -/
def w0S (w : sm_W) : Prop := w.1 = 0 ∧ (∀ x, x < 176 → ∀ j, wI w x j = 0) ∧ ∀ x j, wR w x j = none
def wStart (w : sm_W) : sm_W := mCtr0 (wNw (cCtr (wNw w 7 12)) 8 30)
theorem iA_I (b v : Int) (u : sm_W) (n : Int) (hn : 0 ≤ n) : ∀ a j, wI (itI (iA b v) u n) a j = if a = 155 ∧ b ≤ j ∧ j < b + n then v else wI u a j :=
  itI_ind (f := iA b v) (fun i r => ∀ a j, wI r a j = if a = 155 ∧ b ≤ j ∧ j < b + i then v else wI u a j) n (fun a j => (if_neg (by omega)).symm) (fun i r i0 i1 h => fun a j => by
    unfold iA
    rw [wI_wsI, h]
    by_cases c : a = 155
    · by_cases c2 : j = b + i
      · rw [if_pos ⟨c, c2⟩, if_pos ⟨c, by omega, by omega⟩]
      · rw [if_neg (fun e => c2 e.2)]
        by_cases c3 : b ≤ j ∧ j < b + i
        · rw [if_pos ⟨c, c3⟩, if_pos ⟨c, by omega, by omega⟩]
        · rw [if_neg (fun e => c3 e.2), if_neg (fun e => by omega)]
    · rw [if_neg (fun e => c e.1), if_neg (fun e => c e.1), if_neg (fun e => c e.1)]) n hn (Int.le_refl _)
theorem wStart_S (w : sm_W) : (∀ a, wS (wStart w) a = wS (iW opsA w) a) ∧ (∀ a j, wR (wStart w) a j = wR (iW opsA w) a j) ∧ ∀ a j, wI (wStart w) a j = if a = 155 ∧ 2 ≤ j ∧ j < 10 then 2 else if a = 155 ∧ 10 ≤ j ∧ j < 17 then 10 else wI (iW opsA w) a j := by
  have e : wStart w = itI (iA 10 10) (itI (iA 2 2) (iW opsA w) 8) 7 := by
    unfold wStart mCtr0 mCtr1
    rw [opsA_eq]
  rw [e]
  generalize iW opsA w = u
  have h1 := iA_S 2 2 u 8 (by decide)
  have h2 := iA_S 10 10 (itI (iA 2 2) u 8) 7 (by decide)
  refine ⟨fun a => (h2.1 a).trans (h1.1 a), fun a j => (h2.2.1 a j).trans (h1.2.1 a j), fun a j => ?_⟩
  rw [iA_I 10 10 _ 7 (by decide), iA_I 2 2 u 8 (by decide)]
  by_cases c : a = 155
  · by_cases c2 : 2 ≤ j ∧ j < 10
    · rw [if_neg (by omega), if_pos ⟨c, by omega, by omega⟩, if_pos ⟨c, c2⟩]
    · by_cases c3 : 10 ≤ j ∧ j < 17
      · rw [if_pos ⟨c, by omega, by omega⟩, if_neg (fun e => c2 e.2), if_pos ⟨c, c3⟩]
      · rw [if_neg (by omega), if_neg (by omega), if_neg (fun e => c2 e.2), if_neg (fun e => c3 e.2)]
  · rw [if_neg (fun e => c e.1), if_neg (fun e => c e.1), if_neg (fun e => c e.1), if_neg (fun e => c e.1)]
theorem wStart_T {w : sm_W} (h : w0S w) : sT (wStart w) ∧ ∀ i, 0 ≤ i → i < 6 → wR (wStart w) 87 i = some (88 + 8 * i.toNat) := by
  have hS := wStart_S w
  have h87 : ∀ i, 0 ≤ i → i < 6 → wR (wStart w) 87 i = some (88 + 8 * i.toNat) := fun i i0 i1 => by
    rw [hS.2.1, iwR_ok opsA w 87 i none (h.2.2 _ _), h.1]
    have := opsA_87 i.toNat (by omega)
    rw [show ((i.toNat : Nat) : Int) = i by omega] at this
    exact this
  refine ⟨⟨fun a p hp => ?_, fun q hq => ?_, fun i i0 i1 => ⟨_, h87 i i0 i1, ?_⟩⟩, h87⟩
  · have ha : a < 176 := (List.getElem?_eq_some_iff.mp hp).1
    rw [hS.1, iwS_ok opsA w a (wS w a) none rfl, h.1, opsA_S a ha, hp]
    rfl
  · rw [hS.2.1, iwR_ok opsA w q.1 q.2.1 none (h.2.2 _ _), h.1]
    exact opsA_R q hq
  · have : i.toNat < 6 := by omega
    generalize i.toNat = k at *
    match k, this with
    | 0, _ => decide
    | 1, _ => decide
    | 2, _ => decide
    | 3, _ => decide
    | 4, _ => decide
    | 5, _ => decide
theorem wStart_0 {w : sm_W} (h : w0S w) {x : Nat} (hx : x < 3 ∨ 5 ≤ x ∧ x < 35 ∨ 75 ≤ x ∧ x < 89 ∨ 136 ≤ x ∧ x < 138 ∨ 154 ≤ x) (hx2 : x < 176) (hx3 : x ≠ 155) (j : Int) : wI (wStart w) x j = 0 := by
  rw [(wStart_S w).2.2, if_neg (fun e => hx3 e.1), if_neg (fun e => hx3 e.1), iwI_ok opsA w x (fun _ => 0) (some []) (fun e => by cases e) (fun j => h.2.1 x hx2 j), h.1, opsA_I x hx2 hx]
  rfl
theorem wStart_155 {w : sm_W} (h : w0S w) (j : Int) : wI (wStart w) 155 j = if 2 ≤ j ∧ j < 10 then 2 else if 10 ≤ j ∧ j < 17 then 10 else 0 := by
  rw [(wStart_S w).2.2, iwI_ok opsA w 155 (fun _ => 0) (some []) (fun e => by cases e) (fun j => h.2.1 155 (by decide) j), h.1, opsA_I 155 (by decide) (by decide)]
  simp only [true_and]
  rfl
theorem wStart_34 {w : sm_W} (h : w0S w) (j : Int) : wI (wStart w) 3 j = (if 0 ≤ j ∧ j < 8 then 2 else 0) ∧ wI (wStart w) 4 j = (if 0 ≤ j ∧ j < 7 then 10 else 0) := by
  refine ⟨?_, ?_⟩
  · rw [(wStart_S w).2.2, if_neg (by omega), if_neg (by omega), iwI_ok opsA w 3 (fun _ => 0) (some []) (fun e => by cases e) (fun j => h.2.1 3 (by decide) j), h.1, opsA_3.1]
    rfl
  · rw [(wStart_S w).2.2, if_neg (by omega), if_neg (by omega), iwI_ok opsA w 4 (fun _ => 0) (some []) (fun e => by cases e) (fun j => h.2.1 4 (by decide) j), h.1, opsA_3.2]
    rfl
theorem wStart_1000 {w : sm_W} (h : w0S w) : wS (wStart w) 1000 = wS w 1000 ∧ wI (wStart w) 1000 = wI w 1000 := by
  refine ⟨?_, ?_⟩
  · rw [(wStart_S w).1, iwS_ok opsA w 1000 (wS w 1000) none rfl, h.1, opsA_1000.1]
    rfl
  · funext j
    rw [(wStart_S w).2.2, if_neg (by omega), if_neg (by omega), iwI_ok opsA w 1000 (wI w 1000) none (fun _ => opsA_1000.2.2) (fun j => rfl), h.1, opsA_1000.2.1]
    rfl
