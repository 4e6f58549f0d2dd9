/-! THE SMALL MACHINE: worlds, values, one step an instruction; its soundness over the kit's rows follows in 03 -/
abbrev sm_V : Type := Int ⊕ (Nat ⊕ Int64)
abbrev sm_W : Type := Nat × (Nat → Nat × Nat) × (Nat → Int → Int) × (Nat → Int → Option Nat)
def wI (w : sm_W) (a : Nat) (i : Int) : Int := w.2.2.1 a i
def wR (w : sm_W) (a : Nat) (i : Int) : Option Nat := w.2.2.2 a i
def wS (w : sm_W) (a : Nat) : Nat × Nat := w.2.1 a
def wsI (w : sm_W) (a : Nat) (i v : Int) : sm_W := (w.1, w.2.1, (fun x j => if x = a ∧ j = i then v else w.2.2.1 x j), w.2.2.2)
def wsR (w : sm_W) (a : Nat) (i : Int) (v : Nat) : sm_W := (w.1, w.2.1, w.2.2.1, (fun x j => if x = a ∧ j = i then some v else w.2.2.2 x j))
def wNw (w : sm_W) (kd sz : Nat) : sm_W := (w.1 + 1, (fun x => if x = w.1 then (kd, sz) else w.2.1 x), (fun x j => if x = w.1 then 0 else w.2.2.1 x j), (fun x j => if x = w.1 then none else w.2.2.2 x j))
def wCp (w : sm_W) (src dst : Nat) (n : Int) : sm_W := (w.1, w.2.1, (fun x j => if x = dst ∧ 0 ≤ j ∧ j < n then w.2.2.1 src j else w.2.2.1 x j), w.2.2.2)
theorem wI_wsI (w : sm_W) (a : Nat) (i v : Int) (x : Nat) (j : Int) : wI (wsI w a i v) x j = if x = a ∧ j = i then v else wI w x j := rfl
theorem wI_wsR (w : sm_W) (a : Nat) (i : Int) (v : Nat) (x : Nat) (j : Int) : wI (wsR w a i v) x j = wI w x j := rfl
theorem wR_wsI (w : sm_W) (a : Nat) (i v : Int) (x : Nat) (j : Int) : wR (wsI w a i v) x j = wR w x j := rfl
theorem wR_wsR (w : sm_W) (a : Nat) (i : Int) (v : Nat) (x : Nat) (j : Int) : wR (wsR w a i v) x j = if x = a ∧ j = i then some v else wR w x j := rfl
theorem wS_wsI (w : sm_W) (a : Nat) (i v : Int) (x : Nat) : wS (wsI w a i v) x = wS w x := rfl
theorem wS_wsR (w : sm_W) (a : Nat) (i : Int) (v : Nat) (x : Nat) : wS (wsR w a i v) x = wS w x := rfl
theorem wI_wCp (w : sm_W) (a b : Nat) (n : Int) (x : Nat) (j : Int) : wI (wCp w a b n) x j = if x = b ∧ 0 ≤ j ∧ j < n then wI w a j else wI w x j := rfl
theorem wR_wCp (w : sm_W) (a b : Nat) (n : Int) (x : Nat) (j : Int) : wR (wCp w a b n) x j = wR w x j := rfl
theorem wS_wCp (w : sm_W) (a b : Nat) (n : Int) (x : Nat) : wS (wCp w a b n) x = wS w x := rfl
/-- the numbers of 32 bits -/
def sm_r (n : Int) : Prop := -2147483648 ≤ n ∧ n ≤ 2147483647
def sm_ok : sm_V → Prop
  | .inl n => sm_r n
  | .inr _ => True
/-- a slot may be stored to: no long begins in the slot before it -/
def sm_nl (ls : List (Option sm_V)) (i : Nat) : Bool := match i with
  | 0 => true
  | i + 1 => match ls[i]? with
    | some (some (.inr (.inr _))) => false
    | _ => true
def sm_wd : sm_V → Nat
  | .inr (.inr _) => 2
  | _ => 1
def sm_wds : List sm_V → Nat
  | [] => 0
  | v :: r => sm_wd v + sm_wds r
abbrev sm_K : Type := List (Option sm_V) → List sm_V → sm_W → Nat → Nat → Prop
abbrev sm_Par : Type := (Option sm_V → sm_W → Prop) × Nat × Nat
abbrev sm_O : Type := sm_Par → sm_K → (Nat → sm_K) → sm_K
-- the steps
def oK (n : Int) : sm_O := fun _ Nx _ ls st w k q => Nx ls (.inl n :: st) w k q
def oLK (n : Int64) : sm_O := fun _ Nx _ ls st w k q => Nx ls (.inr (.inr n) :: st) w k q
def oL (i : Nat) : sm_O := fun _ Nx _ ls st w k q => match ls[i]? with
  | some (some v) => Nx ls (v :: st) w k q
  | _ => False
def oI (i : Nat) : sm_O := fun _ Nx _ ls st w k q => match ls[i]? with
  | some (some (.inl v)) => Nx ls (.inl v :: st) w k q
  | _ => False
def oA (i : Nat) : sm_O := fun _ Nx _ ls st w k q => match ls[i]? with
  | some (some (.inr (.inl v))) => Nx ls (.inr (.inl v) :: st) w k q
  | _ => False
def oJ (i : Nat) : sm_O := fun _ Nx _ ls st w k q => match ls[i]? with
  | some (some (.inr (.inr v))) => Nx ls (.inr (.inr v) :: st) w k q
  | _ => False
def oIs (i : Nat) : sm_O := fun _ Nx _ ls st w k q => match st with
  | .inl v :: st => i < ls.length ∧ sm_nl ls i = true ∧ Nx (ls.set i (some (.inl v))) st w k q
  | _ => False
def oAs (i : Nat) : sm_O := fun _ Nx _ ls st w k q => match st with
  | .inr (.inl v) :: st => i < ls.length ∧ sm_nl ls i = true ∧ Nx (ls.set i (some (.inr (.inl v)))) st w k q
  | _ => False
def oJs (i : Nat) : sm_O := fun _ Nx _ ls st w k q => match st with
  | .inr (.inr v) :: st => i + 1 < ls.length ∧ sm_nl ls i = true ∧ Nx ((ls.set i (some (.inr (.inr v)))).set (i + 1) none) st w k q
  | _ => False
def oInc (i : Nat) (n : Int) : sm_O := fun _ Nx _ ls st w k q => match ls[i]? with
  | some (some (.inl v)) => i < ls.length ∧ sm_nl ls i = true ∧ sm_r (v + n) ∧ Nx (ls.set i (some (.inl (v + n)))) st w k q
  | _ => False
def oAdd : sm_O := fun _ Nx _ ls st w k q => match st with
  | .inl y :: .inl x :: st => sm_r (x + y) ∧ Nx ls (.inl (x + y) :: st) w k q
  | _ => False
def oSub : sm_O := fun _ Nx _ ls st w k q => match st with
  | .inl y :: .inl x :: st => sm_r (x - y) ∧ Nx ls (.inl (x - y) :: st) w k q
  | _ => False
def oMul : sm_O := fun _ Nx _ ls st w k q => match st with
  | .inl y :: .inl x :: st => sm_r (x * y) ∧ Nx ls (.inl (x * y) :: st) w k q
  | _ => False
def oDiv : sm_O := fun _ Nx _ ls st w k q => match st with
  | .inl y :: .inl x :: st => 0 ≤ x ∧ 0 < y ∧ Nx ls (.inl (x / y) :: st) w k q
  | _ => False
def oRem : sm_O := fun _ Nx _ ls st w k q => match st with
  | .inl y :: .inl x :: st => 0 ≤ x ∧ 0 < y ∧ Nx ls (.inl (x % y) :: st) w k q
  | _ => False
def oNeg : sm_O := fun _ Nx _ ls st w k q => match st with
  | .inl x :: st => sm_r (-x) ∧ Nx ls (.inl (-x) :: st) w k q
  | _ => False
/-- x & m for a mask of low bits -/
def oAnd : sm_O := fun _ Nx _ ls st w k q => match st with
  | .inl y :: .inl x :: st => y = 31 ∧ Nx ls (.inl (x % 32) :: st) w k q
  | _ => False
def oAndB : sm_O := fun _ Nx _ ls st w k q => match st with
  | .inl y :: .inl x :: st => (x = 0 ∨ x = 1) ∧ (y = 0 ∨ y = 1) ∧ Nx ls (.inl (x * y) :: st) w k q
  | _ => False
def oOr : sm_O := fun _ Nx _ ls st w k q => match st with
  | .inl y :: .inl x :: st => 0 ≤ x ∧ x < 65536 ∧ 0 ≤ y ∧ y < 65536 ∧ Nx ls (.inl ((x.toNat ||| y.toNat : Nat) : Int) :: st) w k q
  | _ => False
def oShl : sm_O := fun _ Nx _ ls st w k q => match st with
  | .inl y :: .inl x :: st => x = 1 ∧ 0 ≤ y ∧ y < 16 ∧ Nx ls (.inl ((2 ^ y.toNat : Nat) : Int) :: st) w k q
  | _ => False
def oI2c : sm_O := fun _ Nx _ ls st w k q => match st with
  | .inl x :: st => 0 ≤ x ∧ x < 65536 ∧ Nx ls (.inl x :: st) w k q
  | _ => False
def oI2l : sm_O := fun _ Nx _ ls st w k q => match st with
  | .inl x :: st => Nx ls (.inr (.inr (Int32.ofInt x).toInt64) :: st) w k q
  | _ => False
def oL2i : sm_O := fun _ Nx _ ls st w k q => match st with
  | .inr (.inr x) :: st => Nx ls (.inl x.toInt32.toInt :: st) w k q
  | _ => False
def oLand : sm_O := fun _ Nx _ ls st w k q => match st with
  | .inr (.inr y) :: .inr (.inr x) :: st => Nx ls (.inr (.inr (x &&& y)) :: st) w k q
  | _ => False
def oLor : sm_O := fun _ Nx _ ls st w k q => match st with
  | .inr (.inr y) :: .inr (.inr x) :: st => Nx ls (.inr (.inr (x ||| y)) :: st) w k q
  | _ => False
def oLshl : sm_O := fun _ Nx _ ls st w k q => match st with
  | .inl y :: .inr (.inr x) :: st => Nx ls (.inr (.inr (x <<< ((Int32.ofInt y).toInt64 &&& 63))) :: st) w k q
  | _ => False
def oLshr : sm_O := fun _ Nx _ ls st w k q => match st with
  | .inl y :: .inr (.inr x) :: st => Nx ls (.inr (.inr (x >>> ((Int32.ofInt y).toInt64 &&& 63))) :: st) w k q
  | _ => False
def oLushr : sm_O := fun _ Nx _ ls st w k q => match st with
  | .inl y :: .inr (.inr x) :: st => Nx ls (.inr (.inr (x.toUInt64 >>> ((Int32.ofInt y).toInt64.toUInt64 &&& Int64.toUInt64 63)).toInt64) :: st) w k q
  | _ => False
def oLcmp : sm_O := fun _ Nx _ ls st w k q => match st with
  | .inr (.inr y) :: .inr (.inr x) :: st => Nx ls (.inl (lg_cmp x y).toInt :: st) w k q
  | _ => False
def oDup : sm_O := fun _ Nx _ ls st w k q => match st with
  | v :: st => sm_wd v = 1 ∧ Nx ls (v :: v :: st) w k q
  | _ => False
def oDup2 : sm_O := fun _ Nx _ ls st w k q => match st with
  | v :: u :: st => sm_wd v = 1 ∧ sm_wd u = 1 ∧ Nx ls (v :: u :: v :: u :: st) w k q
  | _ => False
def oPop : sm_O := fun _ Nx _ ls st w k q => match st with
  | v :: st => sm_wd v = 1 ∧ Nx ls st w k q
  | _ => False
/-- a local's value is forgotten -/
def oFg (i : Nat) : sm_O := fun _ Nx _ ls st w k q => Nx (ls.set i none) st w k q
def oGo (t : Nat) : sm_O := fun _ _ J ls st w k q => J t ls st w k q
def oEq (t : Nat) : sm_O := fun _ Nx J ls st w k q => match st with
  | .inl y :: .inl x :: st => (x = y → J t ls st w k q) ∧ (¬ x = y → Nx ls st w k q)
  | _ => False
def oNe (t : Nat) : sm_O := fun _ Nx J ls st w k q => match st with
  | .inl y :: .inl x :: st => (¬ x = y → J t ls st w k q) ∧ (x = y → Nx ls st w k q)
  | _ => False
def oLt (t : Nat) : sm_O := fun _ Nx J ls st w k q => match st with
  | .inl y :: .inl x :: st => (x < y → J t ls st w k q) ∧ (y ≤ x → Nx ls st w k q)
  | _ => False
def oGe (t : Nat) : sm_O := fun _ Nx J ls st w k q => match st with
  | .inl y :: .inl x :: st => (y ≤ x → J t ls st w k q) ∧ (x < y → Nx ls st w k q)
  | _ => False
def oGt (t : Nat) : sm_O := fun _ Nx J ls st w k q => match st with
  | .inl y :: .inl x :: st => (y < x → J t ls st w k q) ∧ (x ≤ y → Nx ls st w k q)
  | _ => False
def oLe (t : Nat) : sm_O := fun _ Nx J ls st w k q => match st with
  | .inl y :: .inl x :: st => (x ≤ y → J t ls st w k q) ∧ (y < x → Nx ls st w k q)
  | _ => False
def oEq0 (t : Nat) : sm_O := fun _ Nx J ls st w k q => match st with
  | .inl x :: st => (x = 0 → J t ls st w k q) ∧ (¬ x = 0 → Nx ls st w k q)
  | _ => False
def oNe0 (t : Nat) : sm_O := fun _ Nx J ls st w k q => match st with
  | .inl x :: st => (¬ x = 0 → J t ls st w k q) ∧ (x = 0 → Nx ls st w k q)
  | _ => False
def oLt0 (t : Nat) : sm_O := fun _ Nx J ls st w k q => match st with
  | .inl x :: st => (x < 0 → J t ls st w k q) ∧ (0 ≤ x → Nx ls st w k q)
  | _ => False
def oGe0 (t : Nat) : sm_O := fun _ Nx J ls st w k q => match st with
  | .inl x :: st => (0 ≤ x → J t ls st w k q) ∧ (x < 0 → Nx ls st w k q)
  | _ => False
def oGt0 (t : Nat) : sm_O := fun _ Nx J ls st w k q => match st with
  | .inl x :: st => (0 < x → J t ls st w k q) ∧ (x ≤ 0 → Nx ls st w k q)
  | _ => False
def oLe0 (t : Nat) : sm_O := fun _ Nx J ls st w k q => match st with
  | .inl x :: st => (x ≤ 0 → J t ls st w k q) ∧ (0 < x → Nx ls st w k q)
  | _ => False
def sm_cases (J : Nat → Prop) (x : Int) : Int → List Nat → Prop
  | _, [] => True
  | lo, t :: ts => (x = lo → J t) ∧ sm_cases J x (lo + 1) ts
def oSw (lo : Int) (ts : List Nat) (d : Nat) : sm_O := fun _ _ J ls st w k q => match st with
  | .inl x :: st => sm_cases (fun t => J t ls st w k q) x lo ts ∧ ((x < lo ∨ lo + ts.length ≤ x) → J d ls st w k q)
  | _ => False
-- objects and arrays: of class ci with N slots, the slot k
def oGi (ci N : Nat) (k : Int) : sm_O := fun _ Nx _ ls st w kk q => match st with
  | .inr (.inl a) :: st => wS w a = (ci, N) ∧ Nx ls (.inl (wI w a k) :: st) w kk q
  | _ => False
def oGr (ci N : Nat) (k : Int) : sm_O := fun _ Nx _ ls st w kk q => match st with
  | .inr (.inl a) :: st => wS w a = (ci, N) ∧ ∃ b, wR w a k = some b ∧ Nx ls (.inr (.inl b) :: st) w kk q
  | _ => False
def oPi (ci N : Nat) (k : Int) : sm_O := fun _ Nx _ ls st w kk q => match st with
  | .inl v :: .inr (.inl a) :: st => wS w a = (ci, N) ∧ Nx ls st (wsI w a k v) kk q
  | _ => False
/-- a boolean field -/
def oPz (ci N : Nat) (k : Int) : sm_O := fun _ Nx _ ls st w kk q => match st with
  | .inl v :: .inr (.inl a) :: st => wS w a = (ci, N) ∧ (v = 0 ∨ v = 1) ∧ Nx ls st (wsI w a k v) kk q
  | _ => False
def oPr (ci N : Nat) (k : Int) : sm_O := fun _ Nx _ ls st w kk q => match st with
  | .inr (.inl v) :: .inr (.inl a) :: st => wS w a = (ci, N) ∧ Nx ls st (wsR w a k v) kk q
  | _ => False
def oLen : sm_O := fun _ Nx _ ls st w k q => match st with
  | .inr (.inl a) :: st => ((9 ≤ (wS w a).1 ∧ (wS w a).1 < 14) ∨ ((wS w a).1 = 14 ∧ a = 1000)) ∧ ((wS w a).2 : Int) ≤ 2147483647 ∧ Nx ls (.inl ((wS w a).2 : Int) :: st) w k q
  | _ => False
/-- int[] : 9, boolean[] : 10, char[] : 11, Line[] : 12, int[][] : 13, the script : 14 -/
def oIl : sm_O := fun _ Nx _ ls st w k q => match st with
  | .inl i :: .inr (.inl a) :: st => ((wS w a).1 = 9 ∨ ((wS w a).1 = 14 ∧ a = 1000)) ∧ 0 ≤ i ∧ i < (wS w a).2 ∧ Nx ls (.inl (wI w a i) :: st) w k q
  | _ => False
def oZl : sm_O := fun _ Nx _ ls st w k q => match st with
  | .inl i :: .inr (.inl a) :: st => (wS w a).1 = 10 ∧ 0 ≤ i ∧ i < (wS w a).2 ∧ Nx ls (.inl (wI w a i) :: st) w k q
  | _ => False
def oCl : sm_O := fun _ Nx _ ls st w k q => match st with
  | .inl i :: .inr (.inl a) :: st => (wS w a).1 = 11 ∧ 0 ≤ i ∧ i < (wS w a).2 ∧ Nx ls (.inl (wI w a i) :: st) w k q
  | _ => False
def oRl : sm_O := fun _ Nx _ ls st w k q => match st with
  | .inl i :: .inr (.inl a) :: st => ((wS w a).1 = 12 ∨ (wS w a).1 = 13) ∧ 0 ≤ i ∧ i < (wS w a).2 ∧ ∃ b, wR w a i = some b ∧ Nx ls (.inr (.inl b) :: st) w k q
  | _ => False
def oIst : sm_O := fun _ Nx _ ls st w k q => match st with
  | .inl v :: .inl i :: .inr (.inl a) :: st => (wS w a).1 = 9 ∧ 0 ≤ i ∧ i < (wS w a).2 ∧ Nx ls st (wsI w a i v) k q
  | _ => False
def oZst : sm_O := fun _ Nx _ ls st w k q => match st with
  | .inl v :: .inl i :: .inr (.inl a) :: st => (wS w a).1 = 10 ∧ 0 ≤ i ∧ i < (wS w a).2 ∧ (v = 0 ∨ v = 1) ∧ Nx ls st (wsI w a i v) k q
  | _ => False
def oCst : sm_O := fun _ Nx _ ls st w k q => match st with
  | .inl v :: .inl i :: .inr (.inl a) :: st => (wS w a).1 = 11 ∧ 0 ≤ i ∧ i < (wS w a).2 ∧ 0 ≤ v ∧ v < 65536 ∧ Nx ls st (wsI w a i v) k q
  | _ => False
/-- a Line into a Line[] -/
def oRst : sm_O := fun _ Nx _ ls st w k q => match st with
  | .inr (.inl v) :: .inl i :: .inr (.inl a) :: st => (wS w a).1 = 12 ∧ wS w v = (2, 9) ∧ 0 ≤ i ∧ i < (wS w a).2 ∧ Nx ls st (wsR w a i v) k q
  | _ => False
def oCopy : sm_O := fun _ Nx _ ls st w k q => match st with
  | .inl n :: .inl dp :: .inr (.inl d) :: .inl sp :: .inr (.inl a) :: st => (wS w a).1 = 9 ∧ (wS w d).1 = 9 ∧ sp = 0 ∧ dp = 0 ∧ 0 ≤ n ∧ n ≤ (wS w a).2 ∧ n ≤ (wS w d).2 ∧ sm_wds st ≤ 8 ∧ Nx ls st (wCp w a d n) k q
  | _ => False
-- new objects and arrays
def oNew (ci N : Nat) : sm_O := fun P Nx _ ls st w k q => w.1 < 1000 ∧ k + 1 ≤ P.2.1 ∧ q + N ≤ P.2.2 ∧ Nx ls (.inr (.inl w.1) :: st) (wNw w ci N) (k + 1) (q + N)
/-- kd: 9 int, 10 boolean, 11 char, 12 Line -/
def oNa (kd : Nat) : sm_O := fun P Nx _ ls st w k q => match st with
  | .inl n :: st => 0 ≤ n ∧ n ≤ 1000 ∧ w.1 < 1000 ∧ k + 1 ≤ P.2.1 ∧ q + n.toNat ≤ P.2.2 ∧ Nx ls (.inr (.inl w.1) :: st) (wNw w kd n.toNat) (k + 1) (q + n.toNat)
  | _ => False
/-- new int[n][m]: the outer array first, then its rows -/
def wNw2 (w : sm_W) (n m : Nat) : sm_W := (w.1 + 1 + n, (fun x => if x = w.1 then (13, n) else if w.1 < x ∧ x < w.1 + 1 + n then (9, m) else w.2.1 x), (fun x j => if w.1 ≤ x ∧ x < w.1 + 1 + n then 0 else w.2.2.1 x j), (fun x j => if x = w.1 then (if 0 ≤ j ∧ j < (n : Int) then some (w.1 + 1 + j.toNat) else none) else if w.1 < x ∧ x < w.1 + 1 + n then none else w.2.2.2 x j))
def oNa2 : sm_O := fun P Nx _ ls st w k q => match st with
  | .inl m :: .inl n :: st => 0 ≤ n ∧ n ≤ 100 ∧ 0 ≤ m ∧ m ≤ 1000 ∧ w.1 + 1 + n.toNat ≤ 1000 ∧ k + 1 + n.toNat ≤ P.2.1 ∧ q + n.toNat + n.toNat * m.toNat ≤ P.2.2 ∧ Nx ls (.inr (.inl w.1) :: st) (wNw2 w n.toNat m.toNat) (k + 1 + n.toNat) (q + n.toNat + n.toNat * m.toNat)
  | _ => False
/-- Object's constructor -/
def oObj : sm_O := fun _ Nx _ ls st w k q => match st with
  | .inr (.inl _) :: st => sm_wds st ≤ 8 ∧ Nx ls st w k q
  | _ => False
-- calls
def sm_pop : Nat → List sm_V → List sm_V → Option (List sm_V × List sm_V)
  | 0, st, acc => some (acc, st)
  | n + 1, v :: st, acc => sm_pop n st (v :: acc)
  | _ + 1, [], _ => none
abbrev sm_F : Type := List sm_V → sm_W → Option sm_V × sm_W
def sm_back (Nx : sm_K) (ls : List (Option sm_V)) (st : List sm_V) (k q : Nat) : Option sm_V × sm_W → Prop
  | (none, w) => Nx ls st w k q
  | (some v, w) => Nx ls (v :: st) w k q
/-- a static method: its premise, its answer and world, its cells and slots, how many arguments -/
def oCs (Pre : List sm_V → sm_W → Prop) (F : sm_F) (mc ms n : Nat) : sm_O := fun P Nx _ ls st w k q => match sm_pop n st [] with
  | some (as, st) => Pre as w ∧ sm_wds st ≤ 8 ∧ k + mc ≤ P.2.1 ∧ q + ms ≤ P.2.2 ∧ sm_back Nx ls st (k + mc) (q + ms) (F as w)
  | none => False
/-- a method of an object of class ci with N slots: the object is the first of n arguments -/
def oCv (ci N : Nat) (Pre : List sm_V → sm_W → Prop) (F : sm_F) (mc ms n : Nat) : sm_O := fun P Nx _ ls st w k q => match sm_pop n st [] with
  | some (.inr (.inl a) :: as, st) => wS w a = (ci, N) ∧ Pre (.inr (.inl a) :: as) w ∧ sm_wds st ≤ 8 ∧ k + mc ≤ P.2.1 ∧ q + ms ≤ P.2.2 ∧ sm_back Nx ls st (k + mc) (q + ms) (F (.inr (.inl a) :: as) w)
  | _ => False
/-- a private constructor of a nest mate, or any constructor: as a method, the object's class is not asked -/
def oCi (Pre : List sm_V → sm_W → Prop) (F : sm_F) (mc ms n : Nat) : sm_O := fun P Nx _ ls st w k q => match sm_pop n st [] with
  | some (.inr (.inl a) :: as, st) => Pre (.inr (.inl a) :: as) w ∧ sm_wds st ≤ 8 ∧ k + mc ≤ P.2.1 ∧ q + ms ≤ P.2.2 ∧ sm_back Nx ls st (k + mc) (q + ms) (F (.inr (.inl a) :: as) w)
  | _ => False
-- ends
def oIr : sm_O := fun P _ _ _ st w k q => match st with
  | [.inl n] => k ≤ P.2.1 ∧ q ≤ P.2.2 ∧ P.1 (some (.inl n)) w
  | _ => False
def oZr : sm_O := fun P _ _ _ st w k q => match st with
  | [.inl n] => (n = 0 ∨ n = 1) ∧ k ≤ P.2.1 ∧ q ≤ P.2.2 ∧ P.1 (some (.inl n)) w
  | _ => False
def oVr : sm_O := fun P _ _ _ st w k q => match st with
  | [] => k ≤ P.2.1 ∧ q ≤ P.2.2 ∧ P.1 none w
  | _ => False
-- blocks, and runs of blocks
def sm_blk (P : sm_Par) (J : Nat → sm_K) : List sm_O → sm_K
  | [] => fun _ _ _ _ _ => False
  | o :: r => fun ls st w k q => o P (sm_blk P J r) J ls st w k q
def sm_run (cd : Nat → List sm_O) (P : sm_Par) (stop : Nat → Bool) (Z : Nat → sm_K) : Nat → Nat → sm_K
  | 0, t => Z t
  | n + 1, t => sm_blk P (fun u => match stop u with
    | true => Z u
    | false => sm_run cd P stop Z n u) (cd t)
