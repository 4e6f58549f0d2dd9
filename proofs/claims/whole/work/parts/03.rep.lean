/-! what a world of the small machine is on the heap, and that the kit's cells are it -/
theorem i3_add (x y : Int) : Int32.ofInt x + Int32.ofInt y = Int32.ofInt (x + y) := (Int32.ofInt_add x y).symm
theorem i3_sub (x y : Int) : Int32.ofInt x - Int32.ofInt y = Int32.ofInt (x - y) := (Int32.ofInt_sub x y).symm
theorem i3_mul (x y : Int) : Int32.ofInt x * Int32.ofInt y = Int32.ofInt (x * y) := (Int32.ofInt_mul x y).symm
theorem i3_toInt {n : Int} (h : sm_r n) : (Int32.ofInt n).toInt = n := Int32.toInt_ofInt_of_le (by have := h.1; omega) (by have := h.2; omega)
theorem i3_self (x : Int32) : Int32.ofInt x.toInt = x := Int32.ofInt_toInt x
theorem i3_rng (x : Int32) : sm_r x.toInt := ⟨by have := Int32.le_toInt x; omega, by have := Int32.toInt_lt x; omega⟩
theorem i3_eq {x y : Int} (hx : sm_r x) (hy : sm_r y) : Int32.ofInt x = Int32.ofInt y ↔ x = y := ⟨fun h => by rw [← i3_toInt hx, h, i3_toInt hy], fun h => by rw [h]⟩
theorem i3_lt {x y : Int} (hx : sm_r x) (hy : sm_r y) : Int32.ofInt x < Int32.ofInt y ↔ x < y := by rw [Int32.lt_iff_toInt_lt, i3_toInt hx, i3_toInt hy]
theorem i3_le {x y : Int} (hx : sm_r x) (hy : sm_r y) : Int32.ofInt x ≤ Int32.ofInt y ↔ x ≤ y := by rw [Int32.le_iff_toInt_le, i3_toInt hx, i3_toInt hy]
theorem i3_0 : sm_r 0 := ⟨by decide, by decide⟩
theorem i3_z : (0 : Int32) = Int32.ofInt 0 := rfl
theorem i3_cl {i : Int} (h0 : 0 ≤ i) (hr : sm_r i) : ((Int32.ofInt i).toNatClampNeg : Int) = i := by
  show (((Int32.ofInt i).toInt.toNat : Nat) : Int) = i
  rw [i3_toInt hr]
  omega
theorem i3_cN {i : Int} (hr : sm_r i) : (Int32.ofInt i).toNatClampNeg = i.toNat := by
  show (Int32.ofInt i).toInt.toNat = i.toNat
  rw [i3_toInt hr]
theorem i3_in {i : Int} {n : Nat} (h0 : 0 ≤ i) (h1 : i < n) (hr : sm_r i) : vp_in (Int32.ofInt i) n := by
  rw [vp_in_iff, i3_toInt hr]
  exact ⟨h0, h1⟩
theorem i3_n {i : Int} (h0 : 0 ≤ i) : Int32.ofInt i = nI i.toNat := by
  show Int32.ofInt i = Int32.ofNat i.toNat
  rw [← Int32.ofInt_eq_ofNat, Int.toNat_of_nonneg h0]
theorem i3_div {x y : Int} (hx : 0 ≤ x) (hy : 0 < y) (hrx : sm_r x) (hry : sm_r y) : Int32.ofInt x / Int32.ofInt y = Int32.ofInt (x / y) := by
  have h1 := hrx.2
  have h2 := hry.2
  rw [i3_n hx, i3_n (Int.le_of_lt hy), i3_n (Int.ediv_nonneg hx (Int.le_of_lt hy)), pk_div (by omega) (by omega) (by omega)]
  congr 1
  have hz : ((x.toNat / y.toNat : Nat) : Int) = x / y := by rw [Int.natCast_ediv, Int.toNat_of_nonneg hx, Int.toNat_of_nonneg (Int.le_of_lt hy)]
  rw [← hz, Int.toNat_natCast]
theorem i3_rem {x y : Int} (hx : 0 ≤ x) (hy : 0 < y) (hrx : sm_r x) (hry : sm_r y) : Int32.ofInt x - Int32.ofInt x / Int32.ofInt y * Int32.ofInt y = Int32.ofInt (x % y) := by
  have h1 := hrx.2
  have h2 := hry.2
  rw [i3_n hx, i3_n (Int.le_of_lt hy), i3_n (Int.emod_nonneg x (by omega)), pk_rem (by omega) (by omega) (by omega)]
  congr 1
  have hz : ((x.toNat % y.toNat : Nat) : Int) = x % y := by rw [Int.natCast_emod, Int.toNat_of_nonneg hx, Int.toNat_of_nonneg (Int.le_of_lt hy)]
  rw [← hz, Int.toNat_natCast]
/-- addresses: the script's is sb, an object's is its number behind b -/
def sm_ea (b sb id : Nat) : Nat := if id = 1000 then sb else b + id
def sm_ev (b sb : Nat) : sm_V → Value
  | .inl n => .int (Int32.ofInt n)
  | .inr (.inl a) => .ref (sm_ea b sb a)
  | .inr (.inr x) => .long x
def sm_ty : Nat → Nat → FieldType := fun ci => match ci with
  | 0 => tyX0 | 1 => tyX1 | 2 => tyX2 | 3 => tyX3 | 4 => tyX4 | 5 => tyX5 | 6 => tyX6 | 7 => tyX7 | _ => tyX8
def sm_isR (ci k : Nat) : Bool := match sm_ty ci k with
  | .int | .boolean => false
  | _ => true
def sm_fv (b sb : Nat) (w : sm_W) (id ci k : Nat) : Value := if sm_isR ci k = true then va_rf ((wR w id k).map (sm_ea b sb)) else .int (Int32.ofInt (wI w id k))
def sm_E (b sb : Nat) (cA : Nat → ClassId) (w : sm_W) (id : Nat) : va_E :=
  if (wS w id).1 < 9 then .inr ((wS w id).1, (List.range (wS w id).2).map (sm_fv b sb w id (wS w id).1))
  else if (wS w id).1 < 12 then .inl (cA ((wS w id).1 - 9), (wS w id).2, .inl (fun j => Int32.ofInt (wI w id j)))
  else .inl (cA ((wS w id).1 - 9), (wS w id).2, .inr (.inr (.inr (.inr (fun j => (wR w id j).map (sm_ea b sb))))))
def sm_ws (b sb : Nat) (cA : Nat → ClassId) (w : sm_W) : va_W := (List.range w.1).map (fun id => (sm_ea b sb id, sm_E b sb cA w id))
def sm_tys (cA : Nat → ClassId) : List (ClassId × FieldType) := [(cA 0, .int), (cA 1, .boolean), (cA 2, .char), (cA 3, .object RX2), (cA 4, .array .int)]
def sm_Rep (b sb : Nat) (D : va_G) (cA : Nat → ClassId) (w : sm_W) (U : State) (H : Heap) : Prop :=
  w.1 ≤ 1000 ∧ H.size = b + w.1 ∧ va_P D vwCl (sm_ws b sb cA w) H ∧ (∀ id i, sm_r (wI w id i)) ∧ sb < b ∧ (∀ id, w.1 ≤ id → 14 ≤ (wS w id).1) ∧ ∀ L, wS w 1000 = (14, L) → va_X sb L (fun j => Int32.ofInt (wI w 1000 (j : Int))) U H
theorem sm_ea_lt {b sb id : Nat} (h : id < 1000) : sm_ea b sb id = b + id := if_neg (by omega)
theorem sm_ws_get {b sb : Nat} {cA : Nat → ClassId} {w : sm_W} {a : Nat} (h : a < w.1) : (sm_ws b sb cA w)[a]? = some (sm_ea b sb a, sm_E b sb cA w a) := by
  unfold sm_ws
  rw [List.getElem?_map, List.getElem?_range h]
  rfl
theorem sm_ws_inv {b sb : Nat} {cA : Nat → ClassId} {w : sm_W} {a : Nat} {x : Nat × va_E} (h : (sm_ws b sb cA w)[a]? = some x) : a < w.1 ∧ x = (sm_ea b sb a, sm_E b sb cA w a) := by
  have hl : a < w.1 := by
    have := (List.getElem?_eq_some_iff.mp h).1
    simpa [sm_ws] using this
  rw [sm_ws_get hl] at h
  exact ⟨hl, (Option.some.inj h).symm⟩
theorem sm_D {b sb : Nat} {cA : Nat → ClassId} {w : sm_W} (h : w.1 ≤ 1000) : va_D (fun q => b ≤ q) (sm_ws b sb cA w) := by
  refine ⟨fun i j x y hi hj e => ?_, fun k x hk => ?_⟩
  · obtain ⟨h1, rfl⟩ := sm_ws_inv hi
    obtain ⟨h2, rfl⟩ := sm_ws_inv hj
    dsimp only at e
    rw [sm_ea_lt (by omega), sm_ea_lt (by omega)] at e
    omega
  · obtain ⟨h1, rfl⟩ := sm_ws_inv hk
    dsimp only
    rw [sm_ea_lt (by omega)]
    omega
theorem sm_ws_set {b sb : Nat} {cA : Nat → ClassId} {w w' : sm_W} {a : Nat} (h1 : w'.1 = w.1) (h : ∀ id, id ≠ a → sm_E b sb cA w' id = sm_E b sb cA w id) : (sm_ws b sb cA w).set a (sm_ea b sb a, sm_E b sb cA w' a) = sm_ws b sb cA w' := by
  apply List.ext_getElem?
  intro k
  rw [List.getElem?_set]
  by_cases hk : k < w.1
  · rw [sm_ws_get (w := w') (by rw [h1]; exact hk)]
    by_cases e : a = k
    · subst e
      rw [if_pos rfl, if_pos (by simpa [sm_ws] using hk)]
    · rw [if_neg e, sm_ws_get hk, h k (Ne.symm e)]
  · have n1 : (sm_ws b sb cA w')[k]? = none := List.getElem?_eq_none (by simp [sm_ws]; omega)
    have n2 : (sm_ws b sb cA w)[k]? = none := List.getElem?_eq_none (by simp [sm_ws]; omega)
    rw [n1, n2]
    by_cases e : a = k
    · subst e
      rw [if_pos rfl, if_neg (by simpa [sm_ws] using hk)]
    · rw [if_neg e]
theorem sm_E_o {b sb : Nat} {cA : Nat → ClassId} {w : sm_W} {a ci N : Nat} (h : wS w a = (ci, N)) (hc : ci < 9) : sm_E b sb cA w a = .inr (ci, (List.range N).map (sm_fv b sb w a ci)) := by
  unfold sm_E
  rw [h]
  exact if_pos hc
theorem sm_E_i {b sb : Nat} {cA : Nat → ClassId} {w : sm_W} {a kd : Nat} (h : (wS w a).1 = kd) (h1 : 9 ≤ kd) (h2 : kd < 12) : sm_E b sb cA w a = .inl (cA (kd - 9), (wS w a).2, .inl (fun j => Int32.ofInt (wI w a j))) := by
  unfold sm_E
  rw [h, if_neg (by omega), if_pos h2]
theorem sm_E_r {b sb : Nat} {cA : Nat → ClassId} {w : sm_W} {a kd : Nat} (h : (wS w a).1 = kd) (h1 : 12 ≤ kd) : sm_E b sb cA w a = .inl (cA (kd - 9), (wS w a).2, .inr (.inr (.inr (.inr (fun j => (wR w a j).map (sm_ea b sb)))))) := by
  unfold sm_E
  rw [h, if_neg (by omega), if_neg (by omega)]
theorem sm_lt {b sb : Nat} {D : va_G} {cA : Nat → ClassId} {w : sm_W} {U : State} {H : Heap} (h : sm_Rep b sb D cA w U H) {a : Nat} (ha : (wS w a).1 < 14) : a < w.1 := by
  rcases Nat.lt_or_ge a w.1 with h1 | h1
  · exact h1
  · exact absurd (h.2.2.2.2.2.1 a h1) (by omega)
/-- one cell changed -/
theorem sm_put {b sb : Nat} {D : va_G} {cA : Nat → ClassId} {w w' : sm_W} {U : State} {H H1 : Heap} {a : Nat} (hR : sm_Rep b sb D cA w U H) (ha : a < w.1) (h1 : w'.1 = w.1) (hsh : ∀ id, wS w' id = wS w id) (hI : ∀ id i, sm_r (wI w' id i)) (ho : ∀ id, id ≠ a → sm_E b sb cA w' id = sm_E b sb cA w id) (hx : ∀ i, wI w' 1000 i = wI w 1000 i)
    (hat : va_at D vwCl (sm_ea b sb a, sm_E b sb cA w' a) H1) (hz : H1.size = H.size) (oq : ∀ q : Nat, q ≠ sm_ea b sb a → H1[q]? = H[q]?) : sm_Rep b sb D cA w' U H1 := by
  obtain ⟨r1, r2, r3, r4, r5, r6, r7⟩ := hR
  refine ⟨by rw [h1]; exact r1, by rw [hz, h1]; exact r2, ?_, hI, r5, fun id h => by rw [hsh]; exact r6 id (by rw [← h1]; exact h), fun L hL => ?_⟩
  · rw [← sm_ws_set h1 ho]
    exact r3.set (sm_D r1) (sm_ws_get ha) hat oq
  · rw [hsh] at hL
    have := (r7 L hL).kept (H1 := H1) (oq sb (by rw [sm_ea_lt (by omega)]; omega))
    rw [show (fun j : Nat => Int32.ofInt (wI w' 1000 (j : Int))) = (fun j : Nat => Int32.ofInt (wI w 1000 (j : Int))) from funext fun j => by rw [hx]]
    exact this
theorem sm_Rep.moved {b sb : Nat} {D : va_G} {cA : Nat → ClassId} {w : sm_W} {u U : State} {H : Heap} (hvm : u.vm.Alike U.vm) (h : sm_Rep b sb D cA w u H) : sm_Rep b sb D cA w U H := ⟨h.1, h.2.1, h.2.2.1, h.2.2.2.1, h.2.2.2.2.1, h.2.2.2.2.2.1, fun L hL => (h.2.2.2.2.2.2 L hL).moved hvm⟩
/-- a cell made at the end -/
theorem sm_add {b sb : Nat} {D : va_G} {cA : Nat → ClassId} {w w' : sm_W} {U : State} {H H1 : Heap} (hR : sm_Rep b sb D cA w U H) (hn : w.1 < 1000) (h1 : w'.1 = w.1 + 1) (hsh : ∀ id, id ≠ w.1 → wS w' id = wS w id) (hI : ∀ id i, sm_r (wI w' id i)) (ho : ∀ id, id ≠ w.1 → sm_E b sb cA w' id = sm_E b sb cA w id) (hx : ∀ i, wI w' 1000 i = wI w 1000 i)
    (hat : va_at D vwCl (sm_ea b sb w.1, sm_E b sb cA w' w.1) H1) (hz : H1.size = H.size + 1) (oq : ∀ q : Nat, q < H.size → H1[q]? = H[q]?) : sm_Rep b sb D cA w' U H1 := by
  obtain ⟨r1, r2, r3, r4, r5, r6, r7⟩ := hR
  refine ⟨by omega, by omega, ?_, hI, r5, fun id h => by rw [hsh id (by omega)]; exact r6 id (by omega), fun L hL => ?_⟩
  · intro k x hk
    obtain ⟨h2, rfl⟩ := sm_ws_inv hk
    by_cases e : k = w.1
    · subst e
      exact hat
    · rw [ho k e]
      have h3 := r3 k _ (sm_ws_get (by omega))
      exact h3.kept (oq _ h3.lt)
  · rw [hsh 1000 (by omega)] at hL
    have := (r7 L hL).kept (H1 := H1) (oq sb (by omega))
    rw [show (fun j : Nat => Int32.ofInt (wI w' 1000 (j : Int))) = (fun j : Nat => Int32.ofInt (wI w 1000 (j : Int))) from funext fun j => by rw [hx]]
    exact this
/-- locals -/
def sm_L (nL b sb : Nat) (lsA : Array Slot) (ls : List (Option sm_V)) : Prop := lsA.size = nL ∧ ls.length = nL ∧ lv_wf lsA ∧ ∀ (i : Nat) (v : sm_V), ls[i]? = some (some v) → lsA[i]? = some (Slot.val (sm_ev b sb v))
def sm_asc (b sb : Nat) (ls : List (Option sm_V)) : List (Nat × Value) := (List.range ls.length).filterMap (fun i => match ls[i]? with
  | some (some v) => some (i, sm_ev b sb v)
  | _ => none)
theorem sm_asc_mem {b sb : Nat} {ls : List (Option sm_V)} {q : Nat × Value} : q ∈ sm_asc b sb ls ↔ ∃ v, ls[q.1]? = some (some v) ∧ q.2 = sm_ev b sb v := by
  unfold sm_asc
  rw [List.mem_filterMap]
  constructor
  · rintro ⟨i, hi, h⟩
    split at h
    · next v hv =>
      cases h
      exact ⟨v, hv, rfl⟩
    · cases h
  · rintro ⟨v, hv, h2⟩
    refine ⟨q.1, List.mem_range.mpr (List.getElem?_eq_some_iff.mp hv).1, ?_⟩
    rw [hv]
    dsimp only
    rw [← h2]
theorem sm_L.has {nL b sb : Nat} {lsA : Array Slot} {ls : List (Option sm_V)} (h : sm_L nL b sb lsA ls) : lv_has lsA nL (sm_asc b sb ls) := by
  refine ⟨h.1, h.2.2.1, fun q hq => ?_⟩
  obtain ⟨v, h1, h2⟩ := sm_asc_mem.mp hq
  rw [h2]
  exact h.2.2.2 _ _ h1
theorem sm_ev_cat (b sb : Nat) (v : sm_V) : (sm_ev b sb v).category = sm_wd v := by
  rcases v with n | a | x <;> rfl
theorem sm_L.set1 {nL b sb : Nat} {lsA : Array Slot} {ls : List (Option sm_V)} {i : Nat} {v : sm_V} (h : sm_L nL b sb lsA ls) (hnl : sm_nl ls i = true) (hi : i < ls.length) {ls' : Array Slot} (h' : lv_has ls' nL ((i, sm_ev b sb v) :: (sm_asc b sb ls).filter (fun q => !(q.1 == i) && !(q.1 + 1 == i && q.2.category == 2)))) : sm_L nL b sb ls' (ls.set i (some v)) := by
  refine ⟨h'.1, by rw [List.length_set]; exact h.2.1, h'.2.1, fun j u hj => ?_⟩
  rw [List.getElem?_set] at hj
  by_cases e : i = j
  · subst e
    rw [if_pos rfl, if_pos hi] at hj
    cases hj
    exact h'.2.2 (i, _) List.mem_cons_self
  · rw [if_neg e] at hj
    refine h'.2.2 (j, sm_ev b sb u) (List.mem_cons_of_mem _ (List.mem_filter.mpr ⟨sm_asc_mem.mpr ⟨u, hj, rfl⟩, ?_⟩))
    dsimp only
    rw [sm_ev_cat]
    have e1 : (j == i) = false := by simpa using Ne.symm e
    rw [e1]
    by_cases e2 : j + 1 = i
    · subst e2
      have hw : sm_wd u ≠ 2 := by
        intro hw
        rcases u with n | a | x
        · cases hw
        · cases hw
        · simp [sm_nl, hj] at hnl
      simp [hw]
    · simp [e2]
theorem sm_L.set2 {nL b sb : Nat} {lsA : Array Slot} {ls : List (Option sm_V)} {i : Nat} {x : Int64} (h : sm_L nL b sb lsA ls) (hnl : sm_nl ls i = true) (hi : i + 1 < ls.length) {ls' : Array Slot} (h' : lv_has ls' nL ((i, Value.long x) :: (sm_asc b sb ls).filter (fun q => !(q.1 == i) && (!(q.1 == i + 1) && !(q.1 + 1 == i && q.2.category == 2))))) : sm_L nL b sb ls' ((ls.set i (some (.inr (.inr x)))).set (i + 1) none) := by
  refine ⟨h'.1, by rw [List.length_set, List.length_set]; exact h.2.1, h'.2.1, fun j u hj => ?_⟩
  rw [List.getElem?_set, List.getElem?_set] at hj
  by_cases e0 : i + 1 = j
  · subst e0
    rw [if_pos rfl] at hj
    simp only [List.length_set, hi, if_true] at hj
    cases hj
  · rw [if_neg e0] at hj
    by_cases e : i = j
    · subst e
      rw [if_pos rfl, if_pos (by omega)] at hj
      cases hj
      exact h'.2.2 (i, Value.long x) List.mem_cons_self
    · rw [if_neg e] at hj
      refine h'.2.2 (j, sm_ev b sb u) (List.mem_cons_of_mem _ (List.mem_filter.mpr ⟨sm_asc_mem.mpr ⟨u, hj, rfl⟩, ?_⟩))
      dsimp only
      rw [sm_ev_cat]
      have e1 : (j == i) = false := by simpa using Ne.symm e
      have e3 : (j == i + 1) = false := by simpa using Ne.symm e0
      rw [e1, e3]
      by_cases e2 : j + 1 = i
      · subst e2
        have hw : sm_wd u ≠ 2 := by
          intro hw
          rcases u with n | a | x
          · cases hw
          · cases hw
          · simp [sm_nl, hj] at hnl
        simp [hw]
      · simp [e2]
theorem sm_ok_set {ls : List (Option sm_V)} {i : Nat} {v : sm_V} (h : ∀ v, some v ∈ ls → sm_ok v) (hv : sm_ok v) : ∀ u, some u ∈ ls.set i (some v) → sm_ok u := by
  intro u hu
  rcases List.mem_or_eq_of_mem_set hu with h1 | h1
  · exact h u h1
  · cases h1
    exact hv
theorem sm_ok_setN {ls : List (Option sm_V)} {i : Nat} (h : ∀ v, some v ∈ ls → sm_ok v) : ∀ u, some u ∈ ls.set i none → sm_ok u := by
  intro u hu
  rcases List.mem_or_eq_of_mem_set hu with h1 | h1
  · exact h u h1
  · cases h1
theorem sm_ok_at {ls : List (Option sm_V)} {i : Nat} {v : sm_V} (h : ∀ v, some v ∈ ls → sm_ok v) (hi : ls[i]? = some (some v)) : sm_ok v := h v (List.mem_of_getElem? hi)
theorem sm_ok_cons {st : List sm_V} {v : sm_V} (hv : sm_ok v) (h : ∀ v ∈ st, sm_ok v) : ∀ u ∈ v :: st, sm_ok u := by
  intro u hu
  rcases List.mem_cons.mp hu with rfl | h1
  · exact hv
  · exact h u h1
theorem sm_ok_tl {st : List sm_V} {v : sm_V} (h : ∀ u ∈ v :: st, sm_ok u) : ∀ u ∈ st, sm_ok u := fun u hu => h u (List.mem_cons_of_mem _ hu)
theorem sm_ok_hd {st : List sm_V} {v : sm_V} (h : ∀ u ∈ v :: st, sm_ok u) : sm_ok v := h v List.mem_cons_self
theorem sm_wds_map (b sb : Nat) (st : List sm_V) : ((st.map (sm_ev b sb)).map fun v => v.category).sum = sm_wds st := by
  induction st with
  | nil => rfl
  | cons v r ih =>
    rw [List.map_cons, List.map_cons, List.sum_cons, ih, sm_ev_cat]
    rfl
