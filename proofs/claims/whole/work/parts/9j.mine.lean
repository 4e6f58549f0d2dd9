/-! THE CLAIM: the classes, and the empty world -/
theorem wh_AOA {U : State} (h : sm_AOA .int U) : ∃ (c : ClassId) (k : Class) (comp : ClassId), U.vm.findClass ("[" ++ (FieldType.array .int).toString) = some c ∧ U.vm.classes[c]? = some k ∧ k.kind = .array comp (.array .int) := by
  unfold sm_AOA Cond.before Cond.holds at h
  simp only [Cond.value] at h
  rw [beq_iff_eq, Option.bind_eq_some_iff] at h
  obtain ⟨comp, hf, h⟩ := h
  rw [Option.bind_eq_some_iff] at h
  obtain ⟨c, hi, h⟩ := h
  rw [Option.map_eq_some_iff] at h
  obtain ⟨k, hk, h⟩ := h
  split at h
  · next c2 ty e =>
    rw [Bool.and_eq_true, decide_eq_true_eq, decide_eq_true_eq] at h
    exact ⟨c, k, c2, h.2, hk, by rw [e, h.1]⟩
  · cases h
theorem wh_u {args : Array Value} {s : State} (hts : ∀ w ∈ sm_tbl, w.before args s = true) {ci : Nat} {C : String} {T : u_T} {N : Nat} (hcl : sm_Cl ci C T N) (hi : Cond.instantiable C N ∈ sm_tbl) : ∃ (cC : ClassId) (iS : Nat → Nat), u_Kn s C T N cC iS := u_known hts hcl.2.2.1 (hts _ hi)
theorem wh_C {args : Array Value} {s : State} (hts : ∀ w ∈ sm_tbl, w.before args s = true) : ∃ (dC : Nat → ClassId) (dI : Nat → Nat → Nat), ∀ (k : Nat) (q : vw_C), vwCl[k]? = some q → u_Kn s q.1 q.2.1 q.2.2 (dC k) (dI k) := by
  obtain ⟨c0, i0, h0⟩ := wh_u hts kl_0 wm_23
  obtain ⟨c1, i1, h1⟩ := wh_u hts kl_1 wm_134
  obtain ⟨c2, i2, h2⟩ := wh_u hts kl_2 wm_29
  obtain ⟨c3, i3, h3⟩ := wh_u hts kl_3 wm_101
  obtain ⟨c4, i4, h4⟩ := wh_u hts kl_4 wm_110
  obtain ⟨c5, i5, h5⟩ := wh_u hts kl_5 wm_121
  obtain ⟨c6, i6, h6⟩ := wh_u hts kl_6 wm_93
  obtain ⟨c7, i7, h7⟩ := wh_u hts kl_7 wm_14
  obtain ⟨c8, i8, h8⟩ := wh_u hts kl_8 wm_667
  refine ⟨fun k => match k with | 0 => c0 | 1 => c1 | 2 => c2 | 3 => c3 | 4 => c4 | 5 => c5 | 6 => c6 | 7 => c7 | _ => c8, fun k => match k with | 0 => i0 | 1 => i1 | 2 => i2 | 3 => i3 | 4 => i4 | 5 => i5 | 6 => i6 | 7 => i7 | _ => i8, ?_⟩
  intro k q hq
  match k, hq with
  | 0, hq => cases hq; exact h0
  | 1, hq => cases hq; exact h1
  | 2, hq => cases hq; exact h2
  | 3, hq => cases hq; exact h3
  | 4, hq => cases hq; exact h4
  | 5, hq => cases hq; exact h5
  | 6, hq => cases hq; exact h6
  | 7, hq => cases hq; exact h7
  | 8, hq => cases hq; exact h8
  | k + 9, hq => simp [vwCl] at hq
theorem wh_K {args : Array Value} {s : State} (hts : ∀ w ∈ sm_tbl, w.before args s = true) (hX : sm_Ex s) : ∃ (D : va_G) (cA : Nat → ClassId), va_K D vwCl (sm_tys cA) s := by
  obtain ⟨dC, dI, hC⟩ := wh_C hts
  obtain ⟨a0, k0, p0, f0, g0, e0⟩ := Cond.arrayClass_spec (hts _ wm_66)
  obtain ⟨a1, k1, p1, f1, g1, e1⟩ := Cond.arrayClass_spec (hts _ wm_89)
  obtain ⟨a2, k2, p2, f2, g2, e2⟩ := Cond.arrayClass_spec (hts _ wm_132)
  obtain ⟨p3, a3, k3, n3, -, g3, e3, f3⟩ := Cond.arrayOver_spec hX.1
  obtain ⟨a4, k4, p4, f4, g4, e4⟩ := wh_AOA hX.2.1
  refine ⟨(dC, dI), fun k => match k with | 0 => a0 | 1 => a1 | 2 => a2 | 3 => a3 | _ => a4, hC, ?_⟩
  intro k q hq
  match k, hq with
  | 0, hq => cases hq; exact ⟨fun N z => ⟨(fun k h => by cases h), k0, g0, p0, e0⟩, f0⟩
  | 1, hq => cases hq; exact ⟨fun N z => ⟨(fun k h => by cases h), k1, g1, p1, e1⟩, f1⟩
  | 2, hq => cases hq; exact ⟨fun N z => ⟨(fun k h => by cases h), k2, g2, p2, e2⟩, f2⟩
  | 3, hq => cases hq; exact ⟨fun N z => ⟨(fun k h => by cases h), k3, g3, p3, e3⟩, k3, p3, g3, e3, n3, f3⟩
  | 4, hq => cases hq; exact ⟨fun N z => ⟨(fun k h => by cases h), k4, g4, p4, e4⟩, f4⟩
  | k + 5, hq => simp [sm_tys] at hq
theorem wh_in (i : Nat) {w : Cond} (h : tables_1[i]? = some w) : w ∈ lw_tbl := List.mem_append_right _ (List.mem_of_getElem? h)
theorem wh_Ex {args : Array Value} {s : State} (hts : ∀ w ∈ lw_tbl, w.before args s = true) : sm_Ex s := by
  refine ⟨va_AO.of (hts _ (wh_in 208 (by decide +kernel))), over_moved (Vm.Alike.refl _) (hts _ (wh_in 84 (by decide +kernel))), ?_⟩
  intro q hq
  have h0 : ∀ q ∈ sm_nest, (Cond.methodLinkNest q.1 q.2.1 q.2.2 RX7) ∈ ([23, 134, 147, 161, 179, 291, 302] : List Nat).filterMap (fun i => tables_1[i]?) := by decide +kernel
  obtain ⟨i, -, hi⟩ := List.mem_filterMap.mp (h0 q hq)
  exact va_Nw.of rfl (hts _ (wh_in i hi))
/-- the empty world, but for the script -/
def wh_w (L : Nat) (xs : Nat → Int32) : sm_W := (0, fun _ => (14, L), fun x j => if x = 1000 then (xs j.toNat).toInt else 0, fun _ _ => none)
theorem wh_0S (L : Nat) (xs : Nat → Int32) : w0S (wh_w L xs) ∧ wS (wh_w L xs) 1000 = (14, L) := ⟨⟨rfl, fun x hx j => if_neg (by omega), fun _ _ => rfl⟩, rfl⟩
theorem wh_Rep {D : va_G} {cA : Nat → ClassId} {s : State} {b L : Nat} {xs : Nat → Int32} (hX : va_X b L xs s s.heap) (hb : b < s.heap.size) : sm_Rep s.heap.size b D cA (wh_w L xs) s s.heap := by
  refine ⟨Nat.zero_le _, rfl, ?_, fun id i => ?_, hb, fun id h => Nat.le_refl 14, fun L' hL' => ?_⟩
  · intro k x hk
    have : sm_ws s.heap.size b cA (wh_w L xs) = [] := rfl
    rw [this] at hk
    cases hk
  · show sm_r (if id = 1000 then (xs i.toNat).toInt else 0)
    split
    · exact i3_rng _
    · exact i3_0
  · have e : L' = L := by
      have : ((14, L) : Nat × Nat) = (14, L') := hL'
      cases this
      rfl
    rw [e, show (fun j : Nat => Int32.ofInt (wI (wh_w L xs) 1000 (j : Int))) = xs from funext fun j => ?_]
    · exact hX
    · show Int32.ofInt (if (1000 : Nat) = 1000 then (xs (j : Int).toNat).toInt else 0) = xs j
      rw [if_pos rfl, i3_self, Int.toNat_natCast]
