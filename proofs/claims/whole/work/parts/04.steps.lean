/-! ONE STEP OF THE SMALL MACHINE IS ONE OF THE MACHINE: by the kit's rows -/
/-- what the tables say that a callee isn't told by its words: the classes of two kinds of arrays, the nest mates' private methods -/
def sm_nest : List (String × Nat × MethodName) := [(RX7, 9, yX0_init), (RX7, 35, yX6_init), (RX7, 42, yX3_init), (RX7, 49, yX4_init), (RX7, 56, yX5_init), (RX2, 52, yX7_isStation), (RX2, 56, yX7_isStretch)]
def sm_AOA (ty : FieldType) (U : State) : Prop := (Cond.arrayOver (.array ty)).before #[] U = true
def sm_Ex (U : State) : Prop := va_AO RX2 U ∧ sm_AOA .int U ∧ ∀ q ∈ sm_nest, va_Nw (.methodLinkNest q.1 q.2.1 q.2.2 RX7) U
theorem sm_AOA.moved {ty : FieldType} {u U : State} (hvm : u.vm.Alike U.vm) (h : sm_AOA ty u) : sm_AOA ty U := over_moved hvm h
theorem sm_Ex.warm {s U : State} (hW : s.WarmedH U.vm) (h : sm_Ex s) : sm_Ex U := ⟨h.1.moved hW.alike, h.2.1.moved hW.alike, fun q hq => va_Nw.warmM hW (h.2.2 q hq)⟩
theorem sm_Ex.same {u U : State} (hv : u.vm = U.vm) (h : sm_Ex u) : sm_Ex U := ⟨h.1.moved (by rw [hv]; exact Vm.Alike.refl _), h.2.1.moved (by rw [hv]; exact Vm.Alike.refl _), fun q hq => (h.2.2 q hq).same rfl hv⟩
section
variable (p : Program) (l : Launch) (e : Env) (R : Room) (s : State) (m : MethodId) (args : Array Value) (below : List Frame) (meth : Method) (c : Code) (Q : State → Prop) (b sb : Nat) (D : va_G) (cA : Nat → ClassId) (H0 : Heap) (nL : Nat)
def sm_Wz (pc : Nat) : sm_K := fun ls st w k q => ∀ (H : Heap) (locs : List Loc) (lsA : Array Slot), sm_Rep b sb D cA w s H → va_S (fun x => b ≤ x) H0 H locs → sm_L nL b sb lsA ls → (∀ v, some v ∈ ls → sm_ok v) → (∀ v ∈ st, sm_ok v) → W p l e R s m args below meth c H locs k q Q (F0 m pc lsA (st.map (sm_ev b sb)))
/-- what holds of a frame: the machine, the code, the tables' words, the room, and what an end gives -/
def sm_Cx (own nm : String) (cc : ByteArray) (z : Nat) (lev : Nat) (P : sm_Par) : Prop :=
  p.tables.exec = Jvm.exec ∧ c.code = cc ∧ c.maxLocals = nL ∧ s.vm.findClass own = some m.cls ∧ (∀ w ∈ sm_tbl, w.before args s = true) ∧ va_K D vwCl (sm_tys cA) s ∧ b ≤ H0.size ∧ R.cells = P.2.1 ∧ R.slots = P.2.2 ∧ lev ≤ R.frames ∧ 40 * lev ≤ R.locals ∧ meth.name = nm ∧ sm_Ex s ∧
  (∀ (pc : Nat) (H : Heap) (locs : List Loc) (lsA : Array Slot) (w : sm_W) (k q : Nat) (n : Int), decode cc pc = .ok (.ireturn, 1) → ¬ z = 0 → (z = 2 → n = 0 ∨ n = 1) → P.1 (some (.inl n)) w → sm_r n → k ≤ P.2.1 → q ≤ P.2.2 → sm_Rep b sb D cA w s H → va_S (fun x => b ≤ x) H0 H locs → W p l e R s m args below meth c H locs k q Q (F0 m pc lsA [.int (Int32.ofInt n)])) ∧
  (∀ (pc : Nat) (H : Heap) (locs : List Loc) (lsA : Array Slot) (w : sm_W) (k q : Nat), decode cc pc = .ok (.return_, 1) → z = 0 → P.1 none w → k ≤ P.2.1 → q ≤ P.2.2 → sm_Rep b sb D cA w s H → va_S (fun x => b ≤ x) H0 H locs → W p l e R s m args below meth c H locs k q Q (F0 m pc lsA []))
end
/-- the step o at pc, to pc' or to where it jumps -/
def sm_Snd (l : Launch) (own nm : String) (cc : ByteArray) (nL : Nat) (z : Nat) (lev : Nat) (pc pc' : Nat) (o : sm_O) : Prop :=
  ∀ (p : Program) (e : Env) (R : Room) (s : State) (m : MethodId) (args : Array Value) (below : List Frame) (meth : Method) (c : Code) (Q : State → Prop) (b sb : Nat) (D : va_G) (cA : Nat → ClassId) (H0 : Heap) (P : sm_Par), sm_Cx p l e R s m args below meth c Q b sb D cA H0 nL own nm cc z lev P →
  ∀ (Nx : sm_K) (J : Nat → sm_K), (∀ ls st w k q, Nx ls st w k q → sm_Wz p l e R s m args below meth c Q b sb D cA H0 nL pc' ls st w k q) → (∀ t ls st w k q, J t ls st w k q → sm_Wz p l e R s m args below meth c Q b sb D cA H0 nL t ls st w k q) →
  ∀ ls st w k q, o P Nx J ls st w k q → sm_Wz p l e R s m args below meth c Q b sb D cA H0 nL pc ls st w k q
section
variable {l : Launch} {own nm : String} {cc : ByteArray} {nL : Nat} {z : Nat} {lev : Nat} {pc : Nat}

theorem sd_iconst {n : Int} (hd : decode cc pc = .ok (.iconst n, 1)) (hr : sm_r n) : sm_Snd l own nm cc nL z lev pc (pc + 1) (oK n) := by
  intro p e R s m args below meth c Q b sb D cA H0 P hC Nx J hN hJ ls st w k q h
  obtain ⟨hx, hb, hml, hown, hts, hK, hbH, hRc, hRs, hRf, hRl, hnm, hEx, hI, hV⟩ := hC
  intro H locs lsA hR hS hL ho hs
  exact lv_iconst hx hb hd rfl (hN _ _ _ _ _ h H locs lsA hR hS hL ho (sm_ok_cons hr hs))

theorem sd_bipush {n : Int} (hd : decode cc pc = .ok (.bipush n, 2)) (hr : sm_r n) (hv : (Int8.ofInt n).toInt32 = Int32.ofInt n) : sm_Snd l own nm cc nL z lev pc (pc + 2) (oK n) := by
  intro p e R s m args below meth c Q b sb D cA H0 P hC Nx J hN hJ ls st w k q h
  obtain ⟨hx, hb, hml, hown, hts, hK, hbH, hRc, hRs, hRf, hRl, hnm, hEx, hI, hV⟩ := hC
  intro H locs lsA hR hS hL ho hs
  exact lv_bipush hx hb hd hv (hN _ _ _ _ _ h H locs lsA hR hS hL ho (sm_ok_cons hr hs))

theorem sd_sipush {n : Int} (hd : decode cc pc = .ok (.sipush n, 3)) (hr : sm_r n) (hv : (Int16.ofInt n).toInt32 = Int32.ofInt n) : sm_Snd l own nm cc nL z lev pc (pc + 3) (oK n) := by
  intro p e R s m args below meth c Q b sb D cA H0 P hC Nx J hN hJ ls st w k q h
  obtain ⟨hx, hb, hml, hown, hts, hK, hbH, hRc, hRs, hRf, hRl, hnm, hEx, hI, hV⟩ := hC
  intro H locs lsA hR hS hL ho hs
  exact lv_sipush hx hb hd hv (hN _ _ _ _ _ h H locs lsA hR hS hL ho (sm_ok_cons hr hs))

theorem sd_lconst {n : Fin 2} {v : Int64} (hd : decode cc pc = .ok (.lconst n, 1)) (hv : Int64.ofNat (n : Nat) = v) : sm_Snd l own nm cc nL z lev pc (pc + 1) (oLK v) := by
  intro p e R s m args below meth c Q b sb D cA H0 P hC Nx J hN hJ ls st w k q h
  obtain ⟨hx, hb, hml, hown, hts, hK, hbH, hRc, hRs, hRf, hRl, hnm, hEx, hI, hV⟩ := hC
  intro H locs lsA hR hS hL ho hs
  exact lv_lconst hx hb hd hv (hN _ _ _ _ _ h H locs lsA hR hS hL ho (sm_ok_cons trivial hs))

theorem sd_iload {i : Nat} (hd : decode cc pc = .ok (.iload i, 2)) : sm_Snd l own nm cc nL z lev pc (pc + 2) (oI i) := by
  intro p e R s m args below meth c Q b sb D cA H0 P hC Nx J hN hJ ls st w k q h
  obtain ⟨hx, hb, hml, hown, hts, hK, hbH, hRc, hRs, hRf, hRl, hnm, hEx, hI, hV⟩ := hC
  dsimp only [oI] at h
  split at h
  · next v hv =>
    intro H locs lsA hR hS hL ho hs
    exact lv_iload hx hb hd (hL.2.2.2 _ _ hv) (hN _ _ _ _ _ h H locs lsA hR hS hL ho (sm_ok_cons (sm_ok_at ho hv) hs))
  · exact h.elim

theorem sd_iload_n {i : Nat} {j : Fin 4} (hd : decode cc pc = .ok (.iload_n j, 1)) (hj : (j : Nat) = i) : sm_Snd l own nm cc nL z lev pc (pc + 1) (oI i) := by
  intro p e R s m args below meth c Q b sb D cA H0 P hC Nx J hN hJ ls st w k q h
  obtain ⟨hx, hb, hml, hown, hts, hK, hbH, hRc, hRs, hRf, hRl, hnm, hEx, hI, hV⟩ := hC
  dsimp only [oI] at h
  split at h
  · next v hv =>
    intro H locs lsA hR hS hL ho hs
    exact lv_iload_n hx hb hd hj (hL.2.2.2 _ _ hv) (hN _ _ _ _ _ h H locs lsA hR hS hL ho (sm_ok_cons (sm_ok_at ho hv) hs))
  · exact h.elim

theorem sd_aload {i : Nat} (hd : decode cc pc = .ok (.aload i, 2)) : sm_Snd l own nm cc nL z lev pc (pc + 2) (oA i) := by
  intro p e R s m args below meth c Q b sb D cA H0 P hC Nx J hN hJ ls st w k q h
  obtain ⟨hx, hb, hml, hown, hts, hK, hbH, hRc, hRs, hRf, hRl, hnm, hEx, hI, hV⟩ := hC
  dsimp only [oA] at h
  split at h
  · next v hv =>
    intro H locs lsA hR hS hL ho hs
    exact lv_aload hx hb hd (hL.2.2.2 _ _ hv) (hN _ _ _ _ _ h H locs lsA hR hS hL ho (sm_ok_cons (sm_ok_at ho hv) hs))
  · exact h.elim

theorem sd_aload_n {i : Nat} {j : Fin 4} (hd : decode cc pc = .ok (.aload_n j, 1)) (hj : (j : Nat) = i) : sm_Snd l own nm cc nL z lev pc (pc + 1) (oA i) := by
  intro p e R s m args below meth c Q b sb D cA H0 P hC Nx J hN hJ ls st w k q h
  obtain ⟨hx, hb, hml, hown, hts, hK, hbH, hRc, hRs, hRf, hRl, hnm, hEx, hI, hV⟩ := hC
  dsimp only [oA] at h
  split at h
  · next v hv =>
    intro H locs lsA hR hS hL ho hs
    exact lv_aload_n hx hb hd hj (hL.2.2.2 _ _ hv) (hN _ _ _ _ _ h H locs lsA hR hS hL ho (sm_ok_cons (sm_ok_at ho hv) hs))
  · exact h.elim

theorem sd_lload {i : Nat} (hd : decode cc pc = .ok (.lload i, 2)) : sm_Snd l own nm cc nL z lev pc (pc + 2) (oJ i) := by
  intro p e R s m args below meth c Q b sb D cA H0 P hC Nx J hN hJ ls st w k q h
  obtain ⟨hx, hb, hml, hown, hts, hK, hbH, hRc, hRs, hRf, hRl, hnm, hEx, hI, hV⟩ := hC
  dsimp only [oJ] at h
  split at h
  · next v hv =>
    intro H locs lsA hR hS hL ho hs
    exact lv_lload hx hb hd (hL.2.2.2 _ _ hv) (hN _ _ _ _ _ h H locs lsA hR hS hL ho (sm_ok_cons (sm_ok_at ho hv) hs))
  · exact h.elim

theorem sd_lload_n {i : Nat} {j : Fin 4} (hd : decode cc pc = .ok (.lload_n j, 1)) (hj : (j : Nat) = i) : sm_Snd l own nm cc nL z lev pc (pc + 1) (oJ i) := by
  intro p e R s m args below meth c Q b sb D cA H0 P hC Nx J hN hJ ls st w k q h
  obtain ⟨hx, hb, hml, hown, hts, hK, hbH, hRc, hRs, hRf, hRl, hnm, hEx, hI, hV⟩ := hC
  dsimp only [oJ] at h
  split at h
  · next v hv =>
    intro H locs lsA hR hS hL ho hs
    exact lv_lload_n hx hb hd hj (hL.2.2.2 _ _ hv) (hN _ _ _ _ _ h H locs lsA hR hS hL ho (sm_ok_cons (sm_ok_at ho hv) hs))
  · exact h.elim

theorem sd_istore {i : Nat} (hd : decode cc pc = .ok (.istore i, 2)) : sm_Snd l own nm cc nL z lev pc (pc + 2) (oIs i) := by
  intro p e R s m args below meth c Q b sb D cA H0 P hC Nx J hN hJ ls st w k q h
  obtain ⟨hx, hb, hml, hown, hts, hK, hbH, hRc, hRs, hRf, hRl, hnm, hEx, hI, hV⟩ := hC
  dsimp only [oIs] at h
  split at h
  · next v st =>
    obtain ⟨h1, h2, h⟩ := h
    intro H locs lsA hR hS hL ho hs
    refine lv_istore hx hb hd hL.has (by rw [← hL.2.1]; exact h1) rfl fun ls' h' => ?_
    exact hN _ _ _ _ _ h H locs ls' hR hS (hL.set1 h2 h1 h') (sm_ok_set ho (sm_ok_hd hs)) (sm_ok_tl hs)
  · exact h.elim

theorem sd_istore_n {i : Nat} {j : Fin 4} (hd : decode cc pc = .ok (.istore_n j, 1)) (hj : (j : Nat) = i) : sm_Snd l own nm cc nL z lev pc (pc + 1) (oIs i) := by
  intro p e R s m args below meth c Q b sb D cA H0 P hC Nx J hN hJ ls st w k q h
  obtain ⟨hx, hb, hml, hown, hts, hK, hbH, hRc, hRs, hRf, hRl, hnm, hEx, hI, hV⟩ := hC
  dsimp only [oIs] at h
  split at h
  · next v st =>
    obtain ⟨h1, h2, h⟩ := h
    intro H locs lsA hR hS hL ho hs
    refine lv_istore_n hx hb hd hj hL.has (by rw [← hL.2.1]; exact h1) rfl fun ls' h' => ?_
    exact hN _ _ _ _ _ h H locs ls' hR hS (hL.set1 h2 h1 h') (sm_ok_set ho (sm_ok_hd hs)) (sm_ok_tl hs)
  · exact h.elim

theorem sd_astore {i : Nat} (hd : decode cc pc = .ok (.astore i, 2)) : sm_Snd l own nm cc nL z lev pc (pc + 2) (oAs i) := by
  intro p e R s m args below meth c Q b sb D cA H0 P hC Nx J hN hJ ls st w k q h
  obtain ⟨hx, hb, hml, hown, hts, hK, hbH, hRc, hRs, hRf, hRl, hnm, hEx, hI, hV⟩ := hC
  dsimp only [oAs] at h
  split at h
  · next v st =>
    obtain ⟨h1, h2, h⟩ := h
    intro H locs lsA hR hS hL ho hs
    refine lv_astore hx hb hd hL.has (by rw [← hL.2.1]; exact h1) rfl fun ls' h' => ?_
    exact hN _ _ _ _ _ h H locs ls' hR hS (hL.set1 h2 h1 h') (sm_ok_set ho (sm_ok_hd hs)) (sm_ok_tl hs)
  · exact h.elim

theorem sd_astore_n {i : Nat} {j : Fin 4} (hd : decode cc pc = .ok (.astore_n j, 1)) (hj : (j : Nat) = i) : sm_Snd l own nm cc nL z lev pc (pc + 1) (oAs i) := by
  intro p e R s m args below meth c Q b sb D cA H0 P hC Nx J hN hJ ls st w k q h
  obtain ⟨hx, hb, hml, hown, hts, hK, hbH, hRc, hRs, hRf, hRl, hnm, hEx, hI, hV⟩ := hC
  dsimp only [oAs] at h
  split at h
  · next v st =>
    obtain ⟨h1, h2, h⟩ := h
    intro H locs lsA hR hS hL ho hs
    refine lv_astore_n hx hb hd hj hL.has (by rw [← hL.2.1]; exact h1) rfl fun ls' h' => ?_
    exact hN _ _ _ _ _ h H locs ls' hR hS (hL.set1 h2 h1 h') (sm_ok_set ho (sm_ok_hd hs)) (sm_ok_tl hs)
  · exact h.elim

theorem sd_lstore {i : Nat} (hd : decode cc pc = .ok (.lstore i, 2)) : sm_Snd l own nm cc nL z lev pc (pc + 2) (oJs i) := by
  intro p e R s m args below meth c Q b sb D cA H0 P hC Nx J hN hJ ls st w k q h
  obtain ⟨hx, hb, hml, hown, hts, hK, hbH, hRc, hRs, hRf, hRl, hnm, hEx, hI, hV⟩ := hC
  dsimp only [oJs] at h
  split at h
  · next v st =>
    obtain ⟨h1, h2, h⟩ := h
    intro H locs lsA hR hS hL ho hs
    refine lv_lstore hx hb hd hL.has (by rw [← hL.2.1]; exact h1) rfl fun ls' h' => ?_
    exact hN _ _ _ _ _ h H locs ls' hR hS (hL.set2 h2 h1 h') (sm_ok_setN (sm_ok_set ho (sm_ok_hd hs))) (sm_ok_tl hs)
  · exact h.elim

theorem sd_lstore_n {i : Nat} {j : Fin 4} (hd : decode cc pc = .ok (.lstore_n j, 1)) (hj : (j : Nat) = i) : sm_Snd l own nm cc nL z lev pc (pc + 1) (oJs i) := by
  intro p e R s m args below meth c Q b sb D cA H0 P hC Nx J hN hJ ls st w k q h
  obtain ⟨hx, hb, hml, hown, hts, hK, hbH, hRc, hRs, hRf, hRl, hnm, hEx, hI, hV⟩ := hC
  dsimp only [oJs] at h
  split at h
  · next v st =>
    obtain ⟨h1, h2, h⟩ := h
    intro H locs lsA hR hS hL ho hs
    refine lv_lstore_n hx hb hd hj hL.has (by rw [← hL.2.1]; exact h1) rfl fun ls' h' => ?_
    exact hN _ _ _ _ _ h H locs ls' hR hS (hL.set2 h2 h1 h') (sm_ok_setN (sm_ok_set ho (sm_ok_hd hs))) (sm_ok_tl hs)
  · exact h.elim

theorem sd_iinc {i : Nat} {n : Int} (hd : decode cc pc = .ok (.iinc i n, 3)) : sm_Snd l own nm cc nL z lev pc (pc + 3) (oInc i n) := by
  intro p e R s m args below meth c Q b sb D cA H0 P hC Nx J hN hJ ls st w k q h
  obtain ⟨hx, hb, hml, hown, hts, hK, hbH, hRc, hRs, hRf, hRl, hnm, hEx, hI, hV⟩ := hC
  dsimp only [oInc] at h
  split at h
  · next v hv =>
    obtain ⟨h1, h2, h3, h⟩ := h
    intro H locs lsA hR hS hL ho hs
    have hm : (i, Value.int (Int32.ofInt v)) ∈ sm_asc b sb ls := sm_asc_mem.mpr ⟨.inl v, hv, rfl⟩
    obtain ⟨kk, hkk⟩ := List.getElem?_of_mem hm
    refine lv_iinc hx hb hd hL.has hkk (i3_add v n) (by rw [← hL.2.1]; exact h1) rfl fun ls' h' => ?_
    exact hN _ _ _ _ _ h H locs ls' hR hS (hL.set1 (v := .inl (v + n)) h2 h1 h') (sm_ok_set ho h3) hs
  · exact h.elim

theorem sd_iadd (hd : decode cc pc = .ok (.iadd, 1)) : sm_Snd l own nm cc nL z lev pc (pc + 1) (oAdd) := by
  intro p e R s m args below meth c Q b sb D cA H0 P hC Nx J hN hJ ls st w k q h
  obtain ⟨hx, hb, hml, hown, hts, hK, hbH, hRc, hRs, hRf, hRl, hnm, hEx, hI, hV⟩ := hC
  dsimp only [oAdd] at h
  split at h
  · next y x st =>
    obtain ⟨h1, h⟩ := h
    intro H locs lsA hR hS hL ho hs
    have hy : sm_r y := sm_ok_hd hs
    have hxx : sm_r x := sm_ok_hd (sm_ok_tl hs)
    have k := hN _ _ _ _ _ h H locs lsA hR hS hL ho (sm_ok_cons h1 (sm_ok_tl (sm_ok_tl hs)))
    refine lv_iadd hx hb hd ?_
    rw [i3_add]
    exact k
  · exact h.elim

theorem sd_isub (hd : decode cc pc = .ok (.isub, 1)) : sm_Snd l own nm cc nL z lev pc (pc + 1) (oSub) := by
  intro p e R s m args below meth c Q b sb D cA H0 P hC Nx J hN hJ ls st w k q h
  obtain ⟨hx, hb, hml, hown, hts, hK, hbH, hRc, hRs, hRf, hRl, hnm, hEx, hI, hV⟩ := hC
  dsimp only [oSub] at h
  split at h
  · next y x st =>
    obtain ⟨h1, h⟩ := h
    intro H locs lsA hR hS hL ho hs
    have hy : sm_r y := sm_ok_hd hs
    have hxx : sm_r x := sm_ok_hd (sm_ok_tl hs)
    have k := hN _ _ _ _ _ h H locs lsA hR hS hL ho (sm_ok_cons h1 (sm_ok_tl (sm_ok_tl hs)))
    refine lv_isub hx hb hd ?_
    rw [i3_sub]
    exact k
  · exact h.elim

theorem sd_imul (hd : decode cc pc = .ok (.imul, 1)) : sm_Snd l own nm cc nL z lev pc (pc + 1) (oMul) := by
  intro p e R s m args below meth c Q b sb D cA H0 P hC Nx J hN hJ ls st w k q h
  obtain ⟨hx, hb, hml, hown, hts, hK, hbH, hRc, hRs, hRf, hRl, hnm, hEx, hI, hV⟩ := hC
  dsimp only [oMul] at h
  split at h
  · next y x st =>
    obtain ⟨h1, h⟩ := h
    intro H locs lsA hR hS hL ho hs
    have hy : sm_r y := sm_ok_hd hs
    have hxx : sm_r x := sm_ok_hd (sm_ok_tl hs)
    have k := hN _ _ _ _ _ h H locs lsA hR hS hL ho (sm_ok_cons h1 (sm_ok_tl (sm_ok_tl hs)))
    refine lv_imul hx hb hd ?_
    rw [i3_mul]
    exact k
  · exact h.elim

theorem sd_idiv (hd : decode cc pc = .ok (.idiv, 1)) : sm_Snd l own nm cc nL z lev pc (pc + 1) (oDiv) := by
  intro p e R s m args below meth c Q b sb D cA H0 P hC Nx J hN hJ ls st w k q h
  obtain ⟨hx, hb, hml, hown, hts, hK, hbH, hRc, hRs, hRf, hRl, hnm, hEx, hI, hV⟩ := hC
  dsimp only [oDiv] at h
  split at h
  · next y x st =>
    obtain ⟨h1, h2, h⟩ := h
    intro H locs lsA hR hS hL ho hs
    have hy : sm_r y := sm_ok_hd hs
    have hxx : sm_r x := sm_ok_hd (sm_ok_tl hs)
    have hr : sm_r (x / y) := ⟨by have := Int.ediv_nonneg h1 (Int.le_of_lt h2); omega, by have := Int.ediv_le_self y h1; have := hxx.2; omega⟩
    have k := hN _ _ _ _ _ h H locs lsA hR hS hL ho (sm_ok_cons hr (sm_ok_tl (sm_ok_tl hs)))
    refine lv_idiv hx hb hd (fun e => by rw [i3_z, i3_eq hy i3_0] at e; omega) ?_
    rw [i3_div h1 h2 hxx hy]
    exact k
  · exact h.elim

theorem sd_irem (hd : decode cc pc = .ok (.irem, 1)) : sm_Snd l own nm cc nL z lev pc (pc + 1) (oRem) := by
  intro p e R s m args below meth c Q b sb D cA H0 P hC Nx J hN hJ ls st w k q h
  obtain ⟨hx, hb, hml, hown, hts, hK, hbH, hRc, hRs, hRf, hRl, hnm, hEx, hI, hV⟩ := hC
  dsimp only [oRem] at h
  split at h
  · next y x st =>
    obtain ⟨h1, h2, h⟩ := h
    intro H locs lsA hR hS hL ho hs
    have hy : sm_r y := sm_ok_hd hs
    have hxx : sm_r x := sm_ok_hd (sm_ok_tl hs)
    have hr : sm_r (x % y) := ⟨by have := Int.emod_nonneg x (show y ≠ 0 by omega); omega, by have := Int.emod_lt_of_pos x h2; have := hy.2; omega⟩
    have k := hN _ _ _ _ _ h H locs lsA hR hS hL ho (sm_ok_cons hr (sm_ok_tl (sm_ok_tl hs)))
    refine lv_irem hx hb hd (fun e => by rw [i3_z, i3_eq hy i3_0] at e; omega) ?_
    rw [i3_rem h1 h2 hxx hy]
    exact k
  · exact h.elim

theorem sd_ineg (hd : decode cc pc = .ok (.ineg, 1)) : sm_Snd l own nm cc nL z lev pc (pc + 1) (oNeg) := by
  intro p e R s m args below meth c Q b sb D cA H0 P hC Nx J hN hJ ls st w k q h
  obtain ⟨hx, hb, hml, hown, hts, hK, hbH, hRc, hRs, hRf, hRl, hnm, hEx, hI, hV⟩ := hC
  dsimp only [oNeg] at h
  split at h
  · next x st =>
    obtain ⟨h1, h⟩ := h
    intro H locs lsA hR hS hL ho hs
    have k := hN _ _ _ _ _ h H locs lsA hR hS hL ho (sm_ok_cons h1 (sm_ok_tl hs))
    refine lv_ineg hx hb hd ?_
    rw [show -Int32.ofInt x = Int32.ofInt (-x) from (Int32.ofInt_neg x).symm]
    exact k
  · exact h.elim

theorem sd_i2c (hd : decode cc pc = .ok (.i2c, 1)) : sm_Snd l own nm cc nL z lev pc (pc + 1) (oI2c) := by
  intro p e R s m args below meth c Q b sb D cA H0 P hC Nx J hN hJ ls st w k q h
  obtain ⟨hx, hb, hml, hown, hts, hK, hbH, hRc, hRs, hRf, hRl, hnm, hEx, hI, hV⟩ := hC
  dsimp only [oI2c] at h
  split at h
  · next x st =>
    obtain ⟨h1, h2, h⟩ := h
    intro H locs lsA hR hS hL ho hs
    refine lv_i2c (v := Int32.ofInt x) hx hb hd ?_ (hN _ _ _ _ _ h H locs lsA hR hS hL ho hs)
    rw [i3_n h1, pk_char, pk_tn (by omega), Nat.mod_eq_of_lt (by omega)]
  · exact h.elim

theorem sd_i2l (hd : decode cc pc = .ok (.i2l, 1)) : sm_Snd l own nm cc nL z lev pc (pc + 1) (oI2l) := by
  intro p e R s m args below meth c Q b sb D cA H0 P hC Nx J hN hJ ls st w k q h
  obtain ⟨hx, hb, hml, hown, hts, hK, hbH, hRc, hRs, hRf, hRl, hnm, hEx, hI, hV⟩ := hC
  dsimp only [oI2l] at h
  split at h
  · next x st =>
    intro H locs lsA hR hS hL ho hs
    exact lv_i2l hx hb hd rfl (hN _ _ _ _ _ h H locs lsA hR hS hL ho (sm_ok_cons trivial (sm_ok_tl hs)))
  · exact h.elim

theorem sd_l2i (hd : decode cc pc = .ok (.l2i, 1)) : sm_Snd l own nm cc nL z lev pc (pc + 1) (oL2i) := by
  intro p e R s m args below meth c Q b sb D cA H0 P hC Nx J hN hJ ls st w k q h
  obtain ⟨hx, hb, hml, hown, hts, hK, hbH, hRc, hRs, hRf, hRl, hnm, hEx, hI, hV⟩ := hC
  dsimp only [oL2i] at h
  split at h
  · next x st =>
    intro H locs lsA hR hS hL ho hs
    exact lv_l2i hx hb hd (i3_self _).symm (hN _ _ _ _ _ h H locs lsA hR hS hL ho (sm_ok_cons (i3_rng _) (sm_ok_tl hs)))
  · exact h.elim

theorem sd_land (hd : decode cc pc = .ok (.land, 1)) : sm_Snd l own nm cc nL z lev pc (pc + 1) (oLand) := by
  intro p e R s m args below meth c Q b sb D cA H0 P hC Nx J hN hJ ls st w k q h
  obtain ⟨hx, hb, hml, hown, hts, hK, hbH, hRc, hRs, hRf, hRl, hnm, hEx, hI, hV⟩ := hC
  dsimp only [oLand] at h
  split at h
  · next y x st =>
    intro H locs lsA hR hS hL ho hs
    exact lv_land hx hb hd (hN _ _ _ _ _ h H locs lsA hR hS hL ho (sm_ok_cons trivial (sm_ok_tl (sm_ok_tl hs))))
  · exact h.elim

theorem sd_lor (hd : decode cc pc = .ok (.lor, 1)) : sm_Snd l own nm cc nL z lev pc (pc + 1) (oLor) := by
  intro p e R s m args below meth c Q b sb D cA H0 P hC Nx J hN hJ ls st w k q h
  obtain ⟨hx, hb, hml, hown, hts, hK, hbH, hRc, hRs, hRf, hRl, hnm, hEx, hI, hV⟩ := hC
  dsimp only [oLor] at h
  split at h
  · next y x st =>
    intro H locs lsA hR hS hL ho hs
    exact lv_lor hx hb hd (hN _ _ _ _ _ h H locs lsA hR hS hL ho (sm_ok_cons trivial (sm_ok_tl (sm_ok_tl hs))))
  · exact h.elim

theorem sd_lshl (hd : decode cc pc = .ok (.lshl, 1)) : sm_Snd l own nm cc nL z lev pc (pc + 1) (oLshl) := by
  intro p e R s m args below meth c Q b sb D cA H0 P hC Nx J hN hJ ls st w k q h
  obtain ⟨hx, hb, hml, hown, hts, hK, hbH, hRc, hRs, hRf, hRl, hnm, hEx, hI, hV⟩ := hC
  dsimp only [oLshl] at h
  split at h
  · next y x st =>
    intro H locs lsA hR hS hL ho hs
    exact lv_lshl hx hb hd rfl (hN _ _ _ _ _ h H locs lsA hR hS hL ho (sm_ok_cons trivial (sm_ok_tl (sm_ok_tl hs))))
  · exact h.elim

theorem sd_lshr (hd : decode cc pc = .ok (.lshr, 1)) : sm_Snd l own nm cc nL z lev pc (pc + 1) (oLshr) := by
  intro p e R s m args below meth c Q b sb D cA H0 P hC Nx J hN hJ ls st w k q h
  obtain ⟨hx, hb, hml, hown, hts, hK, hbH, hRc, hRs, hRf, hRl, hnm, hEx, hI, hV⟩ := hC
  dsimp only [oLshr] at h
  split at h
  · next y x st =>
    intro H locs lsA hR hS hL ho hs
    exact lv_lshr hx hb hd rfl (hN _ _ _ _ _ h H locs lsA hR hS hL ho (sm_ok_cons trivial (sm_ok_tl (sm_ok_tl hs))))
  · exact h.elim

theorem sd_lushr (hd : decode cc pc = .ok (.lushr, 1)) : sm_Snd l own nm cc nL z lev pc (pc + 1) (oLushr) := by
  intro p e R s m args below meth c Q b sb D cA H0 P hC Nx J hN hJ ls st w k q h
  obtain ⟨hx, hb, hml, hown, hts, hK, hbH, hRc, hRs, hRf, hRl, hnm, hEx, hI, hV⟩ := hC
  dsimp only [oLushr] at h
  split at h
  · next y x st =>
    intro H locs lsA hR hS hL ho hs
    exact lv_lushr hx hb hd rfl (hN _ _ _ _ _ h H locs lsA hR hS hL ho (sm_ok_cons trivial (sm_ok_tl (sm_ok_tl hs))))
  · exact h.elim

theorem sd_lcmp (hd : decode cc pc = .ok (.lcmp, 1)) : sm_Snd l own nm cc nL z lev pc (pc + 1) (oLcmp) := by
  intro p e R s m args below meth c Q b sb D cA H0 P hC Nx J hN hJ ls st w k q h
  obtain ⟨hx, hb, hml, hown, hts, hK, hbH, hRc, hRs, hRf, hRl, hnm, hEx, hI, hV⟩ := hC
  dsimp only [oLcmp] at h
  split at h
  · next y x st =>
    intro H locs lsA hR hS hL ho hs
    have k := hN _ _ _ _ _ h H locs lsA hR hS hL ho (sm_ok_cons (i3_rng _) (sm_ok_tl (sm_ok_tl hs)))
    refine W.lcmp hx hb hd ?_
    rw [List.map_cons] at k
    dsimp only [sm_ev] at k
    rw [i3_self] at k
    exact k
  · exact h.elim

theorem sd_dup (hd : decode cc pc = .ok (.dup, 1)) : sm_Snd l own nm cc nL z lev pc (pc + 1) (oDup) := by
  intro p e R s m args below meth c Q b sb D cA H0 P hC Nx J hN hJ ls st w k q h
  obtain ⟨hx, hb, hml, hown, hts, hK, hbH, hRc, hRs, hRf, hRl, hnm, hEx, hI, hV⟩ := hC
  dsimp only [oDup] at h
  split at h
  · next v st =>
    obtain ⟨h1, h⟩ := h
    intro H locs lsA hR hS hL ho hs
    exact lv_dup hx hb hd (by rw [sm_ev_cat, h1]) (hN _ _ _ _ _ h H locs lsA hR hS hL ho (sm_ok_cons (sm_ok_hd hs) hs))
  · exact h.elim

theorem sd_dup2 (hd : decode cc pc = .ok (.dup2, 1)) : sm_Snd l own nm cc nL z lev pc (pc + 1) (oDup2) := by
  intro p e R s m args below meth c Q b sb D cA H0 P hC Nx J hN hJ ls st w k q h
  obtain ⟨hx, hb, hml, hown, hts, hK, hbH, hRc, hRs, hRf, hRl, hnm, hEx, hI, hV⟩ := hC
  dsimp only [oDup2] at h
  split at h
  · next v u st =>
    obtain ⟨h1, h2, h⟩ := h
    intro H locs lsA hR hS hL ho hs
    exact lv_dup2_11 hx hb hd (by rw [sm_ev_cat, h1]) (by rw [sm_ev_cat, h2]) (hN _ _ _ _ _ h H locs lsA hR hS hL ho (sm_ok_cons (sm_ok_hd hs) (sm_ok_cons (sm_ok_hd (sm_ok_tl hs)) hs)))
  · exact h.elim

theorem sd_pop (hd : decode cc pc = .ok (.pop, 1)) : sm_Snd l own nm cc nL z lev pc (pc + 1) (oPop) := by
  intro p e R s m args below meth c Q b sb D cA H0 P hC Nx J hN hJ ls st w k q h
  obtain ⟨hx, hb, hml, hown, hts, hK, hbH, hRc, hRs, hRf, hRl, hnm, hEx, hI, hV⟩ := hC
  dsimp only [oPop] at h
  split at h
  · next v st =>
    obtain ⟨h1, h⟩ := h
    intro H locs lsA hR hS hL ho hs
    exact lv_pop hx hb hd (by rw [sm_ev_cat, h1]) (hN _ _ _ _ _ h H locs lsA hR hS hL ho (sm_ok_tl hs))
  · exact h.elim

theorem sd_goto {off : Int} {t : Nat} {x : Nat} (hd : decode cc pc = .ok (.goto off, 3)) (ht : (pc : Int) + off = (t : Int)) : sm_Snd l own nm cc nL z lev pc (x) (oGo t) := by
  intro p e R s m args below meth c Q b sb D cA H0 P hC Nx J hN hJ ls st w k q h
  obtain ⟨hx, hb, hml, hown, hts, hK, hbH, hRc, hRs, hRf, hRl, hnm, hEx, hI, hV⟩ := hC
  intro H locs lsA hR hS hL ho hs
  exact lv_goto hx hb hd ht (hJ _ _ _ _ _ _ h H locs lsA hR hS hL ho hs)

theorem sd_fall {x : Nat} : sm_Snd l own nm cc nL z lev pc (x) (oGo pc) := by
  intro p e R s m args below meth c Q b sb D cA H0 P hC Nx J hN hJ ls st w k q h
  obtain ⟨hx, hb, hml, hown, hts, hK, hbH, hRc, hRs, hRf, hRl, hnm, hEx, hI, hV⟩ := hC
  exact hJ _ _ _ _ _ _ h

theorem sd_eq {off : Int} {t : Nat} (hd : decode cc pc = .ok (.if_icmp .eq off, 3)) (ht : (pc : Int) + off = (t : Int)) : sm_Snd l own nm cc nL z lev pc (pc + 3) (oEq t) := by
  intro p e R s m args below meth c Q b sb D cA H0 P hC Nx J hN hJ ls st w k q h
  obtain ⟨hx, hb, hml, hown, hts, hK, hbH, hRc, hRs, hRf, hRl, hnm, hEx, hI, hV⟩ := hC
  dsimp only [oEq] at h
  split at h
  · next y x st =>
    intro H locs lsA hR hS hL ho hs
    have hy : sm_r y := sm_ok_hd hs
    have hxx : sm_r x := sm_ok_hd (sm_ok_tl hs)
    exact lv_icmp_eq hx hb hd ht (fun e0 => hJ _ _ _ _ _ _ (h.1 ((i3_eq hxx hy).mp e0)) H locs lsA hR hS hL ho (sm_ok_tl (sm_ok_tl hs))) (fun e0 => hN _ _ _ _ _ (h.2 (fun e1 => e0 ((i3_eq hxx hy).mpr e1))) H locs lsA hR hS hL ho (sm_ok_tl (sm_ok_tl hs)))
  · exact h.elim

theorem sd_eq0 {off : Int} {t : Nat} (hd : decode cc pc = .ok (.ifCond .eq off, 3)) (ht : (pc : Int) + off = (t : Int)) : sm_Snd l own nm cc nL z lev pc (pc + 3) (oEq0 t) := by
  intro p e R s m args below meth c Q b sb D cA H0 P hC Nx J hN hJ ls st w k q h
  obtain ⟨hx, hb, hml, hown, hts, hK, hbH, hRc, hRs, hRf, hRl, hnm, hEx, hI, hV⟩ := hC
  dsimp only [oEq0] at h
  split at h
  · next x st =>
    intro H locs lsA hR hS hL ho hs
    have hxx : sm_r x := sm_ok_hd hs
    have hy := i3_0
    exact lv_if_eq hx hb hd ht (fun e0 => hJ _ _ _ _ _ _ (h.1 ((i3_eq hxx hy).mp e0)) H locs lsA hR hS hL ho (sm_ok_tl hs)) (fun e0 => hN _ _ _ _ _ (h.2 (fun e1 => e0 ((i3_eq hxx hy).mpr e1))) H locs lsA hR hS hL ho (sm_ok_tl hs))
  · exact h.elim

theorem sd_ne {off : Int} {t : Nat} (hd : decode cc pc = .ok (.if_icmp .ne off, 3)) (ht : (pc : Int) + off = (t : Int)) : sm_Snd l own nm cc nL z lev pc (pc + 3) (oNe t) := by
  intro p e R s m args below meth c Q b sb D cA H0 P hC Nx J hN hJ ls st w k q h
  obtain ⟨hx, hb, hml, hown, hts, hK, hbH, hRc, hRs, hRf, hRl, hnm, hEx, hI, hV⟩ := hC
  dsimp only [oNe] at h
  split at h
  · next y x st =>
    intro H locs lsA hR hS hL ho hs
    have hy : sm_r y := sm_ok_hd hs
    have hxx : sm_r x := sm_ok_hd (sm_ok_tl hs)
    exact lv_icmp_ne hx hb hd ht (fun e0 => hJ _ _ _ _ _ _ (h.1 (fun e1 => e0 ((i3_eq hxx hy).mpr e1))) H locs lsA hR hS hL ho (sm_ok_tl (sm_ok_tl hs))) (fun e0 => hN _ _ _ _ _ (h.2 ((i3_eq hxx hy).mp e0)) H locs lsA hR hS hL ho (sm_ok_tl (sm_ok_tl hs)))
  · exact h.elim

theorem sd_ne0 {off : Int} {t : Nat} (hd : decode cc pc = .ok (.ifCond .ne off, 3)) (ht : (pc : Int) + off = (t : Int)) : sm_Snd l own nm cc nL z lev pc (pc + 3) (oNe0 t) := by
  intro p e R s m args below meth c Q b sb D cA H0 P hC Nx J hN hJ ls st w k q h
  obtain ⟨hx, hb, hml, hown, hts, hK, hbH, hRc, hRs, hRf, hRl, hnm, hEx, hI, hV⟩ := hC
  dsimp only [oNe0] at h
  split at h
  · next x st =>
    intro H locs lsA hR hS hL ho hs
    have hxx : sm_r x := sm_ok_hd hs
    have hy := i3_0
    exact lv_if_ne hx hb hd ht (fun e0 => hJ _ _ _ _ _ _ (h.1 (fun e1 => e0 ((i3_eq hxx hy).mpr e1))) H locs lsA hR hS hL ho (sm_ok_tl hs)) (fun e0 => hN _ _ _ _ _ (h.2 ((i3_eq hxx hy).mp e0)) H locs lsA hR hS hL ho (sm_ok_tl hs))
  · exact h.elim

theorem sd_lt {off : Int} {t : Nat} (hd : decode cc pc = .ok (.if_icmp .lt off, 3)) (ht : (pc : Int) + off = (t : Int)) : sm_Snd l own nm cc nL z lev pc (pc + 3) (oLt t) := by
  intro p e R s m args below meth c Q b sb D cA H0 P hC Nx J hN hJ ls st w k q h
  obtain ⟨hx, hb, hml, hown, hts, hK, hbH, hRc, hRs, hRf, hRl, hnm, hEx, hI, hV⟩ := hC
  dsimp only [oLt] at h
  split at h
  · next y x st =>
    intro H locs lsA hR hS hL ho hs
    have hy : sm_r y := sm_ok_hd hs
    have hxx : sm_r x := sm_ok_hd (sm_ok_tl hs)
    exact lv_icmp_lt hx hb hd ht (fun e0 => hJ _ _ _ _ _ _ (h.1 ((i3_lt hxx hy).mp e0)) H locs lsA hR hS hL ho (sm_ok_tl (sm_ok_tl hs))) (fun e0 => hN _ _ _ _ _ (h.2 ((i3_le hy hxx).mp (Int32.not_lt.mp e0))) H locs lsA hR hS hL ho (sm_ok_tl (sm_ok_tl hs)))
  · exact h.elim

theorem sd_lt0 {off : Int} {t : Nat} (hd : decode cc pc = .ok (.ifCond .lt off, 3)) (ht : (pc : Int) + off = (t : Int)) : sm_Snd l own nm cc nL z lev pc (pc + 3) (oLt0 t) := by
  intro p e R s m args below meth c Q b sb D cA H0 P hC Nx J hN hJ ls st w k q h
  obtain ⟨hx, hb, hml, hown, hts, hK, hbH, hRc, hRs, hRf, hRl, hnm, hEx, hI, hV⟩ := hC
  dsimp only [oLt0] at h
  split at h
  · next x st =>
    intro H locs lsA hR hS hL ho hs
    have hxx : sm_r x := sm_ok_hd hs
    have hy := i3_0
    exact lv_if_lt hx hb hd ht (fun e0 => hJ _ _ _ _ _ _ (h.1 ((i3_lt hxx hy).mp e0)) H locs lsA hR hS hL ho (sm_ok_tl hs)) (fun e0 => hN _ _ _ _ _ (h.2 ((i3_le hy hxx).mp (Int32.not_lt.mp e0))) H locs lsA hR hS hL ho (sm_ok_tl hs))
  · exact h.elim

theorem sd_ge {off : Int} {t : Nat} (hd : decode cc pc = .ok (.if_icmp .ge off, 3)) (ht : (pc : Int) + off = (t : Int)) : sm_Snd l own nm cc nL z lev pc (pc + 3) (oGe t) := by
  intro p e R s m args below meth c Q b sb D cA H0 P hC Nx J hN hJ ls st w k q h
  obtain ⟨hx, hb, hml, hown, hts, hK, hbH, hRc, hRs, hRf, hRl, hnm, hEx, hI, hV⟩ := hC
  dsimp only [oGe] at h
  split at h
  · next y x st =>
    intro H locs lsA hR hS hL ho hs
    have hy : sm_r y := sm_ok_hd hs
    have hxx : sm_r x := sm_ok_hd (sm_ok_tl hs)
    exact lv_icmp_ge hx hb hd ht (fun e0 => hJ _ _ _ _ _ _ (h.1 ((i3_le hy hxx).mp e0)) H locs lsA hR hS hL ho (sm_ok_tl (sm_ok_tl hs))) (fun e0 => hN _ _ _ _ _ (h.2 ((i3_lt hxx hy).mp (Int32.not_le.mp e0))) H locs lsA hR hS hL ho (sm_ok_tl (sm_ok_tl hs)))
  · exact h.elim

theorem sd_ge0 {off : Int} {t : Nat} (hd : decode cc pc = .ok (.ifCond .ge off, 3)) (ht : (pc : Int) + off = (t : Int)) : sm_Snd l own nm cc nL z lev pc (pc + 3) (oGe0 t) := by
  intro p e R s m args below meth c Q b sb D cA H0 P hC Nx J hN hJ ls st w k q h
  obtain ⟨hx, hb, hml, hown, hts, hK, hbH, hRc, hRs, hRf, hRl, hnm, hEx, hI, hV⟩ := hC
  dsimp only [oGe0] at h
  split at h
  · next x st =>
    intro H locs lsA hR hS hL ho hs
    have hxx : sm_r x := sm_ok_hd hs
    have hy := i3_0
    exact lv_if_ge hx hb hd ht (fun e0 => hJ _ _ _ _ _ _ (h.1 ((i3_le hy hxx).mp e0)) H locs lsA hR hS hL ho (sm_ok_tl hs)) (fun e0 => hN _ _ _ _ _ (h.2 ((i3_lt hxx hy).mp (Int32.not_le.mp e0))) H locs lsA hR hS hL ho (sm_ok_tl hs))
  · exact h.elim

theorem sd_gt {off : Int} {t : Nat} (hd : decode cc pc = .ok (.if_icmp .gt off, 3)) (ht : (pc : Int) + off = (t : Int)) : sm_Snd l own nm cc nL z lev pc (pc + 3) (oGt t) := by
  intro p e R s m args below meth c Q b sb D cA H0 P hC Nx J hN hJ ls st w k q h
  obtain ⟨hx, hb, hml, hown, hts, hK, hbH, hRc, hRs, hRf, hRl, hnm, hEx, hI, hV⟩ := hC
  dsimp only [oGt] at h
  split at h
  · next y x st =>
    intro H locs lsA hR hS hL ho hs
    have hy : sm_r y := sm_ok_hd hs
    have hxx : sm_r x := sm_ok_hd (sm_ok_tl hs)
    exact lv_icmp_gt hx hb hd ht (fun e0 => hJ _ _ _ _ _ _ (h.1 ((i3_lt hy hxx).mp e0)) H locs lsA hR hS hL ho (sm_ok_tl (sm_ok_tl hs))) (fun e0 => hN _ _ _ _ _ (h.2 ((i3_le hxx hy).mp (Int32.not_lt.mp e0))) H locs lsA hR hS hL ho (sm_ok_tl (sm_ok_tl hs)))
  · exact h.elim

theorem sd_gt0 {off : Int} {t : Nat} (hd : decode cc pc = .ok (.ifCond .gt off, 3)) (ht : (pc : Int) + off = (t : Int)) : sm_Snd l own nm cc nL z lev pc (pc + 3) (oGt0 t) := by
  intro p e R s m args below meth c Q b sb D cA H0 P hC Nx J hN hJ ls st w k q h
  obtain ⟨hx, hb, hml, hown, hts, hK, hbH, hRc, hRs, hRf, hRl, hnm, hEx, hI, hV⟩ := hC
  dsimp only [oGt0] at h
  split at h
  · next x st =>
    intro H locs lsA hR hS hL ho hs
    have hxx : sm_r x := sm_ok_hd hs
    have hy := i3_0
    exact lv_if_gt hx hb hd ht (fun e0 => hJ _ _ _ _ _ _ (h.1 ((i3_lt hy hxx).mp e0)) H locs lsA hR hS hL ho (sm_ok_tl hs)) (fun e0 => hN _ _ _ _ _ (h.2 ((i3_le hxx hy).mp (Int32.not_lt.mp e0))) H locs lsA hR hS hL ho (sm_ok_tl hs))
  · exact h.elim

theorem sd_le {off : Int} {t : Nat} (hd : decode cc pc = .ok (.if_icmp .le off, 3)) (ht : (pc : Int) + off = (t : Int)) : sm_Snd l own nm cc nL z lev pc (pc + 3) (oLe t) := by
  intro p e R s m args below meth c Q b sb D cA H0 P hC Nx J hN hJ ls st w k q h
  obtain ⟨hx, hb, hml, hown, hts, hK, hbH, hRc, hRs, hRf, hRl, hnm, hEx, hI, hV⟩ := hC
  dsimp only [oLe] at h
  split at h
  · next y x st =>
    intro H locs lsA hR hS hL ho hs
    have hy : sm_r y := sm_ok_hd hs
    have hxx : sm_r x := sm_ok_hd (sm_ok_tl hs)
    exact lv_icmp_le hx hb hd ht (fun e0 => hJ _ _ _ _ _ _ (h.1 ((i3_le hxx hy).mp e0)) H locs lsA hR hS hL ho (sm_ok_tl (sm_ok_tl hs))) (fun e0 => hN _ _ _ _ _ (h.2 ((i3_lt hy hxx).mp (Int32.not_le.mp e0))) H locs lsA hR hS hL ho (sm_ok_tl (sm_ok_tl hs)))
  · exact h.elim

theorem sd_le0 {off : Int} {t : Nat} (hd : decode cc pc = .ok (.ifCond .le off, 3)) (ht : (pc : Int) + off = (t : Int)) : sm_Snd l own nm cc nL z lev pc (pc + 3) (oLe0 t) := by
  intro p e R s m args below meth c Q b sb D cA H0 P hC Nx J hN hJ ls st w k q h
  obtain ⟨hx, hb, hml, hown, hts, hK, hbH, hRc, hRs, hRf, hRl, hnm, hEx, hI, hV⟩ := hC
  dsimp only [oLe0] at h
  split at h
  · next x st =>
    intro H locs lsA hR hS hL ho hs
    have hxx : sm_r x := sm_ok_hd hs
    have hy := i3_0
    exact lv_if_le hx hb hd ht (fun e0 => hJ _ _ _ _ _ _ (h.1 ((i3_le hxx hy).mp e0)) H locs lsA hR hS hL ho (sm_ok_tl hs)) (fun e0 => hN _ _ _ _ _ (h.2 ((i3_lt hy hxx).mp (Int32.not_le.mp e0))) H locs lsA hR hS hL ho (sm_ok_tl hs))
  · exact h.elim

end
