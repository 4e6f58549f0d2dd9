/-! CALLS, ENDS, BLOCKS, AND A METHOD'S CONTRACT OUT OF A RUN OF THE SMALL MACHINE -/
theorem sm_goodIn {ws : List Cond} (h : ∀ w ∈ ws, w ∈ sm_tbl) : GoodIn sm_tbl ws := fun w hw => ⟨h w hw, good_of_word (sm_good (h w hw)).2⟩
def sm_rm (lev mc ms : Nat) : Room := { frames := lev, cells := mc, slots := ms, locals := 40 * lev }
def sm_Pc (b sb : Nat) (D : va_G) (cA : Nat → ClassId) (as : List sm_V) (w : sm_W) : Array Value → State → Prop := fun a U => a = (as.map (sm_ev b sb)).toArray ∧ sm_Rep b sb D cA w U U.heap ∧ va_K D vwCl (sm_tys cA) U ∧ sm_Ex U ∧ ∀ v ∈ as, sm_ok v
def sm_Qc (b sb : Nat) (D : va_G) (cA : Nat → ClassId) (r : Option sm_V × sm_W) : Array Value → State → Outcome → State → Prop := fun _ st o t => o = .returned (r.1.map (sm_ev b sb)) ∧ sm_Rep b sb D cA r.2 t t.heap ∧ (∀ v, r.1 = some v → sm_ok v) ∧ va_F (fun x => b ≤ x) st t
def sm_Met (l : Launch) (y : MethodName) (bytes : ByteArray) (maxL : Nat) (ret : Option FieldType) (lev mc ms : Nat) (Pre : List sm_V → sm_W → Prop) (F : sm_F) : Prop := ∀ b sb D cA as w, Pre as w → Met l y (Cond.code y bytes maxL ret :: sm_tbl) (sm_rm lev mc ms) (sm_Pc b sb D cA as w) (sm_Qc b sb D cA (F as w)) mc ms (fun x => b ≤ x)
theorem sm_Pc_blind {b sb : Nat} {D : va_G} {cA : Nat → ClassId} {as : List sm_V} {w : sm_W} : FrameBlind (sm_Pc b sb D cA as w) := fun a U g mk h => ⟨h.1, sm_Rep.moved (u := U) (U := U.calling g mk a) (Vm.Alike.refl U.vm) h.2.1, va_K.moved (u := U) (U := U.calling g mk a) (Vm.Alike.refl U.vm) h.2.2.1, sm_Ex.same (u := U) (U := U.calling g mk a) rfl h.2.2.2.1, h.2.2.2.2⟩
theorem sm_pop_spec : ∀ {n : Nat} {st acc as rest : List sm_V}, sm_pop n st acc = some (as, rest) → ∃ xs : List sm_V, xs.length = n ∧ st = xs ++ rest ∧ as = xs.reverse ++ acc
  | 0, st, acc, as, rest, h => by
    cases h
    exact ⟨[], rfl, rfl, rfl⟩
  | n + 1, [], acc, as, rest, h => by cases h
  | n + 1, v :: st, acc, as, rest, h => by
    obtain ⟨xs, h1, h2, h3⟩ := sm_pop_spec (n := n) (st := st) (acc := v :: acc) h
    exact ⟨v :: xs, by simp [h1], by rw [h2]; rfl, by rw [h3]; simp⟩
section
variable {p : Program} {l : Launch} {e : Env} {R : Room} {s : State} {m : MethodId} {args : Array Value} {below : List Frame} {meth : Method} {c : Code} {H : Heap} {locs : List Loc} {Q : State → Prop} {b sb : Nat} {D : va_G} {cA : Nat → ClassId} {H0 : Heap}
theorem sm_after {k q mc ms pc : Nat} {lsA : Array Slot} {st0 rest : List Value} {a : Array Value} {r : Option sm_V × sm_W} (hr : va_Run p l e R s m args below meth c H locs k q mc ms (F0 m pc lsA st0) rest (sm_Qc b sb D cA r a) (fun x => b ≤ x)) (hbH : b ≤ H0.size) (hS : va_S (fun x => b ≤ x) H0 H locs)
    (kk : ∀ (H1 : Heap) (locs1 : List Loc), sm_Rep b sb D cA r.2 s H1 → va_S (fun x => b ≤ x) H0 H1 locs1 → (∀ v, r.1 = some v → sm_ok v) → W p l e R s m args below meth c H1 locs1 (k + mc) (q + ms) Q (F0 m (pc + 3) lsA ((r.1.map (sm_ev b sb)).toList ++ rest))) : W p l e R s m args below meth c H locs k q Q (F0 m pc lsA st0) := by
  intro T hT X
  obtain ⟨v, st₀, t, T', L, h0, X', hL, e1, e2, ⟨hv, hR, hok, hz, hk⟩, st⟩ := hr T hT X
  cases hv
  rw [h0] at hz hk
  have hal : t.vm.Alike s.vm := by rw [← e2]; exact X'.warmed.alike.symm
  obtain ⟨t2, a1, b1⟩ := kk T'.heap (locs ++ L) (by rw [e1]; exact hR.moved hal)
    ⟨Nat.le_trans hS.1 (by rw [e1]; exact hz), fun x h1 h2 => by rw [e1, hk x (Nat.lt_of_lt_of_le h1 hS.1) h2]; exact hS.2.1 x h1 h2, fun x hx => by
      rcases List.mem_append.mp hx with h | h
      · exact hS.2.2 x h
      · exact hL x h⟩ hok T' rfl X'
  exact ⟨t2, st t2 a1, b1⟩
end
section
variable {l : Launch} {own nm : String} {cc : ByteArray} {nL : Nat} {z : Nat} {lev : Nat} {pc : Nat}
theorem sm_back_go {p : Program} {e : Env} {R : Room} {s : State} {m : MethodId} {args : Array Value} {below : List Frame} {meth : Method} {c : Code} {Q : State → Prop} {b sb : Nat} {D : va_G} {cA : Nat → ClassId} {H0 : Heap} {Nx : sm_K} {pc' : Nat} (hN : ∀ ls st w k q, Nx ls st w k q → sm_Wz p l e R s m args below meth c Q b sb D cA H0 nL pc' ls st w k q) {ls : List (Option sm_V)} {st : List sm_V} {k q : Nat} {r : Option sm_V × sm_W} (h : sm_back Nx ls st k q r)
    (H : Heap) (locs : List Loc) (lsA : Array Slot) (hR : sm_Rep b sb D cA r.2 s H) (hS : va_S (fun x => b ≤ x) H0 H locs) (hL : sm_L nL b sb lsA ls) (ho : ∀ v, some v ∈ ls → sm_ok v) (hs : ∀ v ∈ st, sm_ok v) (hok : ∀ v, r.1 = some v → sm_ok v) : W p l e R s m args below meth c H locs k q Q (F0 m pc' lsA ((r.1.map (sm_ev b sb)).toList ++ st.map (sm_ev b sb))) := by
  obtain ⟨v, w⟩ := r
  cases v with
  | none => exact hN _ _ _ _ _ h H locs lsA hR hS hL ho hs
  | some v => exact hN _ _ _ _ _ h H locs lsA hR hS hL ho (sm_ok_cons (hok v rfl) hs)

theorem sd_callv {y : MethodName} {bytes : ByteArray} {maxL : Nat} {ret : Option FieldType} {lv mc ms n idx : Nat} {Pre : List sm_V → sm_W → Prop} {F : sm_F} (hM : sm_Met l y bytes maxL ret lv mc ms Pre F) (hlv : lv + 1 ≤ lev) (hmx : maxL ≤ 21) (hcode : Cond.code y bytes maxL ret ∈ sm_tbl) (hlink : Cond.methodLink own idx y ∈ sm_tbl) (hini : Cond.initialized y.cls ∈ sm_tbl) (hdd : y.cls ≠ "java/lang/invoke/MethodHandle" ∧ y.cls ≠ "java/lang/invoke/VarHandle" ∧ (parseMethodDescriptor y.desc).map (fun d => d.parameters.length) = some n) {ci N : Nat} {C : String} {T : u_T} (hcl : sm_Cl ci C T N) (hinst : Cond.instanceMethod y ∈ sm_tbl) (hsel : Cond.selects C y y ∈ sm_tbl) (hd : decode cc pc = .ok (.invokevirtual idx, 3)) : sm_Snd l own nm cc nL z lev pc (pc + 3) (oCv ci N Pre F mc ms (n + 1)) := by
  intro p e R s m args below meth c Q b sb D cA H0 P hC Nx J hN hJ ls st w kc qc h
  obtain ⟨hx, hb, hml, hown, hts, hK, hbH, hRc, hRs, hRf, hRl, hnm, hEx, hI, hV⟩ := id hC
  dsimp only [oCv] at h
  split at h
  · next a as st' hp =>
    obtain ⟨h0, h1, h2, h3, h4, h⟩ := h
    obtain ⟨xs, x1, x2, x3⟩ := sm_pop_spec hp
    subst x2
    rw [List.append_nil] at x3
    intro H locs lsA hR hS hL ho hs
    have hsr : ∀ v ∈ st', sm_ok v := fun v hv => hs v (List.mem_append_right _ hv)
    have hsa : ∀ v ∈ (.inr (.inl a) :: as : List sm_V), sm_ok v := fun v hv => hs v (List.mem_append_left _ (List.mem_reverse.mp (by rw [← x3]; exact hv)))
    have hG : GoodIn sm_tbl (Cond.code y bytes maxL ret :: sm_tbl) := sm_goodIn (fun w hw => (List.mem_cons.mp hw).elim (fun e => e ▸ hcode) id)
    have hB := callB_of n hts hG rfl rfl rfl (hts _ hini) (hts _ hlink) hdd (rm := sm_rm lv mc ms) (R := R) ⟨by show lv + 1 ≤ _; omega, by show 8 + (maxL + 11) + 40 * lv ≤ _; omega⟩
    have hxs : xs.map (sm_ev b sb) = (as.map (sm_ev b sb)).reverse ++ [.ref (sm_ea b sb a)] := by
      have hxx : xs = (.inr (.inl a) :: as : List sm_V).reverse := by rw [x3, List.reverse_reverse]
      rw [hxx, List.reverse_cons, List.map_append, List.map_reverse]
      rfl
    have hla : as.length = n := by
      have hl2 := congrArg List.length x3
      rw [List.length_cons, List.length_reverse, x1] at hl2
      omega
    refine sm_after (r := F (.inr (.inl a) :: as) w) (va_runV ⟨hx, hb, hml, hown, hts⟩ (hM b sb D cA (.inr (.inl a) :: as) w h1) ⟨hB, hts _ hinst, hts _ hsel⟩ ⟨sm_Pc_blind, va_recv hK hR.2.2.1 hcl.1 (q0 := a) (fs := (List.range N).map (sm_fv b sb w a ci)) (by rw [sm_ws_get (sm_lt hR (a := a) (by rw [h0]; have := hcl.2.1; dsimp only; omega)), sm_E_o h0 hcl.2.1]), fun U hU hW => ⟨rfl, by rw [hU]; exact hR.moved hW.alike, va_K.moved hW.alike hK, hEx.warm hW, hsa⟩⟩ (g := F0 m pc lsA ((xs ++ st').map (sm_ev b sb))) (As := as.map (sm_ev b sb)) rfl (by rw [List.length_map, hla]) hL.1 (rest := st'.map (sm_ev b sb)) (by show (xs ++ st').map (sm_ev b sb) = _; rw [List.map_append, hxs, List.append_assoc]; rfl) (lv_room (pc := pc) (ls := lsA) (rest := []) (m := m) (by rw [sm_wds_map]; exact h2)) hd ⟨by rw [hRc]; exact h3, by rw [hRs]; exact h4⟩) hbH hS (fun H1 locs1 hR1 hS1 hok => ?_)
    exact sm_back_go hN h H1 locs1 lsA hR1 hS1 hL ho hsr hok
  · exact h.elim

theorem sd_calli {y : MethodName} {bytes : ByteArray} {maxL : Nat} {lv mc ms n idx : Nat} {Pre : List sm_V → sm_W → Prop} {F : sm_F} (hM : sm_Met l y bytes maxL none lv mc ms Pre F) (hlv : lv + 1 ≤ lev) (hmx : maxL ≤ 21) (hcode : Cond.code y bytes maxL none ∈ sm_tbl) (hlink : Cond.methodLink own idx y ∈ sm_tbl) (hini : Cond.initialized y.cls ∈ sm_tbl) (hdd : y.cls ≠ "java/lang/invoke/MethodHandle" ∧ y.cls ≠ "java/lang/invoke/VarHandle" ∧ (parseMethodDescriptor y.desc).map (fun d => d.parameters.length) = some n) (hin : y.name = "<init>") (hinst : Cond.instanceMethod y ∈ sm_tbl) (hd : decode cc pc = .ok (.invokespecial idx, 3)) : sm_Snd l own nm cc nL z lev pc (pc + 3) (oCi Pre F mc ms (n + 1)) := by
  intro p e R s m args below meth c Q b sb D cA H0 P hC Nx J hN hJ ls st w kc qc h
  obtain ⟨hx, hb, hml, hown, hts, hK, hbH, hRc, hRs, hRf, hRl, hnm, hEx, hI, hV⟩ := id hC
  dsimp only [oCi] at h
  split at h
  · next a as st' hp =>
    obtain ⟨h1, h2, h3, h4, h⟩ := h
    obtain ⟨xs, x1, x2, x3⟩ := sm_pop_spec hp
    subst x2
    rw [List.append_nil] at x3
    intro H locs lsA hR hS hL ho hs
    have hsr : ∀ v ∈ st', sm_ok v := fun v hv => hs v (List.mem_append_right _ hv)
    have hsa : ∀ v ∈ (.inr (.inl a) :: as : List sm_V), sm_ok v := fun v hv => hs v (List.mem_append_left _ (List.mem_reverse.mp (by rw [← x3]; exact hv)))
    have hG : GoodIn sm_tbl (Cond.code y bytes maxL none :: sm_tbl) := sm_goodIn (fun w hw => (List.mem_cons.mp hw).elim (fun e => e ▸ hcode) id)
    have hB := callB_of n hts hG rfl rfl rfl (hts _ hini) (hts _ hlink) hdd (rm := sm_rm lv mc ms) (R := R) ⟨by show lv + 1 ≤ _; omega, by show 8 + (maxL + 11) + 40 * lv ≤ _; omega⟩
    have hxs : xs.map (sm_ev b sb) = (as.map (sm_ev b sb)).reverse ++ [.ref (sm_ea b sb a)] := by
      have hxx : xs = (.inr (.inl a) :: as : List sm_V).reverse := by rw [x3, List.reverse_reverse]
      rw [hxx, List.reverse_cons, List.map_append, List.map_reverse]
      rfl
    have hla : as.length = n := by
      have hl2 := congrArg List.length x3
      rw [List.length_cons, List.length_reverse, x1] at hl2
      omega
    refine sm_after (r := F (.inr (.inl a) :: as) w) (va_runI ⟨hx, hb, hml, hown, hts⟩ (hM b sb D cA (.inr (.inl a) :: as) w h1) ⟨hB, hin, hts _ hinst⟩ ⟨sm_Pc_blind, fun U hU hW => ⟨rfl, by rw [hU]; exact hR.moved hW.alike, va_K.moved hW.alike hK, hEx.warm hW, hsa⟩⟩ (g := F0 m pc lsA ((xs ++ st').map (sm_ev b sb))) (As := as.map (sm_ev b sb)) rfl (by rw [List.length_map, hla]) hL.1 (rest := st'.map (sm_ev b sb)) (by show (xs ++ st').map (sm_ev b sb) = _; rw [List.map_append, hxs, List.append_assoc]; rfl) (lv_room (pc := pc) (ls := lsA) (rest := []) (m := m) (by rw [sm_wds_map]; exact h2)) hd ⟨by rw [hRc]; exact h3, by rw [hRs]; exact h4⟩) hbH hS (fun H1 locs1 hR1 hS1 hok => ?_)
    exact sm_back_go hN h H1 locs1 lsA hR1 hS1 hL ho hsr hok
  · exact h.elim

theorem sd_calls {y : MethodName} {bytes : ByteArray} {maxL : Nat} {ret : Option FieldType} {lv mc ms n idx : Nat} {Pre : List sm_V → sm_W → Prop} {F : sm_F} (hM : sm_Met l y bytes maxL ret lv mc ms Pre F) (hlv : lv + 1 ≤ lev) (hmx : maxL ≤ 21) (hcode : Cond.code y bytes maxL ret ∈ sm_tbl) (hlink : Cond.methodLink own idx y ∈ sm_tbl) (hini : Cond.initialized y.cls ∈ sm_tbl) (hdd : y.cls ≠ "java/lang/invoke/MethodHandle" ∧ y.cls ≠ "java/lang/invoke/VarHandle" ∧ (parseMethodDescriptor y.desc).map (fun d => d.parameters.length) = some n) (hst : Cond.static y ∈ sm_tbl) (hd : decode cc pc = .ok (.invokestatic idx, 3)) : sm_Snd l own nm cc nL z lev pc (pc + 3) (oCs Pre F mc ms n) := by
  intro p e R s m args below meth c Q b sb D cA H0 P hC Nx J hN hJ ls st w kc qc h
  obtain ⟨hx, hb, hml, hown, hts, hK, hbH, hRc, hRs, hRf, hRl, hnm, hEx, hI, hV⟩ := id hC
  dsimp only [oCs] at h
  split at h
  · next as st' hp =>
    obtain ⟨h1, h2, h3, h4, h⟩ := h
    obtain ⟨xs, x1, x2, x3⟩ := sm_pop_spec hp
    subst x2
    rw [List.append_nil] at x3
    subst x3
    intro H locs lsA hR hS hL ho hs
    have hsr : ∀ v ∈ st', sm_ok v := fun v hv => hs v (List.mem_append_right _ hv)
    have hsa : ∀ v ∈ xs.reverse, sm_ok v := fun v hv => hs v (List.mem_append_left _ (List.mem_reverse.mp hv))
    have hG : GoodIn sm_tbl (Cond.code y bytes maxL ret :: sm_tbl) := sm_goodIn (fun w hw => (List.mem_cons.mp hw).elim (fun e => e ▸ hcode) id)
    have hB := callB_of n hts hG rfl rfl rfl (hts _ hini) (hts _ hlink) hdd (rm := sm_rm lv mc ms) (R := R) ⟨by show lv + 1 ≤ _; omega, by show 8 + (maxL + 11) + 40 * lv ≤ _; omega⟩
    refine sm_after (r := F xs.reverse w) (va_runS ⟨hx, hb, hml, hown, hts⟩ (hM b sb D cA xs.reverse w h1) ⟨hB, hts _ hst⟩ ⟨sm_Pc_blind, fun U hU hW => ⟨rfl, by rw [hU]; exact hR.moved hW.alike, va_K.moved hW.alike hK, hEx.warm hW, hsa⟩⟩ (g := F0 m pc lsA ((xs ++ st').map (sm_ev b sb))) rfl (by rw [List.length_map, List.length_reverse, x1]) hL.1 (rest := st'.map (sm_ev b sb)) (by show (xs ++ st').map (sm_ev b sb) = _; rw [List.map_append, List.map_reverse, List.reverse_reverse]) (lv_room (pc := pc) (ls := lsA) (rest := []) (m := m) (by rw [sm_wds_map]; exact h2)) hd ⟨by rw [hRc]; exact h3, by rw [hRs]; exact h4⟩) hbH hS (fun H1 locs1 hR1 hS1 hok => ?_)
    exact sm_back_go hN h H1 locs1 lsA hR1 hS1 hL ho hsr hok
  · exact h.elim

theorem sd_callsN {y : MethodName} {bytes : ByteArray} {maxL : Nat} {ret : Option FieldType} {lv mc ms n idx : Nat} {Pre : List sm_V → sm_W → Prop} {F : sm_F} (hM : sm_Met l y bytes maxL ret lv mc ms Pre F) (hlv : lv + 1 ≤ lev) (hmx : maxL ≤ 21) (hcode : Cond.code y bytes maxL ret ∈ sm_tbl) (hlink : (own, idx, y) ∈ sm_nest) (hini : Cond.initialized y.cls ∈ sm_tbl) (hdd : y.cls ≠ "java/lang/invoke/MethodHandle" ∧ y.cls ≠ "java/lang/invoke/VarHandle" ∧ (parseMethodDescriptor y.desc).map (fun d => d.parameters.length) = some n) (hst : Cond.static y ∈ sm_tbl) (hd : decode cc pc = .ok (.invokestatic idx, 3)) : sm_Snd l own nm cc nL z lev pc (pc + 3) (oCs Pre F mc ms n) := by
  intro p e R s m args below meth c Q b sb D cA H0 P hC Nx J hN hJ ls st w kc qc h
  obtain ⟨hx, hb, hml, hown, hts, hK, hbH, hRc, hRs, hRf, hRl, hnm, hEx, hI, hV⟩ := id hC
  dsimp only [oCs] at h
  split at h
  · next as st' hp =>
    obtain ⟨h1, h2, h3, h4, h⟩ := h
    obtain ⟨xs, x1, x2, x3⟩ := sm_pop_spec hp
    subst x2
    rw [List.append_nil] at x3
    subst x3
    intro H locs lsA hR hS hL ho hs
    have hsr : ∀ v ∈ st', sm_ok v := fun v hv => hs v (List.mem_append_right _ hv)
    have hsa : ∀ v ∈ xs.reverse, sm_ok v := fun v hv => hs v (List.mem_append_left _ (List.mem_reverse.mp hv))
    have hG : GoodIn sm_tbl (Cond.code y bytes maxL ret :: sm_tbl) := sm_goodIn (fun w hw => (List.mem_cons.mp hw).elim (fun e => e ▸ hcode) id)
    have hB := va_cnB n hts hG rfl rfl rfl (hEx.2.2 (own, idx, y) hlink) (hts _ hini) hdd (rm := sm_rm lv mc ms) (R := R) ⟨by show lv + 1 ≤ _; omega, by show 8 + (maxL + 11) + 40 * lv ≤ _; omega⟩
    refine sm_after (r := F xs.reverse w) (va_runSN ⟨hx, hb, hml, hown, hts⟩ (hM b sb D cA xs.reverse w h1) ⟨hB, hts _ hst, trivial⟩ ⟨sm_Pc_blind, fun U hU hW => ⟨rfl, by rw [hU]; exact hR.moved hW.alike, va_K.moved hW.alike hK, hEx.warm hW, hsa⟩⟩ (g := F0 m pc lsA ((xs ++ st').map (sm_ev b sb))) rfl (by rw [List.length_map, List.length_reverse, x1]) hL.1 (rest := st'.map (sm_ev b sb)) (by show (xs ++ st').map (sm_ev b sb) = _; rw [List.map_append, List.map_reverse, List.reverse_reverse]) (lv_room (pc := pc) (ls := lsA) (rest := []) (m := m) (by rw [sm_wds_map]; exact h2)) hd ⟨by rw [hRc]; exact h3, by rw [hRs]; exact h4⟩) hbH hS (fun H1 locs1 hR1 hS1 hok => ?_)
    exact sm_back_go hN h H1 locs1 lsA hR1 hS1 hL ho hsr hok
  · exact h.elim

theorem sd_calliN {y : MethodName} {bytes : ByteArray} {maxL : Nat} {lv mc ms n idx : Nat} {Pre : List sm_V → sm_W → Prop} {F : sm_F} (hM : sm_Met l y bytes maxL none lv mc ms Pre F) (hlv : lv + 1 ≤ lev) (hmx : maxL ≤ 21) (hcode : Cond.code y bytes maxL none ∈ sm_tbl) (hlink : (own, idx, y) ∈ sm_nest) (hini : Cond.initialized y.cls ∈ sm_tbl) (hdd : y.cls ≠ "java/lang/invoke/MethodHandle" ∧ y.cls ≠ "java/lang/invoke/VarHandle" ∧ (parseMethodDescriptor y.desc).map (fun d => d.parameters.length) = some n) (hin : y.name = "<init>") (hinst : Cond.instanceMethod y ∈ sm_tbl) (hd : decode cc pc = .ok (.invokespecial idx, 3)) : sm_Snd l own nm cc nL z lev pc (pc + 3) (oCi Pre F mc ms (n + 1)) := by
  intro p e R s m args below meth c Q b sb D cA H0 P hC Nx J hN hJ ls st w kc qc h
  obtain ⟨hx, hb, hml, hown, hts, hK, hbH, hRc, hRs, hRf, hRl, hnm, hEx, hI, hV⟩ := id hC
  dsimp only [oCi] at h
  split at h
  · next a as st' hp =>
    obtain ⟨h1, h2, h3, h4, h⟩ := h
    obtain ⟨xs, x1, x2, x3⟩ := sm_pop_spec hp
    subst x2
    rw [List.append_nil] at x3
    intro H locs lsA hR hS hL ho hs
    have hsr : ∀ v ∈ st', sm_ok v := fun v hv => hs v (List.mem_append_right _ hv)
    have hsa : ∀ v ∈ (.inr (.inl a) :: as : List sm_V), sm_ok v := fun v hv => hs v (List.mem_append_left _ (List.mem_reverse.mp (by rw [← x3]; exact hv)))
    have hG : GoodIn sm_tbl (Cond.code y bytes maxL none :: sm_tbl) := sm_goodIn (fun w hw => (List.mem_cons.mp hw).elim (fun e => e ▸ hcode) id)
    have hB := va_cnB n hts hG rfl rfl rfl (hEx.2.2 (own, idx, y) hlink) (hts _ hini) hdd (rm := sm_rm lv mc ms) (R := R) ⟨by show lv + 1 ≤ _; omega, by show 8 + (maxL + 11) + 40 * lv ≤ _; omega⟩
    have hxs : xs.map (sm_ev b sb) = (as.map (sm_ev b sb)).reverse ++ [.ref (sm_ea b sb a)] := by
      have hxx : xs = (.inr (.inl a) :: as : List sm_V).reverse := by rw [x3, List.reverse_reverse]
      rw [hxx, List.reverse_cons, List.map_append, List.map_reverse]
      rfl
    have hla : as.length = n := by
      have hl2 := congrArg List.length x3
      rw [List.length_cons, List.length_reverse, x1] at hl2
      omega
    refine sm_after (r := F (.inr (.inl a) :: as) w) (va_runIN ⟨hx, hb, hml, hown, hts⟩ (hM b sb D cA (.inr (.inl a) :: as) w h1) ⟨hB, hin, hts _ hinst⟩ ⟨sm_Pc_blind, fun U hU hW => ⟨rfl, by rw [hU]; exact hR.moved hW.alike, va_K.moved hW.alike hK, hEx.warm hW, hsa⟩⟩ (g := F0 m pc lsA ((xs ++ st').map (sm_ev b sb))) (As := as.map (sm_ev b sb)) rfl (by rw [List.length_map, hla]) hL.1 (rest := st'.map (sm_ev b sb)) (by show (xs ++ st').map (sm_ev b sb) = _; rw [List.map_append, hxs, List.append_assoc]; rfl) (lv_room (pc := pc) (ls := lsA) (rest := []) (m := m) (by rw [sm_wds_map]; exact h2)) hd ⟨by rw [hRc]; exact h3, by rw [hRs]; exact h4⟩) hbH hS (fun H1 locs1 hR1 hS1 hok => ?_)
    exact sm_back_go hN h H1 locs1 lsA hR1 hS1 hL ho hsr hok
  · exact h.elim

theorem sd_ireturn {x : Nat} (hz : z = 1) (hd : decode cc pc = .ok (.ireturn, 1)) : sm_Snd l own nm cc nL z lev pc (x) (oIr) := by
  intro p e R s m args below meth c Q b sb D cA H0 P hC Nx J hN hJ ls st w kc qc h
  obtain ⟨hx, hb, hml, hown, hts, hK, hbH, hRc, hRs, hRf, hRl, hnm, hEx, hI, hV⟩ := id hC
  dsimp only [oIr] at h
  split at h
  · next n =>
    obtain ⟨h1, h2, h⟩ := h
    intro H locs lsA hR hS hL ho hs
    exact hI pc H locs lsA w kc qc n hd (by omega) (fun e => by omega) h (sm_ok_hd hs) h1 h2 hR hS
  · exact h.elim

theorem sd_zreturn {x : Nat} (hz : z = 2) (hd : decode cc pc = .ok (.ireturn, 1)) : sm_Snd l own nm cc nL z lev pc (x) (oZr) := by
  intro p e R s m args below meth c Q b sb D cA H0 P hC Nx J hN hJ ls st w kc qc h
  obtain ⟨hx, hb, hml, hown, hts, hK, hbH, hRc, hRs, hRf, hRl, hnm, hEx, hI, hV⟩ := id hC
  dsimp only [oZr] at h
  split at h
  · next n =>
    obtain ⟨h0, h1, h2, h⟩ := h
    intro H locs lsA hR hS hL ho hs
    exact hI pc H locs lsA w kc qc n hd (by omega) (fun _ => h0) h (sm_ok_hd hs) h1 h2 hR hS
  · exact h.elim

theorem sd_return {x : Nat} (hz : z = 0) (hd : decode cc pc = .ok (.return_, 1)) : sm_Snd l own nm cc nL z lev pc (x) (oVr) := by
  intro p e R s m args below meth c Q b sb D cA H0 P hC Nx J hN hJ ls st w kc qc h
  obtain ⟨hx, hb, hml, hown, hts, hK, hbH, hRc, hRs, hRf, hRl, hnm, hEx, hI, hV⟩ := id hC
  dsimp only [oVr] at h
  split at h
  · obtain ⟨h1, h2, h⟩ := h
    intro H locs lsA hR hS hL ho hs
    exact hV pc H locs lsA w kc qc hd hz h h1 h2 hR hS
  · exact h.elim

end
