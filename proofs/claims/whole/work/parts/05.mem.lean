/-! STEPS ON THE WORLD: fields, arrays, new ones -/
theorem sm_E_congr {b sb : Nat} {cA : Nat → ClassId} {w w' : sm_W} {id : Nat} (h1 : wS w' id = wS w id) (h2 : ∀ i, wI w' id i = wI w id i) (h3 : ∀ i, wR w' id i = wR w id i) : sm_E b sb cA w' id = sm_E b sb cA w id := by
  have e1 : ∀ ci, sm_fv b sb w' id ci = sm_fv b sb w id ci := fun ci => funext fun k => by unfold sm_fv; rw [h2, h3]
  have e2 : (fun j : Nat => Int32.ofInt (wI w' id j)) = fun j : Nat => Int32.ofInt (wI w id j) := funext fun j => by rw [h2]
  have e3 : (fun j : Nat => (wR w' id j).map (sm_ea b sb)) = fun j : Nat => (wR w id j).map (sm_ea b sb) := funext fun j => by rw [h3]
  unfold sm_E
  rw [h1, e1, e2, e3]
theorem wI_wsI_ne {w : sm_W} {a : Nat} {i v : Int} {x : Nat} (h : x ≠ a) (j : Int) : wI (wsI w a i v) x j = wI w x j := by
  rw [wI_wsI, if_neg (fun e => h e.1)]
theorem wR_wsR_ne {w : sm_W} {a : Nat} {i : Int} {v : Nat} {x : Nat} (h : x ≠ a) (j : Int) : wR (wsR w a i v) x j = wR w x j := by
  rw [wR_wsR, if_neg (fun e => h e.1)]
theorem sm_r_wsI {w : sm_W} {a : Nat} {i v : Int} (h : ∀ id i, sm_r (wI w id i)) (hv : sm_r v) : ∀ id j, sm_r (wI (wsI w a i v) id j) := by
  intro id j
  rw [wI_wsI]
  split
  · exact hv
  · exact h id j
theorem sm_cell_upd {c : ClassId} {n : Nat} {w : sm_W} {a : Nat} {i v : Int} (h0 : 0 ≤ i) (hr : sm_r i) : (vp_cell c (n, .inl (fun j : Nat => Int32.ofInt (wI w a j)))).setSlot (Int32.ofInt i).toNatClampNeg (.int (Int32.ofInt v)) = vp_cell c (n, .inl (fun j : Nat => Int32.ofInt (wI (wsI w a i v) a j))) := by
  rw [vp_cell_i, vp_cell_i, arrV_store]
  congr 1
  funext j
  have hc := i3_cl h0 hr
  unfold updV
  rw [wI_wsI]
  by_cases e : j = (Int32.ofInt i).toNatClampNeg
  · rw [if_pos e, if_pos ⟨rfl, by rw [e]; exact hc⟩]
  · rw [if_neg e, if_neg (fun e2 => e (by have := e2.2; omega))]
theorem sm_cell_updR {b sb : Nat} {c : ClassId} {n : Nat} {w : sm_W} {a : Nat} {i : Int} {v : Nat} (h0 : 0 ≤ i) (hr : sm_r i) : (vp_cell c (n, .inr (.inr (.inr (.inr (fun j : Nat => (wR w a j).map (sm_ea b sb))))))).setSlot (Int32.ofInt i).toNatClampNeg (.ref (sm_ea b sb v)) = vp_cell c (n, .inr (.inr (.inr (.inr (fun j : Nat => (wR (wsR w a i v) a j).map (sm_ea b sb)))))) := by
  rw [vp_cell_q, vp_cell_q, arrV_store]
  congr 1
  funext j
  have hc := i3_cl h0 hr
  unfold updV
  rw [wR_wsR]
  by_cases e : j = (Int32.ofInt i).toNatClampNeg
  · rw [if_pos e, if_pos ⟨rfl, by rw [e]; exact hc⟩]
    rfl
  · rw [if_neg e, if_neg (fun e2 => e (by have := e2.2; omega))]
theorem sm_put_i {b sb : Nat} {D : va_G} {cA : Nat → ClassId} {w : sm_W} {U : State} {H H1 : Heap} {a : Nat} {i v : Int} (hR : sm_Rep b sb D cA w U H) (ha : a < w.1) (hv : sm_r v) (hat : va_at D vwCl (sm_ea b sb a, sm_E b sb cA (wsI w a i v) a) H1) (hz : H1.size = H.size) (oq : ∀ q : Nat, q ≠ sm_ea b sb a → H1[q]? = H[q]?) : sm_Rep b sb D cA (wsI w a i v) U H1 :=
  sm_put hR ha rfl (fun _ => rfl) (sm_r_wsI hR.2.2.2.1 hv) (fun _ hne => sm_E_congr rfl (fun j => wI_wsI_ne hne j) (fun _ => rfl)) (fun j => wI_wsI_ne (by have := hR.1; omega) j) hat hz oq
theorem sm_put_r {b sb : Nat} {D : va_G} {cA : Nat → ClassId} {w : sm_W} {U : State} {H H1 : Heap} {a : Nat} {i : Int} {v : Nat} (hR : sm_Rep b sb D cA w U H) (ha : a < w.1) (hat : va_at D vwCl (sm_ea b sb a, sm_E b sb cA (wsR w a i v) a) H1) (hz : H1.size = H.size) (oq : ∀ q : Nat, q ≠ sm_ea b sb a → H1[q]? = H[q]?) : sm_Rep b sb D cA (wsR w a i v) U H1 :=
  sm_put hR ha rfl (fun _ => rfl) hR.2.2.2.1 (fun _ hne => sm_E_congr rfl (fun _ => rfl) (fun j => wR_wsR_ne hne j)) (fun _ => rfl) hat hz oq
theorem sm_A {b sb : Nat} {D : va_G} {cA : Nat → ClassId} {w : sm_W} {U : State} {H : Heap} {a : Nat} (hR : sm_Rep b sb D cA w U H) (ha : a < w.1) : b ≤ sm_ea b sb a := by
  rw [sm_ea_lt (by have := hR.1; omega)]
  omega
/-- a class's tables -/
def sm_Cl (ci : Nat) (C : String) (T : u_T) (N : Nat) : Prop := vwCl[ci]? = some (C, T, N) ∧ ci < 9 ∧ (∀ w ∈ u_ws C T N, w ∈ sm_tbl) ∧ (∀ k, k < N → parseFieldDescriptor (T k).2.2.1 = some (sm_ty ci k)) ∧ (∀ a, a < N → ∀ b, b < N → a ≠ b → (T a).2.1 ≠ (T b).2.1) ∧ (∀ k, k < N → (T k).1 = C) ∧ (∀ k, k < N → defaultValue (sm_ty ci k) = if sm_isR ci k = true then .null else .int 0)
theorem sm_fs_set {b sb : Nat} {w w' : sm_W} {a ci N k : Nat} (ho : ∀ j, j ≠ k → sm_fv b sb w' a ci j = sm_fv b sb w a ci j) : ((List.range N).map (sm_fv b sb w a ci)).set k (sm_fv b sb w' a ci k) = (List.range N).map (sm_fv b sb w' a ci) := by
  apply List.ext_getElem?
  intro j
  rw [List.getElem?_set, List.getElem?_map, List.getElem?_map]
  by_cases hj : j < N
  · rw [List.getElem?_range hj]
    by_cases e : k = j
    · subst e
      rw [if_pos rfl, if_pos (by simpa using hj)]
      rfl
    · rw [if_neg e]
      simp only [Option.map_some]
      rw [ho j (Ne.symm e)]
  · have hn : (List.range N)[j]? = none := List.getElem?_eq_none (by rw [List.length_range]; omega)
    rw [hn]
    by_cases e : k = j
    · subst e
      rw [if_pos rfl, if_neg (by simpa using hj)]
      rfl
    · rw [if_neg e]
      rfl
section
variable {p : Program} {l : Launch} {e : Env} {R : Room} {s : State} {m : MethodId} {args : Array Value} {below : List Frame} {meth : Method} {c : Code} {H : Heap} {locs : List Loc} {cells slots : Nat} {Q : State → Prop}
variable {cc : ByteArray} {pc : Nat} {ls : Array Slot} {rest : List Value} {D : va_G} {tys : List (ClassId × FieldType)} {a : Nat}
/-- a field of an object is written, and what it is then is told exactly -/
theorem sm_pf (hexec : p.tables.exec = Jvm.exec) (hb : c.code = cc) {own C : String} {T : u_T} {N ci index : Nat} (hts : ∀ w ∈ sm_tbl, w.before args s = true) (hcl : sm_Cl ci C T N) (hown : s.vm.findClass own = some m.cls) (hK : va_K D vwCl tys s) {fs : List Value} (hat : va_at D vwCl (a, .inr (ci, fs)) H) (k : Nat) (hk : k < N) (hlink : Cond.fieldLink own index C (T k).2.1 (T k).2.2.1 ∈ sm_tbl) (hfin : (T k).2.2.2 = false ∨ (meth.name = "<init>" ∧ C = own)) {v : Value} (hn : narrow (sm_ty ci k) v = v) (hfit : fits (sm_ty ci k) v = true) (hl : k < fs.length) (hdg : decode cc pc = .ok (.putfield index, 3))
    (kk : ∀ (H1 : Heap) (x : Nat), va_at D vwCl (a, .inr (ci, fs.set k v)) H1 → H1.size = H.size → (∀ q, q ≠ a → H1[q]? = H[q]?) → W p l e R s m args below meth c H1 (locs ++ [⟨a, x⟩]) cells slots Q (F0 m (pc + 3) ls rest)) : W p l e R s m args below meth c H locs cells slots Q (F0 m pc ls (v :: .ref a :: rest)) := by
  obtain ⟨hc, -, hin, hty, hnm, hdl, -⟩ := hcl
  have hap := va_apart (own := own) hts hin (sm_ty ci) hty hnm hK hc
  obtain ⟨r, h1, cell, q1, q2, q3, q4⟩ := hat
  have hr : r = (C, T, N) := Option.some.inj (h1.symm.trans hc)
  subst hr
  obtain ⟨hS, hfc, kC, hkC, hkind⟩ := hK.1 ci _ hc
  obtain ⟨cf, kf, fi, f, hi, hsl⟩ := hS k hk
  have hlay := hts _ (hin _ (u_in_lay hk))
  have hst := (u_facts hfc hkC (u_lays hts hin hk) hi).1
  have hlink' := hts _ hlink
  have hi' : s.fieldFound? C (T k).2.1 (T k).2.2.1 = some (cf, kf, fi, f) := by rw [← hdl k hk]; exact hi
  unfold u_lay at hlay
  by_cases hff : (T k).2.2.2 = true
  · rw [if_pos hff] at hlay
    obtain ⟨hin2, hCo⟩ : meth.name = "<init>" ∧ C = own := by
      rcases hfin with h | h
      · rw [hff] at h; cases h
      · exact h
    have hcf : m.cls = cf := by
      obtain ⟨_, _, c', _, _, _, -, -, hf', -, -, -, hown2, -⟩ := Cond.laysFinal_spec hlay
      have e1 : c' = cf := by have := hi.symm.trans hf'; simp at this; exact this.1.symm
      rw [hdl k hk, hCo] at hown2
      rw [← e1]; exact Option.some.inj (hown.symm.trans hown2)
    have h6 := u_fits hfc hkC hkind (Or.inr hlay) hi (hty k hk) hn hfit
    refine W.putFinK hexec hb hown hlink' hi' hst hcf hin2 (by rw [q2]; exact h6) q1 q3 (by rw [hsl]; exact k2_hasslot (q4 k hk)) rfl rfl hdg fun H' e1 e2 e3 => ?_
    rw [hsl] at e1
    exact kk H' _ ⟨_, hc, t_OB.to (V := updV (vp_V fs) k v) ⟨_, e1, q2, q3, t_set q4 hap hk v⟩ (fun j _ => vp_updV_set hl v j)⟩ e2 e3
  · rw [if_neg hff] at hlay
    have h6 := u_store hfc hkC hkind hlay hi (hty k hk) hn hfit
    refine W.putK hexec hb (f := f) ⟨hown, hlink', ⟨_, _, _, hi'⟩, hst⟩ (by rw [q2]; exact h6) q1 q3 (by rw [hsl]; exact k2_hasslot (q4 k hk)) rfl rfl hdg fun H' e1 e2 e3 => ?_
    rw [hsl] at e1
    exact kk H' _ ⟨_, hc, t_OB.to (V := updV (vp_V fs) k v) ⟨_, e1, q2, q3, t_set q4 hap hk v⟩ (fun j _ => vp_updV_set hl v j)⟩ e2 e3
end
section
variable {l : Launch} {own nm : String} {cc : ByteArray} {nL : Nat} {z : Nat} {lev : Nat} {pc : Nat}

theorem sd_geti {ci N k idx : Nat} {C : String} {T : u_T} (hcl : sm_Cl ci C T N) (hk : k < N) (hr : sm_isR ci k = false) (hl : Cond.fieldLink own idx C (T k).2.1 (T k).2.2.1 ∈ sm_tbl) (hd : decode cc pc = .ok (.getfield idx, 3)) : sm_Snd l own nm cc nL z lev pc (pc + 3) (oGi ci N (k : Int)) := by
  intro p e R s m args below meth c Q b sb D cA H0 P hC Nx J hN hJ ls st w kc qc h
  obtain ⟨hx, hb, hml, hown, hts, hK, hbH, hRc, hRs, hRf, hRl, hnm, hEx, hI, hV⟩ := hC
  dsimp only [oGi] at h
  split at h
  · next a st =>
    obtain ⟨h1, h⟩ := h
    intro H locs lsA hR hS hL ho hs
    have ha := sm_lt hR (a := a) (by rw [h1]; have := hcl.2.1; dsimp only; omega)
    have he : sm_fv b sb w a ci k = Value.int (Int32.ofInt (wI w a k)) := by unfold sm_fv; rw [if_neg (by rw [hr]; decide)]
    refine va_get hx hb hts hcl.2.2.1 hown hK hR.2.2.1 a (by rw [sm_ws_get ha, sm_E_o h1 hcl.2.1]) hcl.1 k hk (hts _ hl) (by rw [hcl.2.2.2.2.2.1 k hk]; exact fun _ h => h) (v := Value.int (Int32.ofInt (wI w a k))) (by rw [← he]; exact (by rw [List.getElem?_map, List.getElem?_range hk]; rfl)) hd ?_
    exact hN _ _ _ _ _ h H locs lsA hR hS hL ho (sm_ok_cons (hR.2.2.2.1 a k) (sm_ok_tl hs))
  · exact h.elim

theorem sd_getr {ci N k idx : Nat} {C : String} {T : u_T} (hcl : sm_Cl ci C T N) (hk : k < N) (hr : sm_isR ci k = true) (hl : Cond.fieldLink own idx C (T k).2.1 (T k).2.2.1 ∈ sm_tbl) (hd : decode cc pc = .ok (.getfield idx, 3)) : sm_Snd l own nm cc nL z lev pc (pc + 3) (oGr ci N (k : Int)) := by
  intro p e R s m args below meth c Q b sb D cA H0 P hC Nx J hN hJ ls st w kc qc h
  obtain ⟨hx, hb, hml, hown, hts, hK, hbH, hRc, hRs, hRf, hRl, hnm, hEx, hI, hV⟩ := hC
  dsimp only [oGr] at h
  split at h
  · next a st =>
    obtain ⟨h1, d, h2, h⟩ := h
    intro H locs lsA hR hS hL ho hs
    have ha := sm_lt hR (a := a) (by rw [h1]; have := hcl.2.1; dsimp only; omega)
    have he : sm_fv b sb w a ci k = Value.ref (sm_ea b sb d) := by unfold sm_fv; rw [if_pos hr, h2]; rfl
    refine va_get hx hb hts hcl.2.2.1 hown hK hR.2.2.1 a (by rw [sm_ws_get ha, sm_E_o h1 hcl.2.1]) hcl.1 k hk (hts _ hl) (by rw [hcl.2.2.2.2.2.1 k hk]; exact fun _ h => h) (v := Value.ref (sm_ea b sb d)) (by rw [← he]; exact (by rw [List.getElem?_map, List.getElem?_range hk]; rfl)) hd ?_
    exact hN _ _ _ _ _ h H locs lsA hR hS hL ho (sm_ok_cons trivial (sm_ok_tl hs))
  · exact h.elim

theorem sd_puti {ci N k idx : Nat} {C : String} {T : u_T} (hcl : sm_Cl ci C T N) (hk : k < N) (hty : sm_ty ci k = .int) (hfin : (T k).2.2.2 = false ∨ (nm = "<init>" ∧ C = own)) (hl : Cond.fieldLink own idx C (T k).2.1 (T k).2.2.1 ∈ sm_tbl) (hd : decode cc pc = .ok (.putfield idx, 3)) : sm_Snd l own nm cc nL z lev pc (pc + 3) (oPi ci N (k : Int)) := by
  intro p e R s m args below meth c Q b sb D cA H0 P hC Nx J hN hJ ls st w kc qc h
  obtain ⟨hx, hb, hml, hown, hts, hK, hbH, hRc, hRs, hRf, hRl, hnm, hEx, hI, hV⟩ := hC
  dsimp only [oPi] at h
  split at h
  · next v a st =>
    obtain ⟨h1, h⟩ := h
    intro H locs lsA hR hS hL ho hs
    have ha := sm_lt hR (a := a) (by rw [h1]; have := hcl.2.1; dsimp only; omega)
    have hr : sm_isR ci k = false := by unfold sm_isR; rw [hty]
    have he : sm_fv b sb (wsI w a k v) a ci k = Value.int (Int32.ofInt v) := by unfold sm_fv; rw [if_neg (by rw [hr]; decide), wI_wsI, if_pos ⟨rfl, rfl⟩]
    have hat : va_at D vwCl (sm_ea b sb a, .inr (ci, (List.range N).map (sm_fv b sb w a ci))) H := by
      have := hR.2.2.1 a _ (sm_ws_get ha)
      rw [sm_E_o h1 hcl.2.1] at this
      exact this
    refine sm_pf hx hb hts hcl hown hK hat k hk hl (by rw [hnm]; exact hfin) (v := Value.int (Int32.ofInt v)) (by rw [hty]; rfl) (by rw [hty]; rfl) (by simpa using hk) hd fun H1 x e1 e2 e3 => ?_
    refine hN _ _ _ _ _ h H1 _ lsA (sm_put_i hR ha (sm_ok_hd hs : sm_r v) ?_ e2 e3) (hS.put e2 e3 (sm_A hR ha)) hL ho (sm_ok_tl (sm_ok_tl hs))
    rw [sm_E_o (w := wsI w a k v) h1 hcl.2.1, ← sm_fs_set (w := w) (k := k) (fun j hj => by unfold sm_fv; rw [wI_wsI, if_neg (show ¬ (a = a ∧ (j : Int) = (k : Int)) from fun e => hj (Int.ofNat_inj.mp e.2)), wR_wsI]), he]
    exact e1
  · exact h.elim

theorem sd_putz {ci N k idx : Nat} {C : String} {T : u_T} (hcl : sm_Cl ci C T N) (hk : k < N) (hty : sm_ty ci k = .boolean) (hfin : (T k).2.2.2 = false ∨ (nm = "<init>" ∧ C = own)) (hl : Cond.fieldLink own idx C (T k).2.1 (T k).2.2.1 ∈ sm_tbl) (hd : decode cc pc = .ok (.putfield idx, 3)) : sm_Snd l own nm cc nL z lev pc (pc + 3) (oPz ci N (k : Int)) := by
  intro p e R s m args below meth c Q b sb D cA H0 P hC Nx J hN hJ ls st w kc qc h
  obtain ⟨hx, hb, hml, hown, hts, hK, hbH, hRc, hRs, hRf, hRl, hnm, hEx, hI, hV⟩ := hC
  dsimp only [oPz] at h
  split at h
  · next v a st =>
    obtain ⟨h1, h2, h⟩ := h
    intro H locs lsA hR hS hL ho hs
    have ha := sm_lt hR (a := a) (by rw [h1]; have := hcl.2.1; dsimp only; omega)
    have hr : sm_isR ci k = false := by unfold sm_isR; rw [hty]
    have he : sm_fv b sb (wsI w a k v) a ci k = Value.int (Int32.ofInt v) := by unfold sm_fv; rw [if_neg (by rw [hr]; decide), wI_wsI, if_pos ⟨rfl, rfl⟩]
    have hat : va_at D vwCl (sm_ea b sb a, .inr (ci, (List.range N).map (sm_fv b sb w a ci))) H := by
      have := hR.2.2.1 a _ (sm_ws_get ha)
      rw [sm_E_o h1 hcl.2.1] at this
      exact this
    refine sm_pf hx hb hts hcl hown hK hat k hk hl (by rw [hnm]; exact hfin) (v := Value.int (Int32.ofInt v)) (by rw [hty]; rcases h2 with rfl | rfl <;> rfl) (by rw [hty]; rcases h2 with rfl | rfl <;> rfl) (by simpa using hk) hd fun H1 x e1 e2 e3 => ?_
    refine hN _ _ _ _ _ h H1 _ lsA (sm_put_i hR ha (sm_ok_hd hs : sm_r v) ?_ e2 e3) (hS.put e2 e3 (sm_A hR ha)) hL ho (sm_ok_tl (sm_ok_tl hs))
    rw [sm_E_o (w := wsI w a k v) h1 hcl.2.1, ← sm_fs_set (w := w) (k := k) (fun j hj => by unfold sm_fv; rw [wI_wsI, if_neg (show ¬ (a = a ∧ (j : Int) = (k : Int)) from fun e => hj (Int.ofNat_inj.mp e.2)), wR_wsI]), he]
    exact e1
  · exact h.elim

theorem sd_putr {ci N k idx : Nat} {C : String} {T : u_T} (hcl : sm_Cl ci C T N) (hk : k < N) (hr : sm_isR ci k = true) (hty : ∀ x : Nat, narrow (sm_ty ci k) (.ref x) = .ref x ∧ fits (sm_ty ci k) (.ref x) = true) (hfin : (T k).2.2.2 = false ∨ (nm = "<init>" ∧ C = own)) (hl : Cond.fieldLink own idx C (T k).2.1 (T k).2.2.1 ∈ sm_tbl) (hd : decode cc pc = .ok (.putfield idx, 3)) : sm_Snd l own nm cc nL z lev pc (pc + 3) (oPr ci N (k : Int)) := by
  intro p e R s m args below meth c Q b sb D cA H0 P hC Nx J hN hJ ls st w kc qc h
  obtain ⟨hx, hb, hml, hown, hts, hK, hbH, hRc, hRs, hRf, hRl, hnm, hEx, hI, hV⟩ := hC
  dsimp only [oPr] at h
  split at h
  · next v a st =>
    obtain ⟨h1, h⟩ := h
    intro H locs lsA hR hS hL ho hs
    have ha := sm_lt hR (a := a) (by rw [h1]; have := hcl.2.1; dsimp only; omega)
    have hr' := hr
    have he : sm_fv b sb (wsR w a k v) a ci k = Value.ref (sm_ea b sb v) := by unfold sm_fv; rw [if_pos hr, wR_wsR, if_pos ⟨rfl, rfl⟩]; rfl
    have hat : va_at D vwCl (sm_ea b sb a, .inr (ci, (List.range N).map (sm_fv b sb w a ci))) H := by
      have := hR.2.2.1 a _ (sm_ws_get ha)
      rw [sm_E_o h1 hcl.2.1] at this
      exact this
    refine sm_pf hx hb hts hcl hown hK hat k hk hl (by rw [hnm]; exact hfin) (v := Value.ref (sm_ea b sb v)) (hty _).1 (hty _).2 (by simpa using hk) hd fun H1 x e1 e2 e3 => ?_
    refine hN _ _ _ _ _ h H1 _ lsA (sm_put_r hR ha ?_ e2 e3) (hS.put e2 e3 (sm_A hR ha)) hL ho (sm_ok_tl (sm_ok_tl hs))
    rw [sm_E_o (w := wsR w a k v) h1 hcl.2.1, ← sm_fs_set (w := w) (k := k) (fun j hj => by unfold sm_fv; rw [wR_wsR, if_neg (show ¬ (a = a ∧ (j : Int) = (k : Int)) from fun e => hj (Int.ofNat_inj.mp e.2)), wI_wsR]), he]
    exact e1
  · exact h.elim

theorem sd_len (hd : decode cc pc = .ok (.arraylength, 1)) : sm_Snd l own nm cc nL z lev pc (pc + 1) (oLen) := by
  intro p e R s m args below meth c Q b sb D cA H0 P hC Nx J hN hJ ls st w kc qc h
  obtain ⟨hx, hb, hml, hown, hts, hK, hbH, hRc, hRs, hRf, hRl, hnm, hEx, hI, hV⟩ := hC
  dsimp only [oLen] at h
  split at h
  · next a st =>
    obtain ⟨h1, h2, h⟩ := h
    intro H locs lsA hR hS hL ho hs
    have hn : sm_r ((wS w a).2 : Int) := ⟨by omega, h2⟩
    rcases h1 with ⟨h1, h3⟩ | ⟨h1, h3⟩
    · have ha := sm_lt hR h3
      rcases Nat.lt_or_ge (wS w a).1 12 with h4 | h4
      · refine va_alen hx hb hK hR.2.2.1 a ((wS w a).1 - 9) (x := ((wS w a).2, .inl _)) (cA := cA ((wS w a).1 - 9)) (by rw [sm_ws_get ha, sm_E_i rfl h1 h4]) (ty := [FieldType.int, .boolean, .char].getD ((wS w a).1 - 9) .int) ?_ (v := Int32.ofInt ((wS w a).2 : Int)) rfl hd (hN _ _ _ _ _ h H locs lsA hR hS hL ho (sm_ok_cons hn (sm_ok_tl hs)))
        rcases (show (wS w a).1 = 9 ∨ (wS w a).1 = 10 ∨ (wS w a).1 = 11 by omega) with e | e | e <;> rw [e] <;> rfl
      · refine va_alen hx hb hK hR.2.2.1 a ((wS w a).1 - 9) (x := ((wS w a).2, .inr (.inr (.inr (.inr _))))) (cA := cA ((wS w a).1 - 9)) (by rw [sm_ws_get ha, sm_E_r rfl h4]) (ty := [FieldType.object RX2, .array .int].getD ((wS w a).1 - 12) .int) ?_ (v := Int32.ofInt ((wS w a).2 : Int)) rfl hd (hN _ _ _ _ _ h H locs lsA hR hS hL ho (sm_ok_cons hn (sm_ok_tl hs)))
        rcases (show (wS w a).1 = 12 ∨ (wS w a).1 = 13 by omega) with e | e <;> rw [e] <;> rfl
    · subst h3
      have hX := hR.2.2.2.2.2.2 (wS w 1000).2 (by rw [← h1])
      have hsb := hR.2.2.2.2.1
      have hz := hR.2.1
      exact va_slen (b := sb) (L := (wS w 1000).2) (H0 := H) (A := fun x => b ≤ x) hx hb hX (by omega) (by show ¬ b ≤ sb; omega) ⟨Nat.le_refl _, fun _ _ _ => rfl, hS.2.2⟩ hd (hN _ _ _ _ _ h H locs lsA hR hS hL ho (sm_ok_cons hn (sm_ok_tl hs)))
  · exact h.elim

theorem sd_baload (hd : decode cc pc = .ok (.baload, 1)) : sm_Snd l own nm cc nL z lev pc (pc + 1) (oZl) := by
  intro p e R s m args below meth c Q b sb D cA H0 P hC Nx J hN hJ ls st w kc qc h
  obtain ⟨hx, hb, hml, hown, hts, hK, hbH, hRc, hRs, hRf, hRl, hnm, hEx, hI, hV⟩ := hC
  dsimp only [oZl] at h
  split at h
  · next i a st =>
    obtain ⟨h1, h2, h3, h⟩ := h
    intro H locs lsA hR hS hL ho hs
    have hi : sm_r i := sm_ok_hd hs
    have ha := sm_lt hR (a := a) (by rw [h1]; decide)
    have k := hN _ _ _ _ _ h H locs lsA hR hS hL ho (sm_ok_cons (hR.2.2.2.1 a i) (sm_ok_tl (sm_ok_tl hs)))
    refine va_zald hx hb hK hR.2.2.1 a 1 (cA := cA 1) (f := fun j : Nat => Int32.ofInt (wI w a j)) (by rw [sm_ws_get ha, sm_E_i h1 (by decide) (by decide)]) rfl (i3_in h2 h3 hi) hd ?_
    rw [i3_cl h2 hi]
    exact k
  · exact h.elim

theorem sd_caload (hd : decode cc pc = .ok (.caload, 1)) : sm_Snd l own nm cc nL z lev pc (pc + 1) (oCl) := by
  intro p e R s m args below meth c Q b sb D cA H0 P hC Nx J hN hJ ls st w kc qc h
  obtain ⟨hx, hb, hml, hown, hts, hK, hbH, hRc, hRs, hRf, hRl, hnm, hEx, hI, hV⟩ := hC
  dsimp only [oCl] at h
  split at h
  · next i a st =>
    obtain ⟨h1, h2, h3, h⟩ := h
    intro H locs lsA hR hS hL ho hs
    have hi : sm_r i := sm_ok_hd hs
    have ha := sm_lt hR (a := a) (by rw [h1]; decide)
    have k := hN _ _ _ _ _ h H locs lsA hR hS hL ho (sm_ok_cons (hR.2.2.2.1 a i) (sm_ok_tl (sm_ok_tl hs)))
    refine va_cald hx hb hK hR.2.2.1 a 2 (cA := cA 2) (f := fun j : Nat => Int32.ofInt (wI w a j)) (by rw [sm_ws_get ha, sm_E_i h1 (by decide) (by decide)]) rfl (i3_in h2 h3 hi) hd ?_
    rw [i3_cl h2 hi]
    exact k
  · exact h.elim

theorem sd_iaload (hd : decode cc pc = .ok (.iaload, 1)) : sm_Snd l own nm cc nL z lev pc (pc + 1) (oIl) := by
  intro p e R s m args below meth c Q b sb D cA H0 P hC Nx J hN hJ ls st w kc qc h
  obtain ⟨hx, hb, hml, hown, hts, hK, hbH, hRc, hRs, hRf, hRl, hnm, hEx, hI, hV⟩ := hC
  dsimp only [oIl] at h
  split at h
  · next i a st =>
    obtain ⟨h1, h2, h3, h⟩ := h
    intro H locs lsA hR hS hL ho hs
    have hi : sm_r i := sm_ok_hd hs
    have k := hN _ _ _ _ _ h H locs lsA hR hS hL ho (sm_ok_cons (hR.2.2.2.1 a i) (sm_ok_tl (sm_ok_tl hs)))
    rcases h1 with h1 | h1
    · have ha := sm_lt hR (a := a) (by rw [h1]; decide)
      refine va_iald hx hb hK hR.2.2.1 a 0 (cA := cA 0) (f := fun j : Nat => Int32.ofInt (wI w a j)) (by rw [sm_ws_get ha, sm_E_i h1 (by decide) (by decide)]) rfl (i3_in h2 h3 hi) hd ?_
      rw [i3_cl h2 hi]
      exact k
    · obtain ⟨h1, h4⟩ := h1
      subst h4
      have hX := hR.2.2.2.2.2.2 (wS w 1000).2 (by rw [← h1])
      have hsb := hR.2.2.2.2.1
      have hz := hR.2.1
      refine va_sld (H0 := H) (A := fun x => b ≤ x) hx hb (xs := fun j : Nat => Int32.ofInt (wI w 1000 j)) hX (by omega) (by show ¬ b ≤ sb; omega) ⟨Nat.le_refl _, fun _ _ _ => rfl, hS.2.2⟩ (i3_in h2 h3 hi) hd ?_
      rw [i3_cl h2 hi]
      exact k
  · exact h.elim

theorem sd_aaload (hd : decode cc pc = .ok (.aaload, 1)) : sm_Snd l own nm cc nL z lev pc (pc + 1) (oRl) := by
  intro p e R s m args below meth c Q b sb D cA H0 P hC Nx J hN hJ ls st w kc qc h
  obtain ⟨hx, hb, hml, hown, hts, hK, hbH, hRc, hRs, hRf, hRl, hnm, hEx, hI, hV⟩ := hC
  dsimp only [oRl] at h
  split at h
  · next i a st =>
    obtain ⟨h1, h2, h3, d, h4, h⟩ := h
    intro H locs lsA hR hS hL ho hs
    have hi : sm_r i := sm_ok_hd hs
    have ha := sm_lt hR (a := a) (by omega)
    have hlt : (Int32.ofInt i).toNatClampNeg < (wS w a).2 := by have := i3_cl h2 hi; omega
    have hnn : ¬ (Int32.ofInt i < 0) := by rw [i3_z, i3_lt hi i3_0]; omega
    have k := hN _ _ _ _ _ h H locs lsA hR hS hL ho (sm_ok_cons (v := .inr (.inl d)) trivial (sm_ok_tl (sm_ok_tl hs)))
    have hc := hR.2.2.1 a _ (sm_ws_get ha)
    rw [sm_E_r rfl (by omega)] at hc
    have hc : H[sm_ea b sb a]? = some (arrV (cA ((wS w a).1 - 9)) (wS w a).2 (fun j : Nat => va_rf ((wR w a j).map (sm_ea b sb)))) := hc
    have hty : ∃ ty : FieldType, ty.isReference = true ∧ (sm_tys cA)[(wS w a).1 - 9]? = some (cA ((wS w a).1 - 9), ty) := by
      rcases h1 with e | e <;> rw [e]
      · exact ⟨.object RX2, rfl, rfl⟩
      · exact ⟨.array .int, rfl, rfl⟩
    obtain ⟨ty, t1, t2⟩ := hty
    refine W.aald (v := va_rf ((wR w a (Int32.ofInt i).toNatClampNeg).map (sm_ea b sb))) (ty := ty) hx hb hc ((hK.2 _ _ t2).1 _ _) t1 (fun q => by cases q) (by rw [arrV_size]; exact fun q => q.elim hnn (fun q => by omega)) (by rw [arrV_read _ _ hlt]) rfl rfl hd ?_
    rw [i3_cl h2 hi, h4]
    exact k
  · exact h.elim

theorem sd_iastore (hd : decode cc pc = .ok (.iastore, 1)) : sm_Snd l own nm cc nL z lev pc (pc + 1) (oIst) := by
  intro p e R s m args below meth c Q b sb D cA H0 P hC Nx J hN hJ ls st w kc qc h
  obtain ⟨hx, hb, hml, hown, hts, hK, hbH, hRc, hRs, hRf, hRl, hnm, hEx, hI, hV⟩ := hC
  dsimp only [oIst] at h
  split at h
  · next v i a st =>
    obtain ⟨h1, h2, h3, h⟩ := h
    intro H locs lsA hR hS hL ho hs
    have hv : sm_r v := sm_ok_hd hs
    have hi : sm_r i := sm_ok_hd (sm_ok_tl hs)
    have ha := sm_lt hR (a := a) (by rw [h1]; decide)
    have hc := hR.2.2.1 a _ (sm_ws_get ha)
    rw [sm_E_i h1 (by decide) (by decide)] at hc
    have hlt : (Int32.ofInt i).toNatClampNeg < (wS w a).2 := by have := i3_cl h2 hi; omega
    have hnn : ¬ (Int32.ofInt i < 0) := by rw [i3_z, i3_lt hi i3_0]; omega
    refine W.iast hx hb hc ((hK.2 0 _ rfl).1 _ (fun j : Nat => .int (Int32.ofInt (wI w a j)))) (fun q => by cases q) (by show ¬ (_ ∨ (arrV _ _ _).slots.size ≤ _); rw [arrV_size]; exact fun q => q.elim hnn (fun q => absurd q (Nat.not_le.mpr hlt))) rfl rfl hd fun H1 e1 e2 e3 => ?_
    rw [sm_cell_upd h2 hi] at e1
    refine hN _ _ _ _ _ h H1 _ lsA (sm_put_i hR ha hv ?_ e2 e3) (hS.put e2 e3 (sm_A hR ha)) hL ho (sm_ok_tl (sm_ok_tl (sm_ok_tl hs)))
    rw [sm_E_i (w := wsI w a i v) h1 (by decide) (by decide)]
    exact e1
  · exact h.elim

theorem sd_bastore (hd : decode cc pc = .ok (.bastore, 1)) : sm_Snd l own nm cc nL z lev pc (pc + 1) (oZst) := by
  intro p e R s m args below meth c Q b sb D cA H0 P hC Nx J hN hJ ls st w kc qc h
  obtain ⟨hx, hb, hml, hown, hts, hK, hbH, hRc, hRs, hRf, hRl, hnm, hEx, hI, hV⟩ := hC
  dsimp only [oZst] at h
  split at h
  · next v i a st =>
    obtain ⟨h1, h2, h3, h4, h⟩ := h
    intro H locs lsA hR hS hL ho hs
    have hv : sm_r v := sm_ok_hd hs
    have hi : sm_r i := sm_ok_hd (sm_ok_tl hs)
    have ha := sm_lt hR (a := a) (by rw [h1]; decide)
    have hc := hR.2.2.1 a _ (sm_ws_get ha)
    rw [sm_E_i h1 (by decide) (by decide)] at hc
    have hlt : (Int32.ofInt i).toNatClampNeg < (wS w a).2 := by have := i3_cl h2 hi; omega
    have hnn : ¬ (Int32.ofInt i < 0) := by rw [i3_z, i3_lt hi i3_0]; omega
    refine W.zast hx hb hc ((hK.2 1 _ rfl).1 _ (fun j : Nat => .int (Int32.ofInt (wI w a j)))) (fun q => by cases q) (by show ¬ (_ ∨ (arrV _ _ _).slots.size ≤ _); rw [arrV_size]; exact fun q => q.elim hnn (fun q => absurd q (Nat.not_le.mpr hlt))) rfl rfl hd fun H1 e1 e2 e3 => ?_
    rw [show narrow .boolean (.int (Int32.ofInt v)) = .int (Int32.ofInt v) by rcases h4 with rfl | rfl <;> rfl] at e1
    rw [sm_cell_upd h2 hi] at e1
    refine hN _ _ _ _ _ h H1 _ lsA (sm_put_i hR ha hv ?_ e2 e3) (hS.put e2 e3 (sm_A hR ha)) hL ho (sm_ok_tl (sm_ok_tl (sm_ok_tl hs)))
    rw [sm_E_i (w := wsI w a i v) h1 (by decide) (by decide)]
    exact e1
  · exact h.elim

theorem sd_castore (hd : decode cc pc = .ok (.castore, 1)) : sm_Snd l own nm cc nL z lev pc (pc + 1) (oCst) := by
  intro p e R s m args below meth c Q b sb D cA H0 P hC Nx J hN hJ ls st w kc qc h
  obtain ⟨hx, hb, hml, hown, hts, hK, hbH, hRc, hRs, hRf, hRl, hnm, hEx, hI, hV⟩ := hC
  dsimp only [oCst] at h
  split at h
  · next v i a st =>
    obtain ⟨h1, h2, h3, h4, h5, h⟩ := h
    intro H locs lsA hR hS hL ho hs
    have hv : sm_r v := sm_ok_hd hs
    have hi : sm_r i := sm_ok_hd (sm_ok_tl hs)
    have ha := sm_lt hR (a := a) (by rw [h1]; decide)
    have hc := hR.2.2.1 a _ (sm_ws_get ha)
    rw [sm_E_i h1 (by decide) (by decide)] at hc
    have hlt : (Int32.ofInt i).toNatClampNeg < (wS w a).2 := by have := i3_cl h2 hi; omega
    have hnn : ¬ (Int32.ofInt i < 0) := by rw [i3_z, i3_lt hi i3_0]; omega
    refine W.cast hx hb hc ((hK.2 2 _ rfl).1 _ (fun j : Nat => .int (Int32.ofInt (wI w a j)))) (fun q => by cases q) (by show ¬ (_ ∨ (arrV _ _ _).slots.size ≤ _); rw [arrV_size]; exact fun q => q.elim hnn (fun q => absurd q (Nat.not_le.mpr hlt))) rfl rfl hd fun H1 e1 e2 e3 => ?_
    rw [show narrow .char (.int (Int32.ofInt v)) = .int (Int32.ofInt v) by rw [i3_n h4]; exact (pk_charN (by omega)).1] at e1
    rw [sm_cell_upd h2 hi] at e1
    refine hN _ _ _ _ _ h H1 _ lsA (sm_put_i hR ha hv ?_ e2 e3) (hS.put e2 e3 (sm_A hR ha)) hL ho (sm_ok_tl (sm_ok_tl (sm_ok_tl hs)))
    rw [sm_E_i (w := wsI w a i v) h1 (by decide) (by decide)]
    exact e1
  · exact h.elim

theorem sd_aastore (hd : decode cc pc = .ok (.aastore, 1)) : sm_Snd l own nm cc nL z lev pc (pc + 1) (oRst) := by
  intro p e R s m args below meth c Q b sb D cA H0 P hC Nx J hN hJ ls st w kc qc h
  obtain ⟨hx, hb, hml, hown, hts, hK, hbH, hRc, hRs, hRf, hRl, hnm, hEx, hI, hV⟩ := hC
  dsimp only [oRst] at h
  split at h
  · next v i a st =>
    obtain ⟨h1, h5, h2, h3, h⟩ := h
    intro H locs lsA hR hS hL ho hs
    have hi : sm_r i := sm_ok_hd (sm_ok_tl hs)
    have ha := sm_lt hR (a := a) (by rw [h1]; decide)
    have hva := sm_lt hR (a := v) (by rw [h5]; decide)
    have hc := hR.2.2.1 a _ (sm_ws_get ha)
    rw [sm_E_r h1 (by decide)] at hc
    have hlt : (Int32.ofInt i).toNatClampNeg < (wS w a).2 := by have := i3_cl h2 hi; omega
    have hnn : ¬ (Int32.ofInt i < 0) := by rw [i3_z, i3_lt hi i3_0]; omega
    have hvv := hR.2.2.1 v _ (sm_ws_get hva)
    rw [sm_E_o h5 (by decide)] at hvv
    obtain ⟨r, hr0, cellV, g1, g2, g3, -⟩ := hvv
    have hcls := (hK.1 2 (RX2, TX2, 9) rfl).2
    obtain ⟨kA, comp, k1, k2, k3, -⟩ := (hK.2 3 (cA 3, .object RX2) rfl).2
    have hcomp : comp = D.1 2 := Option.some.inj (k3.symm.trans hcls.1)
    subst hcomp
    obtain ⟨kC, hkC, -⟩ := hcls.2
    refine W.aast hx hb hc (fun q h => by cases h) (fun h => by cases h) k1 k2 rfl hkC ⟨hnn, by show _ < (arrV _ _ _).slots.size; rw [arrV_size]; exact hlt⟩ g1 (fun q h => by rw [g3] at h; cases h) (by rw [g2]; exact hkC) (by rw [g2]; exact va_assign hcls) rfl rfl hd fun H1 e1 e2 e3 => ?_
    rw [sm_cell_updR h2 hi] at e1
    refine hN _ _ _ _ _ h H1 _ lsA (sm_put_r hR ha ?_ e2 e3) (hS.put e2 e3 (sm_A hR ha)) hL ho (sm_ok_tl (sm_ok_tl (sm_ok_tl hs)))
    rw [sm_E_r (w := wsR w a i v) h1 (by decide)]
    exact e1
  · exact h.elim

end
