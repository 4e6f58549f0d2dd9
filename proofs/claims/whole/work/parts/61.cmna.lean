/-! NEW ROWS OF ROWS: int[n][m] -/
section
variable {l : Launch} {own nm : String} {cc : ByteArray} {nL : Nat} {z : Nat} {lev : Nat} {pc : Nat}
theorem mna_outer (c : ClassId) (N h0 : Nat) : ∀ i : Nat, Jvm.Free.Multi.outerC c N h0 i = arrV c N (fun j => va_rf (if j < i then some (h0 + 1 + j) else none))
  | 0 => by
    show ({ cls := c, slots := Array.replicate N .null, vm := .none } : Cell) = _
    rw [arrV_new]
    exact congrArg (arrV c N) (funext fun j => by rw [if_neg (Nat.not_lt_zero j)]; rfl)
  | i + 1 => by
    show (Jvm.Free.Multi.outerC c N h0 i).setSlot i (.ref (h0 + 1 + i)) = _
    rw [mna_outer c N h0 i, arrV_store]
    refine congrArg (arrV c N) (funext fun j => ?_)
    unfold updV
    dsimp only
    by_cases e : j = i
    · subst e
      rw [if_pos rfl, if_pos (Nat.lt_succ_self j)]
      rfl
    · rw [if_neg e]
      by_cases h : j < i
      · rw [if_pos h, if_pos (by omega)]
      · rw [if_neg h, if_neg (by omega)]
theorem sm_add2 {b sb : Nat} {D : va_G} {cA : Nat → ClassId} {w : sm_W} {U : State} {H H1 : Heap} {n m : Nat} (hR : sm_Rep b sb D cA w U H) (hn : w.1 + 1 + n ≤ 1000) (hz : H1.size = H.size + 1 + n) (oq : ∀ q : Nat, q < H.size → H1[q]? = H[q]?) (ho : H1[H.size]? = some (Jvm.Free.Multi.outerC (cA 4) n H.size n)) (hi : ∀ j, j < n → H1[H.size + 1 + j]? = some (Jvm.Free.Multi.innerC (cA 0) m (defaultValue .int))) : sm_Rep b sb D cA (wNw2 w n m) U H1 := by
  obtain ⟨r1, r2, r3, r4, r5, r6, r7⟩ := hR
  have h1 : (wNw2 w n m).1 = w.1 + 1 + n := rfl
  have hS : ∀ id, wS (wNw2 w n m) id = if id = w.1 then (13, n) else if w.1 < id ∧ id < w.1 + 1 + n then (9, m) else wS w id := fun _ => rfl
  have hI : ∀ id j, wI (wNw2 w n m) id j = if w.1 ≤ id ∧ id < w.1 + 1 + n then 0 else wI w id j := fun _ _ => rfl
  have hRr : ∀ id j, wR (wNw2 w n m) id j = if id = w.1 then (if 0 ≤ j ∧ j < (n : Int) then some (w.1 + 1 + j.toNat) else none) else if w.1 < id ∧ id < w.1 + 1 + n then none else wR w id j := fun _ _ => rfl
  generalize wNw2 w n m = w' at *
  refine ⟨by omega, by omega, ?_, fun id i => ?_, r5, fun id h => ?_, fun L hL => ?_⟩
  · intro k x hk
    obtain ⟨h2, rfl⟩ := sm_ws_inv hk
    rcases Nat.lt_trichotomy k w.1 with h3 | h3 | h3
    · have e : sm_E b sb cA w' k = sm_E b sb cA w k := sm_E_congr (by rw [hS, if_neg (by omega), if_neg (by omega)]) (fun i => by rw [hI, if_neg (by omega)]) (fun i => by rw [hRr, if_neg (by omega), if_neg (by omega)])
      rw [e]
      have h4 := r3 k _ (sm_ws_get h3)
      exact h4.kept (oq _ h4.lt)
    · subst h3
      have hw : wS w' w.1 = (13, n) := by rw [hS, if_pos rfl]
      rw [sm_E_r (w := w') (a := w.1) (kd := 13) (by rw [hw]) (by decide), hw]
      show H1[sm_ea b sb w.1]? = some (vp_cell _ _)
      rw [sm_ea_lt (by omega), ← r2, ho, mna_outer, vp_cell_q]
      refine congrArg some (congrArg (arrV (cA 4) n) (funext fun j => congrArg va_rf ?_))
      rw [hRr, if_pos rfl]
      by_cases hj : j < n
      · rw [if_pos hj, if_pos (by omega)]
        show _ = some (sm_ea b sb (w.1 + 1 + (j : Int).toNat))
        rw [sm_ea_lt (by omega), r2]
        congr 1
        omega
      · rw [if_neg hj, if_neg (by omega)]
        rfl
    · have hw : wS w' k = (9, m) := by rw [hS, if_neg (by omega), if_pos (by omega)]
      rw [sm_E_i (w := w') (a := k) (kd := 9) (by rw [hw]) (by decide) (by decide), hw]
      show H1[sm_ea b sb k]? = some (vp_cell _ _)
      rw [sm_ea_lt (by omega), show b + k = H.size + 1 + (k - (w.1 + 1)) by omega, hi _ (by omega), vp_cell_i]
      show some ({ cls := cA 0, slots := Array.replicate m (defaultValue .int), vm := .none } : Cell) = _
      rw [arrV_new]
      refine congrArg some (congrArg (arrV (cA 0) m) (funext fun j => ?_))
      rw [hI, if_pos (by omega)]
      rfl
  · rw [hI]
    split
    · exact i3_0
    · exact r4 id i
  · rw [hS, if_neg (by omega), if_neg (by omega)]
    exact r6 id (by omega)
  · rw [hS, if_neg (by omega), if_neg (by omega)] at hL
    have := (r7 L hL).kept (H1 := H1) (oq sb (by omega))
    rw [show (fun j : Nat => Int32.ofInt (wI w' 1000 (j : Int))) = (fun j : Nat => Int32.ofInt (wI w 1000 (j : Int))) from funext fun j => by rw [hI, if_neg (by omega)]]
    exact this
theorem sd_mna {idx : Nat} (hl : Cond.classLink own idx "[[I" ∈ sm_tbl) (harr : Cond.arrayClass .int ∈ sm_tbl) (hd : decode cc pc = .ok (.multianewarray idx 2, 4)) : sm_Snd l own nm cc nL z lev pc (pc + 4) (oNa2) := by
  intro p e R s m args below meth c Q b sb D cA H0 P hC Nx J hN hJ ls st w kc qc h
  obtain ⟨hx, hb, hml, hown, hts, hK, hbH, hRc, hRs, hRf, hRl, hnm, hEx, hI, hV⟩ := id hC
  dsimp only [oNa2] at h
  split at h
  · next M n st =>
    obtain ⟨n0, n1, m0, m1, h1, h2, h3, h⟩ := h
    intro H locs lsA hR hS hL ho hs
    have hMr : sm_r M := sm_ok_hd hs
    have hnr : sm_r n := sm_ok_hd (sm_ok_tl hs)
    have hz := hR.2.1
    have cN := i3_cN hnr
    have cM := i3_cN hMr
    have hcl : (Cond.classLink own idx ("[" ++ (FieldType.array .int).toString)).before args s = true := hts _ hl
    have hov : (Cond.arrayOver (.array .int)).before args s = true := hEx.2.1
    intro T hT Xs
    have hcb : componentBytes .int ≤ 8 := by decide
    obtain ⟨vm₁, cA', comp, -, fA, fC, -, -, X', step⟩ := Xs.multianewarray2F hx hown hcl hov (hts _ harr) (g := F0 m pc lsA ((.inl M :: .inl n :: st).map (sm_ev b sb))) rfl (by rw [hb]; exact hd) (n := Int32.ofInt n) (k := Int32.ofInt M) (rest := st.map (sm_ev b sb)) rfl (by rw [i3_z, i3_lt hnr i3_0]; omega) (by rw [i3_z, i3_lt hMr i3_0]; omega) (by rw [cN]; omega) (by rw [cM]; exact Nat.le_trans (Nat.mul_le_mul_left _ hcb) (by omega)) (by rw [cM]; omega) (by decide) (by decide) (by rw [hRc, cN]; omega) (by rw [hRs, cN, cM]; omega)
    have hcls : cA' = cA 4 := by
      have := (hK.2 4 _ rfl).2
      exact Option.some.inj (fA.symm.trans this)
    have hcmp : comp = cA 0 := by
      have := (hK.2 0 _ rfl).2
      exact Option.some.inj (fC.symm.trans this)
    subst hcls
    subst hcmp
    rw [cN, cM] at X' step
    generalize hF : Jvm.Free.Multi.fill (T.setVm vm₁) (cA 4) (cA 0) n.toNat M.toNat (defaultValue .int) n.toNat = F at X' step
    have hTh : (T.setVm vm₁).heap = H := hT
    obtain ⟨f1, f2, -, -⟩ := Jvm.Free.Multi.fill_facts (T.setVm vm₁) (cA 4) (cA 0) n.toNat M.toNat (defaultValue .int) n.toNat
    rw [hF, hTh] at f1 f2
    have hold : ∀ x : Nat, x < H.size → F.heap[x]? = H[x]? := fun x hx => by
      have := Jvm.Free.Multi.fill_old (T.setVm vm₁) (cA 4) (cA 0) n.toNat M.toNat (defaultValue .int) (a := x) (by rw [hTh]; exact hx) n.toNat
      rw [hF, hTh] at this
      exact this
    have hrow : ∀ j : Nat, j < n.toNat → F.heap[H.size + 1 + j]? = some (Jvm.Free.Multi.innerC (cA 0) M.toNat (defaultValue .int)) := fun j hj => by
      have := Jvm.Free.Multi.fill_inner (T.setVm vm₁) (cA 4) (cA 0) n.toNat M.toNat (defaultValue .int) n.toNat j hj
      rw [hF, hTh] at this
      exact this
    have hrep := sm_add2 (m := M.toNat) hR h1 f1 hold f2 hrow
    have k := hN _ _ _ _ _ h F.heap locs lsA hrep ⟨Nat.le_trans hS.1 (by omega), fun x h1 h2 => (hold x (Nat.lt_of_lt_of_le h1 hS.1)).trans (hS.2.1 x h1 h2), hS.2.2⟩ hL ho (sm_ok_cons (v := .inr (.inl w.1)) trivial (sm_ok_tl (sm_ok_tl hs)))
    obtain ⟨t, a1, b1⟩ := k F rfl X'
    have e : sm_ev b sb (.inr (.inl w.1)) = .ref T.heap.size := by
      show Value.ref (sm_ea b sb w.1) = _
      rw [sm_ea_lt (by omega), show T.heap = H from hT, hz]
    rw [List.map_cons, e] at a1
    exact ⟨t, step t a1, b1⟩
  · exact h.elim
end
