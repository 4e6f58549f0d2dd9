/-! THE OTHER STEPS; BLOCKS; A METHOD'S CONTRACT OUT OF A RUN -/
theorem sm_cases_at {J : Nat → Prop} {x : Int} : ∀ {lo : Int} {ts : List Nat} {i : Nat} {t : Nat}, sm_cases J x lo ts → ts[i]? = some t → x = lo + i → J t
  | lo, [], i, t, _, h, _ => by cases h
  | lo, u :: ts, 0, t, hc, h, hx => by
    cases h
    exact hc.1 (by omega)
  | lo, u :: ts, i + 1, t, hc, h, hx => sm_cases_at (i := i) hc.2 h (by omega)
theorem i3_nn {x : Int} (h : 0 ≤ x) (h2 : x < 2147483648) : (Int32.ofInt x).toBitVec.toNat = x.toNat := by
  rw [i3_n h, pk_tn (by omega)]
theorem i3_orN {x y : Nat} (hx : x < 65536) (hy : y < 65536) : nI x ||| nI y = nI (x ||| y) := by
  apply Int32.toBitVec_inj.mp
  apply BitVec.eq_of_toNat_eq
  have hlt : x ||| y < 65536 := Nat.or_lt_two_pow (n := 16) hx hy
  rw [Int32.toBitVec_or, BitVec.toNat_or, pk_tn (by omega), pk_tn (by omega), pk_tn (by omega)]
section
variable {l : Launch} {own nm : String} {cc : ByteArray} {nL : Nat} {z : Nat} {lev : Nat} {pc : Nat}

theorem sd_ldc2 {idx : Nat} {v : Int64} (hl : Cond.constantLong own idx v ∈ sm_tbl) (hd : decode cc pc = .ok (.ldc2_w idx, 3)) : sm_Snd l own nm cc nL z lev pc (pc + 3) (oLK v) := by
  intro p e R s m args below meth c Q b sb D cA H0 P hC Nx J hN hJ ls st w kc qc h
  obtain ⟨hx, hb, hml, hown, hts, hK, hbH, hRc, hRs, hRf, hRl, hnm, hEx, hI, hV⟩ := id hC
  intro H locs lsA hR hS hL ho hs
  exact lv_ldc2 hx hb hown (hts _ hl) hd (hN _ _ _ _ _ h H locs lsA hR hS hL ho (sm_ok_cons (v := .inr (.inr v)) trivial hs))

theorem sd_sw {x : Nat} {d lo hi : Int} {offs : Array Int} {len : Nat} {ts : List Nat} {dt : Nat} (hd : decode cc pc = .ok (.tableswitch d lo hi offs, len)) (hn : (lo + ts.length : Int) = hi + 1) (hdt : (pc : Int) + d = (dt : Int)) (hts2 : offs.toList = ts.map (fun t : Nat => (t : Int) - (pc : Int))) : sm_Snd l own nm cc nL z lev pc (x) (oSw lo ts dt) := by
  intro p e R s m args below meth c Q b sb D cA H0 P hC Nx J hN hJ ls st w kc qc h
  obtain ⟨hx, hb, hml, hown, hts, hK, hbH, hRc, hRs, hRf, hRl, hnm, hEx, hI, hV⟩ := id hC
  dsimp only [oSw] at h
  split at h
  · next x st =>
    intro H locs lsA hR hS hL ho hs
    have hxx : sm_r x := sm_ok_hd hs
    have hst := sm_ok_tl hs
    by_cases hin : x < lo ∨ hi < x
    · exact lv_tableOut hx hb hd (by rw [i3_toInt hxx]; exact hin) hdt (hJ _ _ _ _ _ _ (h.2 (by omega)) H locs lsA hR hS hL ho hst)
    · have h1 : ¬ x < lo := fun e => hin (Or.inl e)
      have h2 : ¬ hi < x := fun e => hin (Or.inr e)
      have hlen : (x - lo).toNat < ts.length := by omega
      obtain ⟨t, ht⟩ : ∃ t, ts[(x - lo).toNat]? = some t := ⟨_, List.getElem?_eq_getElem hlen⟩
      have ho2 : offs[(x - lo).toNat]? = some ((t : Int) - pc) := by
        rw [← Array.getElem?_toList, hts2, List.getElem?_map, ht]
        rfl
      have hjj := sm_cases_at (J := fun t => J t ls st w kc qc) (x := x) h.1 ht (by omega)
      refine lv_tableIn (off := (t : Int) - (pc : Int)) (tgt := t) hx hb hd ?_ ?_ ?_ (by omega) (hJ _ _ _ _ _ _ hjj H locs lsA hR hS hL ho hst)
      · rw [i3_toInt hxx]; exact h1
      · rw [i3_toInt hxx]; exact h2
      · rw [i3_toInt hxx]; exact ho2
  · exact h.elim

theorem sd_iand (hd : decode cc pc = .ok (.iand, 1)) : sm_Snd l own nm cc nL z lev pc (pc + 1) (oAnd) := by
  intro p e R s m args below meth c Q b sb D cA H0 P hC Nx J hN hJ ls st w kc qc h
  obtain ⟨hx, hb, hml, hown, hts, hK, hbH, hRc, hRs, hRf, hRl, hnm, hEx, hI, hV⟩ := id hC
  dsimp only [oAnd] at h
  split at h
  · next y x st =>
    intro H locs lsA hR hS hL ho hs
    have hxx : sm_r x := sm_ok_hd (sm_ok_tl hs)
    have hst := sm_ok_tl (sm_ok_tl hs)
    obtain ⟨h0, h⟩ := h
    subst h0
    have hr : sm_r (x % 32) := ⟨by omega, by omega⟩
    have k := hN _ _ _ _ _ h H locs lsA hR hS hL ho (sm_ok_cons hr hst)
    have he : Int32.ofInt x &&& Int32.ofInt 31 = Int32.ofInt (x % 32) := by
      rw [pk_and _ 5 (by decide), i3_n (i := x % 32) (by omega)]
      congr 1
      show _ % 32 = _
      have h1 : ((Int32.ofInt x).toBitVec.toInt) = x := i3_toInt hxx
      have h2 := BitVec.toInt_eq_toNat_cond (Int32.ofInt x).toBitVec
      have h3 := (Int32.ofInt x).toBitVec.isLt
      have h4 := hxx.1
      have h5 := hxx.2
      rw [h1] at h2
      split at h2 <;> omega
    refine lv_iand hx hb hd ?_
    have k' : W p l e R s m args below meth c H locs kc qc Q (F0 m (pc + 1) lsA (.int (Int32.ofInt (x % 32)) :: st.map (sm_ev b sb))) := k
    rw [← he] at k'
    exact k'
  · exact h.elim

theorem sd_iandb (hd : decode cc pc = .ok (.iand, 1)) : sm_Snd l own nm cc nL z lev pc (pc + 1) (oAndB) := by
  intro p e R s m args below meth c Q b sb D cA H0 P hC Nx J hN hJ ls st w kc qc h
  obtain ⟨hx, hb, hml, hown, hts, hK, hbH, hRc, hRs, hRf, hRl, hnm, hEx, hI, hV⟩ := id hC
  dsimp only [oAndB] at h
  split at h
  · next y x st =>
    intro H locs lsA hR hS hL ho hs
    have hst := sm_ok_tl (sm_ok_tl hs)
    obtain ⟨h1, h2, h⟩ := h
    have hr : sm_r (x * y) := by rcases h1 with rfl | rfl <;> rcases h2 with rfl | rfl <;> exact ⟨by decide, by decide⟩
    have k := hN _ _ _ _ _ h H locs lsA hR hS hL ho (sm_ok_cons hr hst)
    have he : Int32.ofInt x &&& Int32.ofInt y = Int32.ofInt (x * y) := by rcases h1 with rfl | rfl <;> rcases h2 with rfl | rfl <;> decide
    refine lv_iand hx hb hd ?_
    have k' : W p l e R s m args below meth c H locs kc qc Q (F0 m (pc + 1) lsA (.int (Int32.ofInt (x * y)) :: st.map (sm_ev b sb))) := k
    rw [← he] at k'
    exact k'
  · exact h.elim

theorem sd_ior (hd : decode cc pc = .ok (.ior, 1)) : sm_Snd l own nm cc nL z lev pc (pc + 1) (oOr) := by
  intro p e R s m args below meth c Q b sb D cA H0 P hC Nx J hN hJ ls st w kc qc h
  obtain ⟨hx, hb, hml, hown, hts, hK, hbH, hRc, hRs, hRf, hRl, hnm, hEx, hI, hV⟩ := id hC
  dsimp only [oOr] at h
  split at h
  · next y x st =>
    intro H locs lsA hR hS hL ho hs
    have hst := sm_ok_tl (sm_ok_tl hs)
    obtain ⟨h1, h2, h3, h4, h⟩ := h
    have hlt : x.toNat ||| y.toNat < 65536 := Nat.or_lt_two_pow (n := 16) (by omega) (by omega)
    have hr : sm_r ((x.toNat ||| y.toNat : Nat) : Int) := ⟨by omega, by omega⟩
    have k := hN _ _ _ _ _ h H locs lsA hR hS hL ho (sm_ok_cons hr hst)
    have he : Int32.ofInt x ||| Int32.ofInt y = Int32.ofInt ((x.toNat ||| y.toNat : Nat) : Int) := by
      rw [i3_n h1, i3_n h3, i3_orN (by omega) (by omega), i3_n (by omega), Int.toNat_natCast]
    refine lv_ior hx hb hd ?_
    have k' : W p l e R s m args below meth c H locs kc qc Q (F0 m (pc + 1) lsA (.int (Int32.ofInt ((x.toNat ||| y.toNat : Nat) : Int)) :: st.map (sm_ev b sb))) := k
    rw [← he] at k'
    exact k'
  · exact h.elim

theorem sd_ishl (hd : decode cc pc = .ok (.ishl, 1)) : sm_Snd l own nm cc nL z lev pc (pc + 1) (oShl) := by
  intro p e R s m args below meth c Q b sb D cA H0 P hC Nx J hN hJ ls st w kc qc h
  obtain ⟨hx, hb, hml, hown, hts, hK, hbH, hRc, hRs, hRf, hRl, hnm, hEx, hI, hV⟩ := id hC
  dsimp only [oShl] at h
  split at h
  · next y x st =>
    intro H locs lsA hR hS hL ho hs
    have hst := sm_ok_tl (sm_ok_tl hs)
    obtain ⟨h1, h2, h3, h⟩ := h
    subst h1
    obtain ⟨n, rfl⟩ : ∃ n : Nat, y = n := ⟨y.toNat, by omega⟩
    have hn : n < 16 := by omega
    have hall : ∀ n : Nat, n < 16 → Int32.ofInt 1 <<< (Int32.ofInt (n : Int) &&& 31) = Int32.ofInt ((2 ^ n : Nat) : Int) ∧ 2 ^ n ≤ 32768 := by decide
    have hr : sm_r ((2 ^ (n : Int).toNat : Nat) : Int) := by
      rw [Int.toNat_natCast]
      have hp := (hall n hn).2
      generalize 2 ^ n = k2 at hp ⊢
      exact ⟨by omega, by omega⟩
    have k := hN _ _ _ _ _ h H locs lsA hR hS hL ho (sm_ok_cons hr hst)
    refine lv_ishl hx hb hd ?_
    have k' : W p l e R s m args below meth c H locs kc qc Q (F0 m (pc + 1) lsA (.int (Int32.ofInt ((2 ^ (n : Int).toNat : Nat) : Int)) :: st.map (sm_ev b sb))) := k
    rw [Int.toNat_natCast, ← (hall n hn).1] at k'
    exact k'
  · exact h.elim

theorem sd_obj {idx : Nat} (hlv : 1 ≤ lev) (hl : Cond.methodLink own idx Lib.objectInit ∈ sm_tbl) (hi : Cond.instanceMethod Lib.objectInit ∈ sm_tbl) (hc : Cond.code Lib.objectInit ⟨#[0xb1]⟩ 1 none ∈ sm_tbl) (hd : decode cc pc = .ok (.invokespecial idx, 3)) : sm_Snd l own nm cc nL z lev pc (pc + 3) (oObj) := by
  intro p e R s m args below meth c Q b sb D cA H0 P hC Nx J hN hJ ls st w kc qc h
  obtain ⟨hx, hb, hml, hown, hts, hK, hbH, hRc, hRs, hRf, hRl, hnm, hEx, hI, hV⟩ := id hC
  dsimp only [oObj] at h
  split at h
  · next a st =>
    obtain ⟨h1, h⟩ := h
    intro H locs lsA hR hS hL ho hs
    refine W.objInit hx hb hown (hts _ hl) (hts _ hi) (hts _ hc) (g := F0 m pc lsA ((.inr (.inl a) :: st).map (sm_ev b sb))) rfl (by rw [hml]; exact hL.1) (rest := st.map (sm_ev b sb)) rfl hd (by omega) ?_ (hN _ _ _ _ _ h H locs lsA hR hS hL ho (sm_ok_tl hs))
    have := lv_room (pc := pc) (ls := lsA) (rest := ((.inr (.inl a) :: st).map (sm_ev b sb))) (m := m) (st := st.map (sm_ev b sb)) (by rw [sm_wds_map]; exact h1)
    omega
  · exact h.elim

theorem sd_new {ci N idx : Nat} {C : String} {T : u_T} (hcl : sm_Cl ci C T N) (hl : Cond.classLink own idx C ∈ sm_tbl) (hi : Cond.instantiable C N ∈ sm_tbl) (hn : Cond.initialized C ∈ sm_tbl) (hd : decode cc pc = .ok (.new idx, 3)) : sm_Snd l own nm cc nL z lev pc (pc + 3) (oNew ci N) := by
  intro p e R s m args below meth c Q b sb D cA H0 P hC Nx J hN hJ ls st w kc qc h
  obtain ⟨hx, hb, hml, hown, hts, hK, hbH, hRc, hRs, hRf, hRl, hnm, hEx, hI, hV⟩ := id hC
  dsimp only [oNew] at h
  obtain ⟨h1, h2, h3, h⟩ := h
  intro H locs lsA hR hS hL ho hs
  have hKn := hK.1 ci _ hcl.1
  refine W.newcK hx hb hown (hts _ hl) (hts _ hi) (hts _ hn) (g := F0 m pc lsA (st.map (sm_ev b sb))) rfl hd (by rw [hRc]; exact h2) (by rw [hRs]; exact h3) hKn.2.1 rfl fun H1 kC hkC e1 z1 o1 => ?_
  have hz := hR.2.1
  have hrep : sm_Rep b sb D cA (wNw w ci N) s H1 := by
    refine sm_add hR h1 rfl (fun id hne => by show (if id = w.1 then _ else _) = _; rw [if_neg hne]; rfl) (fun id i => by show sm_r (if id = w.1 then _ else _); split; exact i3_0; exact hR.2.2.2.1 id i) (fun id hne => sm_E_congr (by show (if id = w.1 then _ else _) = _; rw [if_neg hne]; rfl) (fun i => by show (if id = w.1 then _ else _) = _; rw [if_neg hne]; rfl) (fun i => by show (if id = w.1 then _ else _) = _; rw [if_neg hne]; rfl)) (fun i => by show (if 1000 = w.1 then _ else _) = _; rw [if_neg (by omega)]; rfl) ?_ z1 o1
    rw [sm_E_o (w := wNw w ci N) (a := w.1) (ci := ci) (N := N) (by show (if w.1 = w.1 then _ else _) = _; rw [if_pos rfl]) hcl.2.1]
    refine ⟨_, hcl.1, ?_⟩
    rw [show sm_ea b sb w.1 = H.size by rw [sm_ea_lt h1, hz]]
    refine (u_born (sm_ty ci) hts hcl.2.2.1 hKn hkC e1 hcl.2.2.2.1).to (fun j hj => ?_)
    rw [hcl.2.2.2.2.2.2 j hj]
    show _ = ((List.range N).map (sm_fv b sb (wNw w ci N) w.1 ci)).getD j .null
    rw [List.getD_eq_getElem?_getD, List.getElem?_map, List.getElem?_range hj]
    show _ = sm_fv b sb (wNw w ci N) w.1 ci j
    unfold sm_fv
    have hwr : wR (wNw w ci N) w.1 j = none := by show (if w.1 = w.1 then _ else _) = _; rw [if_pos rfl]
    have hwi : wI (wNw w ci N) w.1 j = 0 := by show (if w.1 = w.1 then _ else _) = _; rw [if_pos rfl]
    rw [hwr, hwi]
    rfl
  have k := hN _ _ _ _ _ h H1 locs lsA hrep ⟨Nat.le_trans hS.1 (by omega), fun x h1 h2 => (o1 x (Nat.lt_of_lt_of_le h1 hS.1)).trans (hS.2.1 x h1 h2), hS.2.2⟩ hL ho (sm_ok_cons (v := .inr (.inl w.1)) trivial hs)
  have e : sm_ev b sb (.inr (.inl w.1)) = .ref H.size := by show Value.ref (sm_ea b sb w.1) = _; rw [sm_ea_lt h1, hz]
  rw [List.map_cons, e] at k
  exact k

theorem sd_newa_i (harr : Cond.arrayClass .int ∈ sm_tbl) (hd : decode cc pc = .ok (.newarray .int, 2)) : sm_Snd l own nm cc nL z lev pc (pc + 2) (oNa 9) := by
  intro p e R s m args below meth c Q b sb D cA H0 P hC Nx J hN hJ ls st w kc qc h
  obtain ⟨hx, hb, hml, hown, hts, hK, hbH, hRc, hRs, hRf, hRl, hnm, hEx, hI, hV⟩ := id hC
  dsimp only [oNa] at h
  split at h
  · next n st =>
    obtain ⟨h0, h00, h1, h2, h3, h⟩ := h
    intro H locs lsA hR hS hL ho hs
    have hnr : sm_r n := sm_ok_hd hs
    have hz := hR.2.1
    have hby : n.toNat * componentBytes (newarray.typeOf .int) ≤ 536870912 := by
      have hcb : componentBytes (newarray.typeOf .int) ≤ 8 := by decide
      exact Nat.le_trans (Nat.mul_le_mul_left _ hcb) (by omega)
    refine va_newaK hx hb (atype := .int) (hts _ harr) (g := F0 m pc lsA ((.inl n :: st).map (sm_ev b sb))) rfl hd (n := Int32.ofInt n) rfl (by rw [i3_z, i3_lt hnr i3_0]; omega) (i3_cN hnr) hby (by rw [hRc]; exact h2) (by rw [hRs]; exact h3) rfl fun H1 cA' e1 z1 o1 hAr hNm => ?_
    have hcls : cA' = cA (9 - 9) := by
      have := (hK.2 (9 - 9) _ rfl).2
      exact Option.some.inj (hNm.symm.trans this)
    subst hcls
    have hrep : sm_Rep b sb D cA (wNw w 9 n.toNat) s H1 := by
      refine sm_add hR h1 rfl (fun id hne => by show (if id = w.1 then _ else _) = _; rw [if_neg hne]; rfl) (fun id i => by show sm_r (if id = w.1 then _ else _); split; exact i3_0; exact hR.2.2.2.1 id i) (fun id hne => sm_E_congr (by show (if id = w.1 then _ else _) = _; rw [if_neg hne]; rfl) (fun i => by show (if id = w.1 then _ else _) = _; rw [if_neg hne]; rfl) (fun i => by show (if id = w.1 then _ else _) = _; rw [if_neg hne]; rfl)) (fun i => by show (if 1000 = w.1 then _ else _) = _; rw [if_neg (by omega)]; rfl) ?_ z1 o1
      have hws : wS (wNw w 9 n.toNat) w.1 = (9, n.toNat) := by show (if w.1 = w.1 then _ else _) = _; rw [if_pos rfl]
      rw [sm_E_i (w := wNw w 9 n.toNat) (a := w.1) (kd := 9) (by rw [hws]) (by decide) (by decide), hws]
      show H1[sm_ea b sb w.1]? = some (vp_cell _ _)
      rw [sm_ea_lt h1, ← hz, e1, vp_cell_i]
      congr 2
      funext j
      have hwi : wI (wNw w 9 n.toNat) w.1 j = 0 := by show (if w.1 = w.1 then _ else _) = _; rw [if_pos rfl]
      rw [hwi]
      rfl
    have k := hN _ _ _ _ _ h H1 locs lsA hrep ⟨Nat.le_trans hS.1 (by omega), fun x h1 h2 => (o1 x (Nat.lt_of_lt_of_le h1 hS.1)).trans (hS.2.1 x h1 h2), hS.2.2⟩ hL ho (sm_ok_cons (v := .inr (.inl w.1)) trivial (sm_ok_tl hs))
    have e : sm_ev b sb (.inr (.inl w.1)) = .ref H.size := by show Value.ref (sm_ea b sb w.1) = _; rw [sm_ea_lt h1, hz]
    rw [List.map_cons, e] at k
    exact k
  · exact h.elim

theorem sd_newa_z (harr : Cond.arrayClass .boolean ∈ sm_tbl) (hd : decode cc pc = .ok (.newarray .boolean, 2)) : sm_Snd l own nm cc nL z lev pc (pc + 2) (oNa 10) := by
  intro p e R s m args below meth c Q b sb D cA H0 P hC Nx J hN hJ ls st w kc qc h
  obtain ⟨hx, hb, hml, hown, hts, hK, hbH, hRc, hRs, hRf, hRl, hnm, hEx, hI, hV⟩ := id hC
  dsimp only [oNa] at h
  split at h
  · next n st =>
    obtain ⟨h0, h00, h1, h2, h3, h⟩ := h
    intro H locs lsA hR hS hL ho hs
    have hnr : sm_r n := sm_ok_hd hs
    have hz := hR.2.1
    have hby : n.toNat * componentBytes (newarray.typeOf .boolean) ≤ 536870912 := by
      have hcb : componentBytes (newarray.typeOf .boolean) ≤ 8 := by decide
      exact Nat.le_trans (Nat.mul_le_mul_left _ hcb) (by omega)
    refine va_newaK hx hb (atype := .boolean) (hts _ harr) (g := F0 m pc lsA ((.inl n :: st).map (sm_ev b sb))) rfl hd (n := Int32.ofInt n) rfl (by rw [i3_z, i3_lt hnr i3_0]; omega) (i3_cN hnr) hby (by rw [hRc]; exact h2) (by rw [hRs]; exact h3) rfl fun H1 cA' e1 z1 o1 hAr hNm => ?_
    have hcls : cA' = cA (10 - 9) := by
      have := (hK.2 (10 - 9) _ rfl).2
      exact Option.some.inj (hNm.symm.trans this)
    subst hcls
    have hrep : sm_Rep b sb D cA (wNw w 10 n.toNat) s H1 := by
      refine sm_add hR h1 rfl (fun id hne => by show (if id = w.1 then _ else _) = _; rw [if_neg hne]; rfl) (fun id i => by show sm_r (if id = w.1 then _ else _); split; exact i3_0; exact hR.2.2.2.1 id i) (fun id hne => sm_E_congr (by show (if id = w.1 then _ else _) = _; rw [if_neg hne]; rfl) (fun i => by show (if id = w.1 then _ else _) = _; rw [if_neg hne]; rfl) (fun i => by show (if id = w.1 then _ else _) = _; rw [if_neg hne]; rfl)) (fun i => by show (if 1000 = w.1 then _ else _) = _; rw [if_neg (by omega)]; rfl) ?_ z1 o1
      have hws : wS (wNw w 10 n.toNat) w.1 = (10, n.toNat) := by show (if w.1 = w.1 then _ else _) = _; rw [if_pos rfl]
      rw [sm_E_i (w := wNw w 10 n.toNat) (a := w.1) (kd := 10) (by rw [hws]) (by decide) (by decide), hws]
      show H1[sm_ea b sb w.1]? = some (vp_cell _ _)
      rw [sm_ea_lt h1, ← hz, e1, vp_cell_i]
      congr 2
      funext j
      have hwi : wI (wNw w 10 n.toNat) w.1 j = 0 := by show (if w.1 = w.1 then _ else _) = _; rw [if_pos rfl]
      rw [hwi]
      rfl
    have k := hN _ _ _ _ _ h H1 locs lsA hrep ⟨Nat.le_trans hS.1 (by omega), fun x h1 h2 => (o1 x (Nat.lt_of_lt_of_le h1 hS.1)).trans (hS.2.1 x h1 h2), hS.2.2⟩ hL ho (sm_ok_cons (v := .inr (.inl w.1)) trivial (sm_ok_tl hs))
    have e : sm_ev b sb (.inr (.inl w.1)) = .ref H.size := by show Value.ref (sm_ea b sb w.1) = _; rw [sm_ea_lt h1, hz]
    rw [List.map_cons, e] at k
    exact k
  · exact h.elim

theorem sd_newa_c (harr : Cond.arrayClass .char ∈ sm_tbl) (hd : decode cc pc = .ok (.newarray .char, 2)) : sm_Snd l own nm cc nL z lev pc (pc + 2) (oNa 11) := by
  intro p e R s m args below meth c Q b sb D cA H0 P hC Nx J hN hJ ls st w kc qc h
  obtain ⟨hx, hb, hml, hown, hts, hK, hbH, hRc, hRs, hRf, hRl, hnm, hEx, hI, hV⟩ := id hC
  dsimp only [oNa] at h
  split at h
  · next n st =>
    obtain ⟨h0, h00, h1, h2, h3, h⟩ := h
    intro H locs lsA hR hS hL ho hs
    have hnr : sm_r n := sm_ok_hd hs
    have hz := hR.2.1
    have hby : n.toNat * componentBytes (newarray.typeOf .char) ≤ 536870912 := by
      have hcb : componentBytes (newarray.typeOf .char) ≤ 8 := by decide
      exact Nat.le_trans (Nat.mul_le_mul_left _ hcb) (by omega)
    refine va_newaK hx hb (atype := .char) (hts _ harr) (g := F0 m pc lsA ((.inl n :: st).map (sm_ev b sb))) rfl hd (n := Int32.ofInt n) rfl (by rw [i3_z, i3_lt hnr i3_0]; omega) (i3_cN hnr) hby (by rw [hRc]; exact h2) (by rw [hRs]; exact h3) rfl fun H1 cA' e1 z1 o1 hAr hNm => ?_
    have hcls : cA' = cA (11 - 9) := by
      have := (hK.2 (11 - 9) _ rfl).2
      exact Option.some.inj (hNm.symm.trans this)
    subst hcls
    have hrep : sm_Rep b sb D cA (wNw w 11 n.toNat) s H1 := by
      refine sm_add hR h1 rfl (fun id hne => by show (if id = w.1 then _ else _) = _; rw [if_neg hne]; rfl) (fun id i => by show sm_r (if id = w.1 then _ else _); split; exact i3_0; exact hR.2.2.2.1 id i) (fun id hne => sm_E_congr (by show (if id = w.1 then _ else _) = _; rw [if_neg hne]; rfl) (fun i => by show (if id = w.1 then _ else _) = _; rw [if_neg hne]; rfl) (fun i => by show (if id = w.1 then _ else _) = _; rw [if_neg hne]; rfl)) (fun i => by show (if 1000 = w.1 then _ else _) = _; rw [if_neg (by omega)]; rfl) ?_ z1 o1
      have hws : wS (wNw w 11 n.toNat) w.1 = (11, n.toNat) := by show (if w.1 = w.1 then _ else _) = _; rw [if_pos rfl]
      rw [sm_E_i (w := wNw w 11 n.toNat) (a := w.1) (kd := 11) (by rw [hws]) (by decide) (by decide), hws]
      show H1[sm_ea b sb w.1]? = some (vp_cell _ _)
      rw [sm_ea_lt h1, ← hz, e1, vp_cell_i]
      congr 2
      funext j
      have hwi : wI (wNw w 11 n.toNat) w.1 j = 0 := by show (if w.1 = w.1 then _ else _) = _; rw [if_pos rfl]
      rw [hwi]
      rfl
    have k := hN _ _ _ _ _ h H1 locs lsA hrep ⟨Nat.le_trans hS.1 (by omega), fun x h1 h2 => (o1 x (Nat.lt_of_lt_of_le h1 hS.1)).trans (hS.2.1 x h1 h2), hS.2.2⟩ hL ho (sm_ok_cons (v := .inr (.inl w.1)) trivial (sm_ok_tl hs))
    have e : sm_ev b sb (.inr (.inl w.1)) = .ref H.size := by show Value.ref (sm_ea b sb w.1) = _; rw [sm_ea_lt h1, hz]
    rw [List.map_cons, e] at k
    exact k
  · exact h.elim

theorem sd_anew {idx : Nat} (hl : Cond.classLink own idx RX2 ∈ sm_tbl) (hd : decode cc pc = .ok (.anewarray idx, 3)) : sm_Snd l own nm cc nL z lev pc (pc + 3) (oNa 12) := by
  intro p e R s m args below meth c Q b sb D cA H0 P hC Nx J hN hJ ls st w kc qc h
  obtain ⟨hx, hb, hml, hown, hts, hK, hbH, hRc, hRs, hRf, hRl, hnm, hEx, hI, hV⟩ := id hC
  dsimp only [oNa] at h
  split at h
  · next n st =>
    obtain ⟨h0, h00, h1, h2, h3, h⟩ := h
    intro H locs lsA hR hS hL ho hs
    have hnr : sm_r n := sm_ok_hd hs
    have hz := hR.2.1
    have hcN := i3_cN hnr
    refine W.anew hx hb hown (hts _ hl) hEx.1.use (g := F0 m pc lsA ((.inl n :: st).map (sm_ev b sb))) rfl hd (n := Int32.ofInt n) rfl (by rw [i3_z, i3_lt hnr i3_0]; omega) (by omega) (by rw [hRc]; exact h2) (by rw [hcN, hRs]; exact h3) fun cA' kA comp f1 f2 f3 f4 => ?_
    rw [hcN]
    generalize hH1 : H.push ({ cls := cA', slots := Array.replicate n.toNat .null, vm := .none } : Cell) = H1
    have z1 : H1.size = H.size + 1 := by rw [← hH1, Array.size_push]
    have e1 : H1[H.size]? = some (arrV cA' n.toNat (fun _ => .null)) := by rw [← hH1, Array.getElem?_push_size, ← arrV_new]
    have o1 : ∀ q : Nat, q < H.size → H1[q]? = H[q]? := fun q hq => by rw [← hH1, Array.getElem?_push, if_neg (Nat.ne_of_lt hq)]
    have hcls : cA' = cA 3 := by
      obtain ⟨_, _, -, -, -, g4⟩ := (hK.2 3 _ rfl).2
      exact Option.some.inj (f1.symm.trans g4)
    subst hcls
    have hrep : sm_Rep b sb D cA (wNw w 12 n.toNat) s H1 := by
      refine sm_add hR h1 rfl (fun id hne => by show (if id = w.1 then _ else _) = _; rw [if_neg hne]; rfl) (fun id i => by show sm_r (if id = w.1 then _ else _); split; exact i3_0; exact hR.2.2.2.1 id i) (fun id hne => sm_E_congr (by show (if id = w.1 then _ else _) = _; rw [if_neg hne]; rfl) (fun i => by show (if id = w.1 then _ else _) = _; rw [if_neg hne]; rfl) (fun i => by show (if id = w.1 then _ else _) = _; rw [if_neg hne]; rfl)) (fun i => by show (if 1000 = w.1 then _ else _) = _; rw [if_neg (by omega)]; rfl) ?_ z1 o1
      have hws : wS (wNw w 12 n.toNat) w.1 = (12, n.toNat) := by show (if w.1 = w.1 then _ else _) = _; rw [if_pos rfl]
      rw [sm_E_r (w := wNw w 12 n.toNat) (a := w.1) (kd := 12) (by rw [hws]) (by decide), hws]
      show H1[sm_ea b sb w.1]? = some (vp_cell _ _)
      rw [sm_ea_lt h1, ← hz, e1, vp_cell_q]
      congr 2
      funext j
      have hwi : wR (wNw w 12 n.toNat) w.1 j = none := by show (if w.1 = w.1 then _ else _) = _; rw [if_pos rfl]
      rw [hwi]
      rfl
    have k := hN _ _ _ _ _ h H1 locs lsA hrep ⟨Nat.le_trans hS.1 (by omega), fun x h1 h2 => (o1 x (Nat.lt_of_lt_of_le h1 hS.1)).trans (hS.2.1 x h1 h2), hS.2.2⟩ hL ho (sm_ok_cons (v := .inr (.inl w.1)) trivial (sm_ok_tl hs))
    have e : sm_ev b sb (.inr (.inl w.1)) = .ref H.size := by show Value.ref (sm_ea b sb w.1) = _; rw [sm_ea_lt h1, hz]
    rw [List.map_cons, e] at k
    exact k
  · exact h.elim

theorem sd_copy {idx : Nat} (hlv : 1 ≤ lev) (hl : Cond.methodLink own idx arraycopyName ∈ sm_tbl) (h1t : Cond.native arraycopyName ∈ sm_tbl) (h2t : Cond.static arraycopyName ∈ sm_tbl) (h3t : Cond.initialized "java/lang/System" ∈ sm_tbl) (hd : decode cc pc = .ok (.invokestatic idx, 3)) : sm_Snd l own nm cc nL z lev pc (pc + 3) (oCopy) := by
  intro p e R s m args below meth c Q b sb D cA H0 P hC Nx J hN hJ ls st w kc qc h
  obtain ⟨hx, hb, hml, hown, hts, hK, hbH, hRc, hRs, hRf, hRl, hnm, hEx, hI, hV⟩ := id hC
  dsimp only [oCopy] at h
  split at h
  · next n dp d sp a st =>
    obtain ⟨h1, h2, h3, h4, h5, h6, h7, h8, h⟩ := h
    subst h3
    subst h4
    intro H locs lsA hR hS hL ho hs
    have hnr : sm_r n := sm_ok_hd hs
    have hst := sm_ok_tl (sm_ok_tl (sm_ok_tl (sm_ok_tl (sm_ok_tl hs))))
    have ha := sm_lt hR (a := a) (by rw [h1]; decide)
    have hdl := sm_lt hR (a := d) (by rw [h2]; decide)
    have hc0 := hR.2.2.1 a _ (sm_ws_get ha)
    rw [sm_E_i h1 (by decide) (by decide)] at hc0
    have hc1 := hR.2.2.1 d _ (sm_ws_get hdl)
    rw [sm_E_i h2 (by decide) (by decide)] at hc1
    have hc0 : H[sm_ea b sb a]? = some (vp_cell (cA 0) ((wS w a).2, .inl (fun j : Nat => Int32.ofInt (wI w a j)))) := hc0
    have hc1 : H[sm_ea b sb d]? = some (vp_cell (cA 0) ((wS w d).2, .inl (fun j : Nat => Int32.ofInt (wI w d j)))) := hc1
    have hcN := i3_cN hnr
    have hn0 : ¬ Int32.ofInt n < 0 := by rw [i3_z, i3_lt hnr i3_0]; omega
    have hz0 : (Int32.ofInt 0).toNatClampNeg = 0 := rfl
    obtain ⟨-, k0, hk0, cm0, hkk0⟩ := (hK.2 0 (cA 0, .int) rfl).1 (wS w a).2 (fun j : Nat => .int (Int32.ofInt (wI w a j)))
    have hk0 : s.vm.classes[cA 0]? = some k0 := hk0
    intro T hT X
    obtain ⟨vm', X', step⟩ := X.arraycopy hx hown (hts _ hl) (hts _ h1t) (hts _ h2t) (hts _ h3t) (src := sm_ea b sb a) (dst := sm_ea b sb d) (cs := vp_cell (cA 0) ((wS w a).2, .inl (fun j : Nat => Int32.ofInt (wI w a j)))) (cd := vp_cell (cA 0) ((wS w d).2, .inl (fun j : Nat => Int32.ofInt (wI w d j)))) (srcPos := Int32.ofInt 0) (destPos := Int32.ofInt 0) (n := Int32.ofInt n) (by rw [hT]; exact hc0) (by rw [hT]; exact hc1)
      (fun _ h => by cases h) (fun _ h => by cases h) (fun h => by cases h) (fun h => by cases h) hk0 hk0 hkk0 hkk0 rfl (by decide) (by decide) hn0
      (by rw [i3_toInt hnr]; show ¬ _ > ((arrV (cA 0) (wS w a).2 (fun j : Nat => .int (Int32.ofInt (wI w a j)))).slots.size : Int); rw [arrV_size]; show ¬ (0 : Int) + n > _; omega)
      (by rw [i3_toInt hnr]; show ¬ _ > ((arrV (cA 0) (wS w d).2 (fun j : Nat => .int (Int32.ofInt (wI w d j)))).slots.size : Int); rw [arrV_size]; show ¬ (0 : Int) + n > _; omega)
      (fun vm₁ _ i hi => by
        have e : (vp_cell (cA 0) ((wS w a).2, .inl (fun j : Nat => Int32.ofInt (wI w a j)))).slots.getD ((Int32.ofInt 0).toNatClampNeg + i) .null = .int (Int32.ofInt (wI w a (((Int32.ofInt 0).toNatClampNeg + i : Nat) : Int))) := by
          show (arrV (cA 0) (wS w a).2 (fun j : Nat => .int (Int32.ofInt (wI w a j)))).slots.getD _ _ = _
          rw [Array.getD_eq_getD_getElem?, arrV_read _ _ (by rw [hz0]; rw [hcN] at hi; omega)]
          rfl
        refine ⟨?_, ?_⟩
        · rw [e]
          rfl
        · rw [e]
          exact trivial)
      (g := F0 m pc lsA ((.inl n :: .inl 0 :: .inr (.inl d) :: .inl 0 :: .inr (.inl a) :: st).map (sm_ev b sb))) rfl (by rw [hml]; exact hL.1) (rest := st.map (sm_ev b sb)) rfl (by rw [hb]; exact hd) (by omega) (by
        have h9 : ((st.map (sm_ev b sb)).map fun v => v.category).sum ≤ 8 := by rw [sm_wds_map]; exact h8
        have h10 : nativeFrameWords "java/lang/System" "arraycopy" 5 = 7 := by decide
        show 2 * 0 + _ + _ ≤ _
        rw [h10]
        omega)
    have e1 : copied (vp_cell (cA 0) ((wS w a).2, .inl (fun j : Nat => Int32.ofInt (wI w a j)))) (vp_cell (cA 0) ((wS w d).2, .inl (fun j : Nat => Int32.ofInt (wI w d j)))) (Int32.ofInt 0) (Int32.ofInt 0) (Int32.ofInt n) = vp_cell (cA 0) ((wS w d).2, .inl (fun j : Nat => Int32.ofInt (wI (wCp w a d n) d j))) := by
      have e0 : copied (vp_cell (cA 0) ((wS w a).2, .inl (fun j : Nat => Int32.ofInt (wI w a j)))) (vp_cell (cA 0) ((wS w d).2, .inl (fun j : Nat => Int32.ofInt (wI w d j)))) (Int32.ofInt 0) (Int32.ofInt 0) (Int32.ofInt n) = vp_cell (cA 0) ((wS w d).2, .inl (va_cpy (fun j : Nat => Int32.ofInt (wI w a j)) (fun j : Nat => Int32.ofInt (wI w d j)) (Int32.ofInt 0).toNatClampNeg (Int32.ofInt 0).toNatClampNeg (Int32.ofInt n).toNatClampNeg)) := va_copied (fun z => Value.int z) (cA 0) (cA 0) (n0 := (wS w a).2) (n1 := (wS w d).2) (fun j : Nat => Int32.ofInt (wI w a j)) (fun j : Nat => Int32.ofInt (wI w d j)) (by rw [hcN, hz0]; omega)
      rw [e0, hcN, hz0]
      congr 2
      refine congrArg Sum.inl (funext fun j => ?_)
      unfold va_cpy
      rw [wI_wCp]
      by_cases hj : (j : Int) < n
      · rw [if_pos ⟨by omega, by omega⟩, if_pos ⟨rfl, by omega, hj⟩]
        rw [show 0 + (j - 0) = j by omega]
      · rw [if_neg (by omega), if_neg (fun e => hj e.2.2)]
    rw [e1] at X' step
    have hl : sm_ea b sb d < H.size := (Array.getElem?_eq_some_iff.mp hc1).1
    have hheap : ((T.setVm vm').setCell (sm_ea b sb d) (vp_cell (cA 0) ((wS w d).2, .inl (fun j : Nat => Int32.ofInt (wI (wCp w a d n) d j))))).heap = H.setIfInBounds (sm_ea b sb d) (vp_cell (cA 0) ((wS w d).2, .inl (fun j : Nat => Int32.ofInt (wI (wCp w a d n) d j)))) := by rw [← hT]; rfl
    generalize hH1 : H.setIfInBounds (sm_ea b sb d) (vp_cell (cA 0) ((wS w d).2, .inl (fun j : Nat => Int32.ofInt (wI (wCp w a d n) d j)))) = H1 at hheap
    have g1 : H1[sm_ea b sb d]? = some (vp_cell (cA 0) ((wS w d).2, .inl (fun j : Nat => Int32.ofInt (wI (wCp w a d n) d j)))) := by rw [← hH1]; simp [Array.getElem?_setIfInBounds, hl]
    have g2 : H1.size = H.size := by rw [← hH1]; simp
    have g3 : ∀ q : Nat, q ≠ sm_ea b sb d → H1[q]? = H[q]? := fun q hq => by rw [← hH1]; simp [Array.getElem?_setIfInBounds, Ne.symm hq]
    have hoff : ∀ id, id ≠ d → ∀ j, wI (wCp w a d n) id j = wI w id j := fun id hne j => by rw [wI_wCp, if_neg (fun e => hne e.1)]
    have hrep : sm_Rep b sb D cA (wCp w a d n) s H1 := by
      refine sm_put hR hdl rfl (fun _ => rfl) (fun id j => by rw [wI_wCp]; split; exact hR.2.2.2.1 a j; exact hR.2.2.2.1 id j) (fun id hne => sm_E_congr rfl (hoff id hne) (fun _ => rfl)) (hoff 1000 (by have := hR.1; omega)) ?_ g2 g3
      rw [sm_E_i (w := wCp w a d n) h2 (by decide) (by decide)]
      exact g1
    obtain ⟨t, a1, b1⟩ := hN _ _ _ _ _ h H1 _ lsA hrep ⟨by rw [g2]; exact hS.1, fun q q1 q2 => by rw [g3 q (fun e => q2 (by rw [e]; exact sm_A hR hdl))]; exact hS.2.1 q q1 q2, fun q hq => by
      rcases List.mem_append.mp hq with h | h
      · exact hS.2.2 q h
      · obtain ⟨z, -, hz⟩ := List.mem_map.mp h
        rw [← hz]
        exact sm_A hR hdl⟩ hL ho hst _ hheap X'
    exact ⟨t, step t a1, b1⟩
  · exact h.elim

theorem sd_fg {i : Nat} : sm_Snd l own nm cc nL z lev pc (pc) (oFg i) := by
  intro p e R s m args below meth c Q b sb D cA H0 P hC Nx J hN hJ ls st w kc qc h
  obtain ⟨hx, hb, hml, hown, hts, hK, hbH, hRc, hRs, hRf, hRl, hnm, hEx, hI, hV⟩ := id hC
  intro H locs lsA hR hS hL ho hs
  refine hN _ _ _ _ _ h H locs lsA hR hS ⟨hL.1, by rw [List.length_set]; exact hL.2.1, hL.2.2.1, fun j v hj => ?_⟩ (sm_ok_setN ho) hs
  rw [List.getElem?_set] at hj
  by_cases e : i = j
  · subst e
    rw [if_pos rfl] at hj
    split at hj <;> cases hj
  · rw [if_neg e] at hj
    exact hL.2.2.2 j v hj

end
