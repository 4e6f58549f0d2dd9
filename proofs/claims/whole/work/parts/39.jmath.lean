/-! MATH'S METHODS AS STEPS -/
def oMax : sm_O := fun P Nx _ ls st w k q => match st with
  | .inl y :: .inl x :: st => sm_wds st ≤ 8 ∧ k ≤ P.2.1 ∧ q ≤ P.2.2 ∧ Nx ls (.inl (if x < y then y else x) :: st) w k q
  | _ => False
def oMin : sm_O := fun P Nx _ ls st w k q => match st with
  | .inl y :: .inl x :: st => sm_wds st ≤ 8 ∧ k ≤ P.2.1 ∧ q ≤ P.2.2 ∧ Nx ls (.inl (if y < x then y else x) :: st) w k q
  | _ => False
def oAbs : sm_O := fun P Nx _ ls st w k q => match st with
  | .inl x :: st => -1000000 ≤ x ∧ sm_wds st ≤ 8 ∧ k ≤ P.2.1 ∧ q ≤ P.2.2 ∧ Nx ls (.inl (if 0 ≤ x then x else 0 - x) :: st) w k q
  | _ => False
section
variable {l : Launch} {own nm : String} {cc : ByteArray} {nL : Nat} {z : Nat} {lev : Nat} {pc : Nat}
theorem sd_max {idx : Nat} (hlv : 1 ≤ lev) (hl : Cond.methodLink own idx yJ9_max_7cf53 ∈ sm_tbl) (h1t : Cond.static yJ9_max_7cf53 ∈ sm_tbl) (h2t : Cond.initialized RJ9 ∈ sm_tbl) (h3t : Cond.code yJ9_max_7cf53 cJ9_max_7cf53 2 (some .int) ∈ sm_tbl) (hd : decode cc pc = .ok (.invokestatic idx, 3)) : sm_Snd l own nm cc nL z lev pc (pc + 3) oMax := by
  intro p e R s m args below meth c Q b sb D cA H0 P hC Nx J hN hJ ls st w kc qc h
  obtain ⟨hx, hb, hml, hown, hts, hK, hbH, hRc, hRs, hRf, hRl, hnm, hEx, hI, hV⟩ := id hC
  dsimp only [oMax] at h
  split at h
  · next y x st =>
    obtain ⟨h1, hk, hq, h⟩ := h
    intro H locs lsA hR hS hL ho hs
    have hy : sm_r y := sm_ok_hd hs
    have hxx : sm_r x := sm_ok_hd (sm_ok_tl hs)
    have hm : sm_r (if x < y then y else x) := by split <;> assumption
    have k := hN _ _ _ _ _ h H locs lsA hR hS hL ho (sm_ok_cons hm (sm_ok_tl (sm_ok_tl hs)))
    refine va_mmax hx hb (hml.trans hL.1.symm) hown (hts _ hl) (hts _ h1t) (hts _ h2t) (hts _ h3t) (by omega) (by rw [sm_wds_map]; omega) (by omega) (by omega) hd ?_
    have e : (if Int32.ofInt x < Int32.ofInt y then Int32.ofInt y else Int32.ofInt x) = Int32.ofInt (if x < y then y else x) := by
      by_cases c : x < y
      · rw [if_pos c, if_pos ((i3_lt hxx hy).mpr c)]
      · rw [if_neg c, if_neg (fun h => c ((i3_lt hxx hy).mp h))]
    rw [e]
    exact k
  · exact h.elim
theorem sd_min {idx : Nat} (hlv : 1 ≤ lev) (hl : Cond.methodLink own idx yJ9_min_7cf53 ∈ sm_tbl) (h1t : Cond.static yJ9_min_7cf53 ∈ sm_tbl) (h2t : Cond.initialized RJ9 ∈ sm_tbl) (h3t : Cond.code yJ9_min_7cf53 cJ9_min_7cf53 2 (some .int) ∈ sm_tbl) (hd : decode cc pc = .ok (.invokestatic idx, 3)) : sm_Snd l own nm cc nL z lev pc (pc + 3) oMin := by
  intro p e R s m args below meth c Q b sb D cA H0 P hC Nx J hN hJ ls st w kc qc h
  obtain ⟨hx, hb, hml, hown, hts, hK, hbH, hRc, hRs, hRf, hRl, hnm, hEx, hI, hV⟩ := id hC
  dsimp only [oMin] at h
  split at h
  · next y x st =>
    obtain ⟨h1, hk, hq, h⟩ := h
    intro H locs lsA hR hS hL ho hs
    have hy : sm_r y := sm_ok_hd hs
    have hxx : sm_r x := sm_ok_hd (sm_ok_tl hs)
    have hm : sm_r (if y < x then y else x) := by split <;> assumption
    have k := hN _ _ _ _ _ h H locs lsA hR hS hL ho (sm_ok_cons hm (sm_ok_tl (sm_ok_tl hs)))
    refine va_mmin hx hb (hml.trans hL.1.symm) hown (hts _ hl) (hts _ h1t) (hts _ h2t) (hts _ h3t) (by omega) (by rw [sm_wds_map]; omega) (by omega) (by omega) hd ?_
    have e : (if Int32.ofInt y < Int32.ofInt x then Int32.ofInt y else Int32.ofInt x) = Int32.ofInt (if y < x then y else x) := by
      by_cases c : y < x
      · rw [if_pos c, if_pos ((i3_lt hy hxx).mpr c)]
      · rw [if_neg c, if_neg (fun h => c ((i3_lt hy hxx).mp h))]
    rw [e]
    exact k
  · exact h.elim
theorem sd_abs {idx : Nat} (hlv : 1 ≤ lev) (hl : Cond.methodLink own idx yJ9_abs_0f7a4 ∈ sm_tbl) (h1t : Cond.static yJ9_abs_0f7a4 ∈ sm_tbl) (h2t : Cond.initialized RJ9 ∈ sm_tbl) (h3t : Cond.code yJ9_abs_0f7a4 cJ9_abs_0f7a4 1 (some .int) ∈ sm_tbl) (hd : decode cc pc = .ok (.invokestatic idx, 3)) : sm_Snd l own nm cc nL z lev pc (pc + 3) oAbs := by
  intro p e R s m args below meth c Q b sb D cA H0 P hC Nx J hN hJ ls st w kc qc h
  obtain ⟨hx, hb, hml, hown, hts, hK, hbH, hRc, hRs, hRf, hRl, hnm, hEx, hI, hV⟩ := id hC
  dsimp only [oAbs] at h
  split at h
  · next x st =>
    obtain ⟨h0, h1, hk, hq, h⟩ := h
    intro H locs lsA hR hS hL ho hs
    have hxx : sm_r x := sm_ok_hd hs
    have hm : sm_r (if 0 ≤ x then x else 0 - x) := by
      split
      · exact hxx
      · exact ⟨by omega, by omega⟩
    have k := hN _ _ _ _ _ h H locs lsA hR hS hL ho (sm_ok_cons hm (sm_ok_tl hs))
    refine va_mabs hx hb (hml.trans hL.1.symm) hown (hts _ hl) (hts _ h1t) (hts _ h2t) (hts _ h3t) (by omega) (by rw [sm_wds_map]; omega) (by omega) (by omega) hd ?_
    have e : (if 0 ≤ Int32.ofInt x then Int32.ofInt x else 0 - Int32.ofInt x) = Int32.ofInt (if 0 ≤ x then x else 0 - x) := by
      by_cases c : 0 ≤ x
      · rw [if_pos c, if_pos (by rw [i3_z]; exact (i3_le i3_0 hxx).mpr c)]
      · rw [if_neg c, if_neg (by rw [i3_z]; exact fun h => c ((i3_le i3_0 hxx).mp h)), i3_z, i3_sub]
    rw [e]
    exact k
  · exact h.elim
end
