/-! STEPS OF A RUN: fault -/
theorem tFl_w {b : sm_W} (h : wI b 154 26 = 1) : ∀ m : Nat, tFl m b = b
  | 0 => rfl
  | m + 1 => by rw [tFl_s, if_neg (fun q => by rw [h] at q; exact absurd q.1 (by decide))]
theorem tFl_e {b : sm_W} (h : ¬ wI b 154 25 < wI b 154 24) : ∀ m : Nat, tFl m b = b
  | 0 => rfl
  | m + 1 => by rw [tFl_s, if_neg (fun q => h q.2)]
/-- a right order doesn't end behind the text -/
theorem pOrd_len {a b : sm_W} {r : Int} (h : sy a b r) (hw : wI b 154 26 = 0) (hs : wI b 154 25 ≤ 80) (hr : r ≤ 27) (hf : wI (tOrd b) 154 26 = 0) : (kOrd a).2 = 1 ∧ sy (kOrd a).1 (tOrd b) (r + 1) ∧ wI (tOrd b) 154 25 ≤ wI (tOrd b) 154 24 ∧ wI b 154 25 + 2 ≤ wI (tOrd b) 154 25 ∧ wI (tOrd b) 174 r = kNx a ∧ wI (kOrd a).1 83 3 = kNx a ∧ nm (kOrd a).1 (tOrd b) r (jK (kNx a)) ∧ (kNx a = 115 ∨ kNx a = 108 ∨ kNx a = 116 ∨ kNx a = 114 ∨ kNx a = 112 ∨ kNx a = 120) := by
  obtain ⟨k1, k2, k3, k4⟩ := pOrd h hw hs hr
  have hto := (tOrd_st h.2.1 hs (by rw [h.2.2.2.2.2]; exact hr)).2.1 hf
  rcases k4 with ⟨q1, q2, q3, q4, q5, q6, q7⟩ | ⟨q1, q2⟩ | ⟨q1, q2, _⟩
  · refine ⟨q1, q3, ?_, hto.1, q4, q5, q6, q7⟩
    have hk0 := kO0_in h.1 (by rw [h.2.2.2.2.1]; exact hs)
    have g := (kBody_g q7 (kO0 a) hk0.2.1).2.2.2
    have e : kOrd a = kBody (kNx a) (kO0 a) := rfl
    rw [← e, hk0.2.2.1] at g
    have e0 : wI (kO0 a) 83 0 = wI a 83 0 := hk0.1.out (fun v hs => by unfold sRd at hs; omega)
    rw [e0, h.2.2.1, k3] at g
    have e24 := (tOrd_same b).2.1 24 (by decide) (by decide) (by decide)
    rw [e24]
    have := h.2.2.2.2.1
    omega
  · omega
  · omega
theorem flt : ∀ (n m : Nat) (a b : sm_W) (r : Int), sy a b r → wI b 154 26 = 0 → 3 * r ≤ wI b 154 25 → wI b 154 25 ≤ wI b 154 24 → wI b 154 24 - wI b 154 25 + 3 ≤ 3 * n → wI b 154 24 - wI b 154 25 ≤ 3 * m → (kF n a).2 = (if wI (tFl m (tOrd b)) 154 26 = 1 then wI (tFl m (tOrd b)) 154 25 else -6) := by
  intro n
  induction n with
  | zero =>
    intro m a b r h hw hr hs hn _
    exfalso
    omega
  | succ n ih =>
    intro m a b r h hw hr hs hn hm
    have hL := h.2.1.2.1
    have hs' := hs
    have hs : wI b 154 25 ≤ 80 := by omega
    have hr27 : r ≤ 27 := by omega
    obtain ⟨k1, k2, k3, k4⟩ := pOrd h hw hs hr27
    have e24 := (tOrd_same b).2.1 24 (by decide) (by decide) (by decide)
    rw [kF_s]
    rcases k4 with ⟨q1, q2, q3, _⟩ | ⟨q1, q2⟩ | ⟨q1, q2, q3, q4⟩
    · have hl := pOrd_len h hw hs hr27 q2
      rw [if_neg (by rw [q1]; decide), k3, q3.2.2.1]
      by_cases c : wI (tOrd b) 154 25 = wI (tOrd b) 154 24
      · rw [if_pos c, tFl_e (by omega), if_neg (by rw [q2]; decide)]
      · rw [if_neg c]
        have hlt : wI (tOrd b) 154 25 < wI (tOrd b) 154 24 := by omega
        obtain ⟨m, rfl⟩ : ∃ j, m = j + 1 := ⟨m - 1, by omega⟩
        have eF : tFl (m + 1) (tOrd b) = (if wI (tSign (tOrd b) 59) 154 26 = 0 then tFl m (tOrd (tSign (tOrd b) 59)) else tFl m (tSign (tOrd b) 59)) := by rw [tFl_s, if_pos (show _ ∧ _ from ⟨q2, hlt⟩)]
        rw [eF]
        have g := pS (s := 59) (J := fun _ => False) (by decide) q3 q2 (fun j hj => absurd hj id)
        have st := tSign_st k2 (s := 59) (by decide)
        rcases g.2 with ⟨f1, f2, _⟩ | ⟨f1, f2⟩
        · rw [if_neg (by rw [f1]; decide), if_pos f2]
          have hcc : tNext (tOrd b) = 59 := by
            apply Classical.byContradiction
            intro z
            have e2 : tSign (tOrd b) 59 = tW (tOrd b) 1 (wI (tOrd b) 154 25) := by unfold tSign; rw [if_neg (fun y => z y.2)]
            rw [e2] at f2
            unfold tW at f2
            rw [wI_wsI, if_neg (by omega), wI_wsI, if_pos ⟨rfl, rfl⟩] at f2
            exact absurd f2 (by decide)
          have e2 : tSign (tOrd b) 59 = tW (tOrd b) 0 (wI (tOrd b) 154 25 + 1) := by unfold tSign; rw [if_pos ⟨q2, hcc⟩]
          have e25 : wI (tSign (tOrd b) 59) 154 25 = wI (tOrd b) 154 25 + 1 := by rw [e2]; unfold tW; rw [wI_wsI, if_pos ⟨rfl, rfl⟩]
          have e24' : wI (tSign (tOrd b) 59) 154 24 = wI b 154 24 := by rw [(tSign_same (tOrd b) 59).2.1 24 (by decide) (by decide) (by decide), e24]
          have hb := h.2.1.2.1
          exact ih m _ _ (r + 1) g.1 f2 (by rw [e25]; omega) (by rw [e25, e24']; omega) (by rw [e25, e24']; omega) (by rw [e25, e24']; omega)
        · rw [if_pos f1, if_neg (show ¬ wI (tSign (tOrd b) 59) 154 26 = 0 by rw [f2]; decide), tFl_w f2, if_pos f2]
          exact g.1.2.2.2.2.1
    · rw [if_pos q1, tFl_w q2, if_pos q2]
      exact k3
    · rw [if_neg (by rw [q1]; decide)]
      have hkb := kNx_b k1
      have hlt := hkb.2.2 (by omega)
      rw [if_neg (by omega)]
      have e1 : kS 59 (kOrd a).1 = ((kOrd a).1, 0) := by unfold kS; rw [if_neg (by omega)]
      rw [e1, if_pos rfl, tFl_w q2, if_pos q2]
      exact k3
theorem sy_0 {a b : sm_W} (h : Rel a b) : sy (kF0 a) (tF0 b) 0 := by
  have hk := h.1.2.2
  have ht := h.2.1.2.2.2.1
  have e24 : wI (tF0 b) 154 24 = wI b 154 24 := by unfold tF0; simp only [wI_wsI]; simp
  have e25 : wI (tF0 b) 154 25 = 0 := by unfold tF0; simp only [wI_wsI]; simp
  have e27 : wI (tF0 b) 154 27 = 0 := by unfold tF0; simp only [wI_wsI]; simp
  have e173 : wI (tF0 b) 173 = wI b 173 := by unfold tF0; rw [wIf_ne (by omega), wIf_ne (by omega), wIf_ne (by omega)]
  have a0 : wI (kF0 a) 83 0 = wI a 83 0 := by unfold kF0; rw [wI_wsI, if_neg (by omega)]
  have a2 : wI (kF0 a) 83 2 = 0 := by unfold kF0; rw [wI_wsI, if_pos ⟨rfl, rfl⟩]
  have a84 : wI (kF0 a) 84 = wI a 84 := by unfold kF0; exact wIf_ne (by omega)
  refine ⟨hk, ht, by rw [a0, e24]; exact h.2.2.2.2.2.1, by rw [e24, a84, e173]; exact h.2.2.2.2.2.2, by rw [a2, e25], e27⟩
theorem st_flt {a b : sm_W} (h : Rel a b) : (kF 80 (kF0 a)).2 = (if wI (tFault b) 154 26 = 1 then wI (tFault b) 154 25 else -6) := by
  have e24 : wI (tF0 b) 154 24 = wI b 154 24 := by unfold tF0; simp only [wI_wsI]; simp
  have e25 : wI (tF0 b) 154 25 = 0 := by unfold tF0; simp only [wI_wsI]; simp
  have e26 : wI (tF0 b) 154 26 = 0 := by unfold tF0; simp only [wI_wsI]; simp
  have t := (tOK_F0.mp h.2.1.2.2.2.1).2.1
  exact flt 80 90 _ _ 0 (sy_0 h) e26 (by omega) (by omega) (by omega) (by omega)
theorem kF_ag {a b : sm_W} (h : Rel a b) : cAg a (kF 80 (kF0 a)).1 := by
  have a2 : wI (kF0 a) 83 2 = 0 := by unfold kF0; rw [wI_wsI, if_pos ⟨rfl, rfl⟩]
  have g := kF_in 80 (kF0 a) h.1.2.2 (by omega)
  have h1 : cAg a (kF0 a) := cAg_st (Rel_rf h) (by omega)
  exact h1.tr (cAg_fr g.1 h.1.2.2.1 (fun x i v hs => by unfold sRd at hs; omega))
theorem tF0_same (b : sm_W) : tSame b (tF0 b) := ((tSame_154 b (Or.inl rfl)).tr (tSame_154 _ (Or.inr (Or.inl rfl)))).tr (tSame_154 _ (Or.inr (Or.inr rfl)))
theorem tFault_kp {a b : sm_W} (h : Rel a b) : rKp b (tFault b) := by
  have t := tFault_st h.2.1.2.2.2.1
  exact rKp_t h.2.1 t.1.1 (fun x h1 h2 h3 => t.2.1.1 x h1 h2 h3) (fun k h1 h2 h3 => t.2.1.2.1 k h1 h2 h3)
theorem st_fault {a b : sm_W} (h : Rel a b) : (kF 80 (kF0 a)).2 = (if wI (tFault b) 154 26 = 1 then wI (tFault b) 154 25 else -6) ∧ Rel (kF 80 (kF0 a)).1 (tFault b) := ⟨st_flt h, Rel_of h (kF_ag h) (tFault_kp h)⟩
