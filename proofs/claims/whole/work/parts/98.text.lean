/-! STEPS OF A RUN: both read a text alike -/
/-- class and reference are at the same character; r orders are read -/
def sy (a b : sm_W) (r : Int) : Prop := kOK a ∧ tOK b ∧ wI a 83 0 = wI b 154 24 ∧ (∀ i, 0 ≤ i → i < wI b 154 24 → wI a 84 i = wI b 173 i) ∧ wI a 83 2 = wI b 154 25 ∧ wI b 154 27 = r
theorem sy_nx {a b : sm_W} {r : Int} (h : sy a b r) : kNx a = tNext b := by
  obtain ⟨h1, h2, h3, h4, h5, h6⟩ := h
  unfold kNx tNext
  rw [h3, h5]
  split
  · next c => exact h4 _ h2.2.2.1.1 c
  · rfl
def nm (a b : sm_W) (r : Int) (J : Int → Prop) : Prop := ∀ j, J j → 0 ≤ j → j < 5 → wI a 85 j = wI b 175 (5 * r + j)
def o2 (p : sm_W × Int) (b : sm_W) (r : Int) (J : Int → Prop) : Prop := sy p.1 b r ∧ ((p.2 = 1 ∧ wI b 154 26 = 0 ∧ nm p.1 b r J) ∨ (p.2 = 0 ∧ wI b 154 26 = 1))
def o3 (p : sm_W × Int) (b : sm_W) (r : Int) (J : Int → Prop) : Prop := sy p.1 b r ∧ ((p.2 = 1 ∧ wI b 154 26 = 0 ∧ nm p.1 b r J) ∨ (p.2 = 0 ∧ wI b 154 26 = 1) ∨ (p.2 = 1 ∧ wI b 154 26 = 1 ∧ 48 ≤ kNx p.1 ∧ kNx p.1 ≤ 57))
theorem o2.o3 {p : sm_W × Int} {b : sm_W} {r : Int} {J : Int → Prop} (h : o2 p b r J) : o3 p b r J := ⟨h.1, h.2.imp id Or.inl⟩
/-- a step of the reference that does nothing once something is wrong -/
def wrT (T : sm_W → sm_W) : Prop := ∀ b, tOK b → wI b 154 26 = 1 → tSame b (T b) ∧ tOK (T b) ∧ wI (T b) 154 26 = 1 ∧ wI (T b) 154 25 = wI b 154 25 ∧ wI (T b) 154 27 = wI b 154 27
theorem sy_of {a b u z : sm_W} {r : Int} (h : sy a b r) (ha : sFr sRd a u) (hk : kOK u) (hb : tSame b z) (ht : tOK z) (h2 : wI u 83 2 = wI z 154 25) (h27 : wI z 154 27 = wI b 154 27) : sy u z r := by
  obtain ⟨h1, h2', h3, h4, h5, h6⟩ := h
  have e24 := hb.2.1 24 (by decide) (by decide) (by decide)
  refine ⟨hk, ht, ?_, ?_, h2, h27.trans h6⟩
  · rw [ha.out (a := 83) (i := 0) (fun v hs => by unfold sRd at hs; omega), e24, h3]
  · rw [e24, ha.outA (a := 84) (fun i v hs => by unfold sRd at hs; omega), hb.1 173 (by decide) (by decide) (by decide)]
    exact h4
theorem sy_wr {a b : sm_W} {r : Int} {T : sm_W → sm_W} (h : sy a b r) (hT : wrT T) (hw : wI b 154 26 = 1) : sy a (T b) r ∧ wI (T b) 154 26 = 1 := by
  obtain ⟨g1, g2, g3, g4, g5⟩ := hT b h.2.1 hw
  exact ⟨sy_of h (sFr.refl a) h.1 g1 g2 (by rw [g4]; exact h.2.2.2.2.1) g5, g3⟩
theorem wr_S {s : Int} (hs : 0 < s) : wrT (fun b => tSign b s) := fun b h hw => ⟨tSign_same b s, (tSign_st h hs).1, (tSign_w hw).1, (tSign_w hw).2, (tSign_st h hs).2.2⟩
theorem wr_O (n hi : Int) : wrT (fun b => tOne b n hi) := fun b h hw => ⟨tOne_same b n hi, (tOne_st h n hi).1, (tOne_w hw).1, (tOne_w hw).2, (tOne_st h n hi).2.2.1⟩
theorem wr_N (n : Int) : wrT (fun b => tNum b n) := fun b h hw => ⟨tNum_same b n, (tNum_st h n).1, (tNum_w hw).1, (tNum_w hw).2, (tNum_st h n).2.2⟩
theorem tW175 (b : sm_W) (x y : Int) : wI (tW b x y) 175 = wI b 175 := by
  unfold tW
  rw [wIf_ne (by decide), wIf_ne (by decide)]
theorem pS {a b : sm_W} {r s : Int} {J : Int → Prop} (hs : 0 < s) (h : sy a b r) (hw : wI b 154 26 = 0) (hn : nm a b r J) : o2 (kS s a) (tSign b s) r J := by
  have nx := sy_nx h
  have st := tSign_st h.2.1 hs
  have kk := kG_S hs
  have ko := kk.ok h.1
  have hf := (kk a h.1).1
  have hsame := tSign_same b s
  unfold o2
  by_cases c : kNx a = s
  · have e1 : kS s a = (wsI a 83 2 (wI a 83 2 + 1), 1) := by unfold kS; rw [if_pos c]
    have e2 : tSign b s = tW b 0 (wI b 154 25 + 1) := by unfold tSign; rw [if_pos ⟨hw, by rw [← nx]; exact c⟩]
    rw [e1] at ko hf ⊢
    rw [e2] at st hsame ⊢
    refine ⟨sy_of h hf ko hsame st.1 ?_ st.2.2, Or.inl ⟨rfl, ?_, fun j hj j0 j1 => ?_⟩⟩
    · unfold tW
      rw [wI_wsI, if_pos ⟨rfl, rfl⟩, wI_wsI, if_pos ⟨rfl, rfl⟩, h.2.2.2.2.1]
    · unfold tW
      rw [wI_wsI, if_neg (by omega), wI_wsI, if_pos ⟨rfl, rfl⟩]
    · rw [tW175, wIf_ne (by decide)]
      exact hn j hj j0 j1
  · have e1 : kS s a = (a, 0) := by unfold kS; rw [if_neg c]
    have e2 : tSign b s = tW b 1 (wI b 154 25) := by unfold tSign; rw [if_neg (fun q => c (by rw [nx]; exact q.2))]
    rw [e1]
    rw [e2] at st hsame ⊢
    refine ⟨sy_of h (sFr.refl a) h.1 hsame st.1 ?_ st.2.2, Or.inr ⟨rfl, ?_⟩⟩
    · unfold tW
      rw [wI_wsI, if_pos ⟨rfl, rfl⟩]
      exact h.2.2.2.2.1
    · unfold tW
      rw [wI_wsI, if_neg (by omega), wI_wsI, if_pos ⟨rfl, rfl⟩]
theorem k85 (a : sm_W) (p v q j : Int) : wI (wsI (wsI a 85 p v) 83 2 q) 85 j = if j = p then v else wI a 85 j := by
  rw [wIf_ne (by decide), wI_wsI]
  by_cases e : j = p
  · rw [if_pos ⟨rfl, e⟩, if_pos e]
  · rw [if_neg (fun q => e q.2), if_neg e]
theorem t175 (b : sm_W) (i v x y j : Int) : wI (wsI (wsI (wsI b 154 26 x) 175 i v) 154 25 y) 175 j = if j = i then v else wI b 175 j := by
  rw [wIf_ne (by decide), wI_wsI, wIf_ne (by decide)]
  by_cases e : j = i
  · rw [if_pos ⟨rfl, e⟩, if_pos e]
  · rw [if_neg (fun q => e q.2), if_neg e]
theorem pD {a b : sm_W} {r p l hi : Int} {J : Int → Prop} (hl : hi = 47 + l) (p0 : 0 ≤ p) (p1 : p < 5) (h : sy a b r) (hw : wI b 154 26 = 0) (hn : nm a b r J) : o2 (kD p l a) (tOne b p hi) r (fun j => J j ∨ j = p) := by
  have nx := sy_nx h
  have st := tOne_st h.2.1 p hi
  have kk := kG_D p l
  have ko := kk.ok h.1
  have hf := (kk a h.1).1
  have hsame := tOne_same b p hi
  unfold o2
  by_cases c : 48 ≤ kNx a ∧ kNx a ≤ hi
  · have e1 : kD p l a = (wsI (wsI a 85 p (kNx a - 48)) 83 2 (wI a 83 2 + 1), 1) := by unfold kD; rw [if_neg (by omega), if_neg (by omega)]
    have e2 : tOne b p hi = wsI (wsI (wsI b 154 26 0) 175 (5 * wI b 154 27 + p) (tNext b - 48)) 154 25 (wI b 154 25 + 1) := by unfold tOne; rw [if_pos ⟨hw, by rw [← nx]; exact c.1, by rw [← nx]; exact c.2⟩]
    rw [e1] at ko hf ⊢
    rw [e2] at st hsame ⊢
    refine ⟨sy_of h hf ko hsame st.1 ?_ st.2.2.1, Or.inl ⟨rfl, ?_, fun j hj j0 j1 => ?_⟩⟩
    · rw [wI_wsI, if_pos ⟨rfl, rfl⟩, wI_wsI, if_pos ⟨rfl, rfl⟩, h.2.2.2.2.1]
    · rw [wI_wsI, if_neg (by omega), wIf_ne (by decide), wI_wsI, if_pos ⟨rfl, rfl⟩]
    · rw [k85, t175, h.2.2.2.2.2, nx]
      by_cases e : j = p
      · rw [if_pos e, if_pos (by omega)]
      · rw [if_neg e, if_neg (by omega)]
        exact hn j (by rcases hj with hj | hj; exact hj; exact absurd hj e) j0 j1
  · have e1 : kD p l a = (a, 0) := by
      unfold kD
      by_cases q : kNx a - 48 < 0
      · rw [if_pos q]
      · rw [if_neg q, if_pos (by omega)]
    have e2 : tOne b p hi = wsI b 154 26 1 := by unfold tOne; rw [if_neg (fun q => c (by rw [nx]; exact q.2))]
    rw [e1]
    rw [e2] at st hsame ⊢
    refine ⟨sy_of h (sFr.refl a) h.1 hsame st.1 ?_ st.2.2.1, Or.inr ⟨rfl, ?_⟩⟩
    · rw [wI_wsI, if_neg (by omega)]
      exact h.2.2.2.2.1
    · rw [wI_wsI, if_pos ⟨rfl, rfl⟩]
/-- the number's end is written -/
theorem pEnd {a b : sm_W} {r p v : Int} {J : Int → Prop} (p0 : 0 ≤ p) (p1 : p < 5) (h : sy a b r) (hn : nm a b r J) : sy (wsI a 85 p v) (wsI b 175 (5 * wI b 154 27 + p) v) r ∧ nm (wsI a 85 p v) (wsI b 175 (5 * wI b 154 27 + p) v) r (fun j => J j ∨ j = p) := by
  obtain ⟨h1, h2, h3, h4, h5, h6⟩ := h
  refine ⟨⟨?_, tOK_175 h2, h3, h4, h5, h6⟩, fun j hj j0 j1 => ?_⟩
  · exact kOK_fr h1 ((sFr.refl a).st (Or.inr rfl)) (by rw [wI_wsI, if_neg (by omega)]; exact h1.2.2.1)
  · rw [wI_wsI, wI_wsI, h6]
    by_cases e : j = p
    · rw [if_pos ⟨rfl, e⟩, if_pos ⟨rfl, by omega⟩]
    · rw [if_neg (fun q => e q.2), if_neg (fun q => e (by omega))]
      exact hn j (by rcases hj with hj | hj; exact hj; exact absurd hj e) j0 j1
/-- no more digits, or a zero -/
theorem pNL {r p : Int} (p0 : 0 ≤ p) (p1 : p < 5) : ∀ (n m : Nat) (a b : sm_W) (v : Int) (J : Int → Prop), n + 2 ≤ m → sy a b r → wI b 154 26 = 0 → nm a b r J → 0 ≤ v → (n = 2 → v ≤ 9) → (n = 1 → v ≤ 99) → (n = 0 → 100 ≤ v) → (n = 1 → 10 ≤ v) → n ≤ 2 → o3 (kNL p n a v, 1) (tNumL m b p v) r (fun j => J j ∨ j = p) := by
  intro n
  induction n with
  | zero =>
    intro m a b v J hm h hw hn v0 _ _ h100 _ _
    obtain ⟨m, rfl⟩ : ∃ k, m = k + 1 := ⟨m - 1, by omega⟩
    have e1 : kNL p 0 a v = wsI a 85 p v := rfl
    have nx := sy_nx h
    have hv := h100 rfl
    rw [e1, tNumL_s]
    by_cases c : 48 ≤ tNext b ∧ tNext b ≤ 57
    · rw [if_pos ⟨hw, by omega, c.1, c.2⟩, if_pos (by omega)]
      obtain ⟨m, rfl⟩ : ∃ k, m = k + 1 := ⟨m - 1, by omega⟩
      have e26 : wI (tW b 1 (wI b 154 25)) 154 26 = 1 := by unfold tW; rw [wI_wsI, if_neg (by omega), wI_wsI, if_pos ⟨rfl, rfl⟩]
      rw [tNumL_s, if_neg (fun q => by rw [e26] at q; exact absurd q.1 (by decide))]
      have hs : sy a (tW b 1 (wI b 154 25)) r := by
        obtain ⟨h1, h2, h3, h4, h5, h6⟩ := h
        exact ⟨h1, tOK_25 (tOK_26 h2 (Or.inr rfl)) h2.2.2.1, h3, h4, h5, h6⟩
      have := pEnd (v := v) p0 p1 hs (fun j hj j0 j1 => hn j hj j0 j1)
      refine ⟨this.1, Or.inr (Or.inr ⟨rfl, ?_, ?_, ?_⟩)⟩
      · rw [wIf_ne (by decide)]; exact e26
      · show 48 ≤ kNx (wsI a 85 p v)
        rw [kNx_85, nx]; exact c.1
      · show kNx (wsI a 85 p v) ≤ 57
        rw [kNx_85, nx]; exact c.2
    · rw [if_neg (fun q => c q.2.2)]
      have := pEnd (v := v) p0 p1 h hn
      exact ⟨this.1, Or.inl ⟨rfl, by rw [wIf_ne (by decide)]; exact hw, this.2⟩⟩
  | succ n ih =>
    intro m a b v J hm h hw hn v0 v2 v1 _ h10 hn2
    obtain ⟨m, rfl⟩ : ∃ k, m = k + 1 := ⟨m - 1, by omega⟩
    have nx := sy_nx h
    rw [kNL_s, tNumL_s]
    by_cases c0 : v ≤ 0
    · rw [if_pos c0, if_neg (fun q => by omega)]
      have := pEnd (v := v) p0 p1 h hn
      exact ⟨this.1, Or.inl ⟨rfl, by rw [wIf_ne (by decide)]; exact hw, this.2⟩⟩
    · rw [if_neg c0]
      by_cases c : 48 ≤ tNext b ∧ tNext b ≤ 57
      · have hv99 : v ≤ 99 := by
          rcases (show n = 0 ∨ n = 1 by omega) with q | q
          · exact v1 (by omega)
          · have := v2 (by omega); omega
        have e1 : kD p 10 a = (wsI (wsI a 85 p (kNx a - 48)) 83 2 (wI a 83 2 + 1), 1) := by unfold kD; rw [if_neg (by omega), if_neg (by omega)]
        rw [e1, if_neg (by show ¬ (1 : Int) = 0; decide), if_pos ⟨hw, by omega, c.1, c.2⟩, if_neg (by omega), nx, show 10 * v + tNext b - 48 = 10 * v + (tNext b - 48) by omega]
        have kk := kG_D p 10
        have ko := kk.ok h.1
        have hf := (kk a h.1).1
        rw [e1, nx] at ko hf
        have hs : sy (wsI (wsI a 85 p (tNext b - 48)) 83 2 (wI a 83 2 + 1)) (tW b 0 (wI b 154 25 + 1)) r := by
          refine sy_of h hf ko (tW_same b 0 _) (tOK_25 (tOK_26 h.2.1 (Or.inl rfl)) ?_) ?_ rfl
          · have := tNext_b h.2.1
            have q := h.2.1.2.1
            have q2 := h.2.1.2.2.1
            have := this.2.2 (by omega)
            omega
          · unfold tW
            rw [wI_wsI, if_pos ⟨rfl, rfl⟩, wI_wsI, if_pos ⟨rfl, rfl⟩, h.2.2.2.2.1]
        have e26 : wI (tW b 0 (wI b 154 25 + 1)) 154 26 = 0 := by unfold tW; rw [wI_wsI, if_neg (by omega), wI_wsI, if_pos ⟨rfl, rfl⟩]
        have i := ih m _ _ (10 * v + (tNext b - 48)) (fun j => J j ∧ j ≠ p) (by omega) hs e26 (fun j hj j0 j1 => by
          rw [k85, tW175, if_neg hj.2]
          exact hn j hj.1 j0 j1) (by omega) (fun q => by omega) (fun q => by have := v2 (by omega); omega) (fun q => by have := h10 (by omega); omega) (fun q => by omega) (by omega)
        refine ⟨i.1, i.2.imp (fun k => ⟨k.1, k.2.1, fun j hj j0 j1 => k.2.2 j ?_ j0 j1⟩) id⟩
        by_cases e : j = p
        · exact Or.inr e
        · exact Or.inl ⟨by rcases hj with hj | hj; exact hj; exact absurd hj e, e⟩
      · have e1 : kD p 10 a = (a, 0) := by
          unfold kD
          by_cases q : kNx a - 48 < 0
          · rw [if_pos q]
          · rw [if_neg q, if_pos (by omega)]
        rw [e1, if_pos rfl, if_neg (fun q => c q.2.2)]
        have := pEnd (v := v) p0 p1 h hn
        exact ⟨this.1, Or.inl ⟨rfl, by rw [wIf_ne (by decide)]; exact hw, this.2⟩⟩
theorem pN {a b : sm_W} {r p : Int} {J : Int → Prop} (p0 : 0 ≤ p) (p1 : p < 5) (h : sy a b r) (hw : wI b 154 26 = 0) (hn : nm a b r J) : o3 (kN p a) (tNum b p) r (fun j => J j ∨ j = p) := by
  have nx := sy_nx h
  unfold kN tNum
  by_cases c : 48 ≤ tNext b ∧ tNext b ≤ 57
  · have e1 : kD p 10 a = (wsI (wsI a 85 p (kNx a - 48)) 83 2 (wI a 83 2 + 1), 1) := by unfold kD; rw [if_neg (by omega), if_neg (by omega)]
    rw [e1, if_neg (by show ¬ (1 : Int) = 0; decide), if_pos ⟨hw, c.1, c.2⟩, nx]
    have kk := kG_D p 10
    have ko := kk.ok h.1
    have hf := (kk a h.1).1
    rw [e1, nx] at ko hf
    have hs : sy (wsI (wsI a 85 p (tNext b - 48)) 83 2 (wI a 83 2 + 1)) (tW b 0 (wI b 154 25 + 1)) r := by
      refine sy_of h hf ko (tW_same b 0 _) (tOK_25 (tOK_26 h.2.1 (Or.inl rfl)) ?_) ?_ rfl
      · have := tNext_b h.2.1
        have q := h.2.1.2.1
        have q2 := h.2.1.2.2.1
        have := this.2.2 (by omega)
        omega
      · unfold tW
        rw [wI_wsI, if_pos ⟨rfl, rfl⟩, wI_wsI, if_pos ⟨rfl, rfl⟩, h.2.2.2.2.1]
    have e26 : wI (tW b 0 (wI b 154 25 + 1)) 154 26 = 0 := by unfold tW; rw [wI_wsI, if_neg (by omega), wI_wsI, if_pos ⟨rfl, rfl⟩]
    have i := pNL p0 p1 2 5 _ _ (tNext b - 48) (fun j => J j ∧ j ≠ p) (by omega) hs e26 (fun j hj j0 j1 => by
      rw [k85, tW175, if_neg hj.2]
      exact hn j hj.1 j0 j1) (by omega) (fun q => by omega) (fun q => by omega) (fun q => by omega) (fun q => by omega) (by omega)
    refine ⟨i.1, i.2.imp (fun k => ⟨k.1, k.2.1, fun j hj j0 j1 => k.2.2 j ?_ j0 j1⟩) id⟩
    by_cases e : j = p
    · exact Or.inr e
    · exact Or.inl ⟨by rcases hj with hj | hj; exact hj; exact absurd hj e, e⟩
  · have e1 : kD p 10 a = (a, 0) := by
      unfold kD
      by_cases q : kNx a - 48 < 0
      · rw [if_pos q]
      · rw [if_neg q, if_pos (by omega)]
    rw [e1, if_pos rfl, if_neg (fun q => c q.2)]
    refine ⟨⟨h.1, tOK_26 h.2.1 (Or.inr rfl), h.2.2.1, h.2.2.2.1, h.2.2.2.2.1, h.2.2.2.2.2⟩, Or.inr (Or.inl ⟨rfl, ?_⟩)⟩
    rw [wI_wsI, if_pos ⟨rfl, rfl⟩]
/-- one thing after another -/
theorem pA {f g : kR} {a b : sm_W} {r : Int} {J K : Int → Prop} {T : sm_W → sm_W} (hf : o2 (f a) b r J) (hT : wrT T) (hg : ∀ a', sy a' b r → wI b 154 26 = 0 → nm a' b r J → o3 (g a') (T b) r K) : o3 (kA f g a) (T b) r K := by
  obtain ⟨h1, h2⟩ := hf
  rcases h2 with ⟨k1, k2, k3⟩ | ⟨k1, k2⟩
  · have e : kA f g a = g (f a).1 := by unfold kA; rw [if_neg (by rw [k1]; decide)]
    rw [e]
    exact hg _ h1 k2 k3
  · have e : kA f g a = ((f a).1, 0) := by unfold kA; rw [if_pos k1]
    rw [e]
    have := sy_wr h1 hT k2
    exact ⟨this.1, Or.inr (Or.inl ⟨rfl, this.2⟩)⟩
