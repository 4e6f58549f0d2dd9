/-! STEPS OF A RUN: an order of a text -/
/-- optional parts, for a state in which something may be wrong already -/
theorem pO43 {a b : sm_W} {r : Int} {J : Int → Prop} (hJ : ∀ j, J j → j ≠ 3 ∧ j ≠ 4) (h85 : wI a 85 3 = 0 ∧ wI a 85 4 = 0) (h : sy a b r) (hs : (wI b 154 26 = 0 ∧ nm a b r J) ∨ (wI b 154 26 = 1 ∧ 48 ≤ kNx a ∧ kNx a ≤ 57)) : o3 (kO (kS 43) (kN 3) a) (tShP b) r (fun j => J j ∨ j = 3 ∨ j = 4) := by
  have nx := sy_nx h
  have h7 : sy a (tSh7 b) r := ⟨h.1, tOK_175 (tOK_175 h.2.1), h.2.2.1, h.2.2.2.1, h.2.2.2.2.1, h.2.2.2.2.2⟩
  have n7 : nm a b r J → nm a (tSh7 b) r (fun j => J j ∨ j = 3 ∨ j = 4) := fun hn j hj j0 j1 => by
    unfold tSh7
    rw [wI_wsI, wI_wsI, h.2.2.2.2.2]
    by_cases e4 : j = 4
    · rw [if_pos ⟨rfl, by omega⟩, e4]; exact h85.2
    · rw [if_neg (fun q => e4 (by omega))]
      by_cases e3 : j = 3
      · rw [if_pos ⟨rfl, by omega⟩, e3]; exact h85.1
      · rw [if_neg (fun q => e3 (by omega))]
        exact hn j (by rcases hj with hj | hj | hj; exact hj; exact absurd hj e3; exact absurd hj e4) j0 j1
  rcases hs with ⟨hw, hn⟩ | ⟨hw, hd⟩
  · by_cases c : kNx a = 43
    · have e1 : kS 43 a = (wsI a 83 2 (wI a 83 2 + 1), 1) := by unfold kS; rw [if_pos c]
      have e2 : kO (kS 43) (kN 3) a = kN 3 (wsI a 83 2 (wI a 83 2 + 1)) := by unfold kO; rw [e1, if_neg (by show ¬ (1 : Int) = 0; decide)]
      have e3 : tShP b = tNum (wsI (tSh7 b) 154 25 (wI b 154 25 + 1)) 3 := by unfold tShP; rw [if_pos ⟨hw, by rw [← nx]; exact c⟩]
      rw [e2, e3]
      have kk := kG_S (s := 43) (by decide)
      have ko := kk.ok h.1
      have hf := (kk a h.1).1
      rw [e1] at ko hf
      have hlt := (tNext_b h.2.1).2.2 (by omega)
      have q1 := h.2.1.2.1
      have q2 := h.2.1.2.2.1
      have hs : sy (wsI a 83 2 (wI a 83 2 + 1)) (wsI (tSh7 b) 154 25 (wI b 154 25 + 1)) r := by
        refine sy_of h7 hf ko (tSame_154 _ (Or.inl rfl)) (tOK_25 h7.2.1 (by omega)) ?_ rfl
        rw [wI_wsI, if_pos ⟨rfl, rfl⟩, wI_wsI, if_pos ⟨rfl, rfl⟩, h.2.2.2.2.1]
      have g := pN (p := 3) (J := fun j => J j ∨ j = 3 ∨ j = 4) (by decide) (by decide) hs hw (fun j hj j0 j1 => by
        rw [wIf_ne (by decide)]
        exact n7 hn j hj j0 j1)
      exact ⟨g.1, g.2.imp (fun k => ⟨k.1, k.2.1, fun j hj => k.2.2 j (Or.inl hj)⟩) id⟩
    · have e1 : kS 43 a = (a, 0) := by unfold kS; rw [if_neg c]
      have e2 : kO (kS 43) (kN 3) a = (a, 1) := by unfold kO; rw [e1, if_pos rfl]
      have e3 : tShP b = tSh7 b := by unfold tShP; rw [if_neg (fun q => c (by rw [nx]; exact q.2))]
      rw [e2, e3]
      exact ⟨h7, Or.inl ⟨rfl, hw, n7 hn⟩⟩
  · have e1 : kS 43 a = (a, 0) := by unfold kS; rw [if_neg (by omega)]
    have e2 : kO (kS 43) (kN 3) a = (a, 1) := by unfold kO; rw [e1, if_pos rfl]
    have e3 : tShP b = tSh7 b := by unfold tShP; rw [if_neg (fun q => by rw [hw] at q; exact absurd q.1 (by decide))]
    rw [e2, e3]
    exact ⟨h7, Or.inr (Or.inr ⟨rfl, hw, hd.1, hd.2⟩)⟩
theorem pO94 {a b : sm_W} {r : Int} {J : Int → Prop} (h : sy a b r) (hs : (wI b 154 26 = 0 ∧ nm a b r J) ∨ (wI b 154 26 = 1 ∧ 48 ≤ kNx a ∧ kNx a ≤ 57)) : o3 (kT6 a) (tShC b) r J := by
  have nx := sy_nx h
  unfold kT6
  rcases hs with ⟨hw, hn⟩ | ⟨hw, hd⟩
  · by_cases c : kNx a = 94
    · have e1 : kS 94 a = (wsI a 83 2 (wI a 83 2 + 1), 1) := by unfold kS; rw [if_pos c]
      have e2 : kO (kS 94) (kD 4 10) a = kD 4 10 (wsI a 83 2 (wI a 83 2 + 1)) := by unfold kO; rw [e1, if_neg (by show ¬ (1 : Int) = 0; decide)]
      have e3 : tShC b = tOne (wsI b 154 25 (wI b 154 25 + 1)) 4 57 := by unfold tShC; rw [if_pos ⟨hw, by rw [← nx]; exact c⟩]
      rw [e2, e3]
      have kk := kG_S (s := 94) (by decide)
      have ko := kk.ok h.1
      have hf := (kk a h.1).1
      rw [e1] at ko hf
      have hlt := (tNext_b h.2.1).2.2 (by omega)
      have q1 := h.2.1.2.1
      have q2 := h.2.1.2.2.1
      have hs : sy (wsI a 83 2 (wI a 83 2 + 1)) (wsI b 154 25 (wI b 154 25 + 1)) r := by
        refine sy_of h hf ko (tSame_154 _ (Or.inl rfl)) (tOK_25 h.2.1 (by omega)) ?_ rfl
        rw [wI_wsI, if_pos ⟨rfl, rfl⟩, wI_wsI, if_pos ⟨rfl, rfl⟩, h.2.2.2.2.1]
      have g := (pD (p := 4) (l := 10) (hi := 57) (J := J) rfl (by decide) (by decide) hs hw (fun j hj j0 j1 => by
        rw [wIf_ne (by decide)]
        exact hn j hj j0 j1)).o3
      exact ⟨g.1, g.2.imp (fun k => ⟨k.1, k.2.1, fun j hj => k.2.2 j (Or.inl hj)⟩) id⟩
    · have e1 : kS 94 a = (a, 0) := by unfold kS; rw [if_neg c]
      have e2 : kO (kS 94) (kD 4 10) a = (a, 1) := by unfold kO; rw [e1, if_pos rfl]
      have e3 : tShC b = b := by unfold tShC; rw [if_neg (fun q => c (by rw [nx]; exact q.2))]
      rw [e2, e3]
      exact ⟨h, Or.inl ⟨rfl, hw, hn⟩⟩
  · have e1 : kS 94 a = (a, 0) := by unfold kS; rw [if_neg (by omega)]
    have e2 : kO (kS 94) (kD 4 10) a = (a, 1) := by unfold kO; rw [e1, if_pos rfl]
    have e3 : tShC b = b := by unfold tShC; rw [if_neg (fun q => by rw [hw] at q; exact absurd q.1 (by decide))]
    rw [e2, e3]
    exact ⟨h, Or.inr (Or.inr ⟨rfl, hw, hd.1, hd.2⟩)⟩
theorem wr_P : wrT tShP := fun b h hw => by
  have e3 : tShP b = tSh7 b := by unfold tShP; rw [if_neg (fun q => by rw [hw] at q; exact absurd q.1 (by decide))]
  rw [e3]
  exact ⟨(tSame_175 b _ _).tr (tSame_175 _ _ _), tOK_175 (tOK_175 h), hw, rfl, rfl⟩
theorem wr_C : wrT tShC := fun b h hw => by
  have e3 : tShC b = b := by unfold tShC; rw [if_neg (fun q => by rw [hw] at q; exact absurd q.1 (by decide))]
  rw [e3]
  exact ⟨tSame.rf b, h, hw, rfl, rfl⟩
theorem wr_c {T U : sm_W → sm_W} (hT : wrT T) (hU : wrT U) : wrT (fun b => U (T b)) := fun b h hw => by
  obtain ⟨g1, g2, g3, g4, g5⟩ := hT b h hw
  obtain ⟨f1, f2, f3, f4, f5⟩ := hU (T b) g2 g3
  exact ⟨g1.tr f1, f2, f3, f4.trans g4, f5.trans g5⟩
/-- behind a number, where a digit may be too much -/
theorem pA3 {f g : kR} {a b : sm_W} {r : Int} {J K : Int → Prop} {T : sm_W → sm_W} (hf : o3 (f a) b r J) (hT : wrT T) (hg : ∀ a', a' = (f a).1 → sy a' b r → ((wI b 154 26 = 0 ∧ nm a' b r J) ∨ (wI b 154 26 = 1 ∧ 48 ≤ kNx a' ∧ kNx a' ≤ 57)) → o3 (g a') (T b) r K) : o3 (kA f g a) (T b) r K := by
  obtain ⟨h1, h2⟩ := hf
  rcases h2 with ⟨k1, k2, k3⟩ | ⟨k1, k2⟩ | ⟨k1, k2, k3⟩
  · have e : kA f g a = g (f a).1 := by unfold kA; rw [if_neg (by rw [k1]; decide)]
    rw [e]
    exact hg _ rfl h1 (Or.inl ⟨k2, k3⟩)
  · have e : kA f g a = ((f a).1, 0) := by unfold kA; rw [if_pos k1]
    rw [e]
    have := sy_wr h1 hT k2
    exact ⟨this.1, Or.inr (Or.inl ⟨rfl, this.2⟩)⟩
  · have e : kA f g a = g (f a).1 := by unfold kA; rw [if_neg (by rw [k1]; decide)]
    rw [e]
    exact hg _ rfl h1 (Or.inr ⟨k2, k3⟩)
theorem kS_85 (s : Int) (a : sm_W) : wI (kS s a).1 85 = wI a 85 := by
  unfold kS
  split
  · exact wIf_ne (by decide)
  · rfl
theorem kD_85 {p l : Int} (a : sm_W) {j : Int} (hj : j ≠ p) : wI (kD p l a).1 85 j = wI a 85 j := by
  unfold kD
  split
  · rfl
  · split
    · rfl
    · rw [k85, if_neg hj]
theorem kNL_85 {p : Int} {j : Int} (hj : j ≠ p) : ∀ (n : Nat) (a : sm_W) (v : Int), wI (kNL p n a v) 85 j = wI a 85 j := by
  intro n
  induction n with
  | zero => intro a v; show wI (wsI a 85 p v) 85 j = _; rw [wI_wsI, if_neg (fun q => hj q.2)]
  | succ n ih =>
    intro a v
    rw [kNL_s]
    split
    · rw [wI_wsI, if_neg (fun q => hj q.2)]
    · split
      · rw [wI_wsI, if_neg (fun q => hj q.2)]
      · rw [ih, kD_85 a hj]
theorem kN_85 {p : Int} (a : sm_W) {j : Int} (hj : j ≠ p) : wI (kN p a).1 85 j = wI a 85 j := by
  unfold kN
  split
  · exact kD_85 a hj
  · show wI (kNL p 2 (kD p 10 a).1 (kNx a - 48)) 85 j = _
    rw [kNL_85 hj, kD_85 a hj]
/-- the numbers of each kind -/
def jK (c j : Int) : Prop := if c = 115 then True else (if c = 120 then j = 0 else (j = 0 ∨ j = 1))
theorem pA2 {f g : kR} {a b : sm_W} {r : Int} {J K : Int → Prop} {T : sm_W → sm_W} (hf : o2 (f a) b r J) (hT : wrT T) (hg : ∀ a', a' = (f a).1 → sy a' b r → wI b 154 26 = 0 → nm a' b r J → o3 (g a') (T b) r K) : o3 (kA f g a) (T b) r K := by
  obtain ⟨h1, h2⟩ := hf
  rcases h2 with ⟨k1, k2, k3⟩ | ⟨k1, k2⟩
  · have e : kA f g a = g (f a).1 := by unfold kA; rw [if_neg (by rw [k1]; decide)]
    rw [e]
    exact hg _ rfl h1 k2 k3
  · have e : kA f g a = ((f a).1, 0) := by unfold kA; rw [if_pos k1]
    rw [e]
    have := sy_wr h1 hT k2
    exact ⟨this.1, Or.inr (Or.inl ⟨rfl, this.2⟩)⟩
theorem pSh {a b : sm_W} {r : Int} (h : sy a b r) (hw : wI b 154 26 = 0) (h85 : wI a 85 3 = 0 ∧ wI a 85 4 = 0) : o3 (kSh a) (tSh b) r (fun _ => True) := by
  have n0 : nm a b r (fun _ => False) := fun j hj => absurd hj id
  have w6 := wr_C
  have w5 := wr_c wr_P w6
  have w4 := wr_c (wr_N 2) w5
  have w3 := wr_c (wr_S (s := 64) (by decide)) w4
  have w2 := wr_c (wr_O 1 55) w3
  have w1 := wr_c (wr_S (s := 62) (by decide)) w2
  have key : o3 (kA (kD 0 8) (kA (kS 62) (kA (kD 1 8) (kA (kS 64) (kA (kN 2) (kA (kO (kS 43) (kN 3)) kT6))))) a) (tShC (tShP (tNum (tSign (tOne (tSign (tOne b 0 55) 62) 1 55) 64) 2))) r (fun j => ((((False ∨ j = 0) ∨ j = 1) ∨ j = 2) ∨ j = 3 ∨ j = 4)) := by
    refine pA2 (T := fun b => tShC (tShP (tNum (tSign (tOne (tSign b 62) 1 55) 64) 2))) (pD (p := 0) (l := 8) (hi := 55) rfl (by decide) (by decide) h hw n0) w1 (fun a1 e1 h1 k1 m1 => ?_)
    refine pA2 (T := fun b => tShC (tShP (tNum (tSign (tOne b 1 55) 64) 2))) (pS (s := 62) (by decide) h1 k1 m1) w2 (fun a2 e2 h2 k2 m2 => ?_)
    refine pA2 (T := fun b => tShC (tShP (tNum (tSign b 64) 2))) (pD (p := 1) (l := 8) (hi := 55) rfl (by decide) (by decide) h2 k2 m2) w3 (fun a3 e3 h3 k3 m3 => ?_)
    refine pA2 (T := fun b => tShC (tShP (tNum b 2))) (pS (s := 64) (by decide) h3 k3 m3) w4 (fun a4 e4 h4 k4 m4 => ?_)
    refine pA3 (T := fun b => tShC (tShP b)) (pN (p := 2) (by decide) (by decide) h4 k4 m4) w5 (fun a5 e5 h5 k5 => ?_)
    have f85 : ∀ j, j = 3 ∨ j = 4 → wI a5 85 j = wI a 85 j := fun j hj => by
      rw [e5, kN_85 _ (by omega), e4, kS_85, e3, kD_85 _ (by omega), e2, kS_85, e1, kD_85 _ (by omega)]
    refine pA3 (T := tShC) (pO43 (J := fun j => (((False ∨ j = 0) ∨ j = 1) ∨ j = 2)) (fun j hj => by rcases hj with ((q | q) | q) | q <;> first | exact absurd q id | omega) ⟨by rw [f85 3 (Or.inl rfl)]; exact h85.1, by rw [f85 4 (Or.inr rfl)]; exact h85.2⟩ h5 k5) w6 (fun a6 e6 h6 k6 => ?_)
    exact pO94 h6 k6
  exact ⟨key.1, key.2.imp (fun k => ⟨k.1, k.2.1, fun j _ j0 j1 => k.2.2 j (by omega) j0 j1⟩) id⟩
theorem pBody {a b : sm_W} {r c : Int} (h : sy a b r) (hw : wI b 154 26 = 0) (h85 : wI a 85 3 = 0 ∧ wI a 85 4 = 0) (hc : c = 115 ∨ c = 108 ∨ c = 116 ∨ c = 114 ∨ c = 112 ∨ c = 120) : o3 (kBody c a) (tBody b c) r (jK c) := by
  have n0 : nm a b r (fun _ => False) := fun j hj => absurd hj id
  have num : ∀ (s l hi : Int), hi = 47 + l → 0 < s → o3 (kA (kD 0 l) (kA (kS s) (kN 1)) a) (tNum (tSign (tOne b 0 hi) s) 1) r (fun j => (False ∨ j = 0) ∨ j = 1) := fun s l hi hl hs => by
    have w2 := wr_N 1
    have w1 := wr_c (wr_S hs) w2
    refine pA2 (T := fun b => tNum (tSign b s) 1) (pD (p := 0) (l := l) (hi := hi) hl (by decide) (by decide) h hw n0) w1 (fun a1 e1 h1 k1 m1 => ?_)
    refine pA2 (T := fun b => tNum b 1) (pS hs h1 k1 m1) w2 (fun a2 e2 h2 k2 m2 => ?_)
    exact pN (p := 1) (by decide) (by decide) h2 k2 m2
  have two : o3 (kA (kD 0 8) (kA (kS 61) (kD 1 10)) a) (tOne (tSign (tOne b 0 55) 61) 1 57) r (fun j => (False ∨ j = 0) ∨ j = 1) := by
    have w2 := wr_O 1 57
    have w1 := wr_c (wr_S (s := 61) (by decide)) w2
    refine pA2 (T := fun b => tOne (tSign b 61) 1 57) (pD (p := 0) (l := 8) (hi := 55) rfl (by decide) (by decide) h hw n0) w1 (fun a1 e1 h1 k1 m1 => ?_)
    refine pA2 (T := fun b => tOne b 1 57) (pS (s := 61) (by decide) h1 k1 m1) w2 (fun a2 e2 h2 k2 m2 => ?_)
    exact (pD (p := 1) (l := 10) (hi := 57) rfl (by decide) (by decide) h2 k2 m2).o3
  have conv : ∀ {p : sm_W × Int} {z : sm_W} {K : Int → Prop}, o3 p z r K → (∀ j, jK c j → 0 ≤ j → j < 5 → K j) → o3 p z r (jK c) := fun k hK => ⟨k.1, k.2.imp (fun q => ⟨q.1, q.2.1, fun j hj j0 j1 => q.2.2 j (hK j hj j0 j1) j0 j1⟩) id⟩
  unfold kBody tBody
  rcases hc with rfl | rfl | rfl | rfl | rfl | rfl
  · exact conv (pSh h hw h85) (fun _ _ _ _ => True.intro)
  · exact conv (num 43 8 55 rfl (by decide)) (fun j hj _ _ => by unfold jK at hj; rw [if_neg (by decide), if_neg (by decide)] at hj; omega)
  · exact conv (num 61 8 55 rfl (by decide)) (fun j hj _ _ => by unfold jK at hj; rw [if_neg (by decide), if_neg (by decide)] at hj; omega)
  · exact conv (num 61 7 54 rfl (by decide)) (fun j hj _ _ => by unfold jK at hj; rw [if_neg (by decide), if_neg (by decide)] at hj; omega)
  · exact conv two (fun j hj _ _ => by unfold jK at hj; rw [if_neg (by decide), if_neg (by decide)] at hj; omega)
  · exact conv (pD (p := 0) (l := 8) (hi := 55) rfl (by decide) (by decide) h hw n0).o3 (fun j hj _ _ => by unfold jK at hj; rw [if_neg (by decide), if_pos rfl] at hj; omega)
/-- the reading of numbers leaves the kind -/
def k3G (R : kR) : Prop := ∀ w, wI (R w).1 83 3 = wI w 83 3
theorem k3_S (s : Int) : k3G (kS s) := fun w => by
  unfold kS
  split
  · show wI (wsI w 83 2 _) 83 3 = _; rw [wI_wsI, if_neg (by omega)]
  · rfl
theorem k3_D (p l : Int) : k3G (kD p l) := fun w => by
  unfold kD
  split
  · rfl
  · split
    · rfl
    · show wI (wsI (wsI w 85 p _) 83 2 _) 83 3 = _; rw [wI_wsI, if_neg (by omega), wIf_ne (by decide)]
theorem k3_NL (p : Int) : ∀ (n : Nat) (w : sm_W) (v : Int), wI (kNL p n w v) 83 3 = wI w 83 3 := by
  intro n
  induction n with
  | zero => intro w v; show wI (wsI w 85 p v) 83 3 = _; rw [wIf_ne (by decide)]
  | succ n ih =>
    intro w v
    rw [kNL_s]
    split
    · rw [wIf_ne (by decide)]
    · split
      · rw [wIf_ne (by decide)]
      · rw [ih, k3_D p 10 w]
theorem k3_N (p : Int) : k3G (kN p) := fun w => by
  unfold kN
  split
  · exact k3_D p 10 w
  · show wI (kNL p 2 (kD p 10 w).1 (kNx w - 48)) 83 3 = _
    rw [k3_NL, k3_D p 10 w]
theorem k3_A {f g : kR} (hf : k3G f) (hg : k3G g) : k3G (kA f g) := fun w => by
  unfold kA
  split
  · exact hf w
  · rw [hg, hf]
theorem k3_O {f g : kR} (hf : k3G f) (hg : k3G g) : k3G (kO f g) := fun w => by
  unfold kO
  split
  · exact hf w
  · rw [hg, hf]
theorem k3_B {c : Int} (hc : c = 115 ∨ c = 108 ∨ c = 116 ∨ c = 114 ∨ c = 112 ∨ c = 120) : k3G (kBody c) := by
  have n1 := fun s l => k3_A (k3_D 0 l) (k3_A (k3_S s) (k3_N 1))
  unfold kBody
  rcases hc with rfl | rfl | rfl | rfl | rfl | rfl
  · exact k3_A (k3_D 0 8) (k3_A (k3_S 62) (k3_A (k3_D 1 8) (k3_A (k3_S 64) (k3_A (k3_N 2) (k3_A (k3_O (k3_S 43) (k3_N 3)) (k3_O (k3_S 94) (k3_D 4 10)))))))
  · exact n1 43 8
  · exact n1 61 8
  · exact n1 61 7
  · exact k3_A (k3_D 0 8) (k3_A (k3_S 61) (k3_D 1 10))
  · exact k3_D 0 8
/-- an order, for both -/
theorem pOrd {a b : sm_W} {r : Int} (h : sy a b r) (hw : wI b 154 26 = 0) (hs : wI b 154 25 ≤ 80) (hr : r ≤ 27) : kOK (kOrd a).1 ∧ tOK (tOrd b) ∧ wI (kOrd a).1 83 2 = wI (tOrd b) 154 25 ∧ (((kOrd a).2 = 1 ∧ wI (tOrd b) 154 26 = 0 ∧ sy (kOrd a).1 (tOrd b) (r + 1) ∧ wI (tOrd b) 174 r = kNx a ∧ wI (kOrd a).1 83 3 = kNx a ∧ nm (kOrd a).1 (tOrd b) r (jK (kNx a)) ∧ (kNx a = 115 ∨ kNx a = 108 ∨ kNx a = 116 ∨ kNx a = 114 ∨ kNx a = 112 ∨ kNx a = 120)) ∨ ((kOrd a).2 = 0 ∧ wI (tOrd b) 154 26 = 1) ∨ ((kOrd a).2 = 1 ∧ wI (tOrd b) 154 26 = 1 ∧ 48 ≤ kNx (kOrd a).1 ∧ kNx (kOrd a).1 ≤ 57)) := by
  have nx := sy_nx h
  have hk0 := kO0_in h.1 (by rw [h.2.2.2.2.1]; exact hs)
  have hki := kOrd_in h.1 (by rw [h.2.2.2.2.1]; exact hs)
  have hto := tOrd_st h.2.1 hs (by rw [h.2.2.2.2.2]; exact hr)
  -- the state behind the first letter
  have h0 : sy (kO0 a) (wsI b 154 25 (wI b 154 25 + 1)) r := by
    refine sy_of h hk0.1 hk0.2.1 (tSame_154 b (Or.inl rfl)) (tOK_25 h.2.1 (by have := h.2.1.2.2.1; omega)) ?_ rfl
    rw [hk0.2.2.1, wI_wsI, if_pos ⟨rfl, rfl⟩, h.2.2.2.2.1]
  have e0 : ∀ j, 0 ≤ j → j < 5 → wI (kO0 a) 85 j = 0 := fun j j0 j1 => by
    have : wI (kO0 a) 85 j = wI (fiW 85 0 ((5 : Nat) : Int) a) 85 j := by unfold kO0; rw [wIf_ne (by decide), wIf_ne (by decide)]
    rw [this, (fiW_in 85 0 a _ (by omega)).2.1, if_pos ⟨rfl, j0, by omega⟩]
  have hkO : kOrd a = kBody (kNx a) (kO0 a) := rfl
  have htO : tOrd b = tOrdE (tNext b) (tBody (wsI b 154 25 (wI b 154 25 + 1)) (tNext b)) := rfl
  refine ⟨hki.2.1, hto.1, ?_⟩
  by_cases hc : kNx a = 115 ∨ kNx a = 108 ∨ kNx a = 116 ∨ kNx a = 114 ∨ kNx a = 112 ∨ kNx a = 120
  · have g := pBody h0 hw ⟨e0 3 (by decide) (by decide), e0 4 (by decide) (by decide)⟩ hc
    rw [← hkO, nx] at g
    have k3 : wI (kOrd a).1 83 3 = kNx a := by rw [hkO, k3_B hc, hk0.2.2.2.1]
    obtain ⟨g1, g2⟩ := g
    rw [htO]
    generalize tBody (wsI b 154 25 (wI b 154 25 + 1)) (tNext b) = z at *
    rcases g2 with ⟨q1, q2, q3⟩ | ⟨q1, q2⟩ | ⟨q1, q2, q3⟩
    · have eE : tOrdE (tNext b) z = wsI (wsI z 174 (wI z 154 27) (tNext b)) 154 27 (wI z 154 27 + 1) := by unfold tOrdE; rw [if_pos q2]
      rw [eE]
      have er := g1.2.2.2.2.2
      refine ⟨by rw [wI_wsI, if_neg (by omega), wIf_ne (by decide)]; exact g1.2.2.2.2.1, Or.inl ⟨q1, by rw [wI_wsI, if_neg (by omega), wIf_ne (by decide)]; exact q2, ?_, ?_, k3, ?_, hc⟩⟩
      · obtain ⟨s1, s2, s3, s4, s5, s6⟩ := g1
        refine ⟨s1, tOK_27 (tOK_174 s2) (by have := s2.2.2.2.2.1; omega), ?_, ?_, ?_, ?_⟩
        · rw [wI_wsI, if_neg (by omega), wIf_ne (by decide)]; exact s3
        · rw [wI_wsI, if_neg (by omega), wIf_ne (by decide), wIf_ne (by decide), wIf_ne (by decide)]; exact s4
        · rw [wI_wsI, if_neg (by omega), wIf_ne (by decide)]; exact s5
        · rw [wI_wsI, if_pos ⟨rfl, rfl⟩, s6]
      · rw [wIf_ne (by decide), wI_wsI, if_pos ⟨rfl, er.symm⟩, nx]
      · intro j hj j0 j1
        rw [wIf_ne (by decide), wIf_ne (by decide)]
        exact q3 j (by rw [← nx]; exact hj) j0 j1
    · have eE : tOrdE (tNext b) z = z := by unfold tOrdE; rw [if_neg (by rw [q2]; decide)]
      rw [eE]
      exact ⟨g1.2.2.2.2.1, Or.inr (Or.inl ⟨q1, q2⟩)⟩
    · have eE : tOrdE (tNext b) z = z := by unfold tOrdE; rw [if_neg (by rw [q2]; decide)]
      rw [eE]
      exact ⟨g1.2.2.2.2.1, Or.inr (Or.inr ⟨q1, q2, q3⟩)⟩
  · have ek : kOrd a = (wsI (kO0 a) 83 2 (wI (kO0 a) 83 2 - 1), 0) := by
      rw [hkO]
      unfold kBody
      rw [if_neg (by omega), if_neg (by omega), if_neg (by omega), if_neg (by omega), if_neg (by omega), if_neg (by omega)]
    have et : tBody (wsI b 154 25 (wI b 154 25 + 1)) (tNext b) = wsI (wsI (wsI b 154 25 (wI b 154 25 + 1)) 154 25 (wI (wsI b 154 25 (wI b 154 25 + 1)) 154 25 - 1)) 154 26 1 := by
      unfold tBody
      rw [if_neg (by omega), if_neg (by omega), if_neg (by omega), if_neg (by omega), if_neg (by omega), if_neg (by omega)]
    have e26 : wI (tBody (wsI b 154 25 (wI b 154 25 + 1)) (tNext b)) 154 26 = 1 := by rw [et, wI_wsI, if_pos ⟨rfl, rfl⟩]
    have eE : tOrd b = tBody (wsI b 154 25 (wI b 154 25 + 1)) (tNext b) := by rw [htO]; unfold tOrdE; rw [if_neg (by rw [e26]; decide)]
    rw [eE, ek]
    refine ⟨?_, Or.inr (Or.inl ⟨rfl, e26⟩)⟩
    rw [et, wI_wsI, if_pos ⟨rfl, rfl⟩, hk0.2.2.1, wI_wsI, if_neg (by omega), wI_wsI, if_pos ⟨rfl, rfl⟩, wI_wsI, if_pos ⟨rfl, rfl⟩, h.2.2.2.2.1]
