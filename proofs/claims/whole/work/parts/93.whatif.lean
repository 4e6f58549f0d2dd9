/-! STEPS OF A RUN: what if -/
theorem mCh_of {w u : sm_W} (h : mCh w) (ho : ∀ a, a ≠ 155 → a ≠ 159 → a ≠ 171 → a ≠ 172 → wI u a = wI w a) : mCh u := by
  unfold mCh bDs at *
  rw [ho 154 (by decide) (by decide) (by decide) (by decide), ho 170 (by decide) (by decide) (by decide) (by decide)]
  intro k
  obtain ⟨b0, g1, g2, g3⟩ := h k
  exact ⟨b0, g1, g2, fun a h0 h1 => by rw [ho a (by omega) (by omega) (by omega) (by omega)]; exact g3.1 a h0 h1, g3.2⟩
theorem mAs0_at (b : sm_W) {k : Int} (k0 : 0 ≤ k) (k1 : k < 57) : wI (mAs0 b) 159 k = wI b 155 k := ((mCpA_in 155 159 (by decide) b 57 (by decide)).1 k).1 ⟨k0, k1⟩
theorem mBack_at (b : sm_W) {k : Int} (k0 : 0 ≤ k) (k1 : k < 57) : wI (mBack b) 155 k = wI b 159 k := ((mCpA_in 159 155 (by decide) b 57 (by decide)).1 k).1 ⟨k0, k1⟩
theorem mTry_kp {b y z : sm_W} (hb : rH b) (hG : mGd0 y) (hC : mCh y) (ho : ∀ a, a ≠ 155 → a ≠ 159 → a ≠ 171 → a ≠ 172 → (a < 154 ∨ 156 ≤ a ∧ a ≤ 158 ∨ a = 173) → wI y a = wI b a) (h154 : wI y 154 2 = wI b 154 2 ∧ wI y 154 3 = wI b 154 3 ∧ wI y 154 24 = wI b 154 24) (h159 : eq57 (wI y 159) (wI b 155)) (hz : z = mBack y) : rKp b z := by
  subst hz
  have k := mBack_in y
  have e : eq57 (wI (mBack y) 155) (wI b 155) := fun j j0 j1 => (mBack_at y j0 j1).trans (h159 j j0 j1)
  refine ⟨mGd0_of hG (k.2 hG.1.1) (vOK_57 e hb.1.1.2) (fun a h1 h2 h3 h4 => k.1 a h1), mCh_of hC (fun a h1 h2 h3 h4 => k.1 a h1), e, ⟨?_, ?_, ?_⟩, fun x hx => ?_⟩
  · rw [k.1 154 (by decide)]; exact h154.1
  · rw [k.1 154 (by decide)]; exact h154.2.1
  · rw [k.1 154 (by decide)]; exact h154.2.2
  · rw [k.1 x (by omega)]
    exact ho x (by omega) (by omega) (by omega) (by omega) (by omega)
theorem mRun_159 {y : sm_W} (hG : mGd0 y) : (∀ a, (a < 154 ∨ (155 ≤ a ∧ a ≤ 159) ∨ 171 ≤ a) → wI (mRun y) a = wI y a) ∧ wI (mRun y) 154 2 = wI y 154 2 ∧ wI (mRun y) 154 3 = wI y 154 3 ∧ wI (mRun y) 154 24 = wI y 154 24 := by
  have f := mRun_fr hG
  exact ⟨fun a ha => f.outA (fun i v hs => by unfold sRun at hs; omega), f.out (fun v hs => by unfold sRun at hs; omega), f.out (fun v hs => by unfold sRun at hs; omega), f.out (fun v hs => by unfold sRun at hs; omega)⟩
/-- a trial of the reference: its line is another one for a day -/
theorem mTry1_kp {b y : sm_W} (hb : rH b) (hG : mGd0 y) (ho : ∀ a, a ≠ 155 → a ≠ 159 → wI y a = wI b a) (h159 : eq57 (wI y 159) (wI b 155)) : mCh y ∧ rKp b (mBack (mRun y)) := by
  have hC : mCh y := mCh_of hb.2.1 (fun a h1 h2 h3 h4 => ho a h1 h2)
  have f := mRun_159 hG
  refine ⟨hC, mTry_kp hb (mRun_st hG).1 (mRun_ch hG hC).1 (fun a h1 h2 h3 h4 h5 => ?_) ?_ (fun j j0 j1 => ?_) rfl⟩
  · rw [f.1 a (by omega)]
    exact ho a h1 h2
  · rw [f.2.1, f.2.2.1, f.2.2.2, ho 154 (by decide) (by decide)]
    exact ⟨rfl, rfl, rfl⟩
  · rw [f.1 159 (by omega)]
    exact h159 j j0 j1
theorem cT_ag {a : sm_W} (h : lOK a 2) : cAg a (cT a) := by
  have k := cT_in h
  refine ⟨k.1, fun x hx => k.2.2.1 x (by omega), ?_, fun i => rfl⟩
  rw [k.2.2.1 83 (by omega)]
theorem cAg_st {a u : sm_W} {x : Nat} {i v : Int} (h : cAg a u) (hx : ¬ ((2 ≤ x ∧ x ≤ 9) ∨ x = 84 ∨ (86 ≤ x ∧ x < 154) ∨ (x = 83 ∧ i = 0))) : cAg a (wsI u x i v) := by
  refine ⟨h.1, fun y hy => ?_, ?_, fun j => h.2.2.2 j⟩
  · rw [wIf_ne (by omega)]
    exact h.2.1 y hy
  · rw [wI_wsI, if_neg (by omega)]
    exact h.2.2.1
theorem lEq_up {v u : Int → Int} {c x : Int} (hu : vOK (updI u c x)) (h : eq57 v u) : lEq (updI v c x) (updI u c x) := lEq_57 hu (h.up c x)
theorem st_ifLate {a b : sm_W} (h : Rel a b) (x v : Int) : (if lLateE (cT a) 35 x v < 0 then lLateE (cT a) 35 x v else xDl (xRun 34 (cTL a x v)) 34) = (if mLateE b x v < 0 then mLateE b x v else mDl (mRun (mIfL b x v))) ∧ Rel (if lLateE (cT a) 35 x v < 0 then cT a else xRun 34 (cTL a x v)) (if mLateE b x v < 0 then b else mBack (mRun (mIfL b x v))) := by
  have hl := h.1.1.1
  have k := cT_in hl
  have e57 : eq57 (vL (cT a) 35) (wI b 155) := k.2.2.2.1.tr h.2.2.1
  have eE : lLateE (cT a) 35 x v = mLateE b x v := by
    have e1 : wI (cT a) 35 7 = wI b 155 1 := e57 1 (by decide) (by decide)
    unfold lLateE mLateE
    rw [e1]
    by_cases c : 0 ≤ x ∧ x < wI b 155 1
    · have hm := vOK_many h.2.1.1.1.2
      have e2 : wI (cT a) (35 + 5) x = wI b 155 (17 + 5 * x + 2) := by
        rw [← (vL_s (cT a) 35 c.1).2.2.1]
        exact e57 _ (by omega) (by omega)
      rw [e2]
    · rw [if_neg c, if_neg c]
  rw [eE]
  by_cases c : mLateE b x v < 0
  · rw [if_pos c, if_pos c, if_pos c, if_pos c]
    exact ⟨rfl, Rel_of h (cT_ag hl) (Rel_rr h)⟩
  · rw [if_neg c, if_neg c, if_neg c, if_neg c]
    have hD := cTL_ok (x := x) (v := v) hl (by rw [eE]; exact c)
    have hG := mIfL_gd h.2.1.1 c
    have m0 := mAs0_in b
    have c0 := mLateE_0 c
    have y1 : ∀ a, a ≠ 155 → a ≠ 159 → wI (mIfL b x v) a = wI b a := fun a h1 h2 => by unfold mIfL; rw [wIf_ne h1, m0.1 a h2]
    have y2 : eq57 (wI (mIfL b x v) 159) (wI b 155) := fun j j0 j1 => by unfold mIfL; rw [wIf_ne (by omega)]; exact mAs0_at b j0 j1
    obtain ⟨hC, hK⟩ := mTry1_kp h.2.1 hG y1 y2
    have e3 : wI (mIfL b x v) 155 = updI (wI b 155) (17 + 5 * x + 2) (wI b 155 (17 + 5 * x + 2) + v) := by
      unfold mIfL
      rw [wI_updI, m0.1 155 (by decide)]
    have e4 : wI (cT a) 40 x = wI b 155 (17 + 5 * x + 2) := by
      have hm := vOK_many h.2.1.1.1.2
      have := e57 (17 + 5 * x + 2) (by omega) (by omega)
      rw [(vL_s (cT a) 35 c0.1).2.2.1] at this
      exact this
    have e5 : vL (cTL a x v) 35 = updI (vL (cT a) 35) (17 + 5 * x + 2) (wI b 155 (17 + 5 * x + 2) + v) := by
      unfold cTL
      rw [e4]
      exact vL_u5 (cT a) 35 _ c0.1
    have hv := hG.1.2
    rw [e3] at hv
    obtain ⟨R, h1, h2⟩ := day_eq (d := 34) hD hG hC (by
      show lEq (vL (cTL a x v) 35) _
      rw [e5, e3]
      exact lEq_up hv e57)
    refine ⟨by rw [an_Dl h1, bQ_Dl h2], Rel_of h ?_ hK⟩
    have g1 : cAg a (cTL a x v) := cAg_st (cT_ag hl) (by omega)
    exact g1.tr (xRun_ag hD)
theorem st_ifSlow {a b : sm_W} (h : Rel a b) (s v : Int) : (if 0 ≤ s ∧ s ≤ 6 then (if 1 ≤ v ∧ v ≤ 30 then xDl (xRun 34 (cTS a s v)) 34 else -2) else -1) = (if 0 ≤ s ∧ s ≤ 6 then (if 1 ≤ v ∧ v ≤ 30 then mDl (mRun (mIfS b s v)) else -2) else -1) ∧ Rel (if 0 ≤ s ∧ s ≤ 6 then (if 1 ≤ v ∧ v ≤ 30 then xRun 34 (cTS a s v) else cT a) else cT a) (if 0 ≤ s ∧ s ≤ 6 then (if 1 ≤ v ∧ v ≤ 30 then mBack (mRun (mIfS b s v)) else b) else b) := by
  have hl := h.1.1.1
  have k := cT_in hl
  have e57 : eq57 (vL (cT a) 35) (wI b 155) := k.2.2.2.1.tr h.2.2.1
  by_cases c : 0 ≤ s ∧ s ≤ 6
  · rw [if_pos c, if_pos c, if_pos c, if_pos c]
    by_cases c2 : 1 ≤ v ∧ v ≤ 30
    · rw [if_pos c2, if_pos c2, if_pos c2, if_pos c2]
      have hD := cTS_ok hl c c2
      have hG := mIfS_gd h.2.1.1 c c2
      have m0 := mAs0_in b
      have y1 : ∀ a, a ≠ 155 → a ≠ 159 → wI (mIfS b s v) a = wI b a := fun a h1 h2 => by unfold mIfS; rw [wIf_ne h1, m0.1 a h2]
      have y2 : eq57 (wI (mIfS b s v) 159) (wI b 155) := fun j j0 j1 => by unfold mIfS; rw [wIf_ne (by omega)]; exact mAs0_at b j0 j1
      obtain ⟨hC, hK⟩ := mTry1_kp h.2.1 hG y1 y2
      have e3 : wI (mIfS b s v) 155 = updI (wI b 155) (10 + s) v := by
        unfold mIfS
        rw [wI_updI, m0.1 155 (by decide)]
      have e5 : vL (cTS a s v) 35 = updI (vL (cT a) 35) (10 + s) v := vL_u2 (cT a) 35 v c.1 (by omega)
      have hv := hG.1.2
      rw [e3] at hv
      obtain ⟨R, h1, h2⟩ := day_eq (d := 34) hD hG hC (by
        show lEq (vL (cTS a s v) 35) _
        rw [e5, e3]
        exact lEq_up hv e57)
      refine ⟨by rw [an_Dl h1, bQ_Dl h2], Rel_of h ?_ hK⟩
      have g1 : cAg a (cTS a s v) := cAg_st (cT_ag hl) (by omega)
      exact g1.tr (xRun_ag hD)
    · rw [if_neg c2, if_neg c2, if_neg c2, if_neg c2]
      exact ⟨rfl, Rel_of h (cT_ag hl) (Rel_rr h)⟩
  · rw [if_neg c, if_neg c, if_neg c, if_neg c]
    exact ⟨rfl, Rel_of h (cT_ag hl) (Rel_rr h)⟩
/-- one more track at a station, for both -/
theorem st_bt1 {r q : sm_W} {s : Int} (h : Rel r q) (s0 : 0 ≤ s) (s1 : s < 8) : (wI (cT r) 3 s + 1 ≤ 4 ↔ wI q 155 (2 + s) < 4) ∧ Rel (cT r) q ∧ (wI q 155 (2 + s) < 4 → xDl (xRun 34 (bTU r s)) 34 = mDl (mRun (mBtU q s)) ∧ Rel (xRun 34 (bTU r s)) (mBtD (mRun (mBtU q s)) s)) := by
  have hl := h.1.1.1
  have k := cT_in hl
  have e57 : eq57 (vL (cT r) 35) (wI q 155) := k.2.2.2.1.tr h.2.2.1
  have e1 : wI (cT r) 3 s = wI q 155 (2 + s) := by
    have : wI (cT r) 3 s = wI r 3 s := by rw [k.2.2.1 3 (by omega)]
    rw [this, ← h.2.2.1 (2 + s) (by omega) (by omega)]
    exact (vL_t r 2 s0 s1).symm
  refine ⟨by rw [e1]; omega, Rel_of h (cT_ag hl) (Rel_rr h), fun c => ?_⟩
  have hD := bTU_ok hl s0 s1 (by rw [e1]; omega)
  have hG := mBtU_gd h.2.1.1 s0 s1 c
  have hC : mCh (mBtU q s) := mCh_of h.2.1.2.1 (fun a h1 _ _ _ => by unfold mBtU; exact wIf_ne h1)
  have e3 : wI (mBtU q s) 155 = updI (wI q 155) (2 + s) (wI q 155 (2 + s) + 1) := wI_updI _ _ _ _
  have e5 : vL (bTU r s) 35 = updI (vL (cT r) 35) (2 + s) (wI q 155 (2 + s) + 1) := by
    unfold bTU
    rw [e1]
    exact vL_u1 (cT r) 35 _ s0 s1
  have hv := hG.1.2
  rw [e3] at hv
  obtain ⟨R, h1, h2⟩ := day_eq (d := 34) hD hG hC (by
    show lEq (vL (bTU r s) 35) _
    rw [e5, e3]
    exact lEq_up hv e57)
  refine ⟨by rw [an_Dl h1, bQ_Dl h2], Rel_of h ?_ ?_⟩
  · have g1 : cAg r (bTU r s) := cAg_st (cT_ag hl) (by omega)
    exact g1.tr (xRun_ag hD)
  · have g := mBt1_gd h.2.1.1 s0 s1 c
    have f := mRun_159 hG
    have hd : ∀ a, a ≠ 155 → wI (mBtD (mRun (mBtU q s)) s) a = wI (mRun (mBtU q s)) a := fun a ha => by unfold mBtD; exact wIf_ne ha
    have hu : ∀ a, a ≠ 155 → wI (mBtU q s) a = wI q a := fun a ha => by unfold mBtU; exact wIf_ne ha
    refine ⟨g.1, mCh_of (mRun_ch hG hC).1 (fun a h1 _ _ _ => hd a h1), by rw [g.2]; exact eq57.rf _, ⟨?_, ?_, ?_⟩, fun x hx => ?_⟩
    · rw [hd 154 (by decide), f.2.1, hu 154 (by decide)]
    · rw [hd 154 (by decide), f.2.2.1, hu 154 (by decide)]
    · rw [hd 154 (by decide), f.2.2.2, hu 154 (by decide)]
    · rw [hd x (by omega), f.1 x (by omega), hu x (by omega)]
theorem st_bt {a b : sm_W} (h : Rel a b) : ∀ n : Nat, (n : Int) ≤ 8 → Rel (bT a n).1 (mBt b n).1 ∧ (bT a n).2.1 = (mBt b n).2.1 ∧ (((mBt b n).2.1 < 0 ∧ (mBt b n).2.1 = -6 ∧ (bT a n).2.2 = -6) ∨ (0 ≤ (mBt b n).2.1 ∧ (bT a n).2.2 = (mBt b n).2.2 ∧ 0 ≤ (mBt b n).2.2)) := by
  intro n
  induction n with
  | zero => exact fun _ => ⟨h, rfl, Or.inl ⟨by show (-6 : Int) < 0; decide, rfl, rfl⟩⟩
  | succ n ih =>
    intro hn
    obtain ⟨i1, i2, i3⟩ := ih (by omega)
    have e1 : bT a ((n : Int) + 1) = bT1 n (bT a n) := itI_s _ _ (by omega)
    have e2 : mBt b ((n : Int) + 1) = mBt1 n (mBt b n) := itI_s _ _ (by omega)
    rw [show ((n + 1 : Nat) : Int) = (n : Int) + 1 by omega, e1, e2]
    generalize bT a n = p at *
    generalize mBt b n = q at *
    obtain ⟨g1, g2, g3⟩ := st_bt1 (s := (n : Int)) i1 (by omega) (by omega)
    unfold bT1 mBt1
    by_cases c : wI q.1 155 (2 + n) < 4
    · obtain ⟨g4, g5⟩ := g3 c
      rw [if_pos c, if_pos (g1.mpr c)]
      refine ⟨g5, ?_⟩
      dsimp only
      rw [g4]
      generalize mDl (mRun (mBtU q.1 n)) = D at *
      unfold bTB mBtB
      by_cases cD : D < 0
      · rw [if_pos cD, if_pos cD]
        exact ⟨i2, i3⟩
      · rw [if_neg cD, if_neg cD]
        rcases i3 with ⟨k1, k2, k3⟩ | ⟨k1, k2, k3⟩
        · rw [if_pos (show p.2.2 < 0 by omega), if_pos k1]
          exact ⟨rfl, Or.inr ⟨by show (0 : Int) ≤ (n : Int); omega, rfl, by show (0 : Int) ≤ D; omega⟩⟩
        · rw [if_neg (show ¬ p.2.2 < 0 by omega), if_neg (show ¬ q.2.1 < 0 by omega), k2]
          by_cases cL : D < q.2.2
          · rw [if_pos cL, if_pos cL]
            exact ⟨rfl, Or.inr ⟨by show (0 : Int) ≤ (n : Int); omega, rfl, by show (0 : Int) ≤ D; omega⟩⟩
          · rw [if_neg cL, if_neg cL]
            exact ⟨i2, Or.inr ⟨k1, k2, k3⟩⟩
    · rw [if_neg c, if_neg (fun z => c (g1.mp z))]
      exact ⟨g2, i2, i3⟩
theorem st_bestTrack {a b : sm_W} (h : Rel a b) (k : Int) : (if k = 0 then (bT a 8).2.1 else (if k = 1 then (bT a 8).2.2 else -2)) = (if 0 ≤ k ∧ k ≤ 1 then (if (mBt b 8).2.1 < 0 then (mBt b 8).2.1 else (if k = 0 then (mBt b 8).2.1 else (mBt b 8).2.2)) else -2) ∧ Rel (if k = 0 then (bT a 8).1 else (if k = 1 then (bT a 8).1 else a)) (if 0 ≤ k ∧ k ≤ 1 then (mBt b 8).1 else b) := by
  obtain ⟨g1, g2, g3⟩ := st_bt h 8 (by decide)
  have g1 : Rel (bT a 8).1 (mBt b 8).1 := g1
  have g2 : (bT a 8).2.1 = (mBt b 8).2.1 := g2
  have g3 : ((mBt b 8).2.1 < 0 ∧ (mBt b 8).2.1 = -6 ∧ (bT a 8).2.2 = -6) ∨ (0 ≤ (mBt b 8).2.1 ∧ (bT a 8).2.2 = (mBt b 8).2.2 ∧ 0 ≤ (mBt b 8).2.2) := g3
  by_cases c0 : k = 0
  · rw [if_pos c0, if_pos (show 0 ≤ k ∧ k ≤ 1 by omega), if_pos c0, if_pos c0, if_pos (show 0 ≤ k ∧ k ≤ 1 by omega), g2]
    refine ⟨?_, g1⟩
    split <;> rfl
  · rw [if_neg c0, if_neg c0, if_neg c0]
    by_cases c1 : k = 1
    · rw [if_pos c1, if_pos c1, if_pos (show 0 ≤ k ∧ k ≤ 1 by omega), if_pos (show 0 ≤ k ∧ k ≤ 1 by omega)]
      refine ⟨?_, g1⟩
      rcases g3 with ⟨k1, k2, k3⟩ | ⟨k1, k2, k3⟩
      · rw [if_pos k1, k3, k2]
      · rw [if_neg (by omega), k2]
    · rw [if_neg c1, if_neg c1, if_neg (show ¬ (0 ≤ k ∧ k ≤ 1) by omega), if_neg (show ¬ (0 ≤ k ∧ k ≤ 1) by omega)]
      exact ⟨rfl, h⟩
