/-! THE REFERENCE'S RECORDS: meetings -/
def bOt (b : sm_W) (x p : Int) : Prop := 0 ≤ bC b x p ∧ p ≠ bEn b x
def bMm (b : sm_W) (x y p : Int) : Int := if bC b x p < bC b y p then bC b y p else bC b x p
def bTh (b : sm_W) (x p t : Int) : Prop := bV b x p < 0 ∨ t ≤ bV b x p
def bK (b : sm_W) (x y p : Int) : Prop := bOt b x p ∧ bOt b y p ∧ bTh b x p (bMm b x y p) ∧ bTh b y p (bMm b x y p)
def bPr (b : sm_W) (x y : Int) : Prop := (0 ≤ x ∧ x < y ∧ y < wI b 155 1) ∧ mWay (wI b 155) x ≠ mWay (wI b 155) y
def pMt (b : sm_W) : Prop := ∀ x y, 0 ≤ x → x < 8 → 0 ≤ y → y < 8 → (¬ bPr b x y → wI b 166 (8 * x + y) < 0) ∧ (bPr b x y → (wI b 166 (8 * x + y) < 0 → ∀ p, 0 ≤ p → p < 8 → ¬ bK b x y p) ∧ (0 ≤ wI b 166 (8 * x + y) → bK b x y (wI b 167 (8 * x + y)) ∧ (0 ≤ wI b 167 (8 * x + y) ∧ wI b 167 (8 * x + y) < 8) ∧ wI b 166 (8 * x + y) = bMm b x y (wI b 167 (8 * x + y))))
/-- what meet does to a pair -/
def mMc (w : sm_W) (x y : Int) : Prop := (wI w 160 x = 1 ∧ wI w 160 y = 1 ∧ wI w 161 x = wI w 161 y ∧ mWay (wI w 155) x ≠ mWay (wI w 155) y) ∧ wI w 166 (8 * x + y) < 0
def mMu (w u : sm_W) (t x y : Int) : Prop := (mMc w x y → wI u 166 (8 * x + y) = t ∧ wI u 167 (8 * x + y) = wI w 161 x) ∧ (¬ mMc w x y → wI u 166 (8 * x + y) = wI w 166 (8 * x + y) ∧ wI u 167 (8 * x + y) = wI w 167 (8 * x + y))
def mMs (w u : sm_W) (x y : Int) : Prop := wI u 166 (8 * x + y) = wI w 166 (8 * x + y) ∧ wI u 167 (8 * x + y) = wI w 167 (8 * x + y)
theorem mMt1_at {t x y : Int} {w : sm_W} (y0 : 0 ≤ y) (y1 : y < 8) : mMu w (mMt1 t x y w) t x y ∧ ∀ a c, 0 ≤ c → c < 8 → ¬ (a = x ∧ c = y) → mMs w (mMt1 t x y w) a c := by
  unfold mMu mMs
  by_cases k : mMc w x y
  · have e : mMt1 t x y w = wsI (wsI w 166 (8 * x + y) t) 167 (8 * x + y) (wI w 161 x) := by unfold mMt1; exact if_pos k
    rw [e]
    refine ⟨⟨fun _ => ⟨?_, ?_⟩, fun q => absurd k q⟩, fun a c c0 c1 hne => ⟨?_, ?_⟩⟩
    · rw [wI_wsI, if_neg (by omega), wI_wsI, if_pos ⟨rfl, rfl⟩]
    · rw [wI_wsI, if_pos ⟨rfl, rfl⟩]
    · rw [wI_wsI, if_neg (by omega), wI_wsI, if_neg (by omega)]
    · rw [wI_wsI, if_neg (by omega), wI_wsI, if_neg (by omega)]
  · have e : mMt1 t x y w = w := by unfold mMt1; exact if_neg k
    rw [e]
    exact ⟨⟨fun q => absurd q k, fun _ => ⟨rfl, rfl⟩⟩, fun _ _ _ _ _ => ⟨rfl, rfl⟩⟩
theorem mMc_cg {w u : sm_W} {x y : Int} (h : mSame w u) (hs : mMs w u x y) : mMc u x y ↔ mMc w x y := by
  unfold mMc
  rw [h.1 160 (by decide) (by decide), h.1 161 (by decide) (by decide), h.1 155 (by decide) (by decide), hs.1]
theorem mMtR_at {t x : Int} {w : sm_W} (x0 : 0 ≤ x) (n : Int) (n0 : 0 ≤ n) (n1 : x + 1 + n ≤ 8) : mSame w (mMtR t x w n) ∧ (∀ y, x < y → y < x + 1 + n → mMu w (mMtR t x w n) t x y) ∧ ∀ a c, 0 ≤ c → c < 8 → ¬ (a = x ∧ x < c ∧ c < x + 1 + n) → mMs w (mMtR t x w n) a c := by
  refine itI_ind (f := fun j => mMt1 t x (x + 1 + j)) (a := w) (fun i u => mSame w u ∧ (∀ y, x < y → y < x + 1 + i → mMu w u t x y) ∧ ∀ a c, 0 ≤ c → c < 8 → ¬ (a = x ∧ x < c ∧ c < x + 1 + i) → mMs w u a c) n ⟨⟨fun _ _ _ => rfl, id⟩, fun y y0 y1 => by omega, fun _ _ _ _ _ => ⟨rfl, rfl⟩⟩ (fun i u i0 i1 hI => ?_) n n0 (Int.le_refl _)
  obtain ⟨h1, h2, h3⟩ := hI
  have g := mMt1_at (t := t) (x := x) (y := x + 1 + i) (w := u) (by omega) (by omega)
  refine ⟨h1.trans (mMt1_keep t x (x + 1 + i) u), fun y y0 y1 => ?_, fun a c c0 c1 hn => ?_⟩
  · by_cases e : y = x + 1 + i
    · subst e
      have hs := h3 x (x + 1 + i) (by omega) (by omega) (by omega)
      have hc := mMc_cg h1 hs
      have g1 := g.1
      unfold mMu at g1 ⊢
      rw [hc, h1.1 161 (by decide) (by decide), hs.1, hs.2] at g1
      exact g1
    · have h4 := h2 y y0 (by omega)
      have g2 := g.2 x y (by omega) (by omega) (by omega)
      unfold mMu at h4 ⊢
      rw [g2.1, g2.2]
      exact h4
  · have g2 := g.2 a c c0 c1 (by omega)
    have h4 := h3 a c c0 c1 (by omega)
    exact ⟨g2.1.trans h4.1, g2.2.trans h4.2⟩
theorem mMeet_at {t : Int} {w : sm_W} (h8 : wI w 155 1 ≤ 8) (n : Int) (n0 : 0 ≤ n) (n1 : n ≤ wI w 155 1) : mSame w (mMeet t w n) ∧ (∀ x y, 0 ≤ x → x < n → x < y → y < wI w 155 1 → mMu w (mMeet t w n) t x y) ∧ ∀ a c, 0 ≤ c → c < 8 → ¬ (0 ≤ a ∧ a < n ∧ a < c ∧ c < wI w 155 1) → mMs w (mMeet t w n) a c := by
  refine itI_ind (f := fun x r => mMtR t x r (wI w 155 1 - (x + 1))) (a := w) (fun i u => mSame w u ∧ (∀ x y, 0 ≤ x → x < i → x < y → y < wI w 155 1 → mMu w u t x y) ∧ ∀ a c, 0 ≤ c → c < 8 → ¬ (0 ≤ a ∧ a < i ∧ a < c ∧ c < wI w 155 1) → mMs w u a c) n ⟨⟨fun _ _ _ => rfl, id⟩, fun x y x0 x1 => by omega, fun _ _ _ _ _ => ⟨rfl, rfl⟩⟩ (fun i u i0 i1 hI => ?_) n n0 (Int.le_refl _)
  obtain ⟨h1, h2, h3⟩ := hI
  have g := mMtR_at (t := t) (x := i) (w := u) i0 (wI w 155 1 - (i + 1)) (by omega) (by omega)
  refine ⟨h1.trans g.1, fun x y x0 x1 xy y1 => ?_, fun a c c0 c1 hn => ?_⟩
  · by_cases e : x = i
    · subst e
      have hs := h3 x y (by omega) (by omega) (by omega)
      have hc := mMc_cg h1 hs
      have g1 := g.2.1 y xy (by omega)
      unfold mMu at g1 ⊢
      rw [hc, h1.1 161 (by decide) (by decide), hs.1, hs.2] at g1
      exact g1
    · have h4 := h2 x y x0 (by omega) xy y1
      have g2 := g.2.2 x y (by omega) (by omega) (by omega)
      unfold mMu at h4 ⊢
      rw [g2.1, g2.2]
      exact h4
  · have g2 := g.2.2 a c c0 c1 (by omega)
    have h4 := h3 a c c0 c1 (by omega)
    exact ⟨g2.1.trans h4.1, g2.2.trans h4.2⟩
/-- what come leaves as it is: all that was written before -/
def bCo (b u : sm_W) (m : Int) : Prop := wI u 155 = wI b 155 ∧ wI u 165 = wI b 165 ∧ wI u 166 = wI b 166 ∧ wI u 167 = wI b 167 ∧ ∀ x s, 0 ≤ x → x < wI b 155 1 → 0 ≤ s → s < 8 → bC u x s = bC b x s ∨ (bC b x s < 0 ∧ bC u x s = m)
theorem bCo_cm1 {b : sm_W} {m x : Int} (hD : mDay b) (x0 : 0 ≤ x) (x1 : x < wI b 155 1) (hX : pX b m x) : bCo b (mCm1 m x b) m := by
  by_cases c : wI b 160 x = 2 ∧ m - wI b 162 x = wI b 155 (10 + wI b 161 x)
  · have hb := mToS_b hD x0 x1 c.1
    have hqx := vOK_sh hD.1.2 x0 x1
    obtain ⟨j160, j161, j162, j163, jo⟩ := mCm1_in c
    have hst : pSt b x = (if 0 < mWay (wI b 155) x then wI b 161 x else wI b 161 x + 1) := by unfold pSt; rw [if_pos c.1]
    have hto : mToS b x = pSt b x + kW (bBe b x) (bEn b x) := by rw [hst, ← mWay_kW]; exact hb.2.2.1
    have hk := kP_st (B := bBe b x) (E := bEn b x) (st := pSt b x) hqx.2.2.1 hqx.1.1 hqx.1.2 hqx.2.1.1 hqx.2.1.2 hX.1.1.1 (hX.1.2.1 (by rw [if_pos c.1]))
    rw [← hto] at hk
    have hC0 : ¬ 0 ≤ bC b x (mToS b x) := fun k => by
      have := (hX.1.2.2 _ hb.1.1 hb.1.2).1.mp k
      omega
    refine ⟨jo 155 (by decide) (by decide) (by decide) (by decide), jo 165 (by decide) (by decide) (by decide) (by decide), jo 166 (by decide) (by decide) (by decide) (by decide), jo 167 (by decide) (by decide) (by decide) (by decide), fun y s y0 y1 s0 s1 => ?_⟩
    by_cases k : y = x ∧ s = mToS b x
    · right
      rw [k.1, k.2]
      refine ⟨by omega, ?_⟩
      unfold bC
      rw [j163, if_pos rfl]
    · left
      unfold bC
      rw [j163, if_neg (by omega)]
  · rw [mCm1_no c]
    exact ⟨rfl, rfl, rfl, rfl, fun _ _ _ _ _ _ => Or.inl rfl⟩
theorem bCo.tr {b u v : sm_W} {m : Int} (m0 : 0 ≤ m) (h : bCo b u m) (k : bCo u v m) : bCo b v m := by
  refine ⟨k.1.trans h.1, k.2.1.trans h.2.1, k.2.2.1.trans h.2.2.1, k.2.2.2.1.trans h.2.2.2.1, fun x s x0 x1 s0 s1 => ?_⟩
  have h1 := h.2.2.2.2 x s x0 x1 s0 s1
  have h2 := k.2.2.2.2 x s x0 (by rw [h.1]; exact x1) s0 s1
  rcases h1 with h1 | h1
  · rcases h2 with h2 | h2
    · exact Or.inl (h2.trans h1)
    · exact Or.inr ⟨by rw [← h1]; exact h2.1, h2.2⟩
  · rcases h2 with h2 | h2
    · exact Or.inr ⟨h1.1, h2.trans h1.2⟩
    · exact absurd h2.1 (by omega)
/-- steps come and meet of the minute m -/
theorem pMt_meet {b c : sm_W} {m : Int} (hD : mDay c) (m0 : 0 ≤ m) (hc : bCo b c m) (hX0 : ∀ y, 0 ≤ y → y < wI b 155 1 → pX b (m - 1) y) (hX : ∀ y, 0 ≤ y → y < wI c 155 1 → pX c m y) (h : pMt b) : pMt (mMeet m c (wI c 155 1)) := by
  have hm := vOK_many hD.1.2
  obtain ⟨g1, g2, g3⟩ := mMeet_at (t := m) (w := c) hm.2 (wI c 155 1) hm.1 (Int.le_refl _)
  generalize mMeet m c (wI c 155 1) = A at *
  have a155 : wI A 155 = wI c 155 := g1.1 _ (by decide) (by decide)
  have a163 : wI A 163 = wI c 163 := g1.1 _ (by decide) (by decide)
  have a165 : wI A 165 = wI c 165 := g1.1 _ (by decide) (by decide)
  have eK : ∀ x y p, bK A x y p ↔ bK c x y p := fun x y p => by unfold bK bOt bTh bMm bC bV bEn; rw [a155, a163, a165]
  have eM : ∀ x y p, bMm A x y p = bMm c x y p := fun x y p => by unfold bMm bC; rw [a163]
  have eP : ∀ x y, bPr A x y ↔ bPr c x y := fun x y => by unfold bPr; rw [a155]
  have eP2 : ∀ x y, bPr c x y ↔ bPr b x y := fun x y => by unfold bPr; rw [hc.1]
  have eV : ∀ x s, bV c x s = bV b x s := fun x s => by unfold bV; rw [hc.2.1]
  have eE : ∀ x, bEn c x = bEn b x := fun x => by unfold bEn; rw [hc.1]
  intro x y x0 x1 y0 y1
  rw [eP]
  have hxy := h x y x0 x1 y0 y1
  rw [← eP2, ← hc.2.2.1, ← hc.2.2.2.1] at hxy
  refine ⟨fun hn => ?_, fun hp => ?_⟩
  · have hlt := hxy.1 hn
    by_cases q : x < y ∧ y < wI c 155 1
    · have g4 := (g2 x y x0 (by omega) q.1 q.2).2 (fun k => hn ⟨⟨x0, q.1, q.2⟩, k.1.2.2.2⟩)
      rw [g4.1]
      exact hlt
    · have g4 := g3 x y y0 y1 (by omega)
      rw [g4.1]
      exact hlt
  · obtain ⟨⟨_, lt, yn⟩, hw⟩ := hp
    have hp : bPr c x y := ⟨⟨x0, lt, yn⟩, hw⟩
    obtain ⟨h1, h2⟩ := hxy.2 hp
    have gu := g2 x y x0 (by omega) lt yn
    have xn : x < wI c 155 1 := by omega
    have bn : wI b 155 1 = wI c 155 1 := by rw [hc.1]
    have cx := fun p p0 p1 => hc.2.2.2.2 x p x0 (by rw [bn]; exact xn) p0 p1
    have cy := fun p p0 p1 => hc.2.2.2.2 y p y0 (by rw [bn]; exact yn) p0 p1
    -- what was a meeting stays one
    have old : ∀ p, 0 ≤ p → p < 8 → bC c x p = bC b x p → bC c y p = bC b y p → (bK c x y p ↔ bK b x y p) ∧ bMm c x y p = bMm b x y p := fun p p0 p1 q1 q2 => by
      have q3 : bMm c x y p = bMm b x y p := by unfold bMm; rw [q1, q2]
      refine ⟨?_, q3⟩
      unfold bK bOt bTh
      rw [q3, q1, q2, eV, eV, eE, eE]
    -- both on one place now: a meeting
    have here : ∀ p, wI c 160 x ≤ 1 → wI c 160 y ≤ 1 → p = wI c 161 x → p = wI c 161 y → 0 ≤ bC c x p → 0 ≤ bC c y p → bK c x y p := fun p k1 k2 k3 k4 k5 k6 => by
      have sx := bStand hD x0 xn (hX x x0 xn) k1
      have sy := bStand hD y0 yn (hX y y0 yn) k2
      have bx := mSt_b hD x0 xn k1
      have by' := mSt_b hD y0 yn k2
      rw [← k3] at sx bx
      rw [← k4] at sy by'
      exact ⟨⟨k5, bx.2.2.2⟩, ⟨k6, by'.2.2.2⟩, Or.inl sx.2, Or.inl sy.2⟩
    have came : ∀ z, 0 ≤ z → z < wI c 155 1 → wI c 160 z = 1 → 0 ≤ bC c z (wI c 161 z) := fun z z0 z1 k => by
      have hz := hX z z0 z1
      have bz := mSt_b hD z0 z1 (by omega)
      have g := (hz.1.2.2 _ bz.1.1 bz.1.2).1
      have p1 : pSt c z = wI c 161 z := by unfold pSt; rw [if_neg (by omega)]
      have hk : kP (bBe c z) (bEn c z) (wI c 161 z) ≠ kP (bBe c z) (bEn c z) (bBe c z) := fun q => (hz.2.2.1 k).1 (kP_inj q)
      have hk0 : kP (bBe c z) (bEn c z) (bBe c z) = 0 := by unfold kP; split <;> omega
      have h2 := hz.1.1.1
      rw [p1] at g h2
      exact g.mpr (by omega)
    by_cases h166 : wI c 166 (8 * x + y) < 0
    · have hnoK := h1 h166
      have newK : ∀ p, 0 ≤ p → p < 8 → bK c x y p → bMm c x y p = m := fun p p0 p1 k => by
        rcases cx p p0 p1 with q1 | q1
        · rcases cy p p0 p1 with q2 | q2
          · exact absurd ((old p p0 p1 q1 q2).1.mp k) (hnoK p p0 p1)
          · have := ((hX x x0 xn).1.2.2 p p0 p1).2.2.1 k.1.1
            unfold bMm
            split <;> omega
        · have := ((hX y y0 yn).1.2.2 p p0 p1).2.2.1 k.2.1.1
          unfold bMm
          split <;> omega
      have place : ∀ z, 0 ≤ z → z < wI c 155 1 → ∀ p, 0 ≤ p → p < 8 → bOt c z p → bTh c z p m → wI c 160 z = 1 ∧ p = wI c 161 z := fun z z0 z1 p p0 p1 k k2 => by
        have hv : bV c z p < 0 := by
          have hz := (hX0 z z0 (by rw [bn]; exact z1)).1.2.2 p p0 p1
          have := hz.2.2.2
          rw [← eV] at this
          unfold bTh at k2
          omega
        have hk0 : kP (bBe c z) (bEn c z) (bBe c z) = 0 := by unfold kP; split <;> omega
        have hne : p ≠ bBe c z := fun e => by
          have := ((hX z z0 z1).1.2.2 p p0 p1).1.mp k.1
          rw [e, hk0] at this
          omega
        have hs : bStd c z p ≠ 0 := by
          have k11 := k.1
          unfold bStd
          rw [if_neg hne, if_neg (by omega), if_neg k.2]
          decide
        have hi := bStand_inv hD z0 z1 (hX z z0 z1) p0 p1 hs hv
        refine ⟨?_, hi.2⟩
        have hsh := hD.2 z z0 z1
        have hw0 : 0 ≤ wI c 160 z := by unfold mSh at hsh; exact hsh.2.2.1.1
        apply Classical.byContradiction
        intro q
        exact hne (hi.2.trans ((hX z z0 z1).2.1 (by omega)))
      by_cases k : mMc c x y
      · have g4 := gu.1 k
        rw [g4.1, g4.2]
        have k1 := k.1
        have hKp := here (wI c 161 x) (by omega) (by omega) rfl k1.2.2.1 (came x x0 xn k1.1) (by rw [k1.2.2.1]; exact came y y0 yn k1.2.1)
        have bx := mSt_b hD x0 xn (by omega)
        refine ⟨fun q => by omega, fun _ => ⟨(eK _ _ _).mpr hKp, bx.1, ?_⟩⟩
        rw [eM]
        exact (newK _ bx.1.1 bx.1.2 hKp).symm
      · have g4 := gu.2 k
        rw [g4.1, g4.2]
        refine ⟨fun _ p p0 p1 hK => ?_, fun q => by omega⟩
        rw [eK] at hK
        have hmm := newK p p0 p1 hK
        have t1 := hK.2.2.1
        have t2 := hK.2.2.2
        rw [hmm] at t1 t2
        have px := place x x0 xn p p0 p1 hK.1 t1
        have py := place y y0 yn p p0 p1 hK.2.1 t2
        exact k ⟨⟨px.1, py.1, px.2.symm.trans py.2, hw⟩, h166⟩
    · have g4 := gu.2 (fun k => h166 k.2)
      rw [g4.1, g4.2]
      refine ⟨fun q => absurd q h166, fun q => ?_⟩
      obtain ⟨k1, k2, k3⟩ := h2 q
      have q1 : bC c x (wI c 167 (8 * x + y)) = bC b x (wI c 167 (8 * x + y)) := by
        rcases cx _ k2.1 k2.2 with q1 | q1
        · exact q1
        · have := k1.1.1; omega
      have q2 : bC c y (wI c 167 (8 * x + y)) = bC b y (wI c 167 (8 * x + y)) := by
        rcases cy _ k2.1 k2.2 with q1 | q1
        · exact q1
        · have := k1.2.1.1; omega
      have o := old _ k2.1 k2.2 q1 q2
      exact ⟨(eK _ _ _).mpr (o.1.mpr k1), k2, by rw [eM, o.2]; exact k3⟩
theorem pMt_sm {b u : sm_W} (h : bSm u b) (h166 : wI u 166 = wI b 166) (h167 : wI u 167 = wI b 167) (k : pMt b) : pMt u := by
  unfold pMt bPr bK bOt bTh bMm bC bV bEn at *
  rw [h.1, h.2.2.2.2.1, h.2.2.2.2.2, h166, h167]
  exact k
theorem pMt_lv1 {b : sm_W} {m x : Int} (hD : mDay b) (x0 : 0 ≤ x) (x1 : x < wI b 155 1) (hs : wI b 160 x ≤ 1) (hX : ∀ y, 0 ≤ y → y < wI b 155 1 → pX b m y) (h : pMt b) : pMt (mLv1 b x m) := by
  have hm := vOK_many hD.1.2
  obtain ⟨j160, j161, j162, j165, j164, jo⟩ := mLv1_in b x m
  have j155 := jo 155 (by decide) (by decide) (by decide) (by decide) (by decide)
  have j163 := jo 163 (by decide) (by decide) (by decide) (by decide) (by decide)
  have j166 := jo 166 (by decide) (by decide) (by decide) (by decide) (by decide)
  have j167 := jo 167 (by decide) (by decide) (by decide) (by decide) (by decide)
  have hv := (bStand hD x0 x1 (hX x x0 x1) hs).2
  generalize mLv1 b x m = A at *
  have eM : ∀ y z p, bMm A y z p = bMm b y z p := fun y z p => by unfold bMm bC; rw [j163]
  have eTh : ∀ y p t, 0 ≤ y → y < 8 → 0 ≤ p → p < 8 → t ≤ m → (bTh A y p t ↔ bTh b y p t) := fun y p t y0 y1 p0 p1 ht => by
    unfold bTh bV
    rw [j165]
    by_cases k : 8 * y + p = 8 * x + wI b 161 x
    · have hv' : wI b 165 (8 * x + wI b 161 x) < 0 := hv
      rw [if_pos k, k]
      omega
    · rw [if_neg k]
  intro y z y0 y1 z0 z1
  have hy := h y z y0 y1 z0 z1
  have eP : bPr A y z ↔ bPr b y z := by unfold bPr; rw [j155]
  rw [eP, j166, j167]
  refine ⟨hy.1, fun hp => ?_⟩
  obtain ⟨h1, h2⟩ := hy.2 hp
  have eK : ∀ p, 0 ≤ p → p < 8 → (bK A y z p ↔ bK b y z p) := fun p p0 p1 => by
    have c1 := ((hX y y0 (by have := hp.1; omega)).1.2.2 p p0 p1).2.2.1
    have c2 := ((hX z z0 (by have := hp.1; omega)).1.2.2 p p0 p1).2.2.1
    have eO : ∀ y, bOt A y p ↔ bOt b y p := fun y => by unfold bOt bC bEn; rw [j155, j163]
    unfold bK
    rw [eM, eO, eO]
    constructor
    · rintro ⟨k1, k2, k3, k4⟩
      have hmm : bMm b y z p ≤ m := by
        have := c1 k1.1
        have := c2 k2.1
        unfold bMm
        split <;> omega
      exact ⟨k1, k2, (eTh y p _ y0 y1 p0 p1 hmm).mp k3, (eTh z p _ z0 z1 p0 p1 hmm).mp k4⟩
    · rintro ⟨k1, k2, k3, k4⟩
      have hmm : bMm b y z p ≤ m := by
        have := c1 k1.1
        have := c2 k2.1
        unfold bMm
        split <;> omega
      exact ⟨k1, k2, (eTh y p _ y0 y1 p0 p1 hmm).mpr k3, (eTh z p _ z0 z1 p0 p1 hmm).mpr k4⟩
  refine ⟨fun q p p0 p1 => by rw [eK p p0 p1]; exact h1 q p p0 p1, fun q => ?_⟩
  obtain ⟨k1, k2, k3⟩ := h2 q
  exact ⟨(eK _ k2.1 k2.2).mpr k1, k2, by rw [eM]; exact k3⟩
