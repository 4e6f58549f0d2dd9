/-! THE REFERENCE'S RECORDS: a minute's waits -/
theorem sumI_add (f g : Int → Int) {n : Int} (hn : 0 ≤ n) : sumI (fun x => f x + g x) n = sumI f n + sumI g n := by
  refine itI_ind (f := fun (x : Int) (r : Int) => r + (f x + g x)) (a := (0 : Int)) (fun i r => r = sumI f i + sumI g i) n rfl (fun i r i0 i1 k => ?_) n hn (Int.le_refl _)
  rw [sumI_s f i0, sumI_s g i0, k]
  omega
theorem sumI_one {f : Int → Int} {x e n : Int} (h0 : 0 ≤ x) (h1 : x < n) (hx : f x = e) (ho : ∀ y, y ≠ x → f y = 0) : sumI f n = e := by
  have h2 := sumI_upI (f := f) (g := fun _ => 0) (x := x) (e := e) h0 h1 (by rw [hx]; omega) ho
  rw [h2, sumI_z (by omega) (fun _ _ _ => rfl)]
  omega
theorem sumI_one' {f : Int → Int} {x e n : Int} (h0 : 0 ≤ x) (h1 : x < n) (hx : f x = e) (ho : ∀ y, 0 ≤ y → y < n → y ≠ x → f y = 0) : sumI f n = e := by
  have h2 := sumI_cgI (f := f) (g := fun y => if y = x then e else 0) (n := n) (by omega) (fun y y0 y1 => by
    by_cases k : y = x
    · rw [if_pos k, k, hx]
    · rw [if_neg k, ho y y0 y1 k])
  rw [h2]
  exact sumI_one (x := x) h0 h1 (by rw [if_pos rfl]) (fun y hy => by rw [if_neg hy])
def bAc (b : sm_W) (t x : Int) : Prop := wI b 160 x ≤ 1 ∧ mReady b x ≤ t
theorem mRs_123 (w : sm_W) (x : Int) : mRs w x = 1 ∨ mRs w x = 2 ∨ mRs w x = 3 := by
  unfold mRs
  split
  · exact Or.inr (Or.inr rfl)
  · split
    · exact Or.inl rfl
    · exact Or.inr (Or.inl rfl)
theorem mWt1_y {t x : Int} {w : sm_W} (h : wI w 160 x ≤ 1 ∧ mReady w x ≤ t) : (∀ k, wI (mWt1 t x w) 169 k = wI w 169 k + (if k = 4 * x + mRs w x then 1 else 0)) ∧ (∀ k, wI (mWt1 t x w) 168 k = wI w 168 k + (if 0 ≤ mWhoA w x ∧ k = 8 * x + mWhoA w x then 1 else 0)) ∧ (∀ k, wI (mWt1 t x w) 164 k = if k = 8 * x + wI w 161 x then mReady w x else wI w 164 k) := by
  unfold mWt1
  rw [if_pos h]
  by_cases c : 0 ≤ mWhoA w x
  · rw [if_pos c]
    refine ⟨fun k => ?_, fun k => ?_, fun k => ?_⟩
    · simp only [wI_wsI, Nat.reduceEqDiff, false_and, true_and, if_false]
      by_cases e : k = 4 * x + mRs w x
      · rw [if_pos e, if_pos e, e]
      · rw [if_neg e, if_neg e]; omega
    · simp only [wI_wsI, Nat.reduceEqDiff, false_and, true_and, if_false]
      by_cases e : k = 8 * x + mWhoA w x
      · rw [if_pos e, if_pos ⟨c, e⟩, e]
      · rw [if_neg e, if_neg (fun q => e q.2)]; omega
    · simp only [wI_wsI, Nat.reduceEqDiff, false_and, true_and, if_false]
  · rw [if_neg c]
    refine ⟨fun k => ?_, fun k => ?_, fun k => ?_⟩
    · simp only [wI_wsI, Nat.reduceEqDiff, false_and, true_and, if_false]
      by_cases e : k = 4 * x + mRs w x
      · rw [if_pos e, if_pos e, e]
      · rw [if_neg e, if_neg e]; omega
    · simp only [wI_wsI, Nat.reduceEqDiff, false_and, true_and, if_false]
      rw [if_neg (fun q => c q.1)]; omega
    · simp only [wI_wsI, Nat.reduceEqDiff, false_and, true_and, if_false]
theorem mWt1_n {t x : Int} {w : sm_W} (h : ¬ (wI w 160 x ≤ 1 ∧ mReady w x ≤ t)) : mWt1 t x w = w := by
  unfold mWt1
  rw [if_neg h]
/-- what a shuttle's own rows are behind a minute's waits -/
def mWx (w b : sm_W) (t x : Int) : Prop := (∀ r, 0 ≤ r → r < 4 → (bAc b t x → wI w 169 (4 * x + r) = wI b 169 (4 * x + r) + (if r = mRs b x then 1 else 0)) ∧ (¬ bAc b t x → wI w 169 (4 * x + r) = wI b 169 (4 * x + r))) ∧ ∀ s, 0 ≤ s → s < 8 → (bAc b t x → wI w 168 (8 * x + s) = wI b 168 (8 * x + s) + (if s = mWhoA b x then 1 else 0) ∧ wI w 164 (8 * x + s) = if s = wI b 161 x then mReady b x else wI b 164 (8 * x + s)) ∧ (¬ bAc b t x → wI w 168 (8 * x + s) = wI b 168 (8 * x + s) ∧ wI w 164 (8 * x + s) = wI b 164 (8 * x + s))
def mWo (w b : sm_W) (x : Int) : Prop := (∀ r, 0 ≤ r → r < 4 → wI w 169 (4 * x + r) = wI b 169 (4 * x + r)) ∧ ∀ s, 0 ≤ s → s < 8 → wI w 168 (8 * x + s) = wI b 168 (8 * x + s) ∧ wI w 164 (8 * x + s) = wI b 164 (8 * x + s)
theorem mWait_at {b : sm_W} {t : Int} (hD : mDay b) (n : Int) (n0 : 0 ≤ n) (n1 : n ≤ wI b 155 1) : bSm (mWait t b n) b ∧ (∀ x, 0 ≤ x → x < n → mWx (mWait t b n) b t x) ∧ ∀ x, n ≤ x → mWo (mWait t b n) b x := by
  have hm := vOK_many hD.1.2
  refine itI_ind (f := mWt1 t) (a := b) (fun i u => bSm u b ∧ (∀ x, 0 ≤ x → x < i → mWx u b t x) ∧ ∀ x, i ≤ x → mWo u b x) n ⟨⟨rfl, rfl, rfl, rfl, rfl, rfl⟩, fun x x0 x1 => by omega, fun x _ => ⟨fun _ _ _ => rfl, fun _ _ _ => ⟨rfl, rfl⟩⟩⟩ (fun i u i0 i1 hI => ?_) n n0 (Int.le_refl _)
  obtain ⟨hs, hd, ho⟩ := hI
  have sm := mWt1_same t i u
  have s2 : bSm (mWt1 t i u) u := ⟨sm.1 _ (by decide) (by decide) (by decide), sm.1 _ (by decide) (by decide) (by decide), sm.1 _ (by decide) (by decide) (by decide), sm.1 _ (by decide) (by decide) (by decide), sm.1 _ (by decide) (by decide) (by decide), sm.1 _ (by decide) (by decide) (by decide)⟩
  have eR : mReady u i = mReady b i := hs.rdy i
  have eWho : mWhoA u i = mWhoA b i := by unfold mWhoA mWho; rw [hs.1, hs.2.1, hs.2.2.1]
  have eRs : mRs u i = mRs b i := by unfold mRs; rw [eWho, hs.1]
  have e160 : wI u 160 = wI b 160 := hs.2.1
  have e161 : wI u 161 = wI b 161 := hs.2.2.1
  have hr := mRs_123 b i
  have hw := mWho_in b (sFrom (wI b 161 i) (mWay (wI b 155) i)) (wI b 155 1) hm.1
  have hwE : mWho b (sFrom (wI b 161 i) (mWay (wI b 155) i)) (wI b 155 1) = mWhoA b i := rfl
  rw [hwE] at hw
  have hsh := hD.2 i i0 (by omega)
  have hp : 0 ≤ wI b 161 i ∧ wI b 161 i ≤ 7 := by unfold mSh at hsh; exact hsh.2.1
  by_cases c : bAc b t i
  · obtain ⟨g1, g2, g3⟩ := mWt1_y (t := t) (x := i) (w := u) (by rw [e160, eR]; exact c)
    rw [eRs] at g1
    rw [eWho] at g2
    rw [e161, eR] at g3
    generalize mWt1 t i u = v at *
    refine ⟨s2.tr hs, fun x x0 x1 => ?_, fun x hx => ?_⟩
    · by_cases e : x = i
      · subst e
        have hoo := ho x (Int.le_refl _)
        refine ⟨fun r r0 r1 => ⟨fun _ => ?_, fun k => absurd c k⟩, fun s s0 s1 => ⟨fun _ => ⟨?_, ?_⟩, fun k => absurd c k⟩⟩
        · rw [g1, hoo.1 r r0 r1]
          by_cases q : r = mRs b x
          · rw [if_pos q, if_pos (by omega)]
          · rw [if_neg q, if_neg (by omega)]
        · rw [g2, (hoo.2 s s0 s1).1]
          by_cases q : s = mWhoA b x
          · rw [if_pos q, if_pos (by omega)]
          · rw [if_neg q, if_neg (by omega)]
        · rw [g3, (hoo.2 s s0 s1).2]
          by_cases q : s = wI b 161 x
          · rw [if_pos q, if_pos (by omega)]
          · rw [if_neg q, if_neg (by omega)]
      · have hxx := hd x x0 (by omega)
        unfold mWx at *
        refine ⟨fun r r0 r1 => ?_, fun s s0 s1 => ?_⟩
        · rw [g1, if_neg (show ¬ 4 * x + r = 4 * i + mRs b i by omega), Int.add_zero]
          exact hxx.1 r r0 r1
        · rw [g2, if_neg (show ¬ (0 ≤ mWhoA b i ∧ 8 * x + s = 8 * i + mWhoA b i) by omega), Int.add_zero, g3, if_neg (show ¬ 8 * x + s = 8 * i + wI b 161 i by omega)]
          exact hxx.2 s s0 s1
    · have hoo := ho x (by omega)
      refine ⟨fun r r0 r1 => ?_, fun s s0 s1 => ⟨?_, ?_⟩⟩
      · rw [g1, if_neg (show ¬ 4 * x + r = 4 * i + mRs b i by omega), Int.add_zero]
        exact hoo.1 r r0 r1
      · rw [g2, if_neg (show ¬ (0 ≤ mWhoA b i ∧ 8 * x + s = 8 * i + mWhoA b i) by omega), Int.add_zero]
        exact (hoo.2 s s0 s1).1
      · rw [g3, if_neg (show ¬ 8 * x + s = 8 * i + wI b 161 i by omega)]
        exact (hoo.2 s s0 s1).2
  · rw [mWt1_n (by rw [e160, eR]; exact c)]
    refine ⟨hs, fun x x0 x1 => ?_, fun x hx => ho x (by omega)⟩
    by_cases e : x = i
    · subst e
      have hoo := ho x (Int.le_refl _)
      exact ⟨fun r r0 r1 => ⟨fun k => absurd k c, fun _ => hoo.1 r r0 r1⟩, fun s s0 s1 => ⟨fun k => absurd k c, fun _ => hoo.2 s s0 s1⟩⟩
    · exact hd x x0 (by omega)
/-- where a shuttle stands it has not left, and it counts as standing there -/
theorem bStand {b : sm_W} {t x : Int} (hD : mDay b) (x0 : 0 ≤ x) (x1 : x < wI b 155 1) (h : pX b t x) (hs : wI b 160 x ≤ 1) : bStd b x (wI b 161 x) = 1 ∧ bV b x (wI b 161 x) < 0 := by
  have hb := mSt_b hD x0 x1 hs
  have hq := vOK_sh hD.1.2 x0 x1
  have p1 : pSt b x = wI b 161 x := by unfold pSt; rw [if_neg (by omega)]
  have g := h.1.2.2 _ hb.1.1 hb.1.2
  have h2 := h.1.1.1
  rw [p1] at g h2
  constructor
  · unfold bStd
    by_cases k : wI b 161 x = bBe b x
    · rw [if_pos k]
    · have hk : kP (bBe b x) (bEn b x) (wI b 161 x) ≠ kP (bBe b x) (bEn b x) (bBe b x) := fun q => k (kP_inj q)
      have hk0 : kP (bBe b x) (bEn b x) (bBe b x) = 0 := by unfold kP; split <;> omega
      have h3 := g.1.mpr (by omega)
      rw [if_neg k, if_neg (by omega), if_neg (show ¬ wI b 161 x = bEn b x from hb.2.2.2)]
  · have h3 := g.2.1
    rw [if_neg (show ¬ wI b 160 x = 2 by omega)] at h3
    omega
/-- who stood at a place and has not left it, stands there -/
theorem bStand_inv {b : sm_W} {t x p : Int} (hD : mDay b) (x0 : 0 ≤ x) (x1 : x < wI b 155 1) (h : pX b t x) (p0 : 0 ≤ p) (p1 : p < 8) (hs : bStd b x p ≠ 0) (hv : bV b x p < 0) : wI b 160 x ≤ 1 ∧ p = wI b 161 x := by
  have hq := vOK_sh hD.1.2 x0 x1
  have hsh := hD.2 x x0 x1
  unfold mSh at hsh
  have g := h.1.2.2 p p0 p1
  have h2 := h.1.1
  have hk0 : kP (bBe b x) (bEn b x) (bBe b x) = 0 := by unfold kP; split <;> omega
  have hB : bBe b x ≠ bEn b x := hq.2.2.1
  have hk : (p = bBe b x ∨ (0 ≤ bC b x p)) ∧ p ≠ bEn b x := by
    unfold bStd at hs
    by_cases k1 : p = bBe b x
    · exact ⟨Or.inl k1, by rw [k1]; exact hB⟩
    · rw [if_neg k1] at hs
      by_cases k2 : bC b x p < 0
      · rw [if_pos k2] at hs; exact absurd rfl hs
      · rw [if_neg k2] at hs
        refine ⟨Or.inr (by omega), fun k3 => ?_⟩
        rw [if_pos k3] at hs
        exact absurd rfl hs
  have hkp : 0 ≤ kP (bBe b x) (bEn b x) p ∧ kP (bBe b x) (bEn b x) p ≤ kP (bBe b x) (bEn b x) (pSt b x) := by
    rcases hk.1 with k | k
    · rw [k, hk0]; exact ⟨Int.le_refl _, h2.1⟩
    · have := g.1.mp k; omega
  have hnv : ¬ (kP (bBe b x) (bEn b x) p < kP (bBe b x) (bEn b x) (pSt b x) ∨ (kP (bBe b x) (bEn b x) p = kP (bBe b x) (bEn b x) (pSt b x) ∧ (if wI b 160 x = 2 then (1 : Int) else 0) = 1)) := fun k => by
    have := g.2.1.mpr ⟨hkp.1, k⟩
    omega
  have he : kP (bBe b x) (bEn b x) p = kP (bBe b x) (bEn b x) (pSt b x) := by omega
  have c2 : ¬ wI b 160 x = 2 := fun k => hnv (Or.inr ⟨he, by rw [if_pos k]⟩)
  have hps := kP_inj he
  have hp2 : pSt b x = wI b 161 x := by unfold pSt; rw [if_neg c2]
  have c3 : ¬ wI b 160 x = 3 := fun k => hk.2 (by rw [hps, hp2]; exact hsh.2.2.2.2.2 k)
  exact ⟨by omega, by rw [hps, hp2]⟩
theorem bOn_iff {b : sm_W} {m y s : Int} (hD : mDay b) (hd : mDue b m) (y0 : 0 ≤ y) (y1 : y < wI b 155 1) (h : pX b m y) (s0 : 0 ≤ s) (s1 : s < 7) : bOn b y s ↔ 0 ≤ bV b y (bBh b y s) ∧ m < bV b y (bBh b y s) + bRu b s := by
  constructor
  · intro k
    have hp : pSt b y = bBh b y s := by unfold pSt bBh; rw [if_pos k.1, k.2]
    have hsi := h.2.2.2 k.1
    have hdu := hd y y0 y1 k.1
    rw [k.2] at hdu
    have g := (h.1.2.2 (bBh b y s) (by unfold bBh; split <;> omega) (by unfold bBh; split <;> omega)).2.1
    rw [hp] at g hsi
    have hv := g.mpr ⟨by have := h.1.1.1; rw [hp] at this; exact this, Or.inr ⟨rfl, by rw [if_pos k.1]⟩⟩
    refine ⟨hv, ?_⟩
    unfold bRu
    omega
  · rintro ⟨k1, k2⟩
    apply Classical.byContradiction
    intro k
    have := pX_gone hD y0 y1 h s0 s1 k1 k
    omega
theorem bMn_in {b : sm_W} {m y s fr : Int} (hD : mDay b) (hd : mDue b m) (y0 : 0 ≤ y) (y1 : y < wI b 155 1) (h : pX b m y) (s0 : 0 ≤ s) (s1 : s < 7) : (bOn b y s ∧ fr ≤ m → bMn b y s fr (m + 1) = bMn b y s fr m + 1) ∧ (¬ (bOn b y s ∧ fr ≤ m) → bMn b y s fr (m + 1) = bMn b y s fr m) := by
  have hi := bOn_iff hD hd y0 y1 h s0 s1
  rw [hi]
  have g := (h.1.2.2 (bBh b y s) (by unfold bBh; split <;> omega) (by unfold bBh; split <;> omega)).2.2.2
  have hru := vOK_ru hD.1.2 s0 s1
  unfold bMn xMnA
  unfold bRu at *
  generalize bV b y (bBh b y s) = v at *
  generalize wI b 155 (10 + s) = r at *
  have g := fun k => (g k).2
  clear hi h
  constructor <;> intro k <;> grind
