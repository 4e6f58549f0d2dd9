/-! ANSWERS: places, and reasons -/
theorem mLeftB_V (R : sm_W) (x s t : Int) : mLeftB R x s t = if bV R x s < 0 then 0 else (if t < bV R x s then 0 else 1) := rfl
/-- at the end of a day who has left a station has come to the next one -/
theorem fin_V {A R : sm_W} {d : Nat} (h : rEq A d R) {x p : Int} (x0 : 0 ≤ x) (x1 : x < wI R 155 1) (k0 : 0 ≤ kP (bBe R x) (bEn R x) p) (k1 : kP (bBe R x) (bEn R x) p < kP (bBe R x) (bEn R x) (bEn R x)) : (0 ≤ bV R x p ↔ 0 ≤ bC R x (p + mWay (wI R 155) x)) ∧ (0 ≤ bV R x p → bC R x (p + mWay (wI R 155) x) = bV R x p + bRu R (sFrom p (mWay (wI R 155) x))) ∧ (1 ≤ bRu R (sFrom p (mWay (wI R 155) x))) ∧ ((0 ≤ p ∧ p < 8) ∧ (0 ≤ p + mWay (wI R 155) x ∧ p + mWay (wI R 155) x < 8) ∧ (0 ≤ sFrom p (mWay (wI R 155) x) ∧ sFrom p (mWay (wI R 155) x) < 7)) ∧ kP (bBe R x) (bEn R x) (p + mWay (wI R 155) x) = kP (bBe R x) (bEn R x) p + 1 := by
  have hq := rEq_q h x0 x1
  have hx := rEq_X h x0 x1
  have hk := kP_st (B := bBe R x) (E := bEn R x) (st := p) hq.2.2 hq.1.1 hq.1.2 hq.2.1.1 hq.2.1.2 k0 k1
  rw [← mWay_kW] at hk
  have hsf : 0 ≤ sFrom p (mWay (wI R 155) x) ∧ sFrom p (mWay (wI R 155) x) < 7 := by
    rw [mWay_kW] at *
    unfold sFrom kW kP at *
    split <;> split at k0 <;> split at k1 <;> omega
  have hru := vOK_ru h.1.2.1.1.2 hsf.1 hsf.2
  have hn2 := (h.1.2.2.2.2.2 x x0 x1).1
  have g1 := hx.1.2.2 p hk.2.1.1 hk.2.1.2
  have g2 := hx.1.2.2 _ hk.2.2.1.1 hk.2.2.1.2
  have e1 : (if wI R 160 x = 2 then (1 : Int) else 0) = 0 := if_neg hn2
  have hV : 0 ≤ bV R x p ↔ 0 ≤ bC R x (p + mWay (wI R 155) x) := by
    rw [g1.2.1, g2.1, hk.1, e1]
    omega
  refine ⟨hV, fun k => ?_, hru.1, ⟨hk.2.1, hk.2.2.1, hsf⟩, hk.1⟩
  have := (g2.2.2.1 (hV.mp k)).2
  rw [this, ← mWay_kW, show p + mWay (wI R 155) x - mWay (wI R 155) x = p by omega]
/-- stations come to one after another -/
theorem fin_ord {A R : sm_W} {d : Nat} (h : rEq A d R) {x s r : Int} (x0 : 0 ≤ x) (x1 : x < wI R 155 1) (s0 : 0 ≤ s) (s1 : s < 8) (r0 : 0 ≤ r) (r1 : r < 8) (hlt : kP (bBe R x) (bEn R x) s < kP (bBe R x) (bEn R x) r) (hs : 0 ≤ kP (bBe R x) (bEn R x) s) (hC : 0 ≤ bC R x r) : 0 ≤ bV R x s ∧ bV R x s < bC R x r := by
  have hq := rEq_q h x0 x1
  have hx := rEq_X h x0 x1
  have hv := vOK_sh h.1.2.1.1.2 x0 x1
  exact pP_ord hq.2.2 hq.1.1 hq.1.2 hq.2.1.1 hq.2.1.2 (by omega) (fun k k0 k1 => (vOK_ru h.1.2.1.1.2 k0 k1).1) hx.1 (kP (bBe R x) (bEn R x) r).toNat s r s0 s1 r0 r1 hlt (by omega) hs hC
theorem an_PlL {A R : sm_W} {d : Nat} (h : rEq A d R) {x t : Int} (x0 : 0 ≤ x) (x1 : x < wI R 155 1) : ∀ (n m : Nat) (p : Int), 0 ≤ kP (bBe R x) (bEn R x) p → kP (bBe R x) (bEn R x) p + n = kP (bBe R x) (bEn R x) (bEn R x) → n < m → xPlL n A d x t p = (if mLeftB R x (mStn m R x t p) t = 0 then 2 * mStn m R x t p else 2 * sFrom (mStn m R x t p) (mWay (wI R 155) x) + 1) := by
  have hq := rEq_q h x0 x1
  have hx := rEq_X h x0 x1
  have hl := rEq_L h x0 x1
  intro n
  induction n with
  | zero =>
    intro m p k0 k1 hm
    obtain ⟨m, rfl⟩ : ∃ j, m = j + 1 := ⟨m - 1, by omega⟩
    have hp : p = bEn R x := kP_inj (B := bBe R x) (E := bEn R x) (by omega)
    have e : mStn (m + 1) R x t p = p := by rw [mStn_s, if_pos (show p = wI R 155 (17 + 5 * x + 1) from hp)]
    have g := (hx.1.2.2 p (by omega) (by omega)).2.1
    have e1 : (if wI R 160 x = 2 then (1 : Int) else 0) = 0 := if_neg (h.1.2.2.2.2.2 x x0 x1).1
    rw [e1] at g
    have h2 := hx.1.1.2
    have hV : wI R 165 (8 * x + p) < 0 := by
      apply Classical.byContradiction
      intro k
      have := g.mp (show 0 ≤ bV R x p by unfold bV; omega)
      rw [hp] at this
      omega
    rw [e]
    have e2 : mLeftB R x p t = 0 := by unfold mLeftB; rw [if_pos hV]
    rw [if_pos e2]
    rfl
  | succ n ih =>
    intro m p k0 k1 hm
    obtain ⟨m, rfl⟩ : ∃ j, m = j + 1 := ⟨m - 1, by omega⟩
    have f := fin_V h x0 x1 k0 (by omega)
    have hpE : ¬ p = wI R 155 (17 + 5 * x + 1) := fun k => by
      have : kP (bBe R x) (bEn R x) p = kP (bBe R x) (bEn R x) (bEn R x) := by rw [k]; rfl
      omega
    have eV := (rEq_C h x0 x1 f.2.2.2.1.1.1 f.2.2.2.1.1.2).2
    have eC := (rEq_C h x0 x1 f.2.2.2.1.2.1.1 f.2.2.2.1.2.1.2).1
    have eCw : wI R 163 (8 * x + (p + mWay (wI R 155) x)) = bC R x (p + mWay (wI R 155) x) := rfl
    rw [xPlL_s, hl.2.2.2.2.1, eV, eC, mStn_s, if_neg hpE, eCw]
    have f3 := f.2.2.1
    by_cases c1 : bV R x p < 0
    · rw [if_pos c1]
      have c2 : bC R x (p + mWay (wI R 155) x) < 0 := by
        apply Classical.byContradiction
        intro k
        have := f.1.mpr (by omega)
        omega
      rw [if_pos c2]
      have e2 : mLeftB R x p t = 0 := by rw [mLeftB_V, if_pos c1]
      rw [if_pos e2]
    · have f1 := f.1.mp (by omega)
      have f2 := f.2.1 (by omega)
      rw [if_neg c1, if_neg (show ¬ bC R x (p + mWay (wI R 155) x) < 0 by omega)]
      by_cases c2 : t < bV R x p
      · rw [if_pos c2, if_pos (show t < bC R x (p + mWay (wI R 155) x) by omega)]
        have e2 : mLeftB R x p t = 0 := by rw [mLeftB_V, if_neg c1, if_pos c2]
        rw [if_pos e2]
      · rw [if_neg c2]
        by_cases c3 : t < bC R x (p + mWay (wI R 155) x)
        · rw [if_pos c3, if_pos c3]
          have e2 : mLeftB R x p t = 1 := by rw [mLeftB_V, if_neg c1, if_neg c2]
          rw [if_neg (by rw [e2]; decide)]
        · rw [if_neg c3, if_neg c3]
          exact ih m _ (by omega) (by omega) (by omega)
theorem an_Pl {A R : sm_W} {d : Nat} (h : rEq A d R) {x t : Int} (x0 : 0 ≤ x) (x1 : x < wI R 155 1) : xPl A d x t = mPlace R x t := by
  have hq := rEq_q h x0 x1
  have hl := rEq_L h x0 x1
  have hk0 : kP (bBe R x) (bEn R x) (bBe R x) = 0 := by unfold kP; split <;> omega
  have e1 : xLegs A d x = kP (bBe R x) (bEn R x) (bEn R x) := by
    unfold xLegs kP
    rw [hl.1, hl.2.1]
    split <;> split <;> omega
  have hkE : 0 ≤ kP (bBe R x) (bEn R x) (bEn R x) ∧ kP (bBe R x) (bEn R x) (bEn R x) < 8 := by unfold kP; split <;> omega
  unfold xPl
  rw [e1, hl.1, an_PlL h x0 x1 (kP (bBe R x) (bEn R x) (bEn R x)).toNat 8 (bBe R x) (by omega) (by omega) (by omega)]
  rfl
/-- the station of a minute -/
def stP (R : sm_W) (x t s : Int) : Prop := (0 ≤ kP (bBe R x) (bEn R x) s ∧ kP (bBe R x) (bEn R x) s ≤ kP (bBe R x) (bEn R x) (bEn R x)) ∧ (s = bBe R x ∨ (0 ≤ bC R x s ∧ bC R x s ≤ t)) ∧ (s = bEn R x ∨ bC R x (s + mWay (wI R 155) x) < 0 ∨ t < bC R x (s + mWay (wI R 155) x))
theorem stn_P {A R : sm_W} {d : Nat} (h : rEq A d R) {x t : Int} (x0 : 0 ≤ x) (x1 : x < wI R 155 1) : ∀ (m : Nat) (p : Int), 0 ≤ kP (bBe R x) (bEn R x) p → kP (bBe R x) (bEn R x) p ≤ kP (bBe R x) (bEn R x) (bEn R x) → kP (bBe R x) (bEn R x) (bEn R x) < kP (bBe R x) (bEn R x) p + m → (p = bBe R x ∨ (0 ≤ bC R x p ∧ bC R x p ≤ t)) → stP R x t (mStn m R x t p) := by
  intro m
  induction m with
  | zero => intro p k0 k1 k2 _; omega
  | succ m ih =>
    intro p k0 k1 k2 hp
    rw [mStn_s]
    by_cases c : p = wI R 155 (17 + 5 * x + 1)
    · rw [if_pos c]
      exact ⟨⟨k0, k1⟩, hp, Or.inl c⟩
    · rw [if_neg c]
      have hne : kP (bBe R x) (bEn R x) p ≠ kP (bBe R x) (bEn R x) (bEn R x) := fun k => c (kP_inj k)
      have f := fin_V h x0 x1 k0 (by omega)
      have eCw : wI R 163 (8 * x + (p + mWay (wI R 155) x)) = bC R x (p + mWay (wI R 155) x) := rfl
      rw [eCw]
      by_cases c1 : bC R x (p + mWay (wI R 155) x) < 0
      · rw [if_pos c1]
        exact ⟨⟨k0, k1⟩, hp, Or.inr (Or.inl c1)⟩
      · rw [if_neg c1]
        by_cases c2 : t < bC R x (p + mWay (wI R 155) x)
        · rw [if_pos c2]
          exact ⟨⟨k0, k1⟩, hp, Or.inr (Or.inr c2)⟩
        · rw [if_neg c2]
          exact ih _ (by omega) (by omega) (by omega) (Or.inr ⟨by omega, by omega⟩)
theorem stat_P {A R : sm_W} {d : Nat} (h : rEq A d R) {x t : Int} (x0 : 0 ≤ x) (x1 : x < wI R 155 1) : stP R x t (mStat R x t) := by
  have hq := rEq_q h x0 x1
  have hk0 : kP (bBe R x) (bEn R x) (bBe R x) = 0 := by unfold kP; split <;> omega
  have hkE : 0 ≤ kP (bBe R x) (bEn R x) (bEn R x) ∧ kP (bBe R x) (bEn R x) (bEn R x) < 8 := by unfold kP; split <;> omega
  exact stn_P h x0 x1 8 (bBe R x) (by omega) (by omega) (by omega) (Or.inl rfl)
theorem kP_rng {B E s : Int} (b0 : 0 ≤ B) (b1 : B < 8) (e0 : 0 ≤ E) (e1 : E < 8) (h0 : 0 ≤ kP B E s) (h1 : kP B E s ≤ kP B E E) : 0 ≤ s ∧ s < 8 := by
  unfold kP at *
  split at h0 <;> omega
theorem stP_u {A R : sm_W} {d : Nat} (h : rEq A d R) {x t s q : Int} (x0 : 0 ≤ x) (x1 : x < wI R 155 1) (hs : stP R x t s) (hq : stP R x t q) : s = q := by
  have hb := rEq_q h x0 x1
  have hk0 : kP (bBe R x) (bEn R x) (bBe R x) = 0 := by unfold kP; split <;> omega
  -- of two such stations none is farther
  have key : ∀ s q, stP R x t s → stP R x t q → ¬ kP (bBe R x) (bEn R x) s < kP (bBe R x) (bEn R x) q := fun s q hs hq hlt => by
    have f := fin_V h x0 x1 hs.1.1 (by have := hq.1.2; omega)
    have rs := kP_rng hb.1.1 hb.1.2 hb.2.1.1 hb.2.1.2 hs.1.1 hs.1.2
    have rq := kP_rng hb.1.1 hb.1.2 hb.2.1.1 hb.2.1.2 hq.1.1 hq.1.2
    have hsE : s ≠ bEn R x := fun k => by rw [k] at hlt; have := hq.1.2; omega
    have hs0 := hs.1.1
    have hkn := f.2.2.2.2
    have hCq : 0 ≤ bC R x q ∧ bC R x q ≤ t := by
      rcases hq.2.1 with k | k
      · rw [k, hk0] at hlt; have := hs.1.1; omega
      · exact k
    by_cases e : kP (bBe R x) (bEn R x) q = kP (bBe R x) (bEn R x) s + 1
    · have : q = s + mWay (wI R 155) x := kP_inj (B := bBe R x) (E := bEn R x) (by rw [e]; exact f.2.2.2.2.symm)
      rw [this] at hCq
      rcases hs.2.2 with k | k | k
      · exact hsE k
      · omega
      · omega
    · have o := fin_ord h x0 x1 f.2.2.2.1.2.1.1 f.2.2.2.1.2.1.2 rq.1 rq.2 (s := s + mWay (wI R 155) x) (by omega) (by omega) hCq.1
      have hCn : 0 ≤ bC R x (s + mWay (wI R 155) x) := by
        have hx := rEq_X h x0 x1
        have g := (hx.1.2.2 _ f.2.2.2.1.2.1.1 f.2.2.2.1.2.1.2).1
        have g2 := ((hx.1.2.2 q rq.1 rq.2).1).mp hCq.1
        exact g.mpr (by omega)
      have hx := rEq_X h x0 x1
      have g4 := (hx.1.2.2 _ f.2.2.2.1.2.1.1 f.2.2.2.1.2.1.2).2.2.2 o.1
      have hnB : ¬ s + mWay (wI R 155) x = bBe R x := fun k => by
        have := f.2.2.2.2
        rw [k, hk0] at this
        have := hs.1.1
        omega
      rw [if_neg hnB] at g4
      have hsp := (vOK_sh h.1.2.1.1.2 x0 x1).2.2.2.2.1
      rcases hs.2.2 with k | k | k
      · exact hsE k
      · omega
      · omega
  have k1 := key s q hs hq
  have k2 := key q s hq hs
  exact kP_inj (B := bBe R x) (E := bEn R x) (by omega)
/-- a shuttle on a stretch in a minute -/
theorem an_On {A R : sm_W} {d : Nat} (h : rEq A d R) {y S t : Int} (y0 : 0 ≤ y) (y1 : y < wI R 155 1) (s0 : 0 ≤ S) (s1 : S < 7) : (mPlace R y t = 2 * S + 1 ↔ 0 ≤ bV R y (bBh R y S) ∧ bV R y (bBh R y S) ≤ t ∧ t < bV R y (bBh R y S) + bRu R S) ∧ (0 < xMn A d y S t (t + 1) ↔ 0 ≤ bV R y (bBh R y S) ∧ bV R y (bBh R y S) ≤ t ∧ t < bV R y (bBh R y S) + bRu R S) := by
  have hq := rEq_q h y0 y1
  have hx := rEq_X h y0 y1
  have hw := mWay_pm (wI R 155) y
  have hst := stat_P h (t := t) y0 y1
  have hb : 0 ≤ bBh R y S ∧ bBh R y S < 8 := by unfold bBh; split <;> omega
  have hk0 : kP (bBe R y) (bEn R y) (bBe R y) = 0 := by unfold kP; split <;> omega
  have hsf : sFrom (bBh R y S) (mWay (wI R 155) y) = S := by
    unfold sFrom bBh
    rcases hw with ⟨hw, hlt⟩ | ⟨hw, hlt⟩ <;> rw [hw] <;> simp only [Int.reduceLT, if_true, if_false] <;> omega
  have hVk : 0 ≤ bV R y (bBh R y S) → 0 ≤ kP (bBe R y) (bEn R y) (bBh R y S) ∧ kP (bBe R y) (bEn R y) (bBh R y S) < kP (bBe R y) (bEn R y) (bEn R y) := fun k => by
    have e1 : (if wI R 160 y = 2 then (1 : Int) else 0) = 0 := if_neg (h.1.2.2.2.2.2 y y0 y1).1
    have g := (hx.1.2.2 _ hb.1 hb.2).2.1.mp k
    rw [e1] at g
    have := hx.1.1.2
    omega
  constructor
  · unfold mPlace
    constructor
    · intro k
      by_cases c : mLeftB R y (mStat R y t) t = 0
      · rw [if_pos c] at k; omega
      · rw [if_neg c] at k
        have hS : sFrom (mStat R y t) (mWay (wI R 155) y) = S := by omega
        have hE : mStat R y t = bBh R y S := by
          unfold sFrom bBh at *
          rcases hw with ⟨hw, hlt⟩ | ⟨hw, hlt⟩ <;> rw [hw] at hS ⊢ <;> simp only [Int.reduceLT, if_true, if_false] at hS ⊢ <;> omega
        rw [hE] at c hst
        have hV : ¬ bV R y (bBh R y S) < 0 ∧ ¬ t < bV R y (bBh R y S) := by
          rw [mLeftB_V] at c
          refine ⟨fun q => c ?_, fun q => c ?_⟩
          · rw [if_pos q]
          · split
            · rfl
            · first
                | rfl
                | rw [if_pos q]
        have hv := hVk (by omega)
        have f := fin_V h y0 y1 hv.1 hv.2
        have f2 := f.2.1 (by omega)
        have f1 := f.1.mp (by omega)
        rw [hsf] at f2
        refine ⟨by omega, by omega, ?_⟩
        rcases hst.2.2 with q | q | q
        · rw [q] at hv; omega
        · omega
        · omega
    · rintro ⟨v0, v1, v2⟩
      have hv := hVk v0
      have f := fin_V h y0 y1 hv.1 hv.2
      have f2 := f.2.1 v0
      have f1 := f.1.mp v0
      rw [hsf] at f2
      have hP : stP R y t (bBh R y S) := by
        refine ⟨⟨hv.1, by omega⟩, ?_, Or.inr (Or.inr (by omega))⟩
        by_cases e : bBh R y S = bBe R y
        · exact Or.inl e
        · right
          have g := hx.1.2.2 _ hb.1 hb.2
          have g4 := g.2.2.2 v0
          rw [if_neg e] at g4
          have hne : kP (bBe R y) (bEn R y) (bBh R y S) ≠ kP (bBe R y) (bEn R y) (bBe R y) := fun k => e (kP_inj k)
          have e1 : (if wI R 160 y = 2 then (1 : Int) else 0) = 0 := if_neg (h.1.2.2.2.2.2 y y0 y1).1
          have g2 := g.2.1.mp v0
          rw [e1] at g2
          have g1 := g.1.mpr (by omega)
          have hsp := (vOK_sh h.1.2.1.1.2 y0 y1).2.2.2.2.1
          omega
      have hE := stP_u h y0 y1 hst hP
      have e2 : mLeftB R y (mStat R y t) t = 1 := by
        unfold mLeftB
        rw [hE]
        have v0' : ¬ wI R 165 (8 * y + bBh R y S) < 0 := by unfold bV at v0; omega
        have v1' : ¬ t < wI R 165 (8 * y + bBh R y S) := by unfold bV at v1; omega
        rw [if_neg v0', if_neg v1']
      rw [if_neg (by rw [e2]; decide), hE, hsf]
  · rw [an_Mn h y0 y1 s0 s1]
    have hru := vOK_ru h.1.2.1.1.2 s0 s1
    unfold bMn xMnA
    unfold bRu
    generalize bV R y (bBh R y S) = v at *
    generalize wI R 155 (10 + S) = r at *
    clear hVk hst hx hsf
    grind
