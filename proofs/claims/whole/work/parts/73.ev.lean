/-! THE TWO DAYS: how many times something is up -/
def aD (x y : Int) : Int := if x ≤ y then y - x else x - y
def evS (b : sm_W) (t x : Int) : Int := if wI b 160 x = 3 then 0 else (if wI b 160 x = 2 then 2 * aD (mToS b x) (wI b 155 (17 + 5 * x + 1)) + 1 else 2 * aD (wI b 161 x) (wI b 155 (17 + 5 * x + 1)) - (if mReady b x ≤ t then 1 else 0))
theorem evS_sm {u b : sm_W} (h : bSm u b) (t x : Int) : evS u t x = evS b t x := by
  unfold evS mToS
  rw [h.rdy, h.1, h.2.1, h.2.2.1]
theorem evS_b {b : sm_W} {t x : Int} (hD : mDay b) (x0 : 0 ≤ x) (x1 : x < wI b 155 1) : 0 ≤ evS b t x ∧ evS b t x ≤ 15 := by
  have hs := hD.2 x x0 x1
  have hq := vOK_sh hD.1.2 x0 x1
  have hwp := mWay_pm (wI b 155) x
  unfold mSh at hs
  unfold evS mToS aD
  rcases hwp with ⟨hw, hlt⟩ | ⟨hw, hlt⟩ <;> rw [hw] <;> simp only [Int.reduceLT, if_true, if_false] <;> grind
theorem evS_come {b : sm_W} {t x : Int} (hD : mDay b) (hd : mDue b (t - 1)) (t0 : 0 ≤ t) (t1 : t ≤ 100000) (x0 : 0 ≤ x) (x1 : x < wI b 155 1) : evS (mCome b t (wI b 155 1)) t x ≤ evS b (t - 1) x ∧ (wI b 160 x ≠ 3 → bDue b x = t → evS (mCome b t (wI b 155 1)) t x + 1 ≤ evS b (t - 1) x) := by
  have hs := hD.2 x x0 x1
  have hq := vOK_sh hD.1.2 x0 x1
  have hdx := hd x x0 x1
  obtain ⟨e1, e2, e3⟩ := mCome_on (t := t) hD t0 t1 x0 x1 (Int.le_refl _)
  have ha := (mCome_inv (t := t) hD t0 t1 (wI b 155 1) (by omega) (Int.le_refl _)).2
  have hwp := mWay_pm (wI b 155) x
  unfold mSh at hs
  unfold evS bDue mReady mToS aD
  rw [e1, e2, e3, ha]
  by_cases c : wI b 160 x = 2 ∧ t - wI b 162 x = wI b 155 (10 + wI b 161 x)
  · obtain ⟨j160, j161, j162, j163, jo⟩ := mCm1_in c
    rw [j160, j161, j162]
    unfold mToS
    rcases hwp with ⟨hw, hlt⟩ | ⟨hw, hlt⟩ <;> rw [hw] <;> simp only [Int.reduceLT, if_true, if_false] <;> grind
  · rw [mCm1_no c]
    rcases hwp with ⟨hw, hlt⟩ | ⟨hw, hlt⟩ <;> rw [hw] <;> simp only [Int.reduceLT, if_true, if_false] <;> grind
theorem evS_lv1 {b : sm_W} {t x y : Int} (hD : mDay b) (x0 : 0 ≤ x) (x1 : x < wI b 155 1) (hs : wI b 160 x ≤ 1 ∧ mReady b x ≤ t) : evS (mLv1 b x t) t y = evS b t y := by
  have hb := mSt_b hD x0 x1 hs.1
  have hx := hD.2 x x0 x1
  have hq := vOK_sh hD.1.2 x0 x1
  have hwp := mWay_pm (wI b 155) x
  obtain ⟨j160, j161, j162, j165, j164, jo⟩ := mLv1_in b x t
  have j155 := jo 155 (by decide) (by decide) (by decide) (by decide) (by decide)
  unfold mSh at hx
  unfold evS mToS mReady aD at *
  rw [j160, j161, j162, j155]
  by_cases e : y = x
  · subst e
    have h5 := hx.2.2.2.1 hs.1
    have hs1 := hs.1
    have hs2 := hs.2
    unfold sFrom
    simp only [if_true]
    rw [if_neg (show ¬ (2 : Int) = 3 by decide), if_neg (show ¬ wI b 160 y = 3 by omega), if_neg (show ¬ wI b 160 y = 2 by omega), if_pos hs2]
    rcases hwp with ⟨hw, hlt⟩ | ⟨hw, hlt⟩ <;> rw [hw] <;> simp only [Int.reduceLT, if_true, if_false] <;> grind
  · simp only [e, if_false]
theorem evS_lv {t : Int} (t0 : 0 ≤ t) (t1 : t ≤ 100000) : ∀ (n : Nat) {b : sm_W}, mDay b → ∀ y, evS (mLv n b t) t y = evS b t y := by
  intro n
  induction n with
  | zero => exact fun _ _ => rfl
  | succ n ih =>
    intro b hD y
    rw [mLv_s]
    have hn := mNext_in b t (wI b 155 1) (vOK_many hD.1.2).1
    by_cases c : mNext b t (wI b 155 1) < 0
    · rw [if_pos c]
    · rw [if_neg c]
      have hc : 0 ≤ mNext b t (wI b 155 1) ∧ mNext b t (wI b 155 1) < wI b 155 1 ∧ mCan b (mNext b t (wI b 155 1)) t = 1 := by omega
      have hp := mCan_pre hc.2.2
      rw [ih (mLv1_day hD hc.1 hc.2.1 hp.1 t0 t1), evS_lv1 hD hc.1 hc.2.1 hp]
def evM (b : sm_W) (t : Int) : Int := sumI (evS b t) (wI b 155 1)
theorem evM_nn {b : sm_W} {t : Int} (hD : mDay b) : 0 ≤ evM b t ∧ evM b t ≤ 120 := by
  have hm := vOK_many hD.1.2
  have h1 := sumI_0 (f := evS b t) (wI b 155 1).toNat (fun x x0 x1 => (evS_b hD (by omega) (by omega)).1)
  have h2 := sumI_b (f := evS b t) (b := 15) (wI b 155 1).toNat (fun x x0 x1 => (evS_b hD (by omega) (by omega)).2)
  rw [Int.toNat_of_nonneg hm.1] at h1 h2
  unfold evM
  omega
theorem ev_min {b : sm_W} {t : Int} (hI : mInv b t) (t1 : t ≤ 100000) (x : Int) (x0 : 0 ≤ x) (x1 : x < wI b 155 1) : evS (mM6 b t) t x ≤ evS b (t - 1) x ∧ (wI b 160 x ≠ 3 → bDue b x = t → evS (mM6 b t) t x + 1 ≤ evS b (t - 1) x) := by
  obtain ⟨hD, hd, t0, hc⟩ := hI
  have hm := vOK_many hD.1.2
  obtain ⟨d1, e1, d2, e2, d3, e3, k3, d4, e4, c4, u4, _⟩ := mMin_st hD hd t0 t1 hc
  have s4 : bSm (mM6 b t) (mM3 b t) := (mM6_sm b t).tr (mM4_sm b t hm.1 k3)
  have h3 : evS (mM3 b t) t x = evS (mM2 b t) t x := evS_lv t0 t1 9 d2 x
  rw [evS_sm s4, h3, evS_sm (mM2_sm b t hm.1 e1)]
  exact evS_come hD hd t0 t1 x0 x1
theorem evM_min {b : sm_W} {t : Int} (hI : mInv b t) (t1 : t ≤ 100000) : evM (mM6 b t) t ≤ evM b (t - 1) ∧ ((∃ x, 0 ≤ x ∧ x < wI b 155 1 ∧ wI b 160 x ≠ 3 ∧ bDue b x = t) → evM (mM6 b t) t + 1 ≤ evM b (t - 1)) := by
  have hm := vOK_many hI.1.1.2
  have e6 := (mInv_next hI t1).2
  have hN := Int.toNat_of_nonneg hm.1
  unfold evM
  rw [e6]
  constructor
  · have := sumI_le (f := evS (mM6 b t) t) (g := evS b (t - 1)) (wI b 155 1).toNat (fun x x0 x1 => (ev_min hI t1 x (by omega) (by omega)).1)
    rw [hN] at this
    exact this
  · rintro ⟨x, x0, x1, h3, hd⟩
    have := sumI_lt (f := evS (mM6 b t) t) (g := evS b (t - 1)) x0 ((ev_min hI t1 x x0 x1).2 h3 hd) (wI b 155 1).toNat (by omega) (fun y y0 y1 => (ev_min hI t1 y (by omega) (by omega)).1)
    rw [hN] at this
    exact this
