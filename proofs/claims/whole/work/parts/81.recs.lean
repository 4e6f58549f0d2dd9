/-! THE REFERENCE'S RECORDS: all of them, minute by minute -/
def rI (b : sm_W) (t : Int) : Prop := (∀ x, 0 ≤ x → x < wI b 155 1 → pX b (t - 1) x) ∧ pDJ b ∧ pWt b (t - 1) ∧ pMt b
theorem pX_sm {b u : sm_W} {t x : Int} (h : bSm u b) (k : pX b t x) : pX u t x := by
  unfold pX bBe bEn bRu bC bV pSt at *
  rw [h.1, h.2.1, h.2.2.1, h.2.2.2.1, h.2.2.2.2.1, h.2.2.2.2.2]
  exact k
/-- come -/
theorem rI_come {b : sm_W} {m : Int} (hD : mDay b) (m0 : 0 ≤ m) (m1 : m ≤ 100000) (hX : ∀ y, 0 ≤ y → y < wI b 155 1 → pX b m y) (hJ : pDJ b) (hW : pWt b (m - 1)) (n : Int) (n0 : 0 ≤ n) (n1 : n ≤ wI b 155 1) : (∀ y, 0 ≤ y → y < wI b 155 1 → pX (mCome b m n) m y) ∧ pDJ (mCome b m n) ∧ pWt (mCome b m n) (m - 1) ∧ bCo b (mCome b m n) m := by
  have key : ∀ k : Nat, (k : Int) ≤ wI b 155 1 → (∀ y, 0 ≤ y → y < wI b 155 1 → pX (mCome b m k) m y) ∧ pDJ (mCome b m k) ∧ pWt (mCome b m k) (m - 1) ∧ bCo b (mCome b m k) m := by
    intro k
    induction k with
    | zero => exact fun _ => ⟨hX, hJ, hW, rfl, rfl, rfl, rfl, fun _ _ _ _ _ _ => Or.inl rfl⟩
    | succ k ih =>
      intro hk
      obtain ⟨h1, h2, h3, h4⟩ := ih (by omega)
      have e : ((k + 1 : Nat) : Int) = (k : Int) + 1 := by omega
      have e2 : mCome b m ((k : Int) + 1) = mCm1 m k (mCome b m k) := itI_s _ _ (by omega)
      have hI := mCome_inv hD m0 m1 k (by omega) (by omega)
      rw [e, e2]
      have h1' : ∀ y, 0 ≤ y → y < wI (mCome b m k) 155 1 → pX (mCome b m k) m y := fun y y0 y1 => h1 y y0 (by rw [← hI.2]; exact y1)
      have k1 : (k : Int) < wI (mCome b m k) 155 1 := by rw [hI.2]; omega
      have hc := bCo_cm1 hI.1 (x := k) (by omega) k1 (h1' k (by omega) k1)
      exact ⟨fun y y0 y1 => pX_cm1 hI.1 m0 (by omega) k1 h1' y y0 (by rw [hI.2]; exact y1), pDJ_sm h2 hc.1 hc.2.1, pWt_cm1 hI.1 m0 (by omega) k1 h1' h3, h4.tr m0 hc⟩
  have := key n.toNat (by omega)
  rw [Int.toNat_of_nonneg n0] at this
  exact this
/-- leave -/
theorem rI_lv {m : Int} (m0 : 0 ≤ m) (m1 : m ≤ 100000) : ∀ (n : Nat) (b : sm_W), mDay b → (∀ y, 0 ≤ y → y < wI b 155 1 → pX b m y) → pDJ b → pWt b (m - 1) → pMt b → (∀ y, 0 ≤ y → y < wI b 155 1 → pX (mLv n b m) m y) ∧ pDJ (mLv n b m) ∧ pWt (mLv n b m) (m - 1) ∧ pMt (mLv n b m) := by
  intro n
  induction n with
  | zero => exact fun b _ h1 h2 h3 h4 => ⟨h1, h2, h3, h4⟩
  | succ n ih =>
    intro b hD h1 h2 h3 h4
    rw [mLv_s]
    have hn := mNext_in b m (wI b 155 1) (vOK_many hD.1.2).1
    by_cases c : mNext b m (wI b 155 1) < 0
    · rw [if_pos c]
      exact ⟨h1, h2, h3, h4⟩
    · rw [if_neg c]
      have hc : 0 ≤ mNext b m (wI b 155 1) ∧ mNext b m (wI b 155 1) < wI b 155 1 ∧ mCan b (mNext b m (wI b 155 1)) m = 1 := by omega
      have hp := mCan_pre hc.2.2
      have hX := pX_lv1 hD m0 hc.1 hc.2.1 hp.1 hp.2 h1
      have := ih _ (mLv1_day hD hc.1 hc.2.1 hp.1 m0 m1) hX (pDJ_lv1 hD hc.1 hc.2.1 hc.2.2 h1 h2) (pWt_lv1 hD m0 hc.1 hc.2.1 hp.1 hp.2 h1 h3) (pMt_lv1 hD hc.1 hc.2.1 hp.1 h1 h4)
      exact this
theorem pDJ_uq {b : sm_W} {m : Int} (hD : mDay b) (hd : mDue b m) (hX : ∀ y, 0 ≤ y → y < wI b 155 1 → pX b m y) (h : pDJ b) : rUq b := by
  intro x y x0 x1 y0 y1 hx hy he
  apply Classical.byContradiction
  intro hne
  have hs := hD.2 x x0 x1
  have hq := vOK_sh hD.1.2 x0 x1
  have s0 : 0 ≤ wI b 161 x ∧ wI b 161 x < 7 := (mToS_b hD x0 x1 hx).2.1
  have ox := (bOn_iff hD hd x0 x1 (hX x x0 x1) s0.1 s0.2).mp ⟨hx, rfl⟩
  have oy := (bOn_iff hD hd y0 y1 (hX y y0 y1) s0.1 s0.2).mp ⟨hy, he.symm⟩
  have tx := ((hX x x0 x1).1.2.2 (bBh b x (wI b 161 x)) (by unfold bBh; split <;> omega) (by unfold bBh; split <;> omega)).2.2.2 ox.1
  have ty := ((hX y y0 y1).1.2.2 (bBh b y (wI b 161 x)) (by unfold bBh; split <;> omega) (by unfold bBh; split <;> omega)).2.2.2 oy.1
  have := h x y x0 x1 y0 y1 hne _ s0.1 s0.2 ox.1 oy.1
  omega
theorem rI_min {b : sm_W} {t : Int} (hI : mInv b t) (t1 : t ≤ 100000) (h : rI b t) : rI (mM6 b t) (t + 1) := by
  obtain ⟨hD, hd, t0, hc⟩ := hI
  have hm := vOK_many hD.1.2
  obtain ⟨d1, e1, d2, e2, d3, e3, k3, d4, e4, c4, u4, _⟩ := mMin_st hD hd t0 t1 hc
  obtain ⟨h1, h2, h3, h4⟩ := h
  obtain ⟨i1, i2, i3, i4⟩ := rI_come hD t0 t1 (fun y y0 y1 => pX_mono (h1 y y0 y1) (by omega)) h2 h3 (wI b 155 1) hm.1 (Int.le_refl _)
  have eM1 : mCome b t (wI b 155 1) = mM1 b t := rfl
  rw [eM1] at i1 i2 i3 i4
  have s2 := mM2_sm b t hm.1 e1
  have same2 := (mMeet_same t (mM1 b t) (wI b 155 1) hm.1 (by rw [e1]; exact Int.le_refl _)).1
  have eM2 : mMeet t (mM1 b t) (wI b 155 1) = mM2 b t := rfl
  rw [eM2] at same2
  have j1 : ∀ y, 0 ≤ y → y < wI (mM2 b t) 155 1 → pX (mM2 b t) t y := fun y y0 y1 => pX_sm s2 (i1 y y0 (by rw [← e2]; exact y1))
  have j3 : pWt (mM2 b t) (t - 1) := pWt_sm s2 (same2 164 (by decide) (by decide)) (same2 168 (by decide) (by decide)) (same2 169 (by decide) (by decide)) i3
  have j4 : pMt (mM2 b t) := by
    have := pMt_meet d1 t0 i4 h1 (fun y y0 y1 => i1 y y0 (by rw [← e1]; exact y1)) h4
    rw [e1] at this
    exact this
  have l := rI_lv t0 t1 9 (mM2 b t) d2 j1 (pDJ_sm i2 s2.1 s2.2.2.2.2.2) j3 j4
  have eM3 : mLv 9 (mM2 b t) t = mM3 b t := rfl
  rw [eM3] at l
  have l1 : ∀ y, 0 ≤ y → y < wI (mM3 b t) 155 1 → pX (mM3 b t) t y := fun y y0 y1 => l.1 y y0 (by rw [e2, ← e3]; exact y1)
  have s4 := mM4_sm b t hm.1 k3
  have same4 := (mWait_inv (t := t) k3 (wI b 155 1) hm.1).1.1
  have eM4 : mWait t (mM3 b t) (wI b 155 1) = mM4 b t := rfl
  rw [eM4] at same4
  have d3u : mDue (mM3 b t) t := mDue_same s4.1.symm s4.2.1.symm s4.2.2.1.symm s4.2.2.2.1.symm u4
  have uq := pDJ_uq d3 d3u l1 l.2.1
  have w4 : pWt (mM4 b t) t := by
    have := pWt_wait d3 d3u uq l1 l.2.2.1
    rw [e3] at this
    exact this
  have s6 := mM6_sm b t
  have same6 := (mM6_st (w := b) (t := t)).1
  have e6 : wI (mM6 b t) 155 = wI b 155 := s6.1.trans e4
  refine ⟨fun y y0 y1 => ?_, ?_, ?_, ?_⟩
  · rw [show t + 1 - 1 = t by omega]
    exact pX_sm s6 (pX_sm s4 (l1 y y0 (by rw [e3, ← e6]; exact y1)))
  · exact pDJ_sm (pDJ_sm l.2.1 s4.1 s4.2.2.2.2.2) s6.1 s6.2.2.2.2.2
  · rw [show t + 1 - 1 = t by omega]
    exact pWt_sm s6 (same6 164 (by decide)) (same6 168 (by decide)) (same6 169 (by decide)) w4
  · exact pMt_sm s6 (same6 166 (by decide)) (same6 167 (by decide)) (pMt_sm s4 (same4 166 (by decide) (by decide) (by decide)) (same4 167 (by decide) (by decide) (by decide)) l.2.2.2)
theorem rI_start {b : sm_W} (hG : mGd0 b) : rI (mStart b) 0 := by
  have hO := hG.1
  have hm := vOK_many hO.2
  obtain ⟨s155, sT1, s160, s170, s20⟩ := mStart_in hO
  have hb := mBegin_in (mSt0 b) (by rw [(mSt0_in b).1 155 (by decide) (by decide)]; exact hm.1)
  rw [← mStart_eq] at hb
  have hC : ∀ x s, 0 ≤ x → x < 8 → 0 ≤ s → s < 8 → bC (mStart b) x s = -6 ∧ bV (mStart b) x s = -6 ∧ wI (mStart b) 164 (8 * x + s) = -6 ∧ wI (mStart b) 166 (8 * x + s) = -6 ∧ wI (mStart b) 168 (8 * x + s) = 0 := fun x s x0 x1 s0 s1 => by
    have h := hb.2.1 (8 * x + s) (by omega) (by omega)
    exact ⟨h.1, h.2.2.1, h.2.1, h.2.2.2.1, h.2.2.2.2.2⟩
  have h9 : ∀ x r, 0 ≤ x → x < 8 → 0 ≤ r → r < 4 → wI (mStart b) 169 (4 * x + r) = 0 := fun x r x0 x1 r0 r1 => hb.2.2.1 _ (by omega) (by omega)
  refine ⟨fun x x0 x1 => ?_, fun x y x0 x1 y0 y1 hne s s0 s1 hv => ?_, fun x x0 x1 => ?_, fun x y x0 x1 y0 y1 => ?_⟩
  · rw [s155] at x1
    obtain ⟨w0, w1, w2⟩ := s160 x x0 x1
    have hq := vOK_sh hO.2 x0 x1
    have hp : pSt (mStart b) x = bBe (mStart b) x := by unfold pSt bBe; rw [w0, w1, if_neg (by decide), s155]
    unfold pX
    rw [w0, w1, w2, hp]
    refine ⟨⟨?_, fun k => absurd k (by decide), fun s s0 s1 => ?_⟩, fun _ => ?_, fun k => absurd k (by decide), fun k => absurd k (by decide)⟩
    · unfold kP
      split <;> omega
    · have h := hC x s x0 (by omega) s0 s1
      have hk0 : kP (bBe (mStart b) x) (bEn (mStart b) x) (bBe (mStart b) x) = 0 := by unfold kP; split <;> omega
      rw [h.1, h.2.1, hk0]
      refine ⟨⟨fun k => absurd k (by decide), fun k => by omega⟩, ⟨fun k => absurd k (by decide), fun k => ?_⟩, fun k => absurd k (by decide), fun k => absurd k (by decide)⟩
      rcases k.2 with k2 | ⟨_, k2⟩
      · omega
      · exact absurd k2 (by decide)
    · unfold bBe; rw [s155]
  · have h := hC x (bBh (mStart b) x s) x0 (by rw [s155] at x1; omega) (by unfold bBh; split <;> omega) (by unfold bBh; split <;> omega)
    rw [h.2.1] at hv
    exact absurd hv (by decide)
  · rw [s155] at x1
    have hq := vOK_sh hO.2 x0 x1
    have gz : ∀ p, 0 ≤ p → p < 8 → bGone (mStart b) (0 - 1) x p = 0 := fun p p0 p1 => by
      unfold bGone
      rw [(hC x p x0 (by omega) p0 p1).2.1]
      rfl
    have rz : ∀ p, 0 ≤ p → p < 8 → bStd (mStart b) x p ≠ 0 → 0 ≤ bRdy (mStart b) x p := fun p p0 p1 k => by
      unfold bStd at k
      unfold bRdy
      by_cases e : p = bBe (mStart b) x
      · rw [if_pos e, s155]; omega
      · rw [if_neg e, (hC x p x0 (by omega) p0 p1).1] at k
        exact absurd rfl k
    have hG0 : ∀ c, bG c (mStart b) (0 - 1) x = 0 := fun c => sumI_z (by decide) (fun p p0 p1 => bG1_0 (by rw [s155]; exact hm.1) (fun k => by rw [gz p p0 p1]; exact rz p p0 p1 k))
    have hT0 : bTs (mStart b) (0 - 1) x = 0 := sumI_z (by decide) (fun p p0 p1 => by
      unfold bTs1
      by_cases k : bStd (mStart b) x p = 0
      · rw [if_pos k]
      · rw [if_neg k, gz p p0 p1, if_pos (rz p p0 p1 k)])
    rw [hG0, hG0, hG0, hT0, h9 x 1 x0 (by omega) (by decide) (by decide), h9 x 2 x0 (by omega) (by decide) (by decide), h9 x 3 x0 (by omega) (by decide) (by decide)]
    refine ⟨fun y y0 y1 => ?_, rfl, rfl, rfl, fun s s0 s1 => ?_⟩
    · rw [hG0]
      rw [s155] at y1
      exact (hC x y x0 (by omega) y0 (by omega)).2.2.2.2
    · have h := hC x s x0 (by omega) s0 s1
      rw [h.2.2.1]
      unfold bReq
      by_cases k : bStd (mStart b) x s = 0
      · rw [if_pos k]
      · have := rz s s0 s1 k
        rw [if_neg k, h.2.1, if_neg (by omega)]
  · have h := hC x y x0 x1 y0 y1
    have g := h.2.2.2.1
    refine ⟨fun _ => by omega, fun hp => ⟨fun _ p p0 p1 hK => ?_, fun k => by omega⟩⟩
    have := hK.1.1
    rw [(hC x p x0 x1 p0 p1).1] at this
    exact absurd this (by decide)
/-- what holds ahead of the first minute, and behind each one, holds at the day's end -/
theorem mDayL_P (P : sm_W → Int → Prop) (step : ∀ b t, mInv b t → t ≤ 100000 → P b t → P (mM6 b t) (t + 1)) : ∀ (N : Nat) (b : sm_W) (t : Int), mInv b t → (t = 0 ∨ ∃ x, 0 ≤ x ∧ x < wI b 155 1 ∧ (wI b 160 x = 2 ∨ (wI b 160 x ≤ 1 ∧ ¬ mReady b x ≤ t - 1))) → mPhi b (t - 1) + (if t = 0 then 1 else 0) < N → t + N ≤ 100000 → P b t → mInv (mDayL N b t) (wI (mDayL N b t) 154 17 + 1) ∧ P (mDayL N b t) (wI (mDayL N b t) 154 17 + 1) := by
  intro N
  induction N with
  | zero =>
    intro b t hI _ hP _ _
    exfalso
    have := mPhi_nn hI.1 hI.2.1
    split at hP <;> omega
  | succ N ih =>
    intro b t hI ha hP hN h
    have t1 : t ≤ 100000 := by omega
    have hn := mInv_next hI t1
    have hs := step b t hI t1 h
    have hm := vOK_many hI.1.1.2
    rw [mDayL_s]
    by_cases hE : mEnd (mM4 b t) t (wI b 155 1) = 1
    · rw [if_pos hE]
      have h17 : wI (mM6 b t) 154 17 = t := by unfold mM6; rw [wI_wsI, if_pos ⟨rfl, rfl⟩]
      rw [h17]
      exact ⟨hn.1, hs⟩
    · rw [if_neg hE]
      have hact := mEnd_act hI t1 hE
      refine ih _ (t + 1) hn.1 (Or.inr ?_) ?_ (by omega) hs
      · rw [show t + 1 - 1 = t by omega]
        exact hact
      · rw [show t + 1 - 1 = t by omega, if_neg (by have := hI.2.2.1; omega)]
        rcases ha with ha | ha
        · rw [if_pos ha] at hP
          have := mPhi_0 hI t1
          omega
        · have := mPhi_next hI t1 ha
          split at hP <;> omega
theorem day_rI {b : sm_W} (hG : mGd0 b) : mInv (mDayL 7000 (mStart b) 0) (wI (mDayL 7000 (mStart b) 0) 154 17 + 1) ∧ rI (mDayL 7000 (mStart b) 0) (wI (mDayL 7000 (mStart b) 0) 154 17 + 1) := by
  have hI := mStart_inv hG.1 hG.2.2.1
  exact mDayL_P rI (fun b t h1 h2 h3 => rI_min h1 h2 h3) 7000 _ 0 hI.1 (Or.inl rfl) (by rw [if_pos rfl]; have := hI.2; omega) (by decide) (rI_start hG)
