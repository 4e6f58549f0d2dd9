/-! THE REFERENCE: a day is run -/
def mM1 (w : sm_W) (t : Int) : sm_W := mCome w t (wI w 155 1)
def mM2 (w : sm_W) (t : Int) : sm_W := mMeet t (mM1 w t) (wI w 155 1)
def mM3 (w : sm_W) (t : Int) : sm_W := mLv 9 (mM2 w t) t
def mM4 (w : sm_W) (t : Int) : sm_W := mWait t (mM3 w t) (wI w 155 1)
def mM5 (w : sm_W) (t : Int) : sm_W := if mEnd (mM4 w t) t (wI w 155 1) = 1 then wsI (mM4 w t) 154 18 (mLeft (mM4 w t) (wI w 155 1)) else mM4 w t
def mM6 (w : sm_W) (t : Int) : sm_W := wsI (mM5 w t) 154 17 t
def mDayL : Nat → sm_W → Int → sm_W
  | 0, w, _ => w
  | n + 1, w, t => if mEnd (mM4 w t) t (wI w 155 1) = 1 then mM6 w t else mDayL n (mM6 w t) (t + 1)
theorem mDayL_s (n : Nat) (w : sm_W) (t : Int) : mDayL (n + 1) w t = if mEnd (mM4 w t) t (wI w 155 1) = 1 then mM6 w t else mDayL n (mM6 w t) (t + 1) := rfl
def mPhi (w : sm_W) (t : Int) : Int := sumI (mPh w t) (wI w 155 1)
/-- what one minute leaves as it is, and how the measure falls -/
theorem mMin_st {w : sm_W} {t : Int} (hD : mDay w) (hd : mDue w (t - 1)) (t0 : 0 ≤ t) (t1 : t ≤ 100000) (hc : mCtr w (8 * t)) : mDay (mM1 w t) ∧ wI (mM1 w t) 155 = wI w 155 ∧ mDay (mM2 w t) ∧ wI (mM2 w t) 155 = wI w 155 ∧ mDay (mM3 w t) ∧ wI (mM3 w t) 155 = wI w 155 ∧ mCtr (mM3 w t) (8 * t) ∧ mDay (mM4 w t) ∧ wI (mM4 w t) 155 = wI w 155 ∧ mCtr (mM4 w t) (8 * (t + 1)) ∧ mDue (mM4 w t) t ∧ (∀ x, 0 ≤ x → x < wI w 155 1 → mPh (mM4 w t) t x ≤ mPh w (t - 1) x ∧ ((wI w 160 x = 2 ∨ (wI w 160 x ≤ 1 ∧ ¬ mReady w x ≤ t - 1)) → mPh (mM4 w t) t x + 1 ≤ mPh w (t - 1) x)) := by
  have hm := vOK_many hD.1.2
  have a1 := mCome_inv hD t0 t1 (wI w 155 1) hm.1 (Int.le_refl _)
  have b1 := fun x x0 x1 => mPh_come (x := x) hD hd (by omega) (by omega) x0 x1
  have d1 := mDue_come hD hd (by omega) (by omega)
  rw [show t - 1 + 1 = t by omega] at d1
  have e1 : mCome w t (wI w 155 1) = mM1 w t := rfl
  rw [e1] at a1 d1
  have a2 := mMeet_same t (mM1 w t) (wI w 155 1) hm.1 (by rw [a1.2]; exact Int.le_refl _)
  have e2 : mMeet t (mM1 w t) (wI w 155 1) = mM2 w t := rfl
  rw [e2] at a2
  have h2 := a2.day a1.1
  have c2 : ∀ a, a ≠ 166 → a ≠ 167 → wI (mM2 w t) a = wI (mM1 w t) a := a2.1
  have d2 : mDue (mM2 w t) t := mDue_same (c2 _ (by decide) (by decide)) (c2 _ (by decide) (by decide)) (c2 _ (by decide) (by decide)) (c2 _ (by decide) (by decide)) d1
  have at2 : wI (mM2 w t) 155 = wI w 155 := (c2 _ (by decide) (by decide)).trans a1.2
  have h3 : mDay (mM3 w t) := mLv_day h2 t0 t1 9
  have at3 : wI (mM3 w t) 155 = wI w 155 := (mLv_at 9 (mM2 w t) t).trans at2
  have p3 := mLv_ph 9 h2 d2 t0 t1
  have e3 : mLv 9 (mM2 w t) t = mM3 w t := rfl
  rw [e3] at p3
  have k3 : mCtr (mM3 w t) (8 * t) := by
    have q1 : ∀ n : Int, 0 ≤ n → n ≤ wI w 155 1 → mCtr (mCome w t n) (8 * t) := fun n n0 n1 => itI_ind (f := mCm1 t) (fun _ r => mCtr r (8 * t)) n hc (fun i r _ _ hr => by
      intro j
      have := hr j
      unfold mCm1
      split
      · split <;> simpa [wI_wsI] using this
      · exact this) n n0 (Int.le_refl _)
    have q2 : mCtr (mM2 w t) (8 * t) := by
      intro j
      rw [c2 169 (by decide) (by decide), c2 168 (by decide) (by decide)]
      exact q1 (wI w 155 1) hm.1 (Int.le_refl _) j
    have q3 : ∀ (n : Nat) (u : sm_W), mCtr u (8 * t) → mCtr (mLv n u t) (8 * t) := by
      intro n
      induction n with
      | zero => exact fun u h => h
      | succ n ih =>
        intro u h
        rw [mLv_s]
        split
        · exact h
        · exact ih _ (fun j => by have := h j; simpa [mLv1, wI_wsI] using this)
    exact q3 9 _ q2
  have a4 := mWait_inv (t := t) k3 (wI w 155 1) hm.1
  have e4 : mWait t (mM3 w t) (wI w 155 1) = mM4 w t := rfl
  rw [e4] at a4
  have c4 := a4.1.1
  have h4 := a4.1.day h3
  have at4 : wI (mM4 w t) 155 = wI w 155 := (c4 _ (by decide) (by decide) (by decide)).trans at3
  have d4 : mDue (mM4 w t) t := mDue_same (c4 _ (by decide) (by decide) (by decide)) (c4 _ (by decide) (by decide) (by decide)) (c4 _ (by decide) (by decide) (by decide)) (c4 _ (by decide) (by decide) (by decide)) p3.1
  refine ⟨a1.1, a1.2, h2, at2, h3, at3, k3, h4, at4, fun i => by have := a4.2 i; omega, d4, fun x x0 x1 => ?_⟩
  have g1 := b1 x x0 x1
  rw [show t - 1 + 1 = t by omega, e1] at g1
  have g2 := mPh_same (c2 155 (by decide) (by decide)) (c2 160 (by decide) (by decide)) (c2 161 (by decide) (by decide)) (c2 162 (by decide) (by decide)) t x
  have g3 := p3.2 x
  have g4 := mPh_same (c4 155 (by decide) (by decide) (by decide)) (c4 160 (by decide) (by decide) (by decide)) (c4 161 (by decide) (by decide) (by decide)) (c4 162 (by decide) (by decide) (by decide)) t x
  rw [g4]
  rw [g2] at g3
  exact ⟨Int.le_trans g3 g1.1, fun h => by have := g1.2 h; omega⟩
theorem mEnd_ex {w : sm_W} {t n : Int} (hn : 0 ≤ n) (h : ¬ mEnd w t n = 1) : ∃ x, 0 ≤ x ∧ x < n ∧ mBk w t x = 1 := by
  apply Classical.byContradiction
  intro hno
  apply h
  refine itI_ind (f := mEd w t) (fun _ r => r = 1) n rfl (fun i r i0 i1 hr => ?_) n hn (Int.le_refl _)
  unfold mEd
  rw [if_pos hr, if_neg (fun hb => hno ⟨i, i0, i1, hb⟩)]
theorem mPhi_nn {w : sm_W} {t : Int} (hD : mDay w) (hd : mDue w t) : 0 ≤ mPhi w t := by
  have hm := vOK_many hD.1.2
  have := sumI_0 (f := mPh w t) (wI w 155 1).toNat (fun x x0 x1 => mPh_nn hD hd (by omega) (by omega))
  unfold mPhi
  rw [Int.toNat_of_nonneg hm.1] at this
  exact this
theorem mM6_st {w : sm_W} {t : Int} : (∀ a, a ≠ 154 → wI (mM6 w t) a = wI (mM4 w t) a) ∧ (sT (mM4 w t) → sT (mM6 w t)) := by
  unfold mM6 mM5
  split
  · exact ⟨fun a h => by rw [wIf_ne h, wIf_ne h], fun h => sT_wsI (sT_wsI h)⟩
  · exact ⟨fun a h => by rw [wIf_ne h], fun h => sT_wsI h⟩
/-- what holds ahead of a minute -/
def mInv (w : sm_W) (t : Int) : Prop := mDay w ∧ mDue w (t - 1) ∧ 0 ≤ t ∧ mCtr w (8 * t)
theorem mInv_next {w : sm_W} {t : Int} (h : mInv w t) (t1 : t ≤ 100000) : mInv (mM6 w t) (t + 1) ∧ wI (mM6 w t) 155 = wI w 155 := by
  obtain ⟨hD, hd, t0, hc⟩ := h
  obtain ⟨_, _, _, _, _, _, _, d4, e4, c4, u4, _⟩ := mMin_st hD hd t0 t1 hc
  have k := mM6_st (w := w) (t := t)
  have q := k.1
  refine ⟨⟨mDay_keep (k.2 d4.1.1) (q _ (by decide)) (q _ (by decide)) (q _ (by decide)) (q _ (by decide)) d4, ?_, by omega, fun i => ?_⟩, (q _ (by decide)).trans e4⟩
  · rw [show t + 1 - 1 = t by omega]
    exact mDue_same (q _ (by decide)) (q _ (by decide)) (q _ (by decide)) (q _ (by decide)) u4
  · rw [q 169 (by decide), q 168 (by decide)]
    exact c4 i
theorem mPhi_next {w : sm_W} {t : Int} (h : mInv w t) (t1 : t ≤ 100000) (he : ∃ x, 0 ≤ x ∧ x < wI w 155 1 ∧ (wI w 160 x = 2 ∨ (wI w 160 x ≤ 1 ∧ ¬ mReady w x ≤ t - 1))) : mPhi (mM6 w t) t + 1 ≤ mPhi w (t - 1) := by
  obtain ⟨hD, hd, t0, hc⟩ := h
  have hm := vOK_many hD.1.2
  obtain ⟨_, _, _, _, _, _, _, d4, e4, c4, u4, p4⟩ := mMin_st hD hd t0 t1 hc
  have k := (mM6_st (w := w) (t := t)).1
  have at6 : wI (mM6 w t) 155 = wI w 155 := (k _ (by decide)).trans e4
  obtain ⟨x, x0, x1, hx⟩ := he
  have g : ∀ y, mPh (mM6 w t) t y = mPh (mM4 w t) t y := fun y => mPh_same (k _ (by decide)) (k _ (by decide)) (k _ (by decide)) (k _ (by decide)) t y
  have := sumI_lt (f := mPh (mM6 w t) t) (g := mPh w (t - 1)) (x := x) x0 (by rw [g]; exact (p4 x x0 x1).2 hx) (wI w 155 1).toNat (by omega) (fun y y0 y1 => by rw [g]; exact (p4 y (by omega) (by omega)).1)
  unfold mPhi
  rw [at6]
  rw [Int.toNat_of_nonneg hm.1] at this
  exact this
/-- who is not done keeps the day going -/
theorem mBk_act {w : sm_W} {t x : Int} (hD : mDay w) (x0 : 0 ≤ x) (x1 : x < wI w 155 1) (h : mBk w t x = 1) : wI w 160 x = 2 ∨ (wI w 160 x ≤ 1 ∧ ¬ mReady w x ≤ t) := by
  have hs := hD.2 x x0 x1
  unfold mSh at hs
  unfold mBk at h
  grind
theorem mBk_same {w u : sm_W} (h1 : wI u 155 = wI w 155) (h2 : wI u 160 = wI w 160) (h4 : wI u 162 = wI w 162) (t x : Int) : mBk u t x = mBk w t x := by
  have e : mReady u x = mReady w x := by unfold mReady; rw [h1, h2, h4]
  unfold mBk
  rw [h2, e]
/-- the fuel is enough: a day that isn't over costs the measure one a minute -/
theorem mEnd_act {w : sm_W} {t : Int} (h : mInv w t) (t1 : t ≤ 100000) (he : ¬ mEnd (mM4 w t) t (wI w 155 1) = 1) : ∃ x, 0 ≤ x ∧ x < wI (mM6 w t) 155 1 ∧ (wI (mM6 w t) 160 x = 2 ∨ (wI (mM6 w t) 160 x ≤ 1 ∧ ¬ mReady (mM6 w t) x ≤ t)) := by
  obtain ⟨hD, hd, t0, hc⟩ := h
  have hm := vOK_many hD.1.2
  obtain ⟨_, _, _, _, _, _, _, d4, e4, c4, u4, p4⟩ := mMin_st hD hd t0 t1 hc
  obtain ⟨x, x0, x1, hb⟩ := mEnd_ex hm.1 he
  have k := (mM6_st (w := w) (t := t)).1
  have hact := mBk_act d4 x0 (by rw [e4]; exact x1) hb
  have e6 : mReady (mM6 w t) x = mReady (mM4 w t) x := by unfold mReady; rw [k 155 (by decide), k 160 (by decide), k 162 (by decide)]
  refine ⟨x, x0, by rw [k 155 (by decide), e4]; exact x1, ?_⟩
  rw [k 160 (by decide), e6]
  exact hact
def mStart (w : sm_W) : sm_W := mBegin (wsI (itI (mCpA 155 170) w 57) 154 20 1)
def mRun (w : sm_W) : sm_W := if mAs w 57 = 1 then w else mDayL 7000 (mStart w) 0
