/-! THE REFERENCE: run, and what it keeps -/
theorem mWt1_z {t x : Int} {w : sm_W} (x0 : 0 ≤ x) (x1 : x < 8) (hm : wI w 155 1 ≤ 8) (hm0 : 0 ≤ wI w 155 1) (h : mZ w) : mZ (mWt1 t x w) := by
  have hw := mWho_in w (sFrom (wI w 161 x) (mWay (wI w 155) x)) (wI w 155 1) hm0
  have hrs : 1 ≤ mRs w x ∧ mRs w x ≤ 3 := by
    unfold mRs
    split
    · omega
    · split <;> omega
  have hA : 0 ≤ mWhoA w x → mWhoA w x < 8 := by
    intro h0
    unfold mWhoA at *
    omega
  unfold mWt1
  split
  · split
    · next h0 =>
      have hA := hA h0
      constructor
      · intro i hi
        simp only [wI_wsI, Nat.reduceEqDiff, false_and, true_and, if_false]
        rw [if_neg (by omega)]
        exact h.1 i hi
      · intro i hi
        simp only [wI_wsI, Nat.reduceEqDiff, false_and, true_and, if_false]
        rw [if_neg (by omega)]
        exact h.2 i hi
    · constructor
      · intro i hi
        simp only [wI_wsI, Nat.reduceEqDiff, false_and, true_and, if_false]
        exact h.1 i hi
      · intro i hi
        simp only [wI_wsI, Nat.reduceEqDiff, false_and, true_and, if_false]
        rw [if_neg (by omega)]
        exact h.2 i hi
  · exact h
theorem mCome_ctr {t : Int} {w : sm_W} (n : Int) (hn : 0 ≤ n) : wI (mCome w t n) 168 = wI w 168 ∧ wI (mCome w t n) 169 = wI w 169 :=
  itI_ind (f := mCm1 t) (fun _ r => wI r 168 = wI w 168 ∧ wI r 169 = wI w 169) n ⟨rfl, rfl⟩ (fun i r _ _ hr => by
    unfold mCm1
    split
    · split
      · simp only [wIf_ne (show ¬ (168 : Nat) = 160 by decide), wIf_ne (show ¬ (168 : Nat) = 161 by decide), wIf_ne (show ¬ (168 : Nat) = 162 by decide), wIf_ne (show ¬ (168 : Nat) = 163 by decide), wIf_ne (show ¬ (169 : Nat) = 160 by decide), wIf_ne (show ¬ (169 : Nat) = 161 by decide), wIf_ne (show ¬ (169 : Nat) = 162 by decide), wIf_ne (show ¬ (169 : Nat) = 163 by decide)]; exact hr
      · simp only [wIf_ne (show ¬ (168 : Nat) = 160 by decide), wIf_ne (show ¬ (168 : Nat) = 161 by decide), wIf_ne (show ¬ (168 : Nat) = 162 by decide), wIf_ne (show ¬ (168 : Nat) = 163 by decide), wIf_ne (show ¬ (169 : Nat) = 160 by decide), wIf_ne (show ¬ (169 : Nat) = 161 by decide), wIf_ne (show ¬ (169 : Nat) = 162 by decide), wIf_ne (show ¬ (169 : Nat) = 163 by decide)]; exact hr
    · exact hr) n hn (Int.le_refl _)
theorem mLv_ctr (t : Int) : ∀ (n : Nat) (u : sm_W), wI (mLv n u t) 168 = wI u 168 ∧ wI (mLv n u t) 169 = wI u 169
  | 0, u => ⟨rfl, rfl⟩
  | n + 1, u => by
    rw [mLv_s]
    split
    · exact ⟨rfl, rfl⟩
    · have := mLv_ctr t n (mLv1 u (mNext u t (wI u 155 1)) t)
      exact ⟨this.1.trans (by unfold mLv1; simp only [wIf_ne (show ¬ (168 : Nat) = 160 by decide), wIf_ne (show ¬ (168 : Nat) = 161 by decide), wIf_ne (show ¬ (168 : Nat) = 162 by decide), wIf_ne (show ¬ (168 : Nat) = 165 by decide), wIf_ne (show ¬ (168 : Nat) = 164 by decide)]), this.2.trans (by unfold mLv1; simp only [wIf_ne (show ¬ (169 : Nat) = 160 by decide), wIf_ne (show ¬ (169 : Nat) = 161 by decide), wIf_ne (show ¬ (169 : Nat) = 162 by decide), wIf_ne (show ¬ (169 : Nat) = 165 by decide), wIf_ne (show ¬ (169 : Nat) = 164 by decide)])⟩
theorem mZ_min {w : sm_W} {t : Int} (hI : mInv w t) (t1 : t ≤ 100000) (hZ : mZ w) : mZ (mM6 w t) := by
  obtain ⟨hD, hd, t0, hc⟩ := hI
  have hm := vOK_many hD.1.2
  obtain ⟨d1, e1, d2, e2, d3, e3, _, d4, e4, _⟩ := mMin_st hD hd t0 t1 hc
  have z1 : mZ (mM1 w t) := mZ_same (mCome_ctr _ hm.1).1 (mCome_ctr _ hm.1).2 hZ
  have a2 := mMeet_same t (mM1 w t) (wI w 155 1) hm.1 (by rw [e1]; exact Int.le_refl _)
  have z2 : mZ (mM2 w t) := mZ_same (a2.1 168 (by decide) (by decide)) (a2.1 169 (by decide) (by decide)) z1
  have z3 : mZ (mM3 w t) := mZ_same (mLv_ctr t 9 _).1 (mLv_ctr t 9 _).2 z2
  have z4 : mZ (mM4 w t) := by
    have := itI_ind (f := mWt1 t) (fun _ r => mZ r ∧ wI r 155 = wI w 155) (wI w 155 1) (a := mM3 w t) ⟨z3, e3⟩ (fun i r i0 i1 hr => ⟨mWt1_z i0 (by omega) (by rw [hr.2]; exact hm.2) (by rw [hr.2]; exact hm.1) hr.1, ((mWt1_same t i r).1 155 (by decide) (by decide) (by decide)).trans hr.2⟩) (wI w 155 1) hm.1 (Int.le_refl _)
    exact this.1
  have k := (mM6_st (w := w) (t := t)).1
  exact mZ_same (k _ (by decide)) (k _ (by decide)) z4
/-- what the reference holds at any time -/
def mGd0 (w : sm_W) : Prop := mOK w ∧ (wI w 154 20 = 0 ∨ wI w 154 20 = 1) ∧ mZ w ∧ mRec w
theorem mPhi_0 {w : sm_W} {t : Int} (h : mInv w t) (t1 : t ≤ 100000) : mPhi (mM6 w t) t ≤ mPhi w (t - 1) := by
  obtain ⟨hD, hd, t0, hc⟩ := h
  have hm := vOK_many hD.1.2
  obtain ⟨_, _, _, _, _, _, _, d4, e4, c4, u4, p4⟩ := mMin_st hD hd t0 t1 hc
  have k := (mM6_st (w := w) (t := t)).1
  have at6 : wI (mM6 w t) 155 = wI w 155 := (k _ (by decide)).trans e4
  have g : ∀ y, mPh (mM6 w t) t y = mPh (mM4 w t) t y := fun y => mPh_same (k _ (by decide)) (k _ (by decide)) (k _ (by decide)) (k _ (by decide)) t y
  have := sumI_le (f := mPh (mM6 w t) t) (g := mPh w (t - 1)) (wI w 155 1).toNat (fun y y0 y1 => by rw [g]; exact (p4 y (by omega) (by omega)).1)
  unfold mPhi
  rw [at6]
  rw [Int.toNat_of_nonneg hm.1] at this
  exact this
def mSt0 (w : sm_W) : sm_W := wsI (itI (mCpA 155 170) w 57) 154 20 1
theorem mStart_eq (w : sm_W) : mStart w = mBegin (mSt0 w) := rfl
theorem mSt0_in (w : sm_W) : (∀ a, a ≠ 154 → a ≠ 170 → wI (mSt0 w) a = wI w a) ∧ (sT w → sT (mSt0 w)) ∧ (∀ i, 0 ≤ i → i < 57 → wI (mSt0 w) 170 i = wI w 155 i) ∧ wI (mSt0 w) 154 20 = 1 ∧ (∀ i, i ≠ 20 → wI (mSt0 w) 154 i = wI w 154 i) := by
  have c := mCpA_in 155 170 (by decide) w 57 (by decide)
  unfold mSt0
  generalize itI (mCpA 155 170) w 57 = u at *
  refine ⟨fun a h4 h => by rw [wIf_ne h4]; exact c.2.1 a h, fun h => c.2.2 h, fun i i0 i1 => ?_, ?_, fun i hi => ?_⟩
  · rw [wIf_ne (show ¬ (170 : Nat) = 154 by decide)]
    exact (c.1 i).1 ⟨i0, i1⟩
  · rw [wI_wsI, if_pos ⟨rfl, rfl⟩]
  · rw [wI_wsI, if_neg (by omega)]
    rw [c.2.1 154 (by decide)]
theorem mStart_in {w : sm_W} (hO : mOK w) : wI (mStart w) 155 = wI w 155 ∧ sT (mStart w) ∧ (∀ i, 0 ≤ i → i < wI w 155 1 → wI (mStart w) 160 i = 0 ∧ wI (mStart w) 161 i = wI w 155 (17 + 5 * i) ∧ wI (mStart w) 162 i = 0) ∧ (∀ i, 0 ≤ i → i < 57 → wI (mStart w) 170 i = wI w 155 i) ∧ wI (mStart w) 154 20 = 1 := by
  have hm := vOK_many hO.2
  rw [mStart_eq]
  have c := mSt0_in w
  generalize mSt0 w = u at *
  have e1 := c.1 155 (by decide) (by decide)
  have b := mBegin_in u (by rw [e1]; exact hm.1)
  rw [e1] at b
  refine ⟨(b.2.2.2.2.2.1 155 (by decide) (by decide)).trans e1, b.2.2.2.2.2.2.2.2 (c.2.1 hO.1), b.1, fun i i0 i1 => ?_, ?_⟩
  · rw [b.2.2.2.2.2.1 170 (by decide) (by decide)]
    exact c.2.2.1 i i0 i1
  · rw [b.2.2.2.2.2.2.1 20 (by decide)]
    exact c.2.2.2.1
theorem mStart_z {w : sm_W} (hO : mOK w) (hZ : mZ w) : mCtr (mStart w) 0 ∧ mZ (mStart w) := by
  have hm := vOK_many hO.2
  rw [mStart_eq]
  have c := mSt0_in w
  generalize mSt0 w = u at *
  have e1 := c.1 155 (by decide) (by decide)
  have b := mBegin_in u (by rw [e1]; exact hm.1)
  have f8 : wI u 168 = wI w 168 := c.1 168 (by decide) (by decide)
  have f9 : wI u 169 = wI w 169 := c.1 169 (by decide) (by decide)
  have z8 : ∀ i, wI (mBegin u) 168 i = 0 := fun i => by
    by_cases h : 0 ≤ i ∧ i < 64
    · exact (b.2.1 i h.1 h.2).2.2.2.2.2
    · rw [b.2.2.2.1 168 i (Or.inl rfl) h, f8]
      exact hZ.1 i (by omega)
  have z9 : ∀ i, wI (mBegin u) 169 i = 0 := fun i => by
    by_cases h : 0 ≤ i ∧ i < 32
    · exact b.2.2.1 i h.1 h.2
    · rw [b.2.2.2.2.1 i h, f9]
      exact hZ.2 i (by omega)
  exact ⟨fun i => by rw [z8, z9]; omega, fun i _ => z8 i, fun i _ => z9 i⟩
theorem mStart_inv {w : sm_W} (hO : mOK w) (hZ : mZ w) : mInv (mStart w) 0 ∧ mPhi (mStart w) (0 - 1) ≤ 5768 := by
  have hm := vOK_many hO.2
  obtain ⟨s1, s2, s3, _, _⟩ := mStart_in hO
  have hz := mStart_z hO hZ
  refine ⟨⟨⟨⟨s2, by rw [s1]; exact hO.2⟩, fun x x0 x1 => ?_⟩, fun x x0 x1 h => ?_, Int.le_refl _, by simpa using hz.1⟩, ?_⟩
  · rw [s1] at x1
    obtain ⟨q1, q2, q3⟩ := s3 x x0 x1
    have hq := vOK_sh hO.2 x0 x1
    unfold mSh
    rw [s1, q1, q2, q3]
    omega
  · rw [s1] at x1
    have := (s3 x x0 x1).1
    omega
  · have := sumI_b (f := mPh (mStart w) (0 - 1)) (b := 721) (wI w 155 1).toNat (fun x x0 x1 => by
      obtain ⟨q1, q2, q3⟩ := s3 x (by omega) (by omega)
      have hq := vOK_sh hO.2 (x := (x : Int)) (by omega) (by omega)
      unfold mPh mReady
      rw [s1, q1, q2, q3]
      split
      · omega
      · split
        · omega
        · have : (0 : Int) ≠ 1 := by decide
          repeat' split
          all_goals omega)
    unfold mPhi
    rw [s1]
    rw [Int.toNat_of_nonneg hm.1] at this
    omega
theorem mEnd_01 (w : sm_W) (t n : Int) (hn : 0 ≤ n) : mEnd w t n = 0 ∨ mEnd w t n = 1 := by
  refine itI_ind (f := mEd w t) (fun _ r => r = 0 ∨ r = 1) n (Or.inr rfl) (fun i r _ _ hr => ?_) n hn (Int.le_refl _)
  unfold mEd
  split
  · split <;> omega
  · exact hr
