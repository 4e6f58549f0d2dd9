/-! ANSWERS: the reference runs a day anew only if its line has changed -/
def Rn (b : sm_W) : sm_W := mDayL 7000 (mStart b) 0
def bDs (b R : sm_W) : Prop := (∀ a, 160 ≤ a → a ≤ 169 → wI b a = wI R a) ∧ wI b 154 17 = wI R 154 17 ∧ wI b 154 18 = wI R 154 18
def mCh (b : sm_W) : Prop := wI b 154 20 = 1 → ∃ b0, mGd0 b0 ∧ eq57 (wI b0 155) (wI b 170) ∧ bDs b (Rn b0)
theorem mAs_1 {w : sm_W} (n : Int) (hn : 0 ≤ n) : mAs w n = 1 → wI w 154 20 = 1 ∧ ∀ k, 0 ≤ k → k < n → wI w 170 k = wI w 155 k := by
  refine itI_ind (f := fun (k : Int) (r : Int) => if r = 1 then (if wI w 170 k = wI w 155 k then 1 else 0) else r) (a := wI w 154 20) (fun i r => r = 1 → wI w 154 20 = 1 ∧ ∀ k, 0 ≤ k → k < i → wI w 170 k = wI w 155 k) n (fun h => ⟨h, fun k k0 k1 => by omega⟩) (fun i r i0 i1 hr => ?_) n hn (Int.le_refl _)
  by_cases c : r = 1
  · rw [if_pos c]
    by_cases c2 : wI w 170 i = wI w 155 i
    · rw [if_pos c2]
      intro _
      refine ⟨(hr c).1, fun k k0 k1 => ?_⟩
      by_cases e : k = i
      · rw [e]; exact c2
      · exact (hr c).2 k k0 (by omega)
    · rw [if_neg c2]
      intro k; exact absurd k (by decide)
  · rw [if_neg c]
    intro k; exact absurd k c
/-- the row of the line that was run, and that one was, keep still in a day -/
theorem mM6_170 {b : sm_W} {t : Int} (hI : mInv b t) (t1 : t ≤ 100000) : wI (mM6 b t) 170 = wI b 170 ∧ wI (mM6 b t) 154 20 = wI b 154 20 := by
  obtain ⟨hD, hd, t0, hc⟩ := hI
  have hm := vOK_many hD.1.2
  obtain ⟨d1, e1, d2, e2, d3, e3, k3, d4, e4, c4, u4, _⟩ := mMin_st hD hd t0 t1 hc
  have s1 : ∀ a, a ≠ 160 → a ≠ 161 → a ≠ 162 → a ≠ 163 → wI (mM1 b t) a = wI b a := fun a h1 h2 h3 h4 =>
    itI_ind (f := mCm1 t) (a := b) (fun _ r => wI r a = wI b a) (wI b 155 1) rfl (fun i r _ _ k => by
      by_cases c : wI r 160 i = 2 ∧ t - wI r 162 i = wI r 155 (10 + wI r 161 i)
      · rw [(mCm1_in c).2.2.2.2 a h1 h2 h3 h4]; exact k
      · rw [mCm1_no c]; exact k) (wI b 155 1) hm.1 (Int.le_refl _)
  have s2 := (mMeet_same t (mM1 b t) (wI b 155 1) hm.1 (by rw [e1]; exact Int.le_refl _)).1
  have eM2 : mMeet t (mM1 b t) (wI b 155 1) = mM2 b t := rfl
  rw [eM2] at s2
  have s3 : ∀ (n : Nat) (u : sm_W) (a : Nat), a ≠ 160 → a ≠ 161 → a ≠ 162 → a ≠ 164 → a ≠ 165 → wI (mLv n u t) a = wI u a := by
    intro n
    induction n with
    | zero => intro u a _ _ _ _ _; rfl
    | succ n ih =>
      intro u a h1 h2 h3 h4 h5
      rw [mLv_s]
      split
      · rfl
      · rw [ih _ a h1 h2 h3 h4 h5, (mLv1_in u _ t).2.2.2.2.2 a h1 h2 h3 h4 h5]
  have s4 := (mWait_inv (t := t) k3 (wI b 155 1) hm.1).1.1
  have eM4 : mWait t (mM3 b t) (wI b 155 1) = mM4 b t := rfl
  rw [eM4] at s4
  have s6 := (mM6_st (w := b) (t := t)).1
  have g : ∀ a, a = 154 ∨ a = 170 → wI (mM4 b t) a = wI b a := fun a ha => by
    rw [s4 a (by omega) (by omega) (by omega)]
    have : wI (mM3 b t) a = wI (mM2 b t) a := s3 9 (mM2 b t) a (by omega) (by omega) (by omega) (by omega) (by omega)
    rw [this, s2 a (by omega) (by omega), s1 a (by omega) (by omega) (by omega) (by omega)]
  refine ⟨(s6 170 (by decide)).trans (g 170 (Or.inr rfl)), ?_⟩
  rw [← g 154 (Or.inl rfl)]
  unfold mM6 mM5
  split
  · rw [wI_wsI, if_neg (by omega), wI_wsI, if_neg (by omega)]
  · rw [wI_wsI, if_neg (by omega)]
theorem Rn_170 {b : sm_W} (hG : mGd0 b) : (∀ k, 0 ≤ k → k < 57 → wI (Rn b) 170 k = wI b 155 k) ∧ wI (Rn b) 154 20 = 1 := by
  have hI := mStart_inv hG.1 hG.2.2.1
  obtain ⟨s155, sT1, s160, s170, s20⟩ := mStart_in hG.1
  have := (mDayL_P (fun u _ => (∀ k, 0 ≤ k → k < 57 → wI u 170 k = wI b 155 k) ∧ wI u 154 20 = 1) (fun u t h1 h2 h3 => by
    obtain ⟨k1, k2⟩ := mM6_170 h1 h2
    rw [k1, k2]
    exact h3) 7000 _ 0 hI.1 (Or.inl rfl) (by rw [if_pos rfl]; have := hI.2; omega) (by decide) ⟨s170, s20⟩).2
  exact this
theorem mRun_ch {b : sm_W} (hG : mGd0 b) (hC : mCh b) : mCh (mRun b) ∧ ∃ b0, mGd0 b0 ∧ eq57 (wI b0 155) (wI b 155) ∧ bDs (mRun b) (Rn b0) := by
  unfold mRun
  by_cases c : mAs b 57 = 1
  · rw [if_pos c]
    obtain ⟨h1, h2⟩ := mAs_1 57 (by decide) c
    obtain ⟨b0, g1, g2, g3⟩ := hC h1
    exact ⟨hC, b0, g1, fun j j0 j1 => (g2 j j0 j1).trans (h2 j j0 j1), g3⟩
  · rw [if_neg c]
    obtain ⟨h1, h2⟩ := Rn_170 hG
    exact ⟨fun _ => ⟨b, hG, fun j j0 j1 => (h1 j j0 j1).symm, fun _ _ _ => rfl, rfl, rfl⟩, b, hG, eq57.rf _, fun _ _ _ => rfl, rfl, rfl⟩
/-- a world with the records of the day R -/
def bQ (b R : sm_W) : Prop := bDs b R ∧ eq57 (wI R 155) (wI b 155) ∧ vOK (wI R 155)
theorem bQ_n {b R : sm_W} (h : bQ b R) : wI b 155 1 = wI R 155 1 := (h.2.1 1 (by decide) (by decide)).symm
theorem bQ_m {b R : sm_W} (h : bQ b R) : 0 ≤ wI R 155 1 ∧ wI R 155 1 ≤ 8 := vOK_many h.2.2
theorem bQ_l {b R : sm_W} (h : bQ b R) {x k : Int} (x0 : 0 ≤ x) (x1 : x < wI R 155 1) (k0 : 0 ≤ k) (k1 : k < 5) : wI b 155 (17 + 5 * x + k) = wI R 155 (17 + 5 * x + k) := by
  have := bQ_m h
  exact (h.2.1 _ (by omega) (by omega)).symm
theorem bQ_l0 {b R : sm_W} (h : bQ b R) {x : Int} (x0 : 0 ≤ x) (x1 : x < wI R 155 1) : wI b 155 (17 + 5 * x) = wI R 155 (17 + 5 * x) := by
  have := bQ_m h
  exact (h.2.1 _ (by omega) (by omega)).symm
theorem bQ_w {b R : sm_W} (h : bQ b R) {x : Int} (x0 : 0 ≤ x) (x1 : x < wI R 155 1) : mWay (wI b 155) x = mWay (wI R 155) x := by
  unfold mWay
  rw [bQ_l0 h x0 x1, bQ_l h x0 x1 (by decide) (by decide)]
theorem bQ_End {b R : sm_W} (h : bQ b R) {x : Int} (x0 : 0 ≤ x) (x1 : x < wI R 155 1) : mEndOf b x = mEndOf R x := by
  unfold mEndOf
  rw [bQ_l h x0 x1 (by decide) (by decide), h.1.1 163 (by decide) (by decide)]
theorem bQ_T {b R : sm_W} (h : bQ b R) {x p : Int} (x0 : 0 ≤ x) (x1 : x < wI R 155 1) (p0 : 0 ≤ p) (p1 : p < 8) : vTime (wI b 155) x p = vTime (wI R 155) x p := by
  have hv := vOK_sh h.2.2 x0 x1
  exact vTime_cg (fun k k0 k1 => (h.2.1 _ (by omega) (by omega)).symm) (bQ_l h x0 x1 (by decide) (by decide)) (bQ_l h x0 x1 (by decide) (by decide)) hv.2.1.1 hv.2.1.2 p0 p1
theorem bQ_Dly {b R : sm_W} (h : bQ b R) {x : Int} (x0 : 0 ≤ x) (x1 : x < wI R 155 1) : mDelay b x = mDelay R x := by
  have hv := vOK_sh h.2.2 x0 x1
  unfold mDelay
  rw [bQ_End h x0 x1, bQ_l0 h x0 x1, bQ_l h x0 x1 (by decide) (by decide), bQ_T h x0 x1 hv.1.1 hv.1.2]
theorem bQ_Dl {b R : sm_W} (h : bQ b R) : mDl b = mDl R := by
  have e : mDlS b (wI R 155 1) = mDlS R (wI R 155 1) := itI_cg (bQ_m h).1 (fun i r i0 i1 => by rw [bQ_Dly h i0 i1])
  unfold mDl
  rw [bQ_n h, h.1.2.2, e]
theorem bQ_Gd {b R : sm_W} (h : bQ b R) : mGd b (wI b 155 1) = mGd R (wI R 155 1) := by
  rw [bQ_n h]
  exact itI_cg (bQ_m h).1 (fun i r i0 i1 => by rw [bQ_Dly h i0 i1, bQ_End h i0 i1])
theorem bQ_Aw {b R : sm_W} (h : bQ b R) : mAw b (wI b 155 1) = mAw R (wI R 155 1) := by
  rw [bQ_n h]
  exact itI_cg (bQ_m h).1 (fun i r i0 i1 => by unfold mWtd; rw [h.1.1 169 (by decide) (by decide)])
theorem bQ_Mtn {b R : sm_W} (h : bQ b R) : mMtn b 64 = mMtn R 64 :=
  itI_cg (by decide) (fun i r i0 i1 => by rw [h.1.1 166 (by decide) (by decide)])
theorem bQ_Blm {b R : sm_W} (h : bQ b R) (x : Int) : mBlm b x (wI b 155 1) = mBlm R x (wI R 155 1) := by
  rw [bQ_n h]
  exact itI_cg (bQ_m h).1 (fun i r i0 i1 => by unfold mBl1; rw [h.1.1 168 (by decide) (by decide)])
theorem bQ_Stn {b R : sm_W} (h : bQ b R) {x : Int} (x0 : 0 ≤ x) (x1 : x < wI R 155 1) (t : Int) : ∀ (n : Nat) (s : Int), mStn n b x t s = mStn n R x t s := by
  intro n
  induction n with
  | zero => intro s; rfl
  | succ n ih =>
    intro s
    rw [mStn_s, mStn_s, bQ_l h x0 x1 (by decide) (by decide), bQ_w h x0 x1, h.1.1 163 (by decide) (by decide), ih]
theorem bQ_Stat {b R : sm_W} (h : bQ b R) {x : Int} (x0 : 0 ≤ x) (x1 : x < wI R 155 1) (t : Int) : mStat b x t = mStat R x t := by
  unfold mStat
  rw [bQ_l0 h x0 x1, bQ_Stn h x0 x1]
theorem bQ_Lf {b R : sm_W} (h : bQ b R) (x s t : Int) : mLeftB b x s t = mLeftB R x s t := by
  unfold mLeftB
  rw [h.1.1 165 (by decide) (by decide)]
theorem bQ_Pl {b R : sm_W} (h : bQ b R) {x : Int} (x0 : 0 ≤ x) (x1 : x < wI R 155 1) (t : Int) : mPlace b x t = mPlace R x t := by
  unfold mPlace
  rw [bQ_Stat h x0 x1, bQ_Lf h, bQ_w h x0 x1]
theorem bQ_Ri {b R : sm_W} (h : bQ b R) {x : Int} (x0 : 0 ≤ x) (x1 : x < wI R 155 1) (t : Int) : mReasonIn b x t = mReasonIn R x t := by
  have e : mRi b x t (wI b 155 1) = mRi R x t (wI R 155 1) := by
    rw [bQ_n h]
    exact itI_cg (bQ_m h).1 (fun i r i0 i1 => by unfold mRi1; rw [bQ_Pl h i0 i1, bQ_Stat h x0 x1, bQ_w h x0 x1, bQ_w h i0 i1])
  unfold mReasonIn
  rw [bQ_Stat h x0 x1, bQ_Lf h, bQ_l h x0 x1 (by decide) (by decide), h.1.1 164 (by decide) (by decide), e]
theorem bQ_Ah {b R : sm_W} (h : bQ b R) (o : Int) : mAh b o 64 = mAh R o 64 :=
  itI_cg (by decide) (fun i r i0 i1 => by
    have e : mIsAh b i o = mIsAh R i o := by unfold mIsAh; rw [h.1.1 166 (by decide) (by decide), h.1.1 167 (by decide) (by decide)]
    rw [h.1.1 166 (by decide) (by decide), e])
theorem bQ_Mt {b R : sm_W} (h : bQ b R) (n c : Int) : qMt b n c 64 = qMt R n c 64 :=
  itI_cg (by decide) (fun i r i0 i1 => by
    unfold qMtF qMt1
    rw [bQ_Ah h, h.1.1 166 (by decide) (by decide), h.1.1 167 (by decide) (by decide)])
/-- the class runs the day d of its world a, the reference asks for its own: both have the same day -/
theorem day_eq {a b : sm_W} {d : Nat} (hD : dOK a d) (hG : mGd0 b) (hC : mCh b) (hL : lEq (vL a (d + 1)) (wI b 155)) : ∃ R, rEq (xRun d a) d R ∧ bQ (mRun b) R := by
  obtain ⟨_, b0, g1, g2, g3⟩ := mRun_ch hG hC
  have hv := hG.1.2
  have r0 : rLn a d b0 := rLn_57 (rLn_of hv hL) hv (eq57.sy g2)
  have h1 := day_dn hD g1 r0
  have h2 := day_rI g1
  have e0 : wI (Rn b0) 155 = wI b0 155 := by
    have hI := mStart_inv g1.1 g1.2.2.1
    obtain ⟨s155, _⟩ := mStart_in g1.1
    exact (mDayL_P (fun u _ => wI u 155 = wI b0 155) (fun u t k1 k2 k3 => (mInv_next k1 k2).2.trans k3) 7000 _ 0 hI.1 (Or.inl rfl) (by rw [if_pos rfl]; have := hI.2; omega) (by decide) s155).2
  refine ⟨Rn b0, ⟨h1, h2.2, ?_⟩, g3, ?_, ?_⟩
  · have := h2.1.2.1
    rw [show wI (mDayL 7000 (mStart b0) 0) 154 17 + 1 - 1 = wI (mDayL 7000 (mStart b0) 0) 154 17 by omega] at this
    exact this
  · rw [e0, (mRun_st hG).2]
    exact g2
  · rw [e0]
    exact g1.1.2
