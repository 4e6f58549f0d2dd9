/-! WHAT A STEP LEAVES AS IT IS: cells outside a set, and what is written within it -/
def sFr (S : Nat → Int → Int → Prop) (w u : sm_W) : Prop := u.1 = w.1 ∧ u.2.1 = w.2.1 ∧ u.2.2.2 = w.2.2.2 ∧ ∀ a i, wI u a i = wI w a i ∨ S a i (wI u a i)
theorem sFr.refl {S : Nat → Int → Int → Prop} (w : sm_W) : sFr S w w := ⟨rfl, rfl, rfl, fun _ _ => Or.inl rfl⟩
theorem sFr.trans {S : Nat → Int → Int → Prop} {w u v : sm_W} (h : sFr S w u) (h2 : sFr S u v) : sFr S w v := ⟨h2.1.trans h.1, h2.2.1.trans h.2.1, h2.2.2.1.trans h.2.2.1, fun a i => by
  rcases h2.2.2.2 a i with e | e
  · rw [e]; exact h.2.2.2 a i
  · exact Or.inr e⟩
theorem sFr.st {S : Nat → Int → Int → Prop} {w u : sm_W} {a : Nat} {i v : Int} (h : sFr S w u) (hs : S a i v) : sFr S w (wsI u a i v) := ⟨h.1, h.2.1, h.2.2.1, fun b j => by
  rw [wI_wsI]
  split
  · next e => obtain ⟨rfl, rfl⟩ := e; exact Or.inr hs
  · exact h.2.2.2 b j⟩
theorem sFr.S {S : Nat → Int → Int → Prop} {w u : sm_W} (h : sFr S w u) (a : Nat) : wS u a = wS w a := by show u.2.1 a = w.2.1 a; rw [h.2.1]
theorem sFr.R {S : Nat → Int → Int → Prop} {w u : sm_W} (h : sFr S w u) (a : Nat) : wR u a = wR w a := by show u.2.2.2 a = w.2.2.2 a; rw [h.2.2.1]
theorem sFr.out {S : Nat → Int → Int → Prop} {w u : sm_W} (h : sFr S w u) {a : Nat} {i : Int} (hn : ∀ v, ¬ S a i v) : wI u a i = wI w a i := by
  rcases h.2.2.2 a i with e | e
  · exact e
  · exact absurd e (hn _)
theorem sFr.outA {S : Nat → Int → Int → Prop} {w u : sm_W} (h : sFr S w u) {a : Nat} (hn : ∀ i v, ¬ S a i v) : wI u a = wI w a := funext fun i => h.out (hn i)
theorem sFr.mono {S T : Nat → Int → Int → Prop} {w u : sm_W} (h : sFr S w u) (hs : ∀ a i v, S a i v → T a i v) : sFr T w u := ⟨h.1, h.2.1, h.2.2.1, fun a i => (h.2.2.2 a i).imp id (hs a i _)⟩
/-- the cells of the reference's day -/
def sRun (a : Nat) (i v : Int) : Prop := (a = 154 ∧ (i = 17 ∨ i = 18 ∨ (i = 20 ∧ v = 1))) ∨ (160 ≤ a ∧ a ≤ 162) ∨ (a = 163 ∧ -6 ≤ v ∧ v ≤ 100000) ∨ (a = 164 ∧ -6 ≤ v ∧ v ≤ 200000) ∨ (a = 165 ∧ -6 ≤ v ∧ v ≤ 100000) ∨ (166 ≤ a ∧ a ≤ 170)
theorem mCm1_fr {t x : Int} (w : sm_W) (t0 : 0 ≤ t) (t1 : t ≤ 100000) : sFr sRun w (mCm1 t x w) := by
  unfold mCm1
  split
  · split
    · exact ((((sFr.refl w).st (by unfold sRun; omega)).st (by unfold sRun; omega)).st (by unfold sRun; omega)).st (by unfold sRun; omega)
    · exact ((((sFr.refl w).st (by unfold sRun; omega)).st (by unfold sRun; omega)).st (by unfold sRun; omega)).st (by unfold sRun; omega)
  · exact sFr.refl w
theorem mMt1_fr (t x y : Int) (w : sm_W) : sFr sRun w (mMt1 t x y w) := by
  unfold mMt1
  split
  · exact ((sFr.refl w).st (by unfold sRun; omega)).st (by unfold sRun; omega)
  · exact sFr.refl w
theorem mReady_b {w : sm_W} {x : Int} (hD : mDay w) (x0 : 0 ≤ x) (x1 : x < wI w 155 1) : 0 ≤ mReady w x ∧ mReady w x ≤ 200000 := by
  have hs := hD.2 x x0 x1
  have hq := vOK_sh hD.1.2 x0 x1
  unfold mSh at hs
  unfold mReady
  split <;> omega
theorem mLv1_fr {w : sm_W} {x t : Int} (hD : mDay w) (x0 : 0 ≤ x) (x1 : x < wI w 155 1) (t0 : 0 ≤ t) (t1 : t ≤ 100000) : sFr sRun w (mLv1 w x t) := by
  have := mReady_b hD x0 x1
  unfold mLv1
  exact (((((sFr.refl w).st (by unfold sRun; omega)).st (by unfold sRun; omega)).st (by unfold sRun; omega)).st (by unfold sRun; omega)).st (by unfold sRun; omega)
theorem mWt1_fr {w : sm_W} {x t : Int} (hD : mDay w) (x0 : 0 ≤ x) (x1 : x < wI w 155 1) : sFr sRun w (mWt1 t x w) := by
  have := mReady_b hD x0 x1
  unfold mWt1
  split
  · split
    · exact (((sFr.refl w).st (by unfold sRun; omega)).st (by unfold sRun; omega)).st (by unfold sRun; omega)
    · exact ((sFr.refl w).st (by unfold sRun; omega)).st (by unfold sRun; omega)
  · exact sFr.refl w
theorem sFr.it {S : Nat → Int → Int → Prop} {f : Int → sm_W → sm_W} {w : sm_W} (n : Int) (hn : 0 ≤ n) (hs : ∀ i r, 0 ≤ i → i < n → sFr S w r → sFr S r (f i r)) : sFr S w (itI f w n) :=
  itI_ind (f := f) (fun _ r => sFr S w r) n (sFr.refl w) (fun i r i0 i1 hr => hr.trans (hs i r i0 i1 hr)) n hn (Int.le_refl _)
theorem mMin_fr {w : sm_W} {t : Int} (hI : mInv w t) (t1 : t ≤ 100000) : sFr sRun w (mM6 w t) := by
  obtain ⟨hD, hd, t0, hc⟩ := hI
  have hm := vOK_many hD.1.2
  obtain ⟨d1, e1, d2, e2, d3, e3, _, d4, e4, _⟩ := mMin_st hD hd t0 t1 hc
  have f1 : sFr sRun w (mM1 w t) := sFr.it (f := mCm1 t) _ hm.1 (fun i r _ _ _ => mCm1_fr r t0 t1)
  have f2 : sFr sRun (mM1 w t) (mM2 w t) := sFr.it (f := fun x r => mMtR t x r (wI (mM1 w t) 155 1 - (x + 1))) _ hm.1 (fun i r i0 i1 _ => sFr.it (f := fun j => mMt1 t i (i + 1 + j)) _ (by rw [e1]; omega) (fun j q _ _ _ => mMt1_fr t i _ q))
  have fl : ∀ (n : Nat) (u : sm_W), mDay u → sFr sRun u (mLv n u t) := by
    intro n
    induction n with
    | zero => exact fun u _ => sFr.refl u
    | succ n ih =>
      intro u hu
      rw [mLv_s]
      split
      · exact sFr.refl u
      · next h =>
        have hn := mNext_in u t (wI u 155 1) (vOK_many hu.1.2).1
        rcases hn with hn | ⟨n0, n1, nc⟩
        · omega
        · have hp := (mCan_pre nc).1
          exact (mLv1_fr hu n0 n1 t0 t1).trans (ih _ (mLv1_day hu n0 n1 hp t0 t1))
  have f3 : sFr sRun (mM2 w t) (mM3 w t) := fl 9 _ d2
  have f4 : sFr sRun (mM3 w t) (mM4 w t) := by
    have := itI_ind (f := mWt1 t) (fun _ r => sFr sRun (mM3 w t) r ∧ mSame2 (mM3 w t) r) (wI w 155 1) (a := mM3 w t) ⟨sFr.refl _, ⟨fun _ _ _ _ => rfl, fun h => h⟩⟩ (fun i r i0 i1 hr => by
      have hd := hr.2.day d3
      have ha := hr.2.1 155 (by decide) (by decide) (by decide)
      have hs := mWt1_same t i r
      exact ⟨hr.1.trans (mWt1_fr hd i0 (by rw [ha, e3]; exact i1)), fun a h1 h2 h3 => (hs.1 a h1 h2 h3).trans (hr.2.1 a h1 h2 h3), fun hT => hs.2 (hr.2.2 hT)⟩) (wI w 155 1) hm.1 (Int.le_refl _)
    exact this.1
  have f5 : sFr sRun (mM4 w t) (mM5 w t) := by
    unfold mM5
    split
    · exact (sFr.refl _).st (by unfold sRun; omega)
    · exact sFr.refl _
  exact ((((f1.trans f2).trans f3).trans f4).trans f5).st (by unfold sRun; omega)
theorem mStart_fr {w : sm_W} (hm : 0 ≤ wI w 155 1) : sFr sRun w (mStart w) := by
  have f0 : sFr sRun w (mSt0 w) := (sFr.it (f := mCpA 155 170) 57 (by decide) (fun i r _ _ _ => (sFr.refl r).st (by unfold sRun; omega))).st (by unfold sRun; omega)
  have f1 : sFr sRun (mSt0 w) (mBegin1 (mSt0 w)) := sFr.it (f := mB1) 64 (by decide) (fun i r _ _ _ => ((((((sFr.refl r).st (by unfold sRun; omega)).st (by unfold sRun; omega)).st (by unfold sRun; omega)).st (by unfold sRun; omega)).st (by unfold sRun; omega)).st (by unfold sRun; omega))
  have f2 : sFr sRun (mBegin1 (mSt0 w)) (mBegin2 (mSt0 w)) := sFr.it (f := mB2) 32 (by decide) (fun i r _ _ _ => (sFr.refl r).st (by unfold sRun; omega))
  have e : wI (mSt0 w) 155 1 = wI w 155 1 := by rw [(mSt0_in w).1 155 (by decide) (by decide)]
  have f3 : sFr sRun (mBegin2 (mSt0 w)) (mBegin3 (mSt0 w)) := sFr.it (f := mB3) _ (by rw [e]; exact hm) (fun i r _ _ _ => (((sFr.refl r).st (by unfold sRun; omega)).st (by unfold sRun; omega)).st (by unfold sRun; omega))
  exact (((f0.trans f1).trans f2).trans f3).st (by unfold sRun; omega)
/-- all that run keeps -/
theorem mDayL_st : ∀ (n : Nat) (u : sm_W) (t : Int), mInv u t → t + n ≤ 7001 → mZ u → sFr sRun u (mDayL n u t) ∧ mZ (mDayL n u t) ∧ mCtr (mDayL n u t) 60000 ∧ wI (mDayL n u t) 155 = wI u 155
  | 0, u, t, hI, ht, hZ => ⟨sFr.refl u, hZ, fun i => (by have := hI.2.2.2 i; show (0 ≤ wI u 169 i ∧ wI u 169 i ≤ 60000) ∧ (0 ≤ wI u 168 i ∧ wI u 168 i ≤ 60000); omega), rfl⟩
  | n + 1, u, t, hI, ht, hZ => by
    have t1 : t ≤ 100000 := by omega
    have h1 := mInv_next hI t1
    have h2 := mMin_fr hI t1
    have h3 := mZ_min hI t1 hZ
    rw [mDayL_s]
    split
    · exact ⟨h2, h3, fun i => by have := h1.1.2.2.2 i; omega, h1.2⟩
    · have h4 := mDayL_st n (mM6 u t) (t + 1) h1.1 (by omega) h3
      exact ⟨h2.trans h4.1, h4.2.1, h4.2.2.1, h4.2.2.2.trans h1.2⟩
theorem sRun_out {a : Nat} (h : a < 154 ∨ (154 < a ∧ a < 160) ∨ 170 < a) : ∀ i v, ¬ sRun a i v := fun i v hs => by unfold sRun at hs; omega
theorem sFr_sT {S : Nat → Int → Int → Prop} {w u : sm_W} (h : sFr S w u) (hT : sT w) : sT u := by
  unfold sT at *
  simp only [h.S, h.R]
  exact hT
theorem mRun_fr {w : sm_W} (h : mGd0 w) : sFr sRun w (mRun w) := by
  obtain ⟨hO, h01, hZ, hR⟩ := h
  have hm := vOK_many hO.2
  unfold mRun
  split
  · exact sFr.refl w
  · have hs := mStart_inv hO hZ
    exact (mStart_fr hm.1).trans (mDayL_st 7000 _ 0 hs.1 (by omega) (mStart_z hO hZ).2).1
theorem mRec_fr {w u : sm_W} (h : sFr sRun w u) (hR : mRec w) (hc : mCtr u 2000000) : mRec u := by
  refine ⟨fun i => ?_, fun i => ?_, fun i => ?_, hc⟩
  · rcases h.2.2.2 163 i with e | e
    · rw [e]; exact hR.1 i
    · unfold sRun at e; omega
  · rcases h.2.2.2 165 i with e | e
    · rw [e]; exact hR.2.1 i
    · unfold sRun at e; omega
  · rcases h.2.2.2 164 i with e | e
    · rw [e]; exact hR.2.2.1 i
    · unfold sRun at e; omega
theorem mRun_st {w : sm_W} (h : mGd0 w) : mGd0 (mRun w) ∧ wI (mRun w) 155 = wI w 155 := by
  have hf := mRun_fr h
  obtain ⟨hO, h01, hZ, hR⟩ := h
  have hT := sFr_sT hf hO.1
  have e5 : wI (mRun w) 155 = wI w 155 := hf.outA (sRun_out (by omega))
  refine ⟨⟨⟨hT, by rw [e5]; exact hO.2⟩, ?_, ?_, ?_⟩, e5⟩
  · rcases hf.2.2.2 154 20 with e | e
    · rw [e]; exact h01
    · unfold sRun at e; omega
  · unfold mRun
    split
    · exact hZ
    · exact (mDayL_st 7000 _ 0 (mStart_inv hO hZ).1 (by omega) (mStart_z hO hZ).2).2.1
  · refine mRec_fr hf hR ?_
    unfold mRun
    split
    · exact hR.2.2.2
    · exact fun i => by have := (mDayL_st 7000 _ 0 (mStart_inv hO hZ).1 (by omega) (mStart_z hO hZ).2).2.2.1 i; omega
