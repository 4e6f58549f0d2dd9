/-! THE TWO DAYS: from event to event, and minute by minute -/
theorem rel_end {a b : sm_W} {d : Nat} {x : Int} (h : rel a d b) (hD : mDay b) (x0 : 0 ≤ x) (x1 : x < wI b 155 1) : (wI a (d + 27) x = wI a (d + 1 + 4) x ↔ wI b 160 x = 3) ∧ (wI b 160 x ≠ 3 → wI a (d + 29) x = bDue b x) := by
  obtain ⟨hL, hS, hG⟩ := h
  have hx := hS x x0 x1
  have hs := hD.2 x x0 x1
  have hw3 : 0 ≤ wI b 160 x ∧ wI b 160 x ≤ 3 := by unfold mSh at hs; exact hs.2.2.1
  have h3e : wI b 160 x = 3 → wI b 161 x = wI b 155 (17 + 5 * x + 1) := by unfold mSh at hs; exact hs.2.2.2.2.2
  have m4 := (hL.2.2.2.2.1 x x0 x1).2.1
  unfold rSh at hx
  rw [m4]
  unfold bDue
  by_cases c : wI b 160 x ≤ 1
  · obtain ⟨_, y27, y29, _⟩ := hx.1 c
    have hb := mSt_b hD x0 x1 c
    rw [y27, if_neg (by omega)]
    exact ⟨⟨fun k => absurd k hb.2.2.2, fun k => by omega⟩, fun _ => y29⟩
  · by_cases k3 : wI b 160 x = 3
    · rw [(hx.2.2.1 k3).2]
      exact ⟨⟨fun _ => k3, fun _ => h3e k3⟩, fun k => absurd k3 k⟩
    · have c2 : wI b 160 x = 2 := by omega
      obtain ⟨_, y27, y29⟩ := hx.2.1 c2
      rw [y27, if_pos c2]
      refine ⟨⟨fun k => ?_, fun k => absurd k k3⟩, fun _ => y29⟩
      exfalso
      unfold mSh at hs
      have h5 := hs.2.2.2.2.1 c2
      have hq := vOK_sh hD.1.2 x0 x1
      rcases mWay_pm (wI b 155) x with ⟨hw, hlt⟩ | ⟨hw, hlt⟩ <;> rw [hw] at k <;> simp only [Int.reduceLT, if_true, if_false] at k <;> omega
theorem rel_next {a b : sm_W} {d : Nat} {t : Int} (h : rel a d b) (hD : mDay b) (t0 : 0 ≤ t) : (xNext a d t (wI b 155 1) < 0 ∧ ∀ x, 0 ≤ x → x < wI b 155 1 → wI b 160 x ≠ 3 → bDue b x ≤ t) ∨ (t < xNext a d t (wI b 155 1) ∧ (∃ x, 0 ≤ x ∧ x < wI b 155 1 ∧ wI b 160 x ≠ 3 ∧ bDue b x = xNext a d t (wI b 155 1)) ∧ ∀ x, 0 ≤ x → x < wI b 155 1 → wI b 160 x ≠ 3 → bDue b x ≤ t ∨ xNext a d t (wI b 155 1) ≤ bDue b x) := by
  have hm := vOK_many hD.1.2
  refine itI_ind (f := xNe1 a d t) (a := (-6 : Int)) (fun i r => (r < 0 ∧ ∀ x, 0 ≤ x → x < i → wI b 160 x ≠ 3 → bDue b x ≤ t) ∨ (t < r ∧ (∃ x, 0 ≤ x ∧ x < i ∧ wI b 160 x ≠ 3 ∧ bDue b x = r) ∧ ∀ x, 0 ≤ x → x < i → wI b 160 x ≠ 3 → bDue b x ≤ t ∨ r ≤ bDue b x)) (wI b 155 1) (Or.inl ⟨by decide, fun x h0 h1 => by omega⟩) (fun i r i0 i1 hr => ?_) (wI b 155 1) hm.1 (Int.le_refl _)
  have he := rel_end h hD i0 i1
  unfold xNe1
  by_cases c : wI a (d + 27) i = wI a (d + 1 + 4) i
  · rw [if_pos c]
    have c3 := he.1.mp c
    rcases hr with ⟨r1, r2⟩ | ⟨r1, ⟨y, y0, y1, y3, yd⟩, r3⟩
    · refine Or.inl ⟨r1, fun x h0 h1 h3 => ?_⟩
      by_cases e : x = i
      · subst e; exact absurd c3 h3
      · exact r2 x h0 (by omega) h3
    · refine Or.inr ⟨r1, ⟨y, y0, by omega, y3, yd⟩, fun x h0 h1 h3 => ?_⟩
      by_cases e : x = i
      · subst e; exact absurd c3 h3
      · exact r3 x h0 (by omega) h3
  · rw [if_neg c]
    have c3 : wI b 160 i ≠ 3 := fun k => c (he.1.mpr k)
    rw [he.2 c3]
    by_cases c4 : bDue b i ≤ t
    · rw [if_pos c4]
      rcases hr with ⟨r1, r2⟩ | ⟨r1, ⟨y, y0, y1, y3, yd⟩, r3⟩
      · refine Or.inl ⟨r1, fun x h0 h1 h3 => ?_⟩
        by_cases e : x = i
        · subst e; exact c4
        · exact r2 x h0 (by omega) h3
      · refine Or.inr ⟨r1, ⟨y, y0, by omega, y3, yd⟩, fun x h0 h1 h3 => ?_⟩
        by_cases e : x = i
        · subst e; exact Or.inl c4
        · exact r3 x h0 (by omega) h3
    · rw [if_neg c4]
      rcases hr with ⟨r1, r2⟩ | ⟨r1, ⟨y, y0, y1, y3, yd⟩, r3⟩
      · rw [if_pos r1]
        refine Or.inr ⟨by omega, ⟨i, i0, by omega, c3, rfl⟩, fun x h0 h1 h3 => ?_⟩
        by_cases e : x = i
        · subst e; exact Or.inr (Int.le_refl _)
        · exact Or.inl (r2 x h0 (by omega) h3)
      · rw [if_neg (by omega)]
        by_cases c5 : bDue b i < r
        · rw [if_pos c5]
          refine Or.inr ⟨by omega, ⟨i, i0, by omega, c3, rfl⟩, fun x h0 h1 h3 => ?_⟩
          by_cases e : x = i
          · subst e; exact Or.inr (Int.le_refl _)
          · have := r3 x h0 (by omega) h3
            omega
        · rw [if_neg c5]
          refine Or.inr ⟨r1, ⟨y, y0, by omega, y3, yd⟩, fun x h0 h1 h3 => ?_⟩
          by_cases e : x = i
          · subst e; right; omega
          · exact r3 x h0 (by omega) h3
def bQt (b : sm_W) (t e : Int) : Prop := (∀ x, 0 ≤ x → x < wI b 155 1 → mCan b x (t - 1) = 0) ∧ (∀ x, 0 ≤ x → x < wI b 155 1 → wI b 160 x ≠ 3 → bDue b x ≤ t - 1 ∨ e ≤ bDue b x) ∧ ∃ x, 0 ≤ x ∧ x < wI b 155 1 ∧ wI b 160 x ≠ 3 ∧ bDue b x = e
def rW (a : sm_W) (d : Nat) (b : sm_W) (t e : Int) : Prop := rel a d b ∧ t ≤ e ∧ (t = 0 → e = 0) ∧ (0 < t → bQt b t e)
theorem mEnd_all {w : sm_W} {t : Int} (n : Int) (hn : 0 ≤ n) : mEnd w t n = 1 → ∀ x, 0 ≤ x → x < n → mBk w t x ≠ 1 := by
  refine itI_ind (f := mEd w t) (a := (1 : Int)) (fun i r => r = 1 → ∀ x, 0 ≤ x → x < i → mBk w t x ≠ 1) n (fun _ x h0 h1 => by omega) (fun i r i0 i1 hr => ?_) n hn (Int.le_refl _)
  unfold mEd
  by_cases c : r = 1
  · rw [if_pos c]
    by_cases c2 : mBk w t i = 1
    · rw [if_pos c2]; intro k; exact absurd k (by decide)
    · rw [if_neg c2]
      intro _ x h0 h1
      by_cases e : x = i
      · subst e; exact c2
      · exact hr c x h0 (by omega)
  · rw [if_neg c]
    intro k
    exact absurd k c
theorem bAct {b : sm_W} {x t e : Int} (hD : mDay b) (x0 : 0 ≤ x) (x1 : x < wI b 155 1) (h3 : wI b 160 x ≠ 3) (hd : bDue b x = e) (h : t < e) : wI b 160 x = 2 ∨ (wI b 160 x ≤ 1 ∧ ¬ mReady b x ≤ t) := by
  have hs := hD.2 x x0 x1
  have hw3 : 0 ≤ wI b 160 x ∧ wI b 160 x ≤ 3 := by unfold mSh at hs; exact hs.2.2.1
  unfold bDue at hd
  by_cases c : wI b 160 x = 2
  · exact Or.inl c
  · rw [if_neg c] at hd
    right
    omega
theorem rW_quiet {a b : sm_W} {d : Nat} {t e : Int} (h : rW a d b t e) (hI : mInv b t) (t1 : t ≤ 100000) (hte : t < e) : bSm (mM6 b t) b ∧ rW a d (mM6 b t) (t + 1) e ∧ ¬ mEnd (mM4 b t) t (wI b 155 1) = 1 := by
  obtain ⟨hr, _, h0, hq⟩ := h
  obtain ⟨hD, hd, t0, hc⟩ := hI
  have ht : 0 < t := by omega
  obtain ⟨q1, q2, ⟨z, z0, z1, z3, zd⟩⟩ := hq ht
  have hm := vOK_many hD.1.2
  obtain ⟨d1, e1, d2, e2, d3, e3, k3, d4, e4, c4, u4, _⟩ := mMin_st hD hd t0 t1 hc
  have g1 : mM1 b t = b := by
    refine itI_ind (f := mCm1 t) (a := b) (fun i r => r = b) (wI b 155 1) rfl (fun i r i0 i1 k => ?_) (wI b 155 1) hm.1 (Int.le_refl _)
    rw [k]
    refine mCm1_no (fun c => ?_)
    have k1 := hd i i0 i1 c.1
    have k2 := q2 i i0 i1 (by rw [c.1]; decide)
    unfold bDue at k2
    rw [if_pos c.1] at k2
    omega
  have s2 : bSm (mM2 b t) b := by
    have := mM2_sm b t hm.1 e1
    rw [g1] at this
    exact this
  have hcan : ∀ x, 0 ≤ x → x < wI b 155 1 → mCan b x t = 0 := fun x x0 x1 => by
    rw [← q1 x x0 x1]
    have k2 := q2 x x0 x1
    unfold bDue at k2
    unfold mCan
    by_cases c : wI b 160 x ≤ 1
    · rw [if_neg (show ¬ wI b 160 x = 2 by omega)] at k2
      have k2 := k2 (by omega)
      by_cases c2 : mReady b x ≤ t
      · rw [if_pos (show wI b 160 x ≤ 1 ∧ mReady b x ≤ t from ⟨c, c2⟩), if_pos (show wI b 160 x ≤ 1 ∧ mReady b x ≤ t - 1 from ⟨c, by omega⟩)]
      · rw [if_neg (show ¬ (wI b 160 x ≤ 1 ∧ mReady b x ≤ t) from fun k => c2 k.2), if_neg (show ¬ (wI b 160 x ≤ 1 ∧ mReady b x ≤ t - 1) from fun k => c2 (by have := k.2; omega))]
    · rw [if_neg (show ¬ (wI b 160 x ≤ 1 ∧ mReady b x ≤ t) from fun k => c k.1), if_neg (show ¬ (wI b 160 x ≤ 1 ∧ mReady b x ≤ t - 1) from fun k => c k.1)]
  have g3 : mM3 b t = mM2 b t := by
    show mLv 9 (mM2 b t) t = mM2 b t
    rw [mLv_s, if_pos]
    rw [e2]
    exact (mNext_can hm.1).mpr (fun x x0 x1 => by rw [s2.can]; exact hcan x x0 x1)
  have s4 : bSm (mM4 b t) b := by
    have := mM4_sm b t hm.1 k3
    rw [g3] at this
    exact this.tr s2
  have s6 : bSm (mM6 b t) b := (mM6_sm b t).tr s4
  refine ⟨s6, ⟨s6.rel hr, by omega, fun k => by omega, fun _ => ⟨fun x x0 x1 => ?_, fun x x0 x1 x3 => ?_, z, z0, by rw [s6.1]; exact z1, by rw [s6.2.1]; exact z3, by rw [s6.due]; exact zd⟩⟩, fun hE => ?_⟩
  · rw [show t + 1 - 1 = t by omega, s6.can]
    exact hcan x x0 (by rw [← s6.1]; exact x1)
  · rw [s6.due]
    rw [s6.2.1] at x3
    have := q2 x x0 (by rw [← s6.1]; exact x1) x3
    omega
  · refine mEnd_all _ hm.1 hE z z0 z1 ?_
    rw [mBk_same s4.1 s4.2.1 s4.2.2.2.1]
    have k := bAct hD z0 z1 z3 zd hte
    unfold mBk
    rcases k with k | ⟨k, k2⟩
    · rw [if_pos k]
    · rw [if_neg (by omega), if_neg z3, if_neg (fun q => k2 q.2)]
/-- the class's own cells keep still -/
theorem xCome_d {d : Nat} {t : Int} (a : sm_W) (n : Int) (n0 : 0 ≤ n) (n8 : n ≤ 8) : wI (xCome d a t n) d = wI a d := by
  refine itI_ind (f := xCm1 d t) (a := a) (fun i r => wI r d = wI a d) n rfl (fun i r i0 i1 k => ?_) n n0 (Int.le_refl _)
  rw [← k]
  by_cases c : wI r (d + 28) i = 0
  · rw [xCm1_no (Or.inl c)]
  · by_cases c2 : wI r (d + 29) i = t
    · exact (xCm1_in (d := d) (t := t) (w := r) i0 (by omega) c c2).2.2.2.2.2.2.2.2
    · rw [xCm1_no (Or.inr c2)]
theorem xLL_d {d : Nat} {t : Int} : ∀ (k : Nat) (a : sm_W), 0 ≤ wI a (d + 1) 7 → wI a (d + 1) 7 ≤ 8 → wI (xLL k a d t) d = wI a d := by
  intro k
  induction k with
  | zero => exact fun _ _ _ => rfl
  | succ k ih =>
    intro a a0 a8
    rw [xLL_s]
    have hf := xFirst_in a d t (wI a (d + 1) 7) a0
    by_cases c : xFirst a d t (wI a (d + 1) 7) < 0
    · rw [if_pos c]
    · rw [if_neg c]
      have x0 : 0 ≤ xFirst a d t (wI a (d + 1) 7) := by omega
      have x1 : xFirst a d t (wI a (d + 1) 7) < 8 := by omega
      have k1 : wI (xLv1 a d (xFirst a d t (wI a (d + 1) 7)) t) (d + 1) = wI a (d + 1) := sDy_l0 (xLv1_fr a d _ t x0 x1)
      rw [ih _ (by rw [k1]; exact a0) (by rw [k1]; exact a8)]
      exact (xLv1_in (d := d) (t := t) (w := a) x0 x1).2.2.2.2.2.2.2.2
theorem xM2_3 {d : Nat} {t : Int} (a : sm_W) (n0 : 0 ≤ wI a (d + 1) 7) (n8 : wI a (d + 1) 7 ≤ 8) : wI (xM2 d a t) d 3 = t := by
  have hc : wI (xM1 d a t) d = wI (wsI a d 3 t) d := xCome_d _ _ n0 n8
  have hf : wI (xM1 d a t) (d + 1) = wI a (d + 1) := by
    have : sFr (sDy d) (wsI a d 3 t) (xM1 d a t) := sFr.it (f := xCm1 d t) _ n0 (fun i r i0 i1 _ => xCm1_fr d t r i0 (by omega))
    have h1 := sDy_l0 this
    rw [h1]
    exact wIf_ne (by omega)
  unfold xM2
  rw [xLL_d 8 _ (by rw [hf]; exact n0) (by rw [hf]; exact n8), hc, wI_wsI, if_pos ⟨rfl, rfl⟩]
theorem xLoop_neg {d : Nat} {t : Int} (h : t < 0) : ∀ (k : Nat) (a : sm_W), xLoop k d a t = a
  | 0, _ => rfl
  | k + 1, a => by rw [xLoop_s, if_pos h]
/-- both days at their ends -/
def rFin (a : sm_W) (d : Nat) (b : sm_W) : Prop := rel a d b ∧ mDay b ∧ wI a d 3 = wI b 154 17 ∧ wI b 154 18 = mLeft b (wI b 155 1) ∧ 0 ≤ wI b 154 17 ∧ ∀ x, 0 ≤ x → x < wI b 155 1 → wI b 160 x ≠ 2 ∧ (wI b 160 x ≤ 1 → mReady b x ≤ wI b 154 17)
theorem rel_day {d : Nat} : ∀ (N : Nat) (a b : sm_W) (t e : Int) (K : Nat), rW a d b t e → mInv b t → mPhi b (t - 1) + (if t = 0 then 1 else 0) < N → evM b (t - 1) + (if t = 0 then 1 else 0) < K → t + N ≤ 100000 → rFin (xLoop K d a e) d (mDayL N b t) := by
  intro N
  induction N with
  | zero =>
    intro a b t e K hW hI hP hK hN
    exfalso
    have := mPhi_nn hI.1 hI.2.1
    split at hP <;> omega
  | succ N ih =>
    intro a b t e K hW hI hP hK hN
    have t1 : t ≤ 100000 := by omega
    have hn := mInv_next hI t1
    have hm := vOK_many hI.1.1.2
    have hev := evM_min hI t1
    have hE0 := (evM_nn (t := t - 1) hI.1).1
    rw [mDayL_s]
    by_cases hte : t < e
    · obtain ⟨s6, w6, nE⟩ := rW_quiet hW hI t1 hte
      rw [if_neg nE]
      have t0 : ¬ t = 0 := fun k => by have := hW.2.2.1 k; omega
      obtain ⟨q1, q2, ⟨z, z0, z1, z3, zd⟩⟩ := hW.2.2.2 (by have := hI.2.2.1; omega)
      have hp := mPhi_next hI t1 ⟨z, z0, z1, bAct hI.1 z0 z1 z3 zd (by omega)⟩
      rw [if_neg t0] at hP hK
      refine ih a (mM6 b t) (t + 1) e K w6 hn.1 ?_ ?_ (by omega)
      · rw [show t + 1 - 1 = t by omega, if_neg (by have := hI.2.2.1; omega)]; omega
      · rw [show t + 1 - 1 = t by omega, if_neg (by have := hI.2.2.1; omega)]; omega
    · have hEq : e = t := by have := hW.2.1; omega
      subst hEq
      have t0 := hI.2.2.1
      obtain ⟨hr, hcan⟩ := rel_event hW.1 hI t1
      have hD6 : mDay (mM6 b e) := hn.1.1
      have hl : wI (xM2 d a e) (d + 1) 7 = wI b 155 1 := by rw [hr.1.1, hn.2]
      have hnx := rel_next hr hD6 t0
      rw [hn.2] at hnx
      have hl0 : wI a (d + 1) 7 = wI b 155 1 := hW.1.1.1
      have h3 := xM2_3 (d := d) (t := e) a (by rw [hl0]; exact hm.1) (by rw [hl0]; exact hm.2)
      obtain ⟨k, rfl⟩ : ∃ k, K = k + 1 := ⟨K - 1, by split at hK <;> omega⟩
      rw [xLoop_s, if_neg (by omega), hl]
      obtain ⟨hD, hd, _, hc⟩ := hI
      obtain ⟨d1, e1, d2, e2, d3, e3, k3, d4, e4, c4, u4, _⟩ := mMin_st hD hd t0 t1 hc
      have s6 := mM6_sm b e
      have hbk : ∀ x, mBk (mM6 b e) e x = mBk (mM4 b e) e x := fun x => mBk_same s6.1 s6.2.1 s6.2.2.2.1 e x
      by_cases hE : mEnd (mM4 b e) e (wI b 155 1) = 1
      · rw [if_pos hE]
        have hall := mEnd_all _ hm.1 hE
        have hst : ∀ x, 0 ≤ x → x < wI b 155 1 → wI (mM6 b e) 160 x ≠ 2 ∧ (wI (mM6 b e) 160 x ≤ 1 → mReady (mM6 b e) x ≤ e) := fun x x0 x1 => by
          have h1 := hall x x0 x1
          rw [← hbk] at h1
          unfold mBk at h1
          refine ⟨fun k2 => h1 (by rw [if_pos k2]), fun k1 => ?_⟩
          rw [if_neg (by omega), if_neg (by omega)] at h1
          apply Classical.byContradiction
          intro k4
          exact h1 (by rw [if_neg (fun q => k4 q.2)])
        have hneg : xNext (xM2 d a e) d e (wI b 155 1) < 0 := by
          rcases hnx with ⟨h1, _⟩ | ⟨h1, ⟨x, x0, x1, x3, xd⟩, _⟩
          · exact h1
          · exfalso
            have h2 := hst x x0 x1
            rw [← hn.2] at x1
            have h4 := bAct hD6 x0 x1 x3 xd h1
            rcases h4 with h4 | ⟨h4, h5⟩
            · exact h2.1 h4
            · exact h5 (h2.2 h4)
        rw [xLoop_neg hneg]
        have h17 : wI (mM6 b e) 154 17 = e := by unfold mM6; rw [wI_wsI, if_pos ⟨rfl, rfl⟩]
        have h18 : wI (mM6 b e) 154 18 = mLeft (mM4 b e) (wI b 155 1) := by
          unfold mM6 mM5
          rw [wI_wsI, if_neg (by omega), if_pos hE, wI_wsI, if_pos ⟨rfl, rfl⟩]
        refine ⟨hr, hD6, by rw [h3, h17], ?_, by rw [h17]; exact t0, fun x x0 x1 => ?_⟩
        · rw [h18, hn.2]
          have : mLf (mM6 b e) = mLf (mM4 b e) := funext fun x => funext fun r => by unfold mLf; rw [s6.2.1]
          unfold mLeft
          rw [this]
        · rw [h17]
          exact hst x x0 (by rw [← hn.2]; exact x1)
      · rw [if_neg hE]
        have hpos : e < xNext (xM2 d a e) d e (wI b 155 1) ∧ (∃ x, 0 ≤ x ∧ x < wI b 155 1 ∧ wI (mM6 b e) 160 x ≠ 3 ∧ bDue (mM6 b e) x = xNext (xM2 d a e) d e (wI b 155 1)) ∧ ∀ x, 0 ≤ x → x < wI b 155 1 → wI (mM6 b e) 160 x ≠ 3 → bDue (mM6 b e) x ≤ e ∨ xNext (xM2 d a e) d e (wI b 155 1) ≤ bDue (mM6 b e) x := by
          rcases hnx with ⟨_, h1⟩ | h1
          · exfalso
            obtain ⟨x, x0, x1, hb⟩ := mEnd_ex hm.1 hE
            rw [← hbk] at hb
            have h4 := mBk_act hD6 x0 (by rw [hn.2]; exact x1) hb
            have h5 := h1 x x0 x1 (by omega)
            unfold bDue at h5
            rcases h4 with h4 | ⟨h4, h6⟩
            · rw [if_pos h4] at h5
              have := hn.1.2.1 x x0 (by rw [hn.2]; exact x1) h4
              omega
            · rw [if_neg (by omega)] at h5
              exact h6 h5
          · exact h1
        have hI' : mInv b e := ⟨hD, hd, t0, hc⟩
        refine ih _ (mM6 b e) (e + 1) _ k ⟨hr, by omega, fun k => by omega, fun _ => ⟨fun x x0 x1 => ?_, fun x x0 x1 x3 => ?_, ?_⟩⟩ hn.1 ?_ ?_ (by omega)
        · rw [show e + 1 - 1 = e by omega]
          exact hcan x x0 (by rw [← hn.2]; exact x1)
        · rw [show e + 1 - 1 = e by omega]
          exact hpos.2.2 x x0 (by rw [← hn.2]; exact x1) x3
        · obtain ⟨x, x0, x1, x3, xd⟩ := hpos.2.1
          exact ⟨x, x0, by rw [hn.2]; exact x1, x3, xd⟩
        · rw [show e + 1 - 1 = e by omega, if_neg (by omega)]
          by_cases c : e = 0
          · rw [if_pos c] at hP
            have := mPhi_0 hI' t1
            omega
          · rw [if_neg c] at hP
            obtain ⟨q1, q2, ⟨z, z0, z1, z3, zd⟩⟩ := hW.2.2.2 (by omega)
            have hp := mPhi_next hI' t1 ⟨z, z0, z1, bAct hD z0 z1 z3 zd (by omega)⟩
            omega
        · rw [show e + 1 - 1 = e by omega, if_neg (by omega)]
          by_cases c : e = 0
          · rw [if_pos c] at hK
            have := hev.1
            omega
          · rw [if_neg c] at hK
            obtain ⟨q1, q2, ⟨z, z0, z1, z3, zd⟩⟩ := hW.2.2.2 (by omega)
            have := hev.2 ⟨z, z0, z1, z3, zd⟩
            omega
