/-! THE REFERENCE: a day comes to its end -/
def sumI (f : Int → Int) (n : Int) : Int := itI (fun x r => r + f x) 0 n
theorem sumI_s (f : Int → Int) {n : Int} (h : 0 ≤ n) : sumI f (n + 1) = sumI f n + f n := itI_s _ _ h
theorem sumI_le {f g : Int → Int} : ∀ n : Nat, (∀ x, 0 ≤ x → x < n → f x ≤ g x) → sumI f n ≤ sumI g n
  | 0, _ => Int.le_refl _
  | n + 1, h => by
    have e : ((n + 1 : Nat) : Int) = (n : Int) + 1 := by omega
    rw [e, sumI_s f (by omega), sumI_s g (by omega)]
    have h1 := sumI_le n (fun x h0 h1 => h x h0 (by omega))
    have h2 := h n (by omega) (by omega)
    omega
theorem sumI_lt {f g : Int → Int} {x : Int} (h0 : 0 ≤ x) (hx : f x + 1 ≤ g x) : ∀ n : Nat, x < n → (∀ y, 0 ≤ y → y < n → f y ≤ g y) → sumI f n + 1 ≤ sumI g n
  | 0, h, _ => by omega
  | n + 1, hlt, h => by
    have e : ((n + 1 : Nat) : Int) = (n : Int) + 1 := by omega
    rw [e, sumI_s f (by omega), sumI_s g (by omega)]
    have h2 := h n (by omega) (by omega)
    by_cases c : x < n
    · have h1 := sumI_lt h0 hx n c (fun y y0 y1 => h y y0 (by omega))
      omega
    · have h1 := sumI_le n (fun y y0 y1 => h y y0 (by omega))
      have : x = n := by omega
      subst this
      omega
theorem sumI_0 {f : Int → Int} : ∀ n : Nat, (∀ x, 0 ≤ x → x < n → 0 ≤ f x) → 0 ≤ sumI f n
  | 0, _ => Int.le_refl _
  | n + 1, h => by
    have e : ((n + 1 : Nat) : Int) = (n : Int) + 1 := by omega
    rw [e, sumI_s f (by omega)]
    have h1 := sumI_0 n (fun x h0 h1 => h x h0 (by omega))
    have h2 := h n (by omega) (by omega)
    omega
theorem sumI_b {f : Int → Int} {b : Int} : ∀ n : Nat, (∀ x, 0 ≤ x → x < n → f x ≤ b) → sumI f n ≤ b * n
  | 0, _ => by show (0 : Int) ≤ b * ((0 : Nat) : Int); simp
  | n + 1, h => by
    have e : ((n + 1 : Nat) : Int) = (n : Int) + 1 := by omega
    rw [e, sumI_s f (by omega), Int.mul_add, Int.mul_one]
    have h1 := sumI_b n (fun x h0 h1 => h x h0 (by omega))
    have h2 := h n (by omega) (by omega)
    omega
/-- what a shuttle has before it, in minutes at most -/
def mPh (w : sm_W) (t x : Int) : Int :=
  if wI w 160 x = 3 then 0 else (if wI w 160 x = 2 then wI w 162 x + wI w 155 (10 + wI w 161 x) - t + 60 * (if wI w 155 (17 + 5 * x) < wI w 155 (17 + 5 * x + 1) then wI w 155 (17 + 5 * x + 1) - (wI w 161 x + 1) else wI w 161 x - wI w 155 (17 + 5 * x + 1)) + 30 else (if mReady w x ≤ t then 0 else mReady w x - t) + 60 * (if wI w 155 (17 + 5 * x) < wI w 155 (17 + 5 * x + 1) then wI w 155 (17 + 5 * x + 1) - wI w 161 x else wI w 161 x - wI w 155 (17 + 5 * x + 1)))
/-- nobody on a stretch is due -/
def mDue (w : sm_W) (t : Int) : Prop := ∀ x, 0 ≤ x → x < wI w 155 1 → wI w 160 x = 2 → t < wI w 162 x + wI w 155 (10 + wI w 161 x)
/-- since when, is not later -/
def mSin (w : sm_W) (t : Int) : Prop := ∀ x, 0 ≤ x → x < wI w 155 1 → wI w 162 x ≤ t
theorem mCm1_off {t x y : Int} {w : sm_W} (h : y ≠ x) : wI (mCm1 t x w) 160 y = wI w 160 y ∧ wI (mCm1 t x w) 161 y = wI w 161 y ∧ wI (mCm1 t x w) 162 y = wI w 162 y := by
  unfold mCm1
  split
  · split <;> simp [wI_wsI, h]
  · exact ⟨rfl, rfl, rfl⟩
theorem mCome_off {t : Int} {w : sm_W} (y n : Int) (hn : 0 ≤ n) (hy : n ≤ y) : wI (mCome w t n) 160 y = wI w 160 y ∧ wI (mCome w t n) 161 y = wI w 161 y ∧ wI (mCome w t n) 162 y = wI w 162 y := by
  refine itI_ind (f := mCm1 t) (fun i r => i ≤ y → wI r 160 y = wI w 160 y ∧ wI r 161 y = wI w 161 y ∧ wI r 162 y = wI w 162 y) n (fun _ => ⟨rfl, rfl, rfl⟩) (fun i r i0 i1 hr hi => ?_) n hn (Int.le_refl _) hy
  have h1 := mCm1_off (t := t) (x := i) (y := y) (w := r) (by omega)
  have h2 := hr (by omega)
  exact ⟨h1.1.trans h2.1, h1.2.1.trans h2.2.1, h1.2.2.trans h2.2.2⟩
/-- what a shuttle's row is behind come, told by what it was ahead of it -/
theorem mCome_on {t : Int} {w : sm_W} (hD : mDay w) (t0 : 0 ≤ t) (t1 : t ≤ 100000) {y n : Int} (h0 : 0 ≤ y) (hy : y < n) (hn : n ≤ wI w 155 1) : wI (mCome w t n) 160 y = wI (mCm1 t y w) 160 y ∧ wI (mCome w t n) 161 y = wI (mCm1 t y w) 161 y ∧ wI (mCome w t n) 162 y = wI (mCm1 t y w) 162 y := by
  have key : ∀ k : Nat, y + 1 + k ≤ wI w 155 1 → wI (mCome w t (y + 1 + k)) 160 y = wI (mCm1 t y w) 160 y ∧ wI (mCome w t (y + 1 + k)) 161 y = wI (mCm1 t y w) 161 y ∧ wI (mCome w t (y + 1 + k)) 162 y = wI (mCm1 t y w) 162 y := by
    intro k
    induction k with
    | zero =>
      intro hk
      rw [show y + 1 + ((0 : Nat) : Int) = y + 1 by omega]
      have hu : mCome w t (y + 1) = mCm1 t y (mCome w t y) := itI_s _ _ h0
      have ho := mCome_off (t := t) (w := w) y y h0 (Int.le_refl _)
      have ha := (mCome_inv hD t0 t1 y h0 (by omega)).2
      rw [hu]
      generalize mCome w t y = u at *
      unfold mCm1
      rw [ho.1, ho.2.1, ho.2.2, ha]
      split
      · split <;> simp [wI_wsI]
      · exact ho
    | succ k ih =>
      intro hk
      have h1 := ih (by omega)
      rw [show y + 1 + ((k + 1 : Nat) : Int) = (y + 1 + k) + 1 by omega]
      have hu : mCome w t (y + 1 + k + 1) = mCm1 t (y + 1 + k) (mCome w t (y + 1 + k)) := itI_s _ _ (by omega)
      have h2 := mCm1_off (t := t) (x := y + 1 + k) (y := y) (w := mCome w t (y + 1 + k)) (by omega)
      rw [hu]
      exact ⟨h2.1.trans h1.1, h2.2.1.trans h1.2.1, h2.2.2.trans h1.2.2⟩
  have := key (n - (y + 1)).toNat (by omega)
  rw [show y + 1 + (((n - (y + 1)).toNat : Nat) : Int) = n by omega] at this
  exact this
theorem mPh_nn {w : sm_W} {t x : Int} (hD : mDay w) (hd : mDue w t) (h0 : 0 ≤ x) (h1 : x < wI w 155 1) : 0 ≤ mPh w t x := by
  have hs := hD.2 x h0 h1
  have hq := vOK_sh hD.1.2 h0 h1
  have hdx := hd x h0 h1
  unfold mSh at hs
  unfold mPh
  split
  · omega
  · split
    · next h2 =>
      have := hdx h2
      split <;> omega
    · split <;> split <;> omega
/-- come at the next minute: less by one for who is on his way, or not ready -/
theorem mPh_come {w : sm_W} {t x : Int} (hD : mDay w) (hd : mDue w t) (t0 : -1 ≤ t) (t1 : t < 100000) (h0 : 0 ≤ x) (h1 : x < wI w 155 1) : mPh (mCome w (t + 1) (wI w 155 1)) (t + 1) x ≤ mPh w t x ∧ ((wI w 160 x = 2 ∨ (wI w 160 x ≤ 1 ∧ ¬ mReady w x ≤ t)) → mPh (mCome w (t + 1) (wI w 155 1)) (t + 1) x + 1 ≤ mPh w t x) := by
  have hs := hD.2 x h0 h1
  have hq := vOK_sh hD.1.2 h0 h1
  have hdx := hd x h0 h1
  obtain ⟨e1, e2, e3⟩ := mCome_on (t := t + 1) hD (by omega) (by omega) h0 h1 (Int.le_refl _)
  have ha := (mCome_inv (t := t + 1) hD (by omega) (by omega) (wI w 155 1) (by omega) (Int.le_refl _)).2
  have hwp := mWay_pm (wI w 155) x
  unfold mSh at hs
  unfold mPh mReady
  rw [e1, e2, e3, ha]
  unfold mCm1
  by_cases c : wI w 160 x = 2 ∧ t + 1 - wI w 162 x = wI w 155 (10 + wI w 161 x)
  · rw [if_pos c]
    have hd2 := hdx c.1
    split <;> simp only [wI_wsI, Nat.reduceEqDiff, false_and, true_and, if_false, if_true] <;> grind
  · rw [if_neg c]
    grind
theorem mDue_come {w : sm_W} {t : Int} (hD : mDay w) (hd : mDue w t) (t0 : -1 ≤ t) (t1 : t < 100000) : mDue (mCome w (t + 1) (wI w 155 1)) (t + 1) := by
  have hm := vOK_many hD.1.2
  have ha := (mCome_inv (t := t + 1) hD (by omega) (by omega) (wI w 155 1) hm.1 (Int.le_refl _)).2
  intro x h0 h1
  rw [ha] at h1
  have hs := hD.2 x h0 h1
  have hdx := hd x h0 h1
  obtain ⟨e1, e2, e3⟩ := mCome_on (t := t + 1) hD (by omega) (by omega) h0 h1 (Int.le_refl _)
  rw [e1, e2, e3, ha]
  unfold mCm1
  by_cases c : wI w 160 x = 2 ∧ t + 1 - wI w 162 x = wI w 155 (10 + wI w 161 x)
  · rw [if_pos c]
    split <;> simp only [wI_wsI, Nat.reduceEqDiff, false_and, true_and, if_false, if_true] <;> split <;> omega
  · rw [if_neg c]
    omega
theorem mPh_lv1 {w : sm_W} {t x y : Int} (hD : mDay w) (h0 : 0 ≤ x) (h1 : x < wI w 155 1) (hs : wI w 160 x ≤ 1 ∧ mReady w x ≤ t) : mPh (mLv1 w x t) t y ≤ mPh w t y := by
  by_cases e : y = x
  · subst e
    have hx := hD.2 y h0 h1
    have hq := vOK_sh hD.1.2 h0 h1
    have hwp := mWay_pm (wI w 155) y
    unfold mSh at hx
    have hr : 1 ≤ wI w 155 (10 + sFrom (wI w 161 y) (mWay (wI w 155) y)) ∧ wI w 155 (10 + sFrom (wI w 161 y) (mWay (wI w 155) y)) ≤ 30 := by
      refine vOK_ru hD.1.2 ?_ ?_
      · unfold sFrom; split <;> omega
      · unfold sFrom; split <;> omega
    have hsf : sFrom (wI w 161 y) (mWay (wI w 155) y) = if 0 < mWay (wI w 155) y then wI w 161 y else wI w 161 y - 1 := rfl
    generalize hz : sFrom (wI w 161 y) (mWay (wI w 155) y) = z at *
    unfold mPh
    rw [mLv1_at]
    unfold mLv1
    simp only [wI_wsI, Nat.reduceEqDiff, false_and, true_and, if_false, if_true]
    rw [hz]
    grind
  · have e1 : wI (mLv1 w x t) 160 y = wI w 160 y := by simp [mLv1, wI_wsI, e]
    have e2 : wI (mLv1 w x t) 161 y = wI w 161 y := by simp [mLv1, wI_wsI, e]
    have e3 : wI (mLv1 w x t) 162 y = wI w 162 y := by simp [mLv1, wI_wsI, e]
    have e4 : mReady (mLv1 w x t) y = mReady w y := by unfold mReady; rw [e1, e3, mLv1_at]
    unfold mPh
    rw [e1, e2, e3, e4, mLv1_at]
    exact Int.le_refl _
theorem mDue_lv1 {w : sm_W} {t x : Int} (hD : mDay w) (hd : mDue w t) (h0 : 0 ≤ x) (h1 : x < wI w 155 1) (hs : wI w 160 x ≤ 1) : mDue (mLv1 w x t) t := by
  intro y y0 y1 hy
  rw [mLv1_at] at y1 ⊢
  by_cases e : y = x
  · subst e
    have hx := hD.2 y h0 h1
    have hq := vOK_sh hD.1.2 h0 h1
    have hwp := mWay_pm (wI w 155) y
    unfold mSh at hx
    have hr : 1 ≤ wI w 155 (10 + sFrom (wI w 161 y) (mWay (wI w 155) y)) := by
      refine (vOK_ru hD.1.2 ?_ ?_).1
      · unfold sFrom; split <;> omega
      · unfold sFrom; split <;> omega
    simp only [mLv1, wI_wsI, Nat.reduceEqDiff, false_and, true_and, if_false, if_true]
    omega
  · have e1 : wI (mLv1 w x t) 160 y = wI w 160 y := by simp [mLv1, wI_wsI, e]
    have e2 : wI (mLv1 w x t) 161 y = wI w 161 y := by simp [mLv1, wI_wsI, e]
    have e3 : wI (mLv1 w x t) 162 y = wI w 162 y := by simp [mLv1, wI_wsI, e]
    rw [e1] at hy
    rw [e2, e3]
    exact hd y y0 y1 hy
theorem mLv_ph {t : Int} : ∀ (n : Nat) {w : sm_W}, mDay w → mDue w t → 0 ≤ t → t ≤ 100000 → mDue (mLv n w t) t ∧ ∀ y, mPh (mLv n w t) t y ≤ mPh w t y
  | 0, w, _, hd, _, _ => ⟨hd, fun _ => Int.le_refl _⟩
  | n + 1, w, hD, hd, t0, t1 => by
    rw [mLv_s]
    have hn := mNext_in w t (wI w 155 1) (vOK_many hD.1.2).1
    split
    · exact ⟨hd, fun _ => Int.le_refl _⟩
    · next hx =>
      have hc := mCan_pre (w := w) (x := mNext w t (wI w 155 1)) (t := t) (by omega)
      have h := mLv_ph n (mLv1_day hD (by omega) (by omega) hc.1 t0 t1) (mDue_lv1 hD hd (by omega) (by omega) hc.1) t0 t1
      exact ⟨h.1, fun y => Int.le_trans (h.2 y) (mPh_lv1 hD (by omega) (by omega) hc)⟩
theorem mPh_same {w u : sm_W} (h1 : wI u 155 = wI w 155) (h2 : wI u 160 = wI w 160) (h3 : wI u 161 = wI w 161) (h4 : wI u 162 = wI w 162) (t x : Int) : mPh u t x = mPh w t x := by
  have e : mReady u x = mReady w x := by unfold mReady; rw [h1, h2, h4]
  unfold mPh
  rw [h1, h2, h3, h4, e]
theorem mDue_same {w u : sm_W} (h1 : wI u 155 = wI w 155) (h2 : wI u 160 = wI w 160) (h3 : wI u 161 = wI w 161) (h4 : wI u 162 = wI w 162) {t : Int} (h : mDue w t) : mDue u t := by
  unfold mDue
  rw [h1, h2, h3, h4]
  exact h
