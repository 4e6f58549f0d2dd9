/-! THE TWO DAYS: a shuttle comes in, a shuttle leaves -/
theorem mWay_cs (v : Int → Int) (x : Int) : mWay v x = 1 ∨ mWay v x = -1 := (mWay_pm v x).imp (fun h => h.1) (fun h => h.1)
/-- where a shuttle on a stretch goes to, is on its way -/
theorem mToS_b {b : sm_W} {x : Int} (hD : mDay b) (x0 : 0 ≤ x) (x1 : x < wI b 155 1) (h : wI b 160 x = 2) : (0 ≤ mToS b x ∧ mToS b x < 8) ∧ (0 ≤ wI b 161 x ∧ wI b 161 x < 7) ∧ mToS b x = (if 0 < mWay (wI b 155) x then wI b 161 x else wI b 161 x + 1) + mWay (wI b 155) x ∧ wI b 161 x = sFrom (if 0 < mWay (wI b 155) x then wI b 161 x else wI b 161 x + 1) (mWay (wI b 155) x) ∧ mToS b x ≠ wI b 155 (17 + 5 * x) ∧ mTo b x = mToS b x := by
  have hs := hD.2 x x0 x1
  have hq := vOK_sh hD.1.2 x0 x1
  have hw := mWay_pm (wI b 155) x
  unfold mSh at hs
  have h5 := hs.2.2.2.2.1 h
  unfold mToS sFrom mTo
  rw [if_pos h]
  rcases hw with ⟨hw, hlt⟩ | ⟨hw, hlt⟩ <;> rw [hw] <;> simp only [Int.reduceLT, if_true, if_false, true_and, and_true] <;> omega
theorem rel_cm1 {a b : sm_W} {d : Nat} {t x : Int} (h : rel a d b) (hD : mDay b) (x0 : 0 ≤ x) (x1 : x < wI b 155 1) : rel (xCm1 d t x a) d (mCm1 t x b) := by
  obtain ⟨hL, hS, hG⟩ := h
  have hm := vOK_many hD.1.2
  have hx := hS x x0 x1
  have hs := hD.2 x x0 x1
  have hw3 : 0 ≤ wI b 160 x ∧ wI b 160 x ≤ 3 := by unfold mSh at hs; exact hs.2.2.1
  by_cases c : wI b 160 x = 2 ∧ t - wI b 162 x = wI b 155 (10 + wI b 161 x)
  · have hb := mToS_b hD x0 x1 c.1
    unfold rSh at hx
    obtain ⟨x28, x27, x29⟩ := hx.2.1 c.1
    obtain ⟨l1, l2, l3, l4, l5, l6⟩ := hL
    obtain ⟨m3, m4, m5, m6, mw, mt⟩ := l5 x x0 x1
    have hf := xCm1_fr d t a x0 (show x < 8 by omega)
    obtain ⟨i27, i28, i29, i30, i31, i32, iC, iV, _⟩ := xCm1_in (d := d) (t := t) (w := a) x0 (show x < 8 by omega) (by omega) (by omega)
    rw [x27, mw, ← hb.2.2.1] at i27 i30 iC
    rw [x27, mw, ← hb.2.2.2.1] at i31
    rw [m6] at i29 i30
    obtain ⟨j160, j161, j162, j163, jo⟩ := mCm1_in c
    have j155 := jo 155 (by decide) (by decide) (by decide) (by decide)
    have j165 := jo 165 (by decide) (by decide) (by decide) (by decide)
    generalize xCm1 d t x a = A at *
    generalize mCm1 t x b = B at *
    have hTk : ∀ s, 0 ≤ s → ∀ y, rTk B s y = rTk b s y := fun s s0 y => by
      unfold rTk mTo
      rw [j160 y, j161 y, j155]
      by_cases e : y = x
      · subst e
        have h6 := hb.2.2.2.2.2
        unfold mToS at *
        rw [if_pos rfl, if_pos rfl, c.1]
        clear i27 i28 i29 i30 i31 i32 iC iV j160 j161 j162 j163 jo hS hG mt l6 l3 l4 l5
        grind
      · rw [if_neg e, if_neg e]
    refine ⟨rLn_fr ⟨l1, l2, l3, l4, l5, l6⟩ hf j155, fun y y0 y1 => ?_, ?_⟩
    · rw [j155] at y1
      have hy := hS y y0 y1
      unfold rSh mReady at *
      rw [i27, i28, i29, i30, j160, j161, j162, j155, j165]
      by_cases e : y = x
      · subst e
        simp only [if_true]
        refine ⟨fun g => ?_, fun g => ?_, fun g => ?_, fun g => ?_, fun g => ?_, fun s s0 s1 => ⟨?_, ?_⟩⟩
        · rw [if_neg (show ¬ (if mToS b y = wI b 155 (17 + 5 * y + 1) then 3 else 1) = (0 : Int) by split <;> decide)]
          refine ⟨(by first | exact True.intro | rfl), (by first | exact True.intro | rfl), (by first | exact True.intro | rfl), ?_⟩
          unfold xUrg
          rw [l2, mt _ hb.1.1 hb.1.2]
        · exfalso; revert g; split <;> decide
        · exact ⟨(by first | exact True.intro | rfl), (by first | exact True.intro | rfl)⟩
        · exfalso; revert g; split <;> decide
        · exact hb.2.2.2.2.1
        · rw [iC y s y0 (by omega), j163]
          by_cases k : s = mToS b y
          · rw [if_pos ⟨rfl, k⟩, if_pos (by omega)]
          · rw [if_neg (fun z => k z.2), if_neg (by omega)]
            exact (hy.2.2.2.2.2 s s0 s1).1
        · rw [iV y y0 (by omega)]
          exact (hy.2.2.2.2.2 s s0 s1).2
      · simp only [e, if_false]
        refine ⟨hy.1, hy.2.1, hy.2.2.1, hy.2.2.2.1, hy.2.2.2.2.1, fun s s0 s1 => ⟨?_, ?_⟩⟩
        · rw [iC y s y0 (by omega), if_neg (fun z => e z.1), j163, if_neg (by omega)]
          exact (hy.2.2.2.2.2 s s0 s1).1
        · rw [iV y y0 (by omega)]
          exact (hy.2.2.2.2.2 s s0 s1).2
    · obtain ⟨g1, g2, g3, g4⟩ := hG
      have j2 : ∀ y, wI B 160 y = 2 → y ≠ x := fun y hy e => by
        rw [j160, if_pos e] at hy
        revert hy
        split <;> decide
      refine ⟨fun s s0 s1 hz y y0 y1 => ?_, fun s s0 s1 hz => ?_, fun y z y0 y1 z0 z1 hy hz hyz => ?_, fun s s0 s1 => ?_⟩
      · rw [j155] at y1
        intro hy
        have hne := j2 y hy.1
        unfold bOn at hy
        rw [j160, j161, if_neg hne, if_neg hne] at hy
        rw [i31] at hz
        by_cases k : s = wI b 161 x
        · exact hne (g3 y x y0 y1 x0 x1 hy.1 c.1 (hy.2.trans k))
        · rw [if_neg k] at hz
          exact g1 s s0 s1 hz y y0 y1 hy
      · rw [i31] at hz
        by_cases k : s = wI b 161 x
        · rw [if_pos k] at hz
          exact absurd rfl hz
        · rw [if_neg k] at hz
          obtain ⟨y, y0, y1, hy⟩ := g2 s s0 s1 hz
          have hne : y ≠ x := fun e => k (by rw [← e]; exact hy.2.symm)
          refine ⟨y, y0, by rw [j155]; exact y1, ?_⟩
          unfold bOn
          rw [j160, j161, if_neg hne, if_neg hne]
          exact hy
      · have n1 := j2 y hy
        have n2 := j2 z hz
        rw [j155] at y1 z1
        rw [j160, if_neg n1] at hy
        rw [j160, if_neg n2] at hz
        rw [j161, j161, if_neg n1, if_neg n2] at hyz
        exact g3 y z y0 y1 z0 z1 hy hz hyz
      · rw [i32, g4 s s0 s1, j155]
        exact sumI_cgI hm.1 (fun y _ _ => (hTk s s0 y).symm)
  · rw [mCm1_no c, xCm1_no]
    · exact ⟨hL, hS, hG⟩
    · unfold rSh at hx
      by_cases k : wI b 160 x = 2
      · have := hx.2.1 k
        right
        omega
      · left
        by_cases k3 : wI b 160 x = 3
        · exact (hx.2.2.1 k3).1
        · exact (hx.1 (by omega)).1
theorem rel_come {a b : sm_W} {d : Nat} {t : Int} (h : rel a d b) (hD : mDay b) (t0 : 0 ≤ t) (t1 : t ≤ 100000) (n : Int) (n0 : 0 ≤ n) (n1 : n ≤ wI b 155 1) : rel (xCome d a t n) d (mCome b t n) := by
  have key : ∀ k : Nat, (k : Int) ≤ wI b 155 1 → rel (xCome d a t k) d (mCome b t k) := by
    intro k
    induction k with
    | zero => exact fun _ => h
    | succ k ih =>
      intro hk
      have e : ((k + 1 : Nat) : Int) = (k : Int) + 1 := by omega
      have e1 : xCome d a t ((k : Int) + 1) = xCm1 d t k (xCome d a t k) := itI_s _ _ (by omega)
      have e2 : mCome b t ((k : Int) + 1) = mCm1 t k (mCome b t k) := itI_s _ _ (by omega)
      have hI := mCome_inv hD t0 t1 k (by omega) (by omega)
      rw [e, e1, e2]
      exact rel_cm1 (ih (by omega)) hI.1 (by omega) (by rw [hI.2]; omega)
  have := key n.toNat (by omega)
  rw [Int.toNat_of_nonneg n0] at this
  exact this
/-- nobody is found on a stretch where nobody is -/
theorem mWho_neg (w : sm_W) (s n : Int) (hn : 0 ≤ n) : mWho w s n < 0 ↔ ∀ x, 0 ≤ x → x < n → ¬ bOn w x s := by
  refine itI_ind (f := fun x r => if wI w 160 x = 2 then (if wI w 161 x = s then x else r) else r) (a := (-6 : Int)) (fun i r => r < 0 ↔ ∀ x, 0 ≤ x → x < i → ¬ bOn w x s) n ⟨fun _ x h0 h1 => by omega, fun _ => by decide⟩ (fun i r i0 i1 hr => ?_) n hn (Int.le_refl _)
  by_cases c : wI w 160 i = 2
  · rw [if_pos c]
    by_cases c2 : wI w 161 i = s
    · rw [if_pos c2]
      exact ⟨fun h => by omega, fun h => absurd ⟨c, c2⟩ (h i i0 (by omega))⟩
    · rw [if_neg c2, hr]
      refine ⟨fun h x h0 h1 hx => ?_, fun h x h0 h1 => h x h0 (by omega)⟩
      by_cases e : x = i
      · subst e; exact c2 hx.2
      · exact h x h0 (by omega) hx
  · rw [if_neg c, hr]
    refine ⟨fun h x h0 h1 hx => ?_, fun h x h0 h1 => h x h0 (by omega)⟩
    by_cases e : x = i
    · subst e; exact c hx.1
    · exact h x h0 (by omega) hx
/-- where a shuttle that stands goes -/
theorem mSt_b {b : sm_W} {x : Int} (hD : mDay b) (x0 : 0 ≤ x) (x1 : x < wI b 155 1) (h : wI b 160 x ≤ 1) : (0 ≤ wI b 161 x ∧ wI b 161 x < 8) ∧ (0 ≤ sFrom (wI b 161 x) (mWay (wI b 155) x) ∧ sFrom (wI b 161 x) (mWay (wI b 155) x) < 7) ∧ (0 ≤ wI b 161 x + mWay (wI b 155) x ∧ wI b 161 x + mWay (wI b 155) x < 8) ∧ wI b 161 x ≠ wI b 155 (17 + 5 * x + 1) := by
  have hs := hD.2 x x0 x1
  have hq := vOK_sh hD.1.2 x0 x1
  have hw := mWay_pm (wI b 155) x
  unfold mSh at hs
  have h5 := hs.2.2.2.1 h
  unfold sFrom
  rcases hw with ⟨hw, hlt⟩ | ⟨hw, hlt⟩ <;> rw [hw] <;> simp only [Int.reduceLT, if_true, if_false] <;> omega
theorem rel_can {a b : sm_W} {d : Nat} {t x : Int} (h : rel a d b) (hD : mDay b) (x0 : 0 ≤ x) (x1 : x < wI b 155 1) : xCan a d x t = mCan b x t := by
  obtain ⟨hL, hS, hG⟩ := h
  have hm := vOK_many hD.1.2
  have hx := hS x x0 x1
  have hs := hD.2 x x0 x1
  have hw3 : 0 ≤ wI b 160 x ∧ wI b 160 x ≤ 3 := by unfold mSh at hs; exact hs.2.2.1
  have h3e : wI b 160 x = 3 → wI b 161 x = wI b 155 (17 + 5 * x + 1) := by unfold mSh at hs; exact hs.2.2.2.2.2
  obtain ⟨l1, l2, l3, l4, l5, l6⟩ := hL
  obtain ⟨m3, m4, m5, m6, mw, mt⟩ := l5 x x0 x1
  unfold rSh at hx
  unfold xCan mCan
  by_cases c : wI b 160 x ≤ 1
  · obtain ⟨y28, y27, y29, y30⟩ := hx.1 c
    have hb := mSt_b hD x0 x1 c
    rw [y28, y27, y29, mw, m4, if_neg hb.2.2.2, if_pos rfl]
    have hg : mWho b (sFrom (wI b 161 x) (mWay (wI b 155) x)) (wI b 155 1) < 0 ↔ wI a (d + 31) (sFrom (wI b 161 x) (mWay (wI b 155) x)) = 0 := by
      rw [mWho_neg _ _ _ hm.1]
      refine ⟨fun k => ?_, fun k => hG.1 _ hb.2.1.1 hb.2.1.2 k⟩
      apply Classical.byContradiction
      intro hne
      obtain ⟨y, y0, y1, hy⟩ := hG.2.1 _ hb.2.1.1 hb.2.1.2 hne
      exact k y y0 y1 hy
    have ht : wI a (d + 32) (wI b 161 x + mWay (wI b 155) x) = mTaken b (wI b 161 x + mWay (wI b 155) x) (wI b 155 1) := by
      rw [mTaken_sum _ _ _ hm.1]
      exact hG.2.2.2 _ hb.2.2.1.1 hb.2.2.1.2
    rw [ht, l3 _ hb.2.2.1.1 hb.2.2.1.2]
    by_cases r : mReady b x ≤ t
    · rw [if_pos r, if_pos (show wI b 160 x ≤ 1 ∧ mReady b x ≤ t from ⟨c, r⟩)]
      by_cases g : mWho b (sFrom (wI b 161 x) (mWay (wI b 155) x)) (wI b 155 1) < 0
      · rw [if_pos g, if_pos (hg.mp g)]
      · rw [if_neg g, if_neg (fun k => g (hg.mpr k))]
    · rw [if_neg r, if_neg (show ¬ (wI b 160 x ≤ 1 ∧ mReady b x ≤ t) from fun k => r k.2)]
  · rw [if_neg (show ¬ (wI b 160 x ≤ 1 ∧ mReady b x ≤ t) from fun k => c k.1)]
    by_cases k3 : wI b 160 x = 3
    · rw [(hx.2.2.1 k3).2, m4, if_pos (h3e k3)]
    · obtain ⟨y28, _, _⟩ := hx.2.1 (by omega)
      rw [y28]
      split
      · rfl
      · rw [if_neg (by decide)]
theorem rel_bef {a b : sm_W} {d : Nat} {x y : Int} (h : rel a d b) (hD : mDay b) (x0 : 0 ≤ x) (x1 : x < wI b 155 1) (y0 : 0 ≤ y) (yx : y < x) (hx : wI b 160 x ≤ 1) (hy : wI b 160 y ≤ 1) : xBef a d x y = mAhead b x y := by
  obtain ⟨hL, hS, hG⟩ := h
  have hX := hS x x0 x1
  have hY := hS y y0 (by omega)
  unfold rSh at hX hY
  obtain ⟨_, _, _, u1⟩ := hX.1 hx
  obtain ⟨_, _, _, u2⟩ := hY.1 hy
  obtain ⟨l1, l2, l3, l4, l5, l6⟩ := hL
  have q1 := l6 x y x0 x1 y0 (by omega)
  have q2 := l6 y x y0 (by omega) x0 x1
  have hf := vOK_first hD.1.2
  unfold xBef mAhead
  rw [u1, u2]
  clear l3 l4 l5 l6 hX hY hS hG u1 u2 l1 l2
  generalize mReady b x = rx at *
  generalize mReady b y = ry at *
  generalize vTime (wI b 155) x (wI b 161 x) = vx at *
  generalize vTime (wI b 155) y (wI b 161 y) = vy at *
  generalize wI b 155 (17 + 5 * x + 4) = px at *
  generalize wI b 155 (17 + 5 * y + 4) = py at *
  generalize wI a (d + 1 + 7) x = cx at *
  generalize wI a (d + 1 + 7) y = cy at *
  generalize wI b 155 0 = f at *
  grind
theorem rel_first {a b : sm_W} {d : Nat} {t : Int} (h : rel a d b) (hD : mDay b) (n : Int) (n0 : 0 ≤ n) (n1 : n ≤ wI b 155 1) : xFirst a d t n = mNext b t n := by
  have key : ∀ k : Nat, (k : Int) ≤ wI b 155 1 → xFirst a d t k = mNext b t k := by
    intro k
    induction k with
    | zero => exact fun _ => rfl
    | succ k ih =>
      intro hk
      have e : ((k + 1 : Nat) : Int) = (k : Int) + 1 := by omega
      have e1 : xFirst a d t ((k : Int) + 1) = xNx a d t k (xFirst a d t k) := itI_s _ _ (by omega)
      have e2 : mNext b t ((k : Int) + 1) = mNx b t k (mNext b t k) := itI_s _ _ (by omega)
      rw [e, e1, e2, ih (by omega)]
      have hb := mNext_in b t k (by omega)
      unfold xNx mNx
      rw [rel_can h hD (by omega) (by omega)]
      by_cases c : mCan b k t = 1
      · rw [if_pos c, if_pos c]
        by_cases c2 : mNext b t k < 0
        · rw [if_pos c2, if_pos c2]
        · rw [if_neg c2, if_neg c2]
          have c3 : 0 ≤ mNext b t k ∧ mNext b t k < k ∧ mCan b (mNext b t k) t = 1 := by omega
          rw [rel_bef h hD (by omega) (by omega) c3.1 c3.2.1 (mCan_pre c).1 (mCan_pre c3.2.2).1]
      · rw [if_neg c, if_neg c]
  have := key n.toNat (by omega)
  rw [Int.toNat_of_nonneg n0] at this
  exact this
