/-! THE TWO DAYS: step 2 of a minute -/
theorem rel_lv1 {a b : sm_W} {d : Nat} {t x : Int} (h : rel a d b) (hD : mDay b) (x0 : 0 ≤ x) (x1 : x < wI b 155 1) (hc : mCan b x t = 1) : rel (xLv1 a d x t) d (mLv1 b x t) := by
  obtain ⟨hL, hS, hG⟩ := h
  have hm := vOK_many hD.1.2
  have hx := hS x x0 x1
  have hp := mCan_pre hc
  have hb := mSt_b hD x0 x1 hp.1
  have hs := hD.2 x x0 x1
  have hw3 : 0 ≤ wI b 160 x ∧ wI b 160 x ≤ 3 := by unfold mSh at hs; exact hs.2.2.1
  have hfree : ∀ y, 0 ≤ y → y < wI b 155 1 → ¬ bOn b y (sFrom (wI b 161 x) (mWay (wI b 155) x)) := by
    refine (mWho_neg _ _ _ hm.1).mp ?_
    unfold mCan at hc
    rw [if_pos hp] at hc
    apply Classical.byContradiction
    intro k
    rw [if_neg k] at hc
    revert hc
    decide
  unfold rSh at hx
  obtain ⟨y28, y27, y29, y30⟩ := hx.1 hp.1
  obtain ⟨l1, l2, l3, l4, l5, l6⟩ := hL
  obtain ⟨m3, m4, m5, m6, mw, mt⟩ := l5 x x0 x1
  have hf := xLv1_fr a d x t x0 (show x < 8 by omega)
  obtain ⟨i27, i28, i29, i30, i31, i32, iV, iC, _⟩ := xLv1_in (d := d) (t := t) (w := a) x0 (show x < 8 by omega)
  rw [y27, mw] at i29 i31 i32
  rw [y27] at iV
  rw [m3, m4] at i32
  rw [l4 _ hb.2.1.1 hb.2.1.2] at i29
  obtain ⟨j160, j161, j162, j165, j164, jo⟩ := mLv1_in b x t
  have j155 := jo 155 (by decide) (by decide) (by decide) (by decide) (by decide)
  have j163 := jo 163 (by decide) (by decide) (by decide) (by decide) (by decide)
  have hw := mWay_cs (wI b 155) x
  generalize xLv1 a d x t = A at *
  generalize mLv1 b x t = B at *
  have j2 : ∀ y, y ≠ x → (wI B 160 y = wI b 160 y ∧ wI B 161 y = wI b 161 y) := fun y hy => by
    rw [j160, j161, if_neg hy, if_neg hy]
    exact ⟨rfl, rfl⟩
  refine ⟨rLn_fr ⟨l1, l2, l3, l4, l5, l6⟩ hf j155, fun y y0' y1' => ?_, ?_⟩
  · rw [j155] at y1'
    have hy := hS y y0' y1'
    unfold rSh mReady at *
    rw [i27, i28, i29, i30, j160, j161, j162, j155, j163]
    by_cases e : y = x
    · subst e
      simp only [if_true]
      refine ⟨fun g => ?_, fun g => ⟨(by first | exact True.intro | rfl), ?_, (by first | exact True.intro | rfl)⟩, fun g => ?_, fun g => ?_, fun g => ?_, fun s s0 s1 => ⟨?_, ?_⟩⟩
      · exfalso; revert g; decide
      · rw [y27]
        unfold sFrom
        rcases hw with hw | hw <;> rw [hw] <;> simp only [Int.reduceLT, if_true, if_false] <;> omega
      · exfalso; revert g; decide
      · exfalso; revert g; decide
      · exfalso; revert g; decide
      · rw [iC y y0' (by omega)]
        exact (hy.2.2.2.2.2 s s0 s1).1
      · rw [iV y s y0' (by omega), j165]
        by_cases k : s = wI b 161 y
        · rw [if_pos ⟨rfl, k⟩, if_pos (by omega)]
        · rw [if_neg (fun z => k z.2), if_neg (by omega)]
          exact (hy.2.2.2.2.2 s s0 s1).2
    · simp only [e, if_false]
      refine ⟨hy.1, hy.2.1, hy.2.2.1, hy.2.2.2.1, hy.2.2.2.2.1, fun s s0 s1 => ⟨?_, ?_⟩⟩
      · rw [iC y y0' (by omega)]
        exact (hy.2.2.2.2.2 s s0 s1).1
      · rw [iV y s y0' (by omega), if_neg (fun z => e z.1), j165, if_neg (by omega)]
        exact (hy.2.2.2.2.2 s s0 s1).2
  · obtain ⟨g1, g2, g3, g4⟩ := hG
    refine ⟨fun s s0 s1 hz y y0 y1 => ?_, fun s s0 s1 hz => ?_, fun y z y0 y1 z0 z1 hy hz hyz => ?_, fun s s0 s1 => ?_⟩
    · rw [j155] at y1
      rw [i31] at hz
      by_cases k : s = sFrom (wI b 161 x) (mWay (wI b 155) x)
      · rw [if_pos k] at hz
        exact absurd hz (by decide)
      · rw [if_neg k] at hz
        unfold bOn
        rw [j160, j161]
        by_cases e : y = x
        · rw [if_pos e, if_pos e]
          exact fun q => k q.2.symm
        · rw [if_neg e, if_neg e]
          exact g1 s s0 s1 hz y y0 y1
    · rw [i31] at hz
      by_cases k : s = sFrom (wI b 161 x) (mWay (wI b 155) x)
      · refine ⟨x, x0, by rw [j155]; exact x1, ?_⟩
        unfold bOn
        rw [j160, j161, if_pos rfl, if_pos rfl]
        exact ⟨rfl, k.symm⟩
      · rw [if_neg k] at hz
        obtain ⟨y, y0, y1, hy⟩ := g2 s s0 s1 hz
        have hne : y ≠ x := fun e => by
          have := hy.1
          rw [e] at this
          omega
        refine ⟨y, y0, by rw [j155]; exact y1, ?_⟩
        unfold bOn
        rw [j160, j161, if_neg hne, if_neg hne]
        exact hy
    · rw [j155] at y1 z1
      by_cases n1 : y = x
      · by_cases n2 : z = x
        · omega
        · rw [j160, if_neg n2] at hz
          rw [j161, j161, if_pos n1, if_neg n2] at hyz
          exact absurd ⟨hz, hyz.symm⟩ (hfree z z0 z1)
      · by_cases n2 : z = x
        · rw [j160, if_neg n1] at hy
          rw [j161, j161, if_neg n1, if_pos n2] at hyz
          exact absurd ⟨hy, hyz⟩ (hfree y y0 y1)
        · rw [j160, if_neg n1] at hy
          rw [j160, if_neg n2] at hz
          rw [j161, j161, if_neg n1, if_neg n2] at hyz
          exact g3 y z y0 y1 z0 z1 hy hz hyz
    · rw [i32, g4 s s0 s1, j155]
      have hon : ∀ y, y ≠ x → rTk B s y = rTk b s y := fun y hy => by
        unfold rTk mTo
        rw [(j2 y hy).1, (j2 y hy).2, j155]
      have hox : rTk B s x = rTk b s x + (-(if s = wI b 161 x ∧ wI b 161 x ≠ wI b 155 (17 + 5 * x) then 1 else 0) + (if s = wI b 161 x + mWay (wI b 155) x ∧ wI b 161 x + mWay (wI b 155) x ≠ wI b 155 (17 + 5 * x + 1) then 1 else 0)) := by
        have h0 := hx.2.2.2.1
        have h1 := hx.2.2.2.2.1
        have c01 : wI b 160 x = 0 ∨ wI b 160 x = 1 := by omega
        unfold rTk mTo sFrom at *
        rw [j160, j161, j155, if_pos rfl, if_pos rfl]
        clear i27 i28 i29 i30 i31 i32 iC iV j160 j161 j162 j163 j164 j165 j2 hon jo hS mt l6 l3 l4 l5 hfree g1 g2 g3 g4 hx hs y27 y28 y29 y30
        rcases hw with hw | hw <;> rw [hw] <;> simp only [Int.reduceLT, if_true, if_false] <;> rcases c01 with c01 | c01 <;> rw [c01] <;> simp only [Int.reduceEq, if_true, if_false, false_and, false_or, true_and] <;> grind
      have := sumI_upI (f := rTk B s) (g := rTk b s) (n := wI b 155 1) x0 x1 hox hon
      omega
theorem mSt_nn (b : sm_W) (hD : mDay b) : 0 ≤ mSt b ∧ mSt b ≤ 8 := by
  have hm := vOK_many hD.1.2
  have := cntP_le (fun y => decide (wI b 160 y ≤ 1)) (wI b 155 1) hm.1
  unfold mSt
  omega
theorem rel_ll {d : Nat} {t : Int} (t0 : 0 ≤ t) (t1 : t ≤ 100000) : ∀ (k : Nat) (a b : sm_W), rel a d b → mDay b → mSt b ≤ k → rel (xLL k a d t) d (mLv (k + 1) b t) ∧ mNext (mLv (k + 1) b t) t (wI b 155 1) < 0 := by
  intro k
  induction k with
  | zero =>
    intro a b h hD hk
    have hm := vOK_many hD.1.2
    have hn := mNext_in b t (wI b 155 1) hm.1
    rw [mLv_s]
    by_cases c : mNext b t (wI b 155 1) < 0
    · rw [if_pos c]
      exact ⟨h, c⟩
    · exfalso
      have hc : 0 ≤ mNext b t (wI b 155 1) ∧ mNext b t (wI b 155 1) < wI b 155 1 ∧ mCan b (mNext b t (wI b 155 1)) t = 1 := by omega
      have hp := mCan_pre hc.2.2
      have hcn := mLv1_cnt (t := t) hc.1 hc.2.1 hp.1
      have h0 := mSt_nn _ (mLv1_day hD hc.1 hc.2.1 hp.1 t0 t1)
      omega
  | succ k ih =>
    intro a b h hD hk
    have hm := vOK_many hD.1.2
    have hn := mNext_in b t (wI b 155 1) hm.1
    have hl1 : wI a (d + 1) 7 = wI b 155 1 := h.1.1
    rw [mLv_s, xLL_s, hl1, rel_first h hD _ hm.1 (Int.le_refl _)]
    by_cases c : mNext b t (wI b 155 1) < 0
    · rw [if_pos c, if_pos c]
      exact ⟨h, c⟩
    · rw [if_neg c, if_neg c]
      have hc : 0 ≤ mNext b t (wI b 155 1) ∧ mNext b t (wI b 155 1) < wI b 155 1 ∧ mCan b (mNext b t (wI b 155 1)) t = 1 := by omega
      have hp := mCan_pre hc.2.2
      have hcn := mLv1_cnt (t := t) hc.1 hc.2.1 hp.1
      have hD1 := mLv1_day hD hc.1 hc.2.1 hp.1 t0 t1
      have := ih _ _ (rel_lv1 h hD hc.1 hc.2.1 hc.2.2) hD1 (by omega)
      rw [mLv1_at] at this
      exact this
theorem mCan_cg {b u : sm_W} (h155 : wI u 155 = wI b 155) (h160 : wI u 160 = wI b 160) (h161 : wI u 161 = wI b 161) (h162 : wI u 162 = wI b 162) (x t : Int) : mCan u x t = mCan b x t := by
  have e1 : ∀ s i, mWho u s i = mWho b s i := fun s i => by unfold mWho; rw [h160, h161]
  have e2 : ∀ s i, mTaken u s i = mTaken b s i := fun s i => by
    unfold mTaken
    have : mTk u s = mTk b s := funext fun x => funext fun n => by unfold mTk mTo; rw [h155, h160, h161]
    rw [this]
  unfold mCan mReady
  rw [h155, h160, h161, h162]
  simp only [e1, e2]
theorem mNext_cg {b u : sm_W} (h155 : wI u 155 = wI b 155) (h160 : wI u 160 = wI b 160) (h161 : wI u 161 = wI b 161) (h162 : wI u 162 = wI b 162) (t n : Int) : mNext u t n = mNext b t n := by
  have e3 : mNx u t = mNx b t := funext fun x => funext fun r => by
    have e4 : ∀ y, mAhead u x y = mAhead b x y := fun y => by unfold mAhead mReady; rw [h155, h160, h161, h162]
    unfold mNx
    rw [mCan_cg h155 h160 h161 h162, e4]
  unfold mNext
  rw [e3]
theorem mNext_can {b : sm_W} {t n : Int} (hn : 0 ≤ n) : mNext b t n < 0 ↔ ∀ x, 0 ≤ x → x < n → mCan b x t = 0 := by
  refine itI_ind (f := mNx b t) (a := (-6 : Int)) (fun i r => r < 0 ↔ ∀ x, 0 ≤ x → x < i → mCan b x t = 0) n ⟨fun _ x h0 h1 => by omega, fun _ => by decide⟩ (fun i r i0 i1 hr => ?_) n hn (Int.le_refl _)
  have h01 := mCan_01 b i t
  unfold mNx
  by_cases c : mCan b i t = 1
  · rw [if_pos c]
    refine ⟨fun h => ?_, fun h => by have := h i i0 (by omega); omega⟩
    exfalso
    by_cases k : r < 0
    · rw [if_pos k] at h; omega
    · rw [if_neg k] at h
      split at h <;> omega
  · rw [if_neg c, hr]
    refine ⟨fun h x h0 h1 => ?_, fun h x h0 h1 => h x h0 (by omega)⟩
    by_cases e : x = i
    · subst e; omega
    · exact h x h0 (by omega)
/-- the cells of a day that a minute's meetings and waits don't touch -/
def bSm (u b : sm_W) : Prop := wI u 155 = wI b 155 ∧ wI u 160 = wI b 160 ∧ wI u 161 = wI b 161 ∧ wI u 162 = wI b 162 ∧ wI u 163 = wI b 163 ∧ wI u 165 = wI b 165
theorem mM2_sm (b : sm_W) (t : Int) (hm : 0 ≤ wI b 155 1) (h1 : wI (mM1 b t) 155 = wI b 155) : bSm (mM2 b t) (mM1 b t) := by
  have h := (mMeet_same t (mM1 b t) (wI b 155 1) hm (by rw [h1]; exact Int.le_refl _)).1
  exact ⟨h _ (by decide) (by decide), h _ (by decide) (by decide), h _ (by decide) (by decide), h _ (by decide) (by decide), h _ (by decide) (by decide), h _ (by decide) (by decide)⟩
theorem mM4_sm (b : sm_W) (t : Int) (hm : 0 ≤ wI b 155 1) (hc : mCtr (mM3 b t) (8 * t)) : bSm (mM4 b t) (mM3 b t) := by
  have h := (mWait_inv (t := t) hc (wI b 155 1) hm).1.1
  exact ⟨h _ (by decide) (by decide) (by decide), h _ (by decide) (by decide) (by decide), h _ (by decide) (by decide) (by decide), h _ (by decide) (by decide) (by decide), h _ (by decide) (by decide) (by decide), h _ (by decide) (by decide) (by decide)⟩
theorem mM6_sm (b : sm_W) (t : Int) : bSm (mM6 b t) (mM4 b t) := by
  have h := (mM6_st (w := b) (t := t)).1
  exact ⟨h _ (by decide), h _ (by decide), h _ (by decide), h _ (by decide), h _ (by decide), h _ (by decide)⟩
theorem bSm.tr {u v w : sm_W} (h : bSm u v) (k : bSm v w) : bSm u w := ⟨h.1.trans k.1, h.2.1.trans k.2.1, h.2.2.1.trans k.2.2.1, h.2.2.2.1.trans k.2.2.2.1, h.2.2.2.2.1.trans k.2.2.2.2.1, h.2.2.2.2.2.trans k.2.2.2.2.2⟩
theorem bSm.rel {a b u : sm_W} {d : Nat} (h : bSm u b) (k : rel a d b) : rel a d u := rel_b k h.1 h.2.1 h.2.2.1 h.2.2.2.1 h.2.2.2.2.1 h.2.2.2.2.2
theorem bSm.can {b u : sm_W} (h : bSm u b) (x t : Int) : mCan u x t = mCan b x t := mCan_cg h.1 h.2.1 h.2.2.1 h.2.2.2.1 x t
theorem bSm.rdy {b u : sm_W} (h : bSm u b) (x : Int) : mReady u x = mReady b x := by unfold mReady; rw [h.1, h.2.1, h.2.2.2.1]
theorem bSm.due {b u : sm_W} (h : bSm u b) (x : Int) : bDue u x = bDue b x := by unfold bDue; rw [h.rdy, h.1, h.2.1, h.2.2.1, h.2.2.2.1]
/-- a minute in which something is up, for both -/
theorem rel_event {a b : sm_W} {d : Nat} {t : Int} (h : rel a d b) (hI : mInv b t) (t1 : t ≤ 100000) : rel (xM2 d a t) d (mM6 b t) ∧ ∀ x, 0 ≤ x → x < wI b 155 1 → mCan (mM6 b t) x t = 0 := by
  obtain ⟨hD, hd, t0, hc⟩ := hI
  have hm := vOK_many hD.1.2
  obtain ⟨d1, e1, d2, e2, d3, e3, k3, d4, e4, c4, u4, _⟩ := mMin_st hD hd t0 t1 hc
  have r0 : rel (wsI a d 3 t) d b := rel_a h ((sFr.refl a).st rfl)
  have hl1 : wI a (d + 1) 7 = wI b 155 1 := h.1.1
  have r1 : rel (xM1 d a t) d (mM1 b t) := by
    unfold xM1 mM1
    rw [hl1]
    exact rel_come r0 hD t0 t1 _ hm.1 (Int.le_refl _)
  have r2 : rel (xM1 d a t) d (mM2 b t) := (mM2_sm b t hm.1 e1).rel r1
  have r3 := rel_ll t0 t1 8 _ _ r2 d2 (mSt_nn _ d2).2
  have s4 : bSm (mM6 b t) (mM3 b t) := (mM6_sm b t).tr (mM4_sm b t hm.1 k3)
  refine ⟨s4.rel r3.1, ?_⟩
  have h9 := (mNext_can (b := mLv 9 (mM2 b t) t) (t := t) (n := wI (mM2 b t) 155 1) (by rw [e2]; exact hm.1)).mp r3.2
  intro x x0 x1
  rw [s4.can]
  exact h9 x x0 (by rw [e2]; exact x1)
