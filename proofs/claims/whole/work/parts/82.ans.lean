/-! ANSWERS: the same words over the class's day and the reference's -/
theorem itI_cg {α : Type} {f g : Int → α → α} {a : α} {n : Int} (hn : 0 ≤ n) (h : ∀ i r, 0 ≤ i → i < n → f i r = g i r) : itI f a n = itI g a n := by
  have key : ∀ k : Nat, (k : Int) ≤ n → itI f a k = itI g a k := by
    intro k
    induction k with
    | zero => exact fun _ => rfl
    | succ k ih =>
      intro hk
      rw [show ((k + 1 : Nat) : Int) = (k : Int) + 1 by omega, itI_s f a (by omega), itI_s g a (by omega), ih (by omega), h k _ (by omega) (by omega)]
  have := key n.toNat (by omega)
  rw [Int.toNat_of_nonneg hn] at this
  exact this
/-- the reference's day R is done as the class's day d of the world A -/
def rEq (A : sm_W) (d : Nat) (R : sm_W) : Prop := rDn A d R ∧ rI R (wI R 154 17 + 1) ∧ mDue R (wI R 154 17)
theorem rEq_n {A R : sm_W} {d : Nat} (h : rEq A d R) : wI A (d + 1) 7 = wI R 155 1 := h.1.1.1.1
theorem rEq_m {A R : sm_W} {d : Nat} (h : rEq A d R) : 0 ≤ wI R 155 1 ∧ wI R 155 1 ≤ 8 := vOK_many h.1.2.1.1.2
theorem rEq_X {A R : sm_W} {d : Nat} (h : rEq A d R) {x : Int} (x0 : 0 ≤ x) (x1 : x < wI R 155 1) : pX R (wI R 154 17) x := by
  have := h.2.1.1 x x0 x1
  rw [show wI R 154 17 + 1 - 1 = wI R 154 17 by omega] at this
  exact this
theorem rEq_W {A R : sm_W} {d : Nat} (h : rEq A d R) : pWt R (wI R 154 17) := by
  have := h.2.1.2.2.1
  rw [show wI R 154 17 + 1 - 1 = wI R 154 17 by omega] at this
  exact this
theorem rEq_C {A R : sm_W} {d : Nat} (h : rEq A d R) {x : Int} (x0 : 0 ≤ x) (x1 : x < wI R 155 1) {s : Int} (s0 : 0 ≤ s) (s1 : s < 8) : wI A (dC d x) s = bC R x s ∧ wI A (dV d x) s = bV R x s := (h.1.1.2.1 x x0 x1).2.2.2.2.2 s s0 s1
theorem rEq_L {A R : sm_W} {d : Nat} (h : rEq A d R) {x : Int} (x0 : 0 ≤ x) (x1 : x < wI R 155 1) : wI A (d + 1 + 3) x = bBe R x ∧ wI A (d + 1 + 4) x = bEn R x ∧ wI A (d + 1 + 5) x = wI R 155 (17 + 5 * x + 2) ∧ wI A (d + 1 + 6) x = wI R 155 (17 + 5 * x + 3) ∧ mWay (vL A (d + 1)) x = mWay (wI R 155) x ∧ ∀ p, 0 ≤ p → p < 8 → vTime (vL A (d + 1)) x p = vTime (wI R 155) x p := h.1.1.1.2.2.2.2.1 x x0 x1
theorem rEq_q {A R : sm_W} {d : Nat} (h : rEq A d R) {x : Int} (x0 : 0 ≤ x) (x1 : x < wI R 155 1) : (0 ≤ bBe R x ∧ bBe R x < 8) ∧ (0 ≤ bEn R x ∧ bEn R x < 8) ∧ bBe R x ≠ bEn R x := by
  have := vOK_sh h.1.2.1.1.2 x0 x1
  exact ⟨this.1, this.2.1, this.2.2.1⟩
theorem an_End {A R : sm_W} {d : Nat} (h : rEq A d R) {x : Int} (x0 : 0 ≤ x) (x1 : x < wI R 155 1) : xEnd A d x = mEndOf R x := by
  have hq := rEq_q h x0 x1
  unfold xEnd
  rw [(rEq_L h x0 x1).2.1, (rEq_C h x0 x1 hq.2.1.1 hq.2.1.2).1]
  rfl
theorem an_Dly {A R : sm_W} {d : Nat} (h : rEq A d R) {x : Int} (x0 : 0 ≤ x) (x1 : x < wI R 155 1) : xDly A d x = mDelay R x := by
  have hq := rEq_q h x0 x1
  have hl := rEq_L h x0 x1
  unfold xDly mDelay
  rw [an_End h x0 x1, hl.1, hl.2.2.1, hl.2.2.2.2.2 _ hq.1.1 hq.1.2]
  rfl
theorem an_Dl {A R : sm_W} {d : Nat} (h : rEq A d R) : xDl A d = mDl R := by
  have hm := rEq_m h
  have e : xDlS A d (wI R 155 1) = mDlS R (wI R 155 1) := itI_cg hm.1 (fun i r i0 i1 => by rw [an_Dly h i0 i1])
  unfold xDl mDl
  rw [rEq_n h, h.1.2.2.2.1, e]
theorem an_Gd {A R : sm_W} {d : Nat} (h : rEq A d R) : xGd A d (wI R 155 1) = mGd R (wI R 155 1) := by
  have hm := rEq_m h
  have key : ∀ k : Nat, (k : Int) ≤ wI R 155 1 → xGd A d k = mGd R k ∧ -6 ≤ mGd R k := by
    intro k
    induction k with
    | zero => exact fun _ => ⟨rfl, show (-6 : Int) ≤ -6 by decide⟩
    | succ k ih =>
      intro hk
      have e : ((k + 1 : Nat) : Int) = (k : Int) + 1 := by omega
      have e1 : xGd A d ((k : Int) + 1) = (if xGd A d k < xDly A d k then xDly A d k else xGd A d k) := itI_s _ _ (by omega)
      have e2 : mGd R ((k : Int) + 1) = (if mEndOf R k < 0 then mGd R k else (if mGd R k < mDelay R k then mDelay R k else mGd R k)) := itI_s _ _ (by omega)
      have hi := ih (by omega)
      rw [e, e1, e2, hi.1, an_Dly h (by omega) (by omega)]
      unfold mDelay
      by_cases c : mEndOf R k < 0
      · rw [if_pos c, if_pos c, if_neg (by omega)]
        exact ⟨rfl, hi.2⟩
      · rw [if_neg c, if_neg c]
        refine ⟨rfl, ?_⟩
        split <;> omega
  have := (key (wI R 155 1).toNat (by omega)).1
  rw [Int.toNat_of_nonneg hm.1] at this
  exact this
theorem an_Was {A R : sm_W} {d : Nat} (h : rEq A d R) {x p : Int} (x0 : 0 ≤ x) (x1 : x < wI R 155 1) (p0 : 0 ≤ p) (p1 : p < 8) : (xWas A d x p = 0 ↔ ¬ bOt R x p) ∧ (xWas A d x p = 0 ∨ xWas A d x p = 1) := by
  refine ⟨?_, xWas_01 A d x p⟩
  unfold xWas bOt
  rw [(rEq_C h x0 x1 p0 p1).1, (rEq_L h x0 x1).2.1]
  by_cases c : bC R x p < 0
  · rw [if_pos c]; exact ⟨fun _ k => by omega, fun _ => rfl⟩
  · rw [if_neg c]
    by_cases c2 : p = bEn R x
    · rw [if_pos c2]; exact ⟨fun _ k => k.2 c2, fun _ => rfl⟩
    · rw [if_neg c2]; exact ⟨fun k => absurd k (by decide), fun k => absurd ⟨by omega, c2⟩ k⟩
theorem an_Std {A R : sm_W} {d : Nat} (h : rEq A d R) {x p : Int} (x0 : 0 ≤ x) (x1 : x < wI R 155 1) (p0 : 0 ≤ p) (p1 : p < 8) : xStd A d x p = bStd R x p := by
  unfold xStd xWas bStd
  rw [(rEq_C h x0 x1 p0 p1).1, (rEq_L h x0 x1).2.1, (rEq_L h x0 x1).1]
theorem an_Rdy {A R : sm_W} {d : Nat} (h : rEq A d R) {x p : Int} (x0 : 0 ≤ x) (x1 : x < wI R 155 1) (p0 : 0 ≤ p) (p1 : p < 8) : xRdy A d x p = bRdy R x p := by
  unfold xRdy bRdy
  rw [(rEq_C h x0 x1 p0 p1).1, (rEq_L h x0 x1).1, (rEq_L h x0 x1).2.2.1, (rEq_L h x0 x1).2.2.2.1]
theorem an_Gone {A R : sm_W} {d : Nat} (h : rEq A d R) {x p : Int} (x0 : 0 ≤ x) (x1 : x < wI R 155 1) (p0 : 0 ≤ p) (p1 : p < 8) : xGone A d x p = bGone R (wI R 154 17) x p := by
  unfold xGone bGone
  rw [(rEq_C h x0 x1 p0 p1).2, h.1.2.2.1]
theorem an_For {A R : sm_W} {d : Nat} (h : rEq A d R) {x y : Int} (x0 : 0 ≤ x) (x1 : x < wI R 155 1) (y0 : 0 ≤ y) (y1 : y < wI R 155 1) : xFor A d x y = bFor R x y := by
  unfold xFor bFor
  rw [(rEq_L h x0 x1).2.2.2.2.1, (rEq_L h y0 y1).2.2.2.2.1]
theorem an_Mn {A R : sm_W} {d : Nat} (h : rEq A d R) {y s : Int} (y0 : 0 ≤ y) (y1 : y < wI R 155 1) (s0 : 0 ≤ s) (s1 : s < 7) (fr ah : Int) : xMn A d y s fr ah = bMn R y s fr ah := by
  have hb : 0 ≤ bBh R y s ∧ bBh R y s < 8 := by unfold bBh; split <;> omega
  have e1 : (if 0 < mWay (vL A (d + 1)) y then s else s + 1) = bBh R y s := by rw [(rEq_L h y0 y1).2.2.2.2.1]; rfl
  have e2 : wI A (d + 1 + 2) s = bRu R s := h.1.1.1.2.2.2.1 s s0 s1
  unfold xMn bMn
  rw [e1, (rEq_C h y0 y1 hb.1 hb.2).2, e2]
/-- who stood somewhere was ready when he left, or is ready now -/
theorem an_ge {A R : sm_W} {d : Nat} (h : rEq A d R) {x p : Int} (x0 : 0 ≤ x) (x1 : x < wI R 155 1) (p0 : 0 ≤ p) (p1 : p < 8) (hs : bStd R x p ≠ 0) : bRdy R x p ≤ bGone R (wI R 154 17) x p := by
  have hx := rEq_X h x0 x1
  have hD := h.1.2.1
  unfold bGone
  by_cases c : bV R x p < 0
  · rw [if_pos c]
    have hi := bStand_inv hD x0 x1 hx p0 p1 hs c
    have hsh := hD.2 x x0 x1
    have hw0 : 0 ≤ wI R 160 x := by unfold mSh at hsh; exact hsh.2.2.1.1
    have := (h.1.2.2.2.2.2 x x0 x1).2 hi.1
    rw [pX_rdy hx hi.1 hw0, ← hi.2] at this
    omega
  · rw [if_neg c]
    have := (hx.1.2.2 p p0 p1).2.2.2 (by omega)
    unfold bRdy
    exact this.1
/-- the stretch ahead of a place where somebody stood -/
theorem an_Sf {A R : sm_W} {d : Nat} (h : rEq A d R) {x p : Int} (x0 : 0 ≤ x) (x1 : x < wI R 155 1) (p0 : 0 ≤ p) (p1 : p < 8) (hs : bStd R x p ≠ 0) : sFrom p (mWay (vL A (d + 1)) x) = bSf R x p ∧ 0 ≤ bSf R x p ∧ bSf R x p < 7 := by
  have hq := rEq_q h x0 x1
  have hx := rEq_X h x0 x1
  have hw := mWay_pm (wI R 155) x
  rw [(rEq_L h x0 x1).2.2.2.2.1]
  refine ⟨rfl, ?_⟩
  have hk : p = bBe R x ∨ (0 ≤ bC R x p ∧ p ≠ bEn R x) := by
    unfold bStd at hs
    by_cases k1 : p = bBe R x
    · exact Or.inl k1
    · rw [if_neg k1] at hs
      right
      by_cases k2 : bC R x p < 0
      · rw [if_pos k2] at hs; exact absurd rfl hs
      · rw [if_neg k2] at hs
        refine ⟨by omega, fun k3 => ?_⟩
        rw [if_pos k3] at hs
        exact absurd rfl hs
  have g1 := (hx.1.2.2 p p0 p1).1
  have g2 := hx.1.1
  unfold bSf sFrom
  unfold kP bBe bEn at *
  rcases hw with ⟨hw, hlt⟩ | ⟨hw, hlt⟩ <;> rw [hw] <;> simp only [Int.reduceLT, if_true, if_false] <;> split at g1 <;> omega
theorem an_Wm {A R : sm_W} {d : Nat} (h : rEq A d R) : xWm A d (wI R 155 1) = mAw R (wI R 155 1) := by
  have hm := rEq_m h
  refine itI_cg hm.1 (fun x r x0 x1 => ?_)
  have hW := rEq_W h x x0 x1
  have e1 : ∀ r, xWr A d x r 8 = r + bTs R (wI R 154 17) x := fun r => by
    have key : ∀ k : Nat, (k : Int) ≤ 8 → xWr A d x r k = r + sumI (bTs1 R (wI R 154 17) x) k := by
      intro k
      induction k with
      | zero => intro _; show r = r + 0; omega
      | succ k ih =>
        intro hk
        have e : ((k + 1 : Nat) : Int) = (k : Int) + 1 := by omega
        have e1 : xWr A d x r ((k : Int) + 1) = xW1 A d x k (xWr A d x r k) := itI_s _ _ (by omega)
        rw [e, e1, ih (by omega), sumI_s _ (by omega)]
        unfold xW1 bTs1
        rw [an_Std h x0 x1 (by omega) (by omega), an_Gone h x0 x1 (by omega) (by omega), an_Rdy h x0 x1 (by omega) (by omega)]
        by_cases c : bStd R x k = 0
        · rw [if_pos c, if_pos c]; omega
        · have := an_ge h x0 x1 (p := k) (by omega) (by omega) c
          rw [if_neg c, if_neg c]
          split <;> omega
    exact key 8 (by decide)
  have hG : bG (bCf R x 1) R (wI R 154 17) x + bG (bCf R x 2) R (wI R 154 17) x = bG (fun _ => 1) R (wI R 154 17) x := by
    unfold bG
    rw [← sumI_add _ _ (by decide)]
    refine sumI_cgI (by decide) (fun p p0 p1 => ?_)
    unfold bG1
    by_cases c : bStd R x p = 0
    · rw [if_pos c, if_pos c, if_pos c]; rfl
    · rw [if_neg c, if_neg c, if_neg c, ← sumI_add _ _ hm.1]
      refine sumI_cgI hm.1 (fun y y0 y1 => ?_)
      unfold bGy bCf bFor
      by_cases c2 : mWay (wI R 155) x = mWay (wI R 155) y
      · rw [if_pos c2]; simp
      · rw [if_neg c2]; simp
  rw [e1]
  unfold mWtd
  rw [hW.2.1, hW.2.2.1, hW.2.2.2.1]
  omega
