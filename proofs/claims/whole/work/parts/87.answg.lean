/-! ANSWERS: the class's rows of meetings are the reference's -/
theorem an_Mm {A R : sm_W} {d : Nat} (h : rEq A d R) {x y p : Int} (x0 : 0 ≤ x) (x1 : x < wI R 155 1) (y0 : 0 ≤ y) (y1 : y < wI R 155 1) (p0 : 0 ≤ p) (p1 : p < 8) : mPm A d x y p = bMm R x y p := by
  unfold mPm bMm
  rw [(rEq_C h x0 x1 p0 p1).1, (rEq_C h y0 y1 p0 p1).1]
theorem an_Thr {A R : sm_W} {d : Nat} (h : rEq A d R) {x p t : Int} (x0 : 0 ≤ x) (x1 : x < wI R 155 1) (p0 : 0 ≤ p) (p1 : p < 8) : (xThr A d x p t = 0 ↔ ¬ bTh R x p t) := by
  unfold xThr bTh
  rw [(rEq_C h x0 x1 p0 p1).2]
  by_cases c : bV R x p < 0
  · rw [if_pos c]; exact ⟨fun k => absurd k (by decide), fun k => absurd (Or.inl c) k⟩
  · rw [if_neg c]
    by_cases c2 : bV R x p < t
    · rw [if_pos c2]; exact ⟨fun _ k => by omega, fun _ => rfl⟩
    · rw [if_neg c2]; exact ⟨fun k => absurd k (by decide), fun k => absurd (Or.inr (by omega)) k⟩
theorem an_Pk {A R : sm_W} {d : Nat} (h : rEq A d R) {x y p : Int} (x0 : 0 ≤ x) (x1 : x < wI R 155 1) (y0 : 0 ≤ y) (y1 : y < wI R 155 1) (p0 : 0 ≤ p) (p1 : p < 8) : (mPk A d x y p = 0 ↔ ¬ bK R x y p) := by
  have w1 := (an_Was h x0 x1 p0 p1).1
  have w2 := (an_Was h y0 y1 p0 p1).1
  have t1 := an_Thr h (t := bMm R x y p) x0 x1 p0 p1
  have t2 := an_Thr h (t := bMm R x y p) y0 y1 p0 p1
  unfold mPk bK
  rw [an_Mm h x0 x1 y0 y1 p0 p1]
  by_cases c1 : xWas A d x p = 0
  · rw [if_pos c1]; exact ⟨fun _ k => w1.mp c1 k.1, fun _ => rfl⟩
  · rw [if_neg c1]
    have d1 : bOt R x p := Classical.byContradiction fun k => c1 (w1.mpr k)
    by_cases c2 : xWas A d y p = 0
    · rw [if_pos c2]; exact ⟨fun _ k => w2.mp c2 k.2.1, fun _ => rfl⟩
    · rw [if_neg c2]
      have d2 : bOt R y p := Classical.byContradiction fun k => c2 (w2.mpr k)
      by_cases c3 : xThr A d x p (bMm R x y p) = 0
      · rw [if_pos c3]; exact ⟨fun _ k => t1.mp c3 k.2.2.1, fun _ => rfl⟩
      · rw [if_neg c3]
        have d3 : bTh R x p (bMm R x y p) := Classical.byContradiction fun k => c3 (t1.mpr k)
        rw [t2]
        exact ⟨fun k q => k q.2.2.2, fun k q => k ⟨d1, d2, d3, q⟩⟩
/-- a pair's row is put in, or none -/
theorem an_Pr {A R r : sm_W} {d : Nat} (h : rEq A d R) {x y : Int} (hP : bPr R x y) : mPr A r d x y 8 = if wI R 166 (8 * x + y) < 0 then r else mIns r (rwk R (8 * x + y)) := by
  have hm := rEq_m h
  have x0 : 0 ≤ x := hP.1.1
  have x1 : x < wI R 155 1 := by have := hP.1; omega
  have y0 : 0 ≤ y := by have := hP.1; omega
  have y1 : y < wI R 155 1 := hP.1.2.2
  have hM := (h.2.1.2.2.2 x y x0 (by omega) y0 (by omega)).2 hP
  by_cases c : wI R 166 (8 * x + y) < 0
  · rw [if_pos c]
    refine itI_ind (f := mP1 A d x y) (a := r) (fun i u => u = r) 8 rfl (fun i u i0 i1 hu => ?_) 8 (by decide) (Int.le_refl _)
    unfold mP1
    rw [if_pos ((an_Pk h x0 x1 y0 y1 i0 i1).mpr (hM.1 c i i0 i1))]
    exact hu
  · rw [if_neg c]
    obtain ⟨k1, k2, k3⟩ := hM.2 (by omega)
    generalize hq : wI R 167 (8 * x + y) = q at *
    have hrow : ((mPm A d x y q * 8 + q) * 8 + x) * 8 + y = rwk R (8 * x + y) := by
      rw [an_Mm h x0 x1 y0 y1 k2.1 k2.2, ← k3]
      unfold rwk
      rw [hq]
      omega
    have key : ∀ k : Nat, (k : Int) ≤ 8 → mPr A r d x y k = if q < k then mIns r (rwk R (8 * x + y)) else r := by
      intro k
      induction k with
      | zero => intro _; rw [if_neg (by omega)]; rfl
      | succ k ih =>
        intro hk
        have e1 : mPr A r d x y ((k : Int) + 1) = mP1 A d x y k (mPr A r d x y k) := itI_s _ _ (by omega)
        rw [show ((k + 1 : Nat) : Int) = (k : Int) + 1 by omega, e1, ih (by omega)]
        unfold mP1
        by_cases e : (k : Int) = q
        · rw [if_neg (show ¬ mPk A d x y k = 0 from fun z => (an_Pk h x0 x1 y0 y1 (by omega) (by omega)).mp z (by rw [e]; exact k1)), if_neg (show ¬ q < (k : Int) by omega), if_pos (show q < (k : Int) + 1 by omega), e, hrow]
        · rw [if_pos ((an_Pk h x0 x1 y0 y1 (by omega) (by omega)).mpr (fun z => e (bK_u h hP (by omega) (by omega) k2.1 k2.2 z k1)))]
          by_cases e2 : q < k
          · rw [if_pos e2, if_pos (by omega)]
          · rw [if_neg e2, if_neg (by omega)]
    have := key 8 (by decide)
    rw [if_pos (by omega)] at this
    exact this
theorem an_Ga {A R : sm_W} {d : Nat} (h : rEq A d R) : mJ (mGa A d) R 64 := by
  have hm := rEq_m h
  have hn := rEq_n h
  have hMt := h.2.1.2.2.2
  have hb : ∀ l, 0 ≤ l → l < 64 → 0 ≤ wI R 166 l → 0 ≤ wI R 167 l ∧ wI R 167 l < 8 := fun l l0 l1 hl => by
    have e : l = 8 * (l / 8) + l % 8 := by omega
    have g := hMt (l / 8) (l % 8) (by omega) (by omega) (by omega) (by omega)
    rw [← e] at g
    by_cases c : bPr R (l / 8) (l % 8)
    · exact ((g.2 c).2 hl).2.1
    · have := g.1 c
      omega
  have off : ∀ x y, 0 ≤ x → x < 8 → 0 ≤ y → y < 8 → ¬ bPr R x y → wI R 166 (8 * x + y) < 0 := fun x y x0 x1 y0 y1 hp => (hMt x y x0 x1 y0 y1).1 hp
  -- one row of pairs
  have hR : ∀ (r : sm_W) (lo : Int), 0 ≤ lo → lo < wI R 155 1 → mJ r R (8 * lo) → mJ (mGaR A d lo r (wI R 155 1 - (lo + 1))) R (8 * (lo + 1)) := fun r lo l0 l1 hr => by
    have r0 : mJ r R (8 * lo + (lo + 1)) := mJ_skips (by omega) (by omega) hr (fun l h0 h1 => by
      have := off lo (l - 8 * lo) l0 (by omega) (by omega) (by omega) (fun k => by have := k.1; omega)
      rw [show 8 * lo + (l - 8 * lo) = l by omega] at this
      exact this)
    have key : ∀ k : Nat, lo + 1 + k ≤ wI R 155 1 → mJ (mGaR A d lo r k) R (8 * lo + (lo + 1 + k)) := by
      intro k
      induction k with
      | zero => intro _; rw [show lo + 1 + ((0 : Nat) : Int) = lo + 1 by omega]; exact r0
      | succ k ih =>
        intro hk
        have hi := ih (by omega)
        have e1 : mGaR A d lo r ((k : Int) + 1) = mGa2 A d lo k (mGaR A d lo r k) := itI_s _ _ (by omega)
        rw [show ((k + 1 : Nat) : Int) = (k : Int) + 1 by omega, e1, show 8 * lo + (lo + 1 + ((k : Int) + 1)) = 8 * lo + (lo + 1 + k) + 1 by omega]
        unfold mGa2
        rw [(rEq_L h l0 l1).2.2.2.2.1, (rEq_L h (x := lo + 1 + k) (by omega) (by omega)).2.2.2.2.1]
        by_cases c : mWay (wI R 155) lo = mWay (wI R 155) (lo + 1 + k)
        · rw [if_pos c]
          exact mJ_skip (by omega) hi (off lo _ l0 (by omega) (by omega) (by omega) (fun q => q.2 c))
        · rw [if_neg c, an_Pr h ⟨⟨l0, by omega, by omega⟩, c⟩]
          by_cases c2 : wI R 166 (8 * lo + (lo + 1 + k)) < 0
          · rw [if_pos c2]
            exact mJ_skip (by omega) hi c2
          · rw [if_neg c2]
            exact mJ_ins (by omega) (by omega) hi (by omega) hb
    have := key (wI R 155 1 - (lo + 1)).toNat (by omega)
    rw [show (((wI R 155 1 - (lo + 1)).toNat : Nat) : Int) = wI R 155 1 - (lo + 1) by omega] at this
    refine mJ_skips (by omega) (by omega) this (fun l h0 h1 => ?_)
    have := off lo (l - 8 * lo) l0 (by omega) (by omega) (by omega) (fun k => by have := k.1; omega)
    rw [show 8 * lo + (l - 8 * lo) = l by omega] at this
    exact this
  have key2 : ∀ k : Nat, (k : Int) ≤ wI R 155 1 → mJ (mGaL A d k) R (8 * k) := by
    intro k
    induction k with
    | zero =>
      intro _
      have e : mGaL A d ((0 : Nat) : Int) = wsI A 78 1 0 := rfl
      have e78 : wI (wsI A 78 1 0) 78 1 = 0 := by rw [wI_wsI, if_pos ⟨rfl, rfl⟩]
      rw [e]
      unfold mJ
      rw [e78]
      refine ⟨by omega, fun i j _ _ _ => by omega, fun j _ _ => by omega, fun l _ _ _ => by omega, fun r => rfl, rfl⟩
    | succ k ih =>
      intro hk
      have e1 : mGaL A d ((k : Int) + 1) = mGaR A d k (mGaL A d k) (wI A (d + 1) 7 - (k + 1)) := itI_s _ _ (by omega)
      rw [show ((k + 1 : Nat) : Int) = (k : Int) + 1 by omega, e1, hn]
      exact hR _ k (by omega) (by omega) (ih (by omega))
  have := key2 (wI R 155 1).toNat (by omega)
  rw [Int.toNat_of_nonneg hm.1] at this
  have eG : mGa A d = mGaL A d (wI R 155 1) := by unfold mGa; rw [hn]
  rw [eG]
  refine mJ_skips (by omega) (by omega) this (fun l h0 h1 => ?_)
  have := off (l / 8) (l % 8) (by omega) (by omega) (by omega) (by omega) (fun k => by have := k.1; omega)
  rw [show 8 * (l / 8) + l % 8 = l by omega] at this
  exact this
theorem an_meets {A R : sm_W} {d : Nat} (h : rEq A d R) : wI (mGa A d) 78 1 = mMtn R 64 := (an_Ga h).2.2.2.2.2
theorem an_meeting {A R : sm_W} {d : Nat} (h : rEq A d R) (n c : Int) : cMt (mGa A d) n c = (qMt R n c 64).getD (-1) := by
  obtain ⟨h1, h2, h3, h4, h5, h6⟩ := an_Ga h
  have hMt := h.2.1.2.2.2
  have hb : ∀ l, 0 ≤ l → l < 64 → 0 ≤ wI R 166 l → 0 ≤ wI R 167 l ∧ wI R 167 l < 8 := fun l l0 l1 hl => by
    have e : l = 8 * (l / 8) + l % 8 := by omega
    have g := hMt (l / 8) (l % 8) (by omega) (by omega) (by omega) (by omega)
    rw [← e] at g
    by_cases c : bPr R (l / 8) (l % 8)
    · exact ((g.2 c).2 hl).2.1
    · have := g.1 c
      omega
  generalize mGa A d = u at *
  -- how many are ahead of one: its place among the rows
  have hah : ∀ o, 0 ≤ o → o < 64 → 0 ≤ wI R 166 o → mAh R o 64 = sumI (rIn R (rwk R o)) 64 := fun o o0 o1 ho => by
    have bo := hb o o0 o1 ho
    have key : ∀ k : Nat, (k : Int) ≤ 64 → mAh R o k = sumI (rIn R (rwk R o)) k := by
      intro k
      induction k with
      | zero => exact fun _ => rfl
      | succ k ih =>
        intro hk
        have e1 : mAh R o ((k : Int) + 1) = (if wI R 166 k < 0 then mAh R o k else (if mIsAh R k o = 1 then mAh R o k + 1 else mAh R o k)) := itI_s _ _ (by omega)
        rw [show ((k + 1 : Nat) : Int) = (k : Int) + 1 by omega, e1, sumI_s _ (by omega), ih (by omega)]
        have e3 : rIn R (rwk R o) k = if 0 ≤ wI R 166 k then (if rwk R k < rwk R o then 1 else 0) else 0 := rfl
        rw [e3]
        by_cases c1 : wI R 166 k < 0
        · rw [if_pos c1, if_neg (show ¬ 0 ≤ wI R 166 k by omega)]; omega
        · rw [if_neg c1, if_pos (show 0 ≤ wI R 166 k by omega)]
          have bk := hb k (by omega) (by omega) (by omega)
          have e2 : mIsAh R k o = 1 ↔ rwk R k < rwk R o := by
            unfold mIsAh rwk
            by_cases q1 : wI R 166 k = wI R 166 o
            · rw [if_neg (fun z => z q1)]
              by_cases q2 : wI R 167 k = wI R 167 o
              · rw [if_neg (fun z => z q2), q1, q2]
                by_cases q3 : (k : Int) < o
                · rw [if_pos q3]; exact ⟨fun _ => by omega, fun _ => rfl⟩
                · rw [if_neg q3]; exact ⟨fun z => absurd z (by decide), fun z => by omega⟩
              · rw [if_pos q2, q1]
                by_cases q3 : wI R 167 k < wI R 167 o
                · rw [if_pos q3]; exact ⟨fun _ => by omega, fun _ => rfl⟩
                · rw [if_neg q3]; exact ⟨fun z => absurd z (by decide), fun z => by omega⟩
            · rw [if_pos q1]
              by_cases q3 : wI R 166 k < wI R 166 o
              · rw [if_pos q3]; exact ⟨fun _ => by omega, fun _ => rfl⟩
              · rw [if_neg q3]; exact ⟨fun z => absurd z (by decide), fun z => by omega⟩
          by_cases c2 : mIsAh R k o = 1
          · rw [if_pos c2, if_pos (e2.mp c2)]
          · rw [if_neg c2, if_neg (fun z => c2 (e2.mpr z))]; omega
    exact key 64 (by decide)
  have hpl : ∀ j, 0 ≤ j → j < wI u 78 1 → sumI (rIn R (wI u 79 j)) 64 = j := fun j j0 j1 => by
    rw [← h5 (wI u 79 j), ← sumI_cnt j0 (show j ≤ wI u 78 1 by omega)]
    rw [sumI_cnt j0 (show j ≤ wI u 78 1 by omega)]
    refine (sumI_cgI h1.1 (fun i i0 i1 => ?_)).trans (sumI_cnt j0 (show j ≤ wI u 78 1 by omega))
    by_cases q : i < j
    · rw [if_pos q, if_pos (h2 i j i0 q j1)]
    · rw [if_neg q, if_neg]
      by_cases q2 : i = j
      · rw [q2]; omega
      · have := h2 j i j0 (by omega) i1
        omega
  have hmem : ∀ o, 0 ≤ o → o < 64 → 0 ≤ wI R 166 o → ∃ j, 0 ≤ j ∧ j < wI u 78 1 ∧ wI u 79 j = rwk R o ∧ mAh R o 64 = j := fun o o0 o1 ho => by
    obtain ⟨j, j0, j1, j2⟩ := h4 o o0 o1 ho
    exact ⟨j, j0, j1, j2, by rw [hah o o0 o1 ho, ← j2]; exact hpl j j0 j1⟩
  by_cases cn : 0 ≤ n ∧ n < wI u 78 1
  · obtain ⟨l, l0, l1, l2, l3⟩ := h3 n cn.1 cn.2
    have hl : mAh R l 64 = n := by rw [hah l l0 l1 l2, l3]; exact hpl n cn.1 cn.2
    have huniq : ∀ o, 0 ≤ o → o < 64 → 0 ≤ wI R 166 o → mAh R o 64 = n → o = l := fun o o0 o1 ho hn => by
      obtain ⟨j, j0, j1, j2, j3⟩ := hmem o o0 o1 ho
      have : j = n := by omega
      rw [this, ← l3] at j2
      have b1 := hb o o0 o1 ho
      have b2 := hb l l0 l1 l2
      unfold rwk at j2
      omega
    have key : ∀ k : Nat, (k : Int) ≤ 64 → qMt R n c k = if l < k then some (qMt1 R l c) else none := by
      intro k
      induction k with
      | zero => intro _; rw [if_neg (by omega)]; rfl
      | succ k ih =>
        intro hk
        have e1 : qMt R n c ((k : Int) + 1) = qMtF R n c k (qMt R n c k) := itI_s _ _ (by omega)
        rw [show ((k + 1 : Nat) : Int) = (k : Int) + 1 by omega, e1, ih (by omega)]
        unfold qMtF
        by_cases q : l < k
        · rw [if_pos q, if_pos (show l < (k : Int) + 1 by omega), if_neg (by simp)]
        · rw [if_neg q, if_pos rfl]
          by_cases q2 : l = k
          · rw [if_pos (show l < (k : Int) + 1 by omega), ← q2, if_neg (by omega), if_pos hl]
          · rw [if_neg (show ¬ l < (k : Int) + 1 by omega)]
            by_cases q3 : wI R 166 k < 0
            · rw [if_pos q3]
            · rw [if_neg q3, if_neg (fun z => q2 (huniq k (by omega) (by omega) (by omega) z).symm)]
    have e64 := key 64 (by decide)
    rw [if_pos (by omega)] at e64
    have e65 : qMt R n c 64 = some (qMt1 R l c) := e64
    have b2 := hb l l0 l1 l2
    unfold cMt
    rw [if_neg (show ¬ n < 0 by omega), if_neg (show ¬ wI u 78 1 ≤ n by omega), e65, ← l3]
    show _ = qMt1 R l c
    unfold mPart qMt1 rwk
    by_cases c0 : c < 0
    · rw [if_pos c0, if_neg (by omega), if_neg (by omega), if_neg (by omega), if_neg (by omega)]
    · rw [if_neg c0]
      by_cases c3 : 3 < c
      · rw [if_pos c3, if_neg (by omega), if_neg (by omega), if_neg (by omega), if_neg (by omega)]
      · rw [if_neg c3]
        by_cases e0 : c = 0
        · rw [if_pos e0, if_pos e0]; omega
        · rw [if_neg e0, if_neg e0]
          by_cases e1 : c = 1
          · rw [if_pos e1, if_pos e1]; omega
          · rw [if_neg e1, if_neg e1]
            by_cases e2 : c = 2
            · rw [if_pos e2, if_pos e2]; omega
            · rw [if_neg e2, if_neg e2, if_pos (show c = 3 by omega)]; omega
  · have key : qMt R n c 64 = none := by
      refine itI_ind (f := qMtF R n c) (a := (none : Option Int)) (fun i r => r = none) 64 rfl (fun i r i0 i1 hr => ?_) 64 (by decide) (Int.le_refl _)
      unfold qMtF
      rw [if_pos hr]
      by_cases q3 : wI R 166 i < 0
      · rw [if_pos q3]
      · rw [if_neg q3, if_neg]
        intro z
        obtain ⟨j, j0, j1, j2, j3⟩ := hmem i i0 i1 (by omega)
        omega
    unfold cMt
    rw [key]
    show _ = (-1 : Int)
    by_cases q : n < 0
    · rw [if_pos q]
    · rw [if_neg q, if_pos (by omega)]
