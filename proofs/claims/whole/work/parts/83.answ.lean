/-! ANSWERS: the waits of a shuttle -/
def hK1 (w : sm_W) (d : Nat) (x k p y : Int) : Int := if xFor w d x y = k then xMn w d y (sFrom p (mWay (vL w (d + 1)) x)) (xRdy w d x p) (xGone w d x p) else 0
def hM1 (w : sm_W) (d : Nat) (x p y : Int) : Int := xMn w d y (sFrom p (mWay (vL w (d + 1)) x)) (xRdy w d x p) (xGone w d x p)
theorem gAr_at (w u : sm_W) (d : Nat) (x p : Int) (hu : dSm d w u) (x1 : x < 8) (N : Int) (hN : N ≤ 8) (n : Int) (n0 : 0 ≤ n) (n1 : n ≤ N) : (∀ k, wI (gAr u d x (sFrom p (mWay (vL w (d + 1)) x)) (xRdy w d x p) (xGone w d x p) n).1 76 k = wI u 76 k + sumI (hK1 w d x k p) n) ∧ (∀ y, wI (gAr u d x (sFrom p (mWay (vL w (d + 1)) x)) (xRdy w d x p) (xGone w d x p) n).1 77 y = wI u 77 y + (if 0 ≤ y ∧ y < n then hM1 w d x p y else 0)) ∧ (gAr u d x (sFrom p (mWay (vL w (d + 1)) x)) (xRdy w d x p) (xGone w d x p) n).2 = (xGone w d x p - xRdy w d x p) - sumI (hM1 w d x p) n := by
  refine itI_ind (f := gA1 u d x (sFrom p (mWay (vL w (d + 1)) x)) (xRdy w d x p) (xGone w d x p)) (a := (u, xGone w d x p - xRdy w d x p)) (fun i r => (∀ k, wI r.1 76 k = wI u 76 k + sumI (hK1 w d x k p) i) ∧ (∀ y, wI r.1 77 y = wI u 77 y + (if 0 ≤ y ∧ y < i then hM1 w d x p y else 0)) ∧ r.2 = (xGone w d x p - xRdy w d x p) - sumI (hM1 w d x p) i) n ⟨fun k => ?_, fun y => ?_, ?_⟩ (fun i r i0 i1 hI => ?_) n n0 (Int.le_refl _)
  · show wI u 76 k = wI u 76 k + (0 : Int)
    omega
  · show wI u 77 y = _
    rw [if_neg (by omega)]; omega
  · show _ = _ - (0 : Int)
    dsimp only
    omega
  · obtain ⟨h1, h2, h3⟩ := hI
    have eM := dSm_Mn hu (y := i) (by omega) (sFrom p (mWay (vL w (d + 1)) x)) (xRdy w d x p) (xGone w d x p)
    have eF := dSm_For hu x i
    unfold gA1
    rw [eM, eF]
    refine ⟨fun k => ?_, fun y => ?_, ?_⟩
    · rw [sumI_s _ i0, wI_wsI, if_neg (by omega), wI_wsI]
      by_cases c : k = xFor w d x i
      · rw [if_pos ⟨rfl, c⟩, ← c, h1 k]
        unfold hK1
        rw [if_pos c.symm]
        omega
      · rw [if_neg (fun q => c q.2), h1 k]
        have : hK1 w d x k p i = 0 := by unfold hK1; rw [if_neg (fun q => c q.symm)]
        omega
    · rw [wI_wsI]
      by_cases c : y = i
      · rw [if_pos ⟨rfl, c⟩, ← c, h2 y, if_neg (by omega), if_pos (by omega)]
        unfold hM1
        omega
      · rw [if_neg (fun q => c q.2), wI_wsI, if_neg (by omega), h2 y]
        by_cases c2 : 0 ≤ y ∧ y < i
        · rw [if_pos c2, if_pos (by omega)]
        · rw [if_neg c2, if_neg (by omega)]
    · rw [sumI_s _ i0, h3]
      unfold hM1
      omega
def hKp1 (w : sm_W) (d : Nat) (x k p : Int) : Int := if xStd w d x p = 0 then 0 else sumI (hK1 w d x k p) (wI w (d + 1) 7)
def h3p (w : sm_W) (d : Nat) (x p : Int) : Int := if xStd w d x p = 0 then 0 else (xGone w d x p - xRdy w d x p) - sumI (hM1 w d x p) (wI w (d + 1) 7)
def hBp (w : sm_W) (d : Nat) (x y p : Int) : Int := if xStd w d x p = 0 then 0 else (if 0 ≤ y ∧ y < wI w (d + 1) 7 then hM1 w d x p y else 0)
theorem gAt_at {w u : sm_W} {d : Nat} {x p : Int} (hd : sm_isD d) (hu : dSm d w u) (x0 : 0 ≤ x) (x1 : x < 8) (N0 : 0 ≤ wI w (d + 1) 7) (hN : wI w (d + 1) 7 ≤ 8) : (∀ k, k ≠ 3 → wI (gAt u d x p) 76 k = wI u 76 k + sumI (hK1 w d x k p) (wI w (d + 1) 7)) ∧ (wI (gAt u d x p) 76 3 = wI u 76 3 + ((xGone w d x p - xRdy w d x p) - sumI (hM1 w d x p) (wI w (d + 1) 7))) ∧ (∀ y, wI (gAt u d x p) 77 y = wI u 77 y + (if 0 ≤ y ∧ y < wI w (d + 1) 7 then hM1 w d x p y else 0)) ∧ dSm d w (gAt u d x p) := by
  have e1 : wI u (d + 1) 7 = wI w (d + 1) 7 := by rw [hu (d + 1) (by omega) (by omega)]
  have e2 : vL u (d + 1) = vL w (d + 1) := dSm_v hu
  have e3 : xRdy u d x p = xRdy w d x p := dSm_Rdy hu x1 p
  have e4 : xGone u d x p = xGone w d x p := dSm_Gone hu x1 p
  obtain ⟨g1, g2, g3⟩ := gAr_at w u d x p hu x1 (wI w (d + 1) 7) hN (wI w (d + 1) 7) N0 (Int.le_refl _)
  unfold gAt
  rw [e1, e2, e3, e4]
  unfold gAF
  have hk3 : sumI (hK1 w d x 3 p) (wI w (d + 1) 7) = 0 := sumI_z N0 (fun y _ _ => by
    unfold hK1
    have := xFor_12 w d x y
    rw [if_neg (by omega)])
  refine ⟨fun k hk => ?_, ?_, fun y => ?_, fun a h0 h1 => ?_⟩
  · rw [wI_wsI, if_neg (fun q => hk q.2)]
    exact g1 k
  · rw [wI_wsI, if_pos ⟨rfl, rfl⟩, g1, g3, hk3]
    omega
  · rw [wI_wsI, if_neg (by omega)]
    exact g2 y
  · have hne : a ≠ 76 ∧ a ≠ 77 := by rcases hd with rfl | rfl <;> omega
    rw [wIf_ne hne.1, ← hu a h0 h1]
    refine itI_ind (f := gA1 u d x (sFrom p (mWay (vL w (d + 1)) x)) (xRdy w d x p) (xGone w d x p)) (a := (u, xGone w d x p - xRdy w d x p)) (fun i r => wI r.1 a = wI u a) (wI w (d + 1) 7) rfl (fun i r i0 i1 hI => ?_) _ N0 (Int.le_refl _)
    unfold gA1
    rw [wIf_ne hne.2, wIf_ne hne.1]
    exact hI
theorem gW_at {w : sm_W} {d : Nat} {x : Int} (hd : sm_isD d) (x0 : 0 ≤ x) (x1 : x < 8) (N0 : 0 ≤ wI w (d + 1) 7) (hN : wI w (d + 1) 7 ≤ 8) (n : Int) (n0 : 0 ≤ n) : (∀ k, 0 ≤ k → k < 3 → wI (gW w d x n) 76 k = sumI (hKp1 w d x k) n) ∧ wI (gW w d x n) 76 3 = sumI (h3p w d x) n ∧ (∀ y, 0 ≤ y → y < 8 → wI (gW w d x n) 77 y = sumI (hBp w d x y) n) ∧ dSm d w (gW w d x n) := by
  have hW0 := gW0_in w
  have d0 : dSm d w (gW0 w) := dSm_fr hW0.1 (sWt_d hd)
  have z76 : ∀ k, 0 ≤ k → k < 4 → wI (gW0 w) 76 k = 0 := fun k k0 k1 => by
    have := (hW0.2 k k0 (by omega)).1 k1
    omega
  have z77 : ∀ k, 0 ≤ k → k < 8 → wI (gW0 w) 77 k = 0 := fun k k0 k1 => by
    have := (hW0.2 k k0 k1).2
    omega
  refine itI_ind (f := gW1 w d x) (a := gW0 w) (fun i r => (∀ k, 0 ≤ k → k < 3 → wI r 76 k = sumI (hKp1 w d x k) i) ∧ wI r 76 3 = sumI (h3p w d x) i ∧ (∀ y, 0 ≤ y → y < 8 → wI r 77 y = sumI (hBp w d x y) i) ∧ dSm d w r) n ⟨fun k k0 k1 => z76 k k0 (by omega), z76 3 (by decide) (by decide), z77, d0⟩ (fun i r i0 i1 hI => ?_) n n0 (Int.le_refl _)
  obtain ⟨h1, h2, h3, h4⟩ := hI
  unfold gW1
  by_cases c : xStd w d x i = 0
  · rw [if_pos c]
    refine ⟨fun k k0 k1 => ?_, ?_, fun y y0 y1 => ?_, h4⟩
    · rw [sumI_s _ i0, h1 k k0 k1]; unfold hKp1; rw [if_pos c]; omega
    · rw [sumI_s _ i0, h2]; unfold h3p; rw [if_pos c]; omega
    · rw [sumI_s _ i0, h3 y y0 y1]; unfold hBp; rw [if_pos c]; omega
  · rw [if_neg c]
    obtain ⟨g1, g2, g3, g4⟩ := gAt_at (p := i) hd h4 x0 x1 N0 hN
    refine ⟨fun k k0 k1 => ?_, ?_, fun y y0 y1 => ?_, g4⟩
    · rw [g1 k (by omega), sumI_s _ i0, h1 k k0 k1]; unfold hKp1; rw [if_neg c]
    · rw [g2, sumI_s _ i0, h2]; unfold h3p; rw [if_neg c]
    · rw [g3 y, sumI_s _ i0, h3 y y0 y1]; unfold hBp; rw [if_neg c]
/-- the class's gathering is the reference's counters -/
theorem an_gW {A R : sm_W} {d : Nat} (hd : sm_isD d) (h : rEq A d R) {x : Int} (x0 : 0 ≤ x) (x1 : x < wI R 155 1) : (∀ r, r = 1 ∨ r = 2 ∨ r = 3 → wI (gW A d x 8) 76 r = wI R 169 (4 * x + r)) ∧ (∀ y, 0 ≤ y → y < 8 → wI (gW A d x 8) 77 y = if y < wI R 155 1 then wI R 168 (8 * x + y) else 0) := by
  have hm := rEq_m h
  have hn := rEq_n h
  have hW := rEq_W h x x0 x1
  obtain ⟨g1, g2, g3, _⟩ := gW_at hd x0 (show x < 8 by omega) (by rw [hn]; exact hm.1) (by rw [hn]; exact hm.2) 8 (by decide)
  have eM : ∀ p y, 0 ≤ p → p < 8 → bStd R x p ≠ 0 → 0 ≤ y → y < wI R 155 1 → hM1 A d x p y = bMn R y (bSf R x p) (bRdy R x p) (bGone R (wI R 154 17) x p) := fun p y p0 p1 hs y0 y1 => by
    have hf := an_Sf h x0 x1 p0 p1 hs
    unfold hM1
    rw [hf.1, an_Mn h y0 y1 hf.2.1 hf.2.2, an_Rdy h x0 x1 p0 p1, an_Gone h x0 x1 p0 p1]
  have eK : ∀ k, k = 1 ∨ k = 2 → sumI (hKp1 A d x k) 8 = bG (bCf R x k) R (wI R 154 17) x := fun k hk => sumI_cgI (by decide) (fun p p0 p1 => by
    unfold hKp1 bG1
    rw [an_Std h x0 x1 p0 p1, hn]
    by_cases c : bStd R x p = 0
    · rw [if_pos c, if_pos c]
    · rw [if_neg c, if_neg c]
      refine sumI_cgI hm.1 (fun y y0 y1 => ?_)
      have e2 : hK1 A d x k p y = if xFor A d x y = k then hM1 A d x p y else 0 := rfl
      rw [e2, eM p y p0 p1 c y0 y1, an_For h x0 x1 y0 y1]
      unfold bGy bCf
      by_cases q : bFor R x y = k
      · rw [if_pos q, if_pos q, if_pos rfl]
      · rw [if_neg q, if_neg q, if_neg (by decide)])
  refine ⟨fun r hr => ?_, fun y y0 y1 => ?_⟩
  · rcases hr with rfl | rfl | rfl
    · rw [g1 1 (by decide) (by decide), eK 1 (Or.inl rfl), hW.2.1]
    · rw [g1 2 (by decide) (by decide), eK 2 (Or.inr rfl), hW.2.2.1]
    · rw [g2, hW.2.2.2.1]
      have e3 : sumI (h3p A d x) 8 + bG (fun _ => 1) R (wI R 154 17) x = bTs R (wI R 154 17) x := by
        unfold bG bTs
        rw [← sumI_add _ _ (by decide)]
        refine sumI_cgI (by decide) (fun p p0 p1 => ?_)
        unfold h3p bG1 bTs1
        rw [an_Std h x0 x1 p0 p1, hn]
        by_cases c : bStd R x p = 0
        · rw [if_pos c, if_pos c, if_pos c]; rfl
        · rw [if_neg c, if_neg c, if_neg c]
          have e4 : sumI (hM1 A d x p) (wI R 155 1) = sumI (bGy (fun _ => 1) R (wI R 154 17) x p) (wI R 155 1) := sumI_cgI hm.1 (fun y y0 y1 => by
            rw [eM p y p0 p1 c y0 y1]
            unfold bGy
            rw [if_pos rfl])
          have := an_ge h x0 x1 p0 p1 c
          rw [e4, an_Gone h x0 x1 p0 p1, an_Rdy h x0 x1 p0 p1]
          split <;> omega
      omega
  · rw [g3 y y0 y1]
    by_cases c : y < wI R 155 1
    · rw [if_pos c, hW.1 y y0 c]
      refine sumI_cgI (by decide) (fun p p0 p1 => ?_)
      unfold hBp bG1
      rw [an_Std h x0 x1 p0 p1, hn]
      by_cases q : bStd R x p = 0
      · rw [if_pos q, if_pos q]
      · rw [if_neg q, if_neg q, if_pos ⟨y0, c⟩, eM p y p0 p1 q y0 c]
        refine (sumI_one' (x := y) y0 c ?_ (fun z z0 z1 hz => ?_)).symm
        · unfold bGy b1
          rw [if_pos rfl, if_pos rfl]
        · unfold bGy b1
          rw [if_neg hz, if_neg (by decide)]
    · rw [if_neg c]
      refine sumI_z (by decide) (fun p p0 p1 => ?_)
      unfold hBp
      rw [hn]
      split
      · rfl
      · rw [if_neg (fun q => c q.2)]
theorem an_Mb {A R : sm_W} {d : Nat} (hd : sm_isD d) (h : rEq A d R) {x : Int} (x0 : 0 ≤ x) (x1 : x < wI R 155 1) : wMb (gW A d x 8) 8 = (mBlm R x (wI R 155 1)).1 := by
  have hm := rEq_m h
  have g := (an_gW hd h x0 x1).2
  have key : ∀ k : Nat, (k : Int) ≤ wI R 155 1 → wMb (gW A d x 8) k = (mBlm R x k).1 ∧ ((mBlm R x k) = (-6, 0) ∨ (0 ≤ (mBlm R x k).1 ∧ (mBlm R x k).1 < k ∧ (mBlm R x k).2 = wI R 168 (8 * x + (mBlm R x k).1) ∧ 0 < (mBlm R x k).2)) := by
    intro k
    induction k with
    | zero => exact fun _ => ⟨rfl, Or.inl rfl⟩
    | succ k ih =>
      intro hk
      obtain ⟨h1, h2⟩ := ih (by omega)
      have e : ((k + 1 : Nat) : Int) = (k : Int) + 1 := by omega
      have e1 : wMb (gW A d x 8) ((k : Int) + 1) = (if wI (gW A d x 8) 77 k ≤ 0 then wMb (gW A d x 8) k else (if wMb (gW A d x 8) k < 0 then (k : Int) else (if wI (gW A d x 8) 77 k ≤ wI (gW A d x 8) 77 (wMb (gW A d x 8) k) then wMb (gW A d x 8) k else (k : Int)))) := itI_s _ _ (by omega)
      have e2 : mBlm R x ((k : Int) + 1) = mBl1 R x k (mBlm R x k) := itI_s _ _ (by omega)
      have gk := g k (by omega) (by omega)
      rw [if_pos (by omega)] at gk
      rw [e, e1, e2, gk, h1]
      unfold mBl1
      rcases h2 with h2 | ⟨h3, h4, h5, h6⟩
      · rw [h2]
        by_cases c : wI R 168 (8 * x + k) ≤ 0
        · rw [if_pos c, if_neg (show ¬ (0 : Int) < wI R 168 (8 * x + k) by omega)]
          exact ⟨rfl, Or.inl rfl⟩
        · rw [if_neg c, if_pos (show ((-6, 0) : Int × Int).1 < 0 by decide), if_pos (show (0 : Int) < wI R 168 (8 * x + k) by omega)]
          exact ⟨rfl, Or.inr ⟨by omega, show (k : Int) < k + 1 by omega, rfl, show (0 : Int) < wI R 168 (8 * x + k) by omega⟩⟩
      · have gr := g (mBlm R x k).1 h3 (by omega)
        rw [if_pos (by omega), ← h5] at gr
        rw [gr]
        by_cases c2 : (mBlm R x k).2 < wI R 168 (8 * x + k)
        · rw [if_pos c2, if_neg (by omega), if_neg (by omega), if_neg (by omega)]
          exact ⟨rfl, Or.inr ⟨by omega, show (k : Int) < k + 1 by omega, rfl, show (0 : Int) < wI R 168 (8 * x + k) by omega⟩⟩
        · rw [if_neg c2]
          refine ⟨?_, Or.inr ⟨h3, by omega, h5, h6⟩⟩
          split
          · rfl
          · rw [if_neg (by omega), if_pos (by omega)]
  have h1 := (key (wI R 155 1).toNat (by omega)).1
  have h2 := (key (wI R 155 1).toNat (by omega)).2
  rw [Int.toNat_of_nonneg hm.1] at h1 h2
  rw [← h1]
  have key2 : ∀ k : Nat, wI R 155 1 + k ≤ 8 → wMb (gW A d x 8) (wI R 155 1 + k) = wMb (gW A d x 8) (wI R 155 1) := by
    intro k
    induction k with
    | zero => intro _; rw [show wI R 155 1 + ((0 : Nat) : Int) = wI R 155 1 by omega]
    | succ k ih =>
      intro hk
      have e1 : wMb (gW A d x 8) (wI R 155 1 + k + 1) = (if wI (gW A d x 8) 77 (wI R 155 1 + k) ≤ 0 then wMb (gW A d x 8) (wI R 155 1 + k) else (if wMb (gW A d x 8) (wI R 155 1 + k) < 0 then wI R 155 1 + (k : Int) else (if wI (gW A d x 8) 77 (wI R 155 1 + k) ≤ wI (gW A d x 8) 77 (wMb (gW A d x 8) (wI R 155 1 + k)) then wMb (gW A d x 8) (wI R 155 1 + k) else wI R 155 1 + (k : Int)))) := itI_s _ _ (by omega)
      have gk := g (wI R 155 1 + k) (by omega) (by omega)
      rw [if_neg (by omega)] at gk
      rw [show wI R 155 1 + ((k + 1 : Nat) : Int) = wI R 155 1 + k + 1 by omega, e1, gk, if_pos (Int.le_refl _)]
      exact ih (by omega)
  have := key2 (8 - wI R 155 1).toNat (by omega)
  rw [show wI R 155 1 + (((8 - wI R 155 1).toNat : Nat) : Int) = 8 by omega] at this
  exact this
