/-! THE REFERENCE'S RECORDS: what a minute adds -/
theorem bSf_b {b : sm_W} {x : Int} (hD : mDay b) (x0 : 0 ≤ x) (x1 : x < wI b 155 1) (hs : wI b 160 x ≤ 1) : 0 ≤ bSf b x (wI b 161 x) ∧ bSf b x (wI b 161 x) < 7 := (mSt_b hD x0 x1 hs).2.1
/-- what is added for one place -/
def bAd (c : Int → Int) (b : sm_W) (m x p : Int) : Int := if (wI b 160 x ≤ 1 ∧ p = wI b 161 x ∧ mReady b x ≤ m) ∧ 0 ≤ mWhoA b x ∧ c (mWhoA b x) = 1 then 1 else 0
theorem bG1_in {c : Int → Int} {b : sm_W} {m x p : Int} (hD : mDay b) (hd : mDue b m) (hU : rUq b) (hX : ∀ y, 0 ≤ y → y < wI b 155 1 → pX b m y) (x0 : 0 ≤ x) (x1 : x < wI b 155 1) (p0 : 0 ≤ p) (p1 : p < 8) : bG1 c b m x p = bG1 c b (m - 1) x p + bAd c b m x p := by
  have hm := vOK_many hD.1.2
  have hx := hX x x0 x1
  have hsh := hD.2 x x0 x1
  have hw0 : 0 ≤ wI b 160 x := by unfold mSh at hsh; exact hsh.2.2.1.1
  unfold bG1
  by_cases hs : bStd b x p = 0
  · rw [if_pos hs, if_pos hs]
    unfold bAd
    rw [if_neg]
    · rfl
    · rintro ⟨⟨k1, k2, k3⟩, _⟩
      have := (bStand hD x0 x1 hx k1).1
      rw [← k2] at this
      omega
  · rw [if_neg hs, if_neg hs]
    by_cases hv : bV b x p < 0
    · obtain ⟨k1, k2⟩ := bStand_inv hD x0 x1 hx p0 p1 hs hv
      have hrd := pX_rdy hx k1 hw0
      have hsf := bSf_b hD x0 x1 k1
      rw [← k2] at hsf hrd
      have g1 : bGone b m x p = m + 1 := by unfold bGone; rw [if_pos hv]
      have g2 : bGone b (m - 1) x p = m := by unfold bGone; rw [if_pos hv]; omega
      have hwE : mWho b (bSf b x p) (wI b 155 1) = mWhoA b x := by unfold mWhoA bSf; rw [k2]
      have hw := mWho_in b (bSf b x p) (wI b 155 1) hm.1
      have hwn := mWho_neg b (bSf b x p) (wI b 155 1) hm.1
      rw [hwE] at hw hwn
      have e1 : sumI (bGy c b m x p) (wI b 155 1) = sumI (fun y => bGy c b (m - 1) x p y + (if c y = 1 ∧ ((wI b 160 y = 2 ∧ wI b 161 y = bSf b x p) ∧ bRdy b x p ≤ m) then 1 else 0)) (wI b 155 1) := sumI_cgI hm.1 (fun y y0 y1 => by
        unfold bGy
        rw [g1, g2]
        have hn := bMn_in (fr := bRdy b x p) hD hd y0 y1 (hX y y0 y1) hsf.1 hsf.2
        by_cases k : c y = 1
        · rw [if_pos k, if_pos k]
          by_cases k5 : bOn b y (bSf b x p) ∧ bRdy b x p ≤ m
          · rw [if_pos ⟨k, k5⟩]; exact hn.1 k5
          · rw [if_neg (fun q => k5 q.2), Int.add_zero]; exact hn.2 k5
        · rw [if_neg k, if_neg k, if_neg (fun q => k q.1)]
          rfl)
      rw [e1, sumI_add _ _ hm.1]
      congr 1
      unfold bAd
      by_cases kk : (wI b 160 x ≤ 1 ∧ p = wI b 161 x ∧ mReady b x ≤ m) ∧ 0 ≤ mWhoA b x ∧ c (mWhoA b x) = 1
      · rw [if_pos kk]
        have hin : 0 ≤ mWhoA b x ∧ mWhoA b x < wI b 155 1 ∧ wI b 160 (mWhoA b x) = 2 ∧ wI b 161 (mWhoA b x) = bSf b x p := by
          have := kk.2.1
          omega
        refine sumI_one' (x := mWhoA b x) hin.1 hin.2.1 ?_ (fun y y0 y1 hy => ?_)
        · rw [if_pos ⟨kk.2.2, ⟨hin.2.2.1, hin.2.2.2⟩, by rw [← hrd]; exact kk.1.2.2⟩]
        · rw [if_neg]
          rintro ⟨_, k6, _⟩
          exact hy (hU y _ y0 y1 hin.1 hin.2.1 k6.1 hin.2.2.1 (k6.2.trans hin.2.2.2.symm))
      · rw [if_neg kk]
        refine sumI_z hm.1 (fun y y0 y1 => ?_)
        rw [if_neg]
        rintro ⟨k5, k6, k7⟩
        have h0 : 0 ≤ mWhoA b x := by
          apply Classical.byContradiction
          intro k8
          exact (hwn.mp (by omega)) y y0 y1 k6
        have hin : 0 ≤ mWhoA b x ∧ mWhoA b x < wI b 155 1 ∧ wI b 160 (mWhoA b x) = 2 ∧ wI b 161 (mWhoA b x) = bSf b x p := by omega
        have hy := hU y _ y0 y1 hin.1 hin.2.1 k6.1 hin.2.2.1 (k6.2.trans hin.2.2.2.symm)
        exact kk ⟨⟨k1, k2, by rw [hrd]; exact k7⟩, h0, by rw [← hy]; exact k5⟩
    · have g1 : bGone b m x p = bGone b (m - 1) x p := by unfold bGone; rw [if_neg hv, if_neg hv]
      have hz : bAd c b m x p = 0 := by
        unfold bAd
        rw [if_neg]
        rintro ⟨⟨k1, k2, k3⟩, _⟩
        have := (bStand hD x0 x1 hx k1).2
        rw [← k2] at this
        exact hv this
      rw [hz, Int.add_zero]
      refine sumI_cgI hm.1 (fun y _ _ => ?_)
      unfold bGy
      rw [g1]
theorem bTs1_in {b : sm_W} {m x p : Int} (hD : mDay b) (hX : ∀ y, 0 ≤ y → y < wI b 155 1 → pX b m y) (x0 : 0 ≤ x) (x1 : x < wI b 155 1) (p0 : 0 ≤ p) (p1 : p < 8) : bTs1 b m x p = bTs1 b (m - 1) x p + (if wI b 160 x ≤ 1 ∧ p = wI b 161 x ∧ mReady b x ≤ m then 1 else 0) := by
  have hx := hX x x0 x1
  have hsh := hD.2 x x0 x1
  have hw0 : 0 ≤ wI b 160 x := by unfold mSh at hsh; exact hsh.2.2.1.1
  unfold bTs1
  by_cases hs : bStd b x p = 0
  · rw [if_pos hs, if_pos hs, if_neg]
    · rfl
    · rintro ⟨k1, k2, k3⟩
      have := (bStand hD x0 x1 hx k1).1
      rw [← k2] at this
      omega
  · rw [if_neg hs, if_neg hs]
    by_cases hv : bV b x p < 0
    · obtain ⟨k1, k2⟩ := bStand_inv hD x0 x1 hx p0 p1 hs hv
      have hrd := pX_rdy hx k1 hw0
      rw [← k2] at hrd
      unfold bGone
      rw [if_pos hv, if_pos hv, ← hrd]
      by_cases k : mReady b x ≤ m
      · rw [if_pos (show wI b 160 x ≤ 1 ∧ p = wI b 161 x ∧ mReady b x ≤ m from ⟨k1, k2, k⟩), if_neg (by omega)]
        split <;> omega
      · rw [if_neg (show ¬ (wI b 160 x ≤ 1 ∧ p = wI b 161 x ∧ mReady b x ≤ m) from fun q => k q.2.2), if_pos (by omega), if_pos (by omega)]
        rfl
    · unfold bGone
      rw [if_neg hv, if_neg hv, if_neg (show ¬ (wI b 160 x ≤ 1 ∧ p = wI b 161 x ∧ mReady b x ≤ m) from ?_), Int.add_zero]
      rintro ⟨k1, k2, k3⟩
      have := (bStand hD x0 x1 hx k1).2
      rw [← k2] at this
      exact hv this
theorem bG_in {c : Int → Int} {b : sm_W} {m x : Int} (hD : mDay b) (hd : mDue b m) (hU : rUq b) (hX : ∀ y, 0 ≤ y → y < wI b 155 1 → pX b m y) (x0 : 0 ≤ x) (x1 : x < wI b 155 1) : bG c b m x = bG c b (m - 1) x + (if (wI b 160 x ≤ 1 ∧ mReady b x ≤ m) ∧ 0 ≤ mWhoA b x ∧ c (mWhoA b x) = 1 then 1 else 0) := by
  have hsh := hD.2 x x0 x1
  have hp : 0 ≤ wI b 161 x ∧ wI b 161 x ≤ 7 := by unfold mSh at hsh; exact hsh.2.1
  have e1 : bG c b m x = sumI (fun p => bG1 c b (m - 1) x p + bAd c b m x p) 8 := sumI_cgI (by decide) (fun p p0 p1 => bG1_in hD hd hU hX x0 x1 p0 p1)
  rw [e1, sumI_add _ _ (by decide)]
  show bG c b (m - 1) x + _ = _
  congr 1
  by_cases kk : (wI b 160 x ≤ 1 ∧ mReady b x ≤ m) ∧ 0 ≤ mWhoA b x ∧ c (mWhoA b x) = 1
  · rw [if_pos kk]
    refine sumI_one' (x := wI b 161 x) hp.1 (by omega) ?_ (fun y y0 y1 hy => ?_)
    · unfold bAd
      rw [if_pos ⟨⟨kk.1.1, rfl, kk.1.2⟩, kk.2⟩]
    · unfold bAd
      rw [if_neg (fun q => hy q.1.2.1)]
  · rw [if_neg kk]
    refine sumI_z (by decide) (fun y y0 y1 => ?_)
    unfold bAd
    rw [if_neg (fun q => kk ⟨⟨q.1.1, q.1.2.2⟩, q.2⟩)]
theorem bTs_in {b : sm_W} {m x : Int} (hD : mDay b) (hX : ∀ y, 0 ≤ y → y < wI b 155 1 → pX b m y) (x0 : 0 ≤ x) (x1 : x < wI b 155 1) : bTs b m x = bTs b (m - 1) x + (if wI b 160 x ≤ 1 ∧ mReady b x ≤ m then 1 else 0) := by
  have hsh := hD.2 x x0 x1
  have hp : 0 ≤ wI b 161 x ∧ wI b 161 x ≤ 7 := by unfold mSh at hsh; exact hsh.2.1
  have e1 : bTs b m x = sumI (fun p => bTs1 b (m - 1) x p + (if wI b 160 x ≤ 1 ∧ p = wI b 161 x ∧ mReady b x ≤ m then 1 else 0)) 8 := sumI_cgI (by decide) (fun p p0 p1 => bTs1_in hD hX x0 x1 p0 p1)
  rw [e1, sumI_add _ _ (by decide)]
  show bTs b (m - 1) x + _ = _
  congr 1
  by_cases kk : wI b 160 x ≤ 1 ∧ mReady b x ≤ m
  · rw [if_pos kk]
    refine sumI_one' (x := wI b 161 x) hp.1 (by omega) ?_ (fun y y0 y1 hy => ?_)
    · rw [if_pos ⟨kk.1, rfl, kk.2⟩]
    · rw [if_neg (fun q => hy q.2.1)]
  · rw [if_neg kk]
    refine sumI_z (by decide) (fun y y0 y1 => ?_)
    rw [if_neg (fun q => kk ⟨q.1, q.2.2⟩)]
theorem bSm.std {b u : sm_W} (h : bSm u b) (x p : Int) : bStd u x p = bStd b x p := by unfold bStd bBe bEn bC; rw [h.1, h.2.2.2.2.1]
theorem bSm.rdyP {b u : sm_W} (h : bSm u b) (x p : Int) : bRdy u x p = bRdy b x p := by unfold bRdy bBe bC; rw [h.1, h.2.2.2.2.1]
theorem bSm.G {b u : sm_W} (h : bSm u b) (c : Int → Int) (m x : Int) : bG c u m x = bG c b m x := by
  have e1 : ∀ y s fr ah, bMn u y s fr ah = bMn b y s fr ah := fun y s fr ah => by unfold bMn bV bBh bRu; rw [h.1, h.2.2.2.2.2]
  have e2 : ∀ p, bGone u m x p = bGone b m x p := fun p => by unfold bGone bV; rw [h.2.2.2.2.2]
  have e3 : bG1 c u m x = bG1 c b m x := funext fun p => by
    have e4 : bGy c u m x p = bGy c b m x p := funext fun y => by unfold bGy bSf; rw [e1, e2, h.rdyP, h.1]
    unfold bG1
    rw [e4, h.std, h.1]
  unfold bG
  rw [e3]
theorem bSm.T {b u : sm_W} (h : bSm u b) (m x : Int) : bTs u m x = bTs b m x := by
  have e3 : bTs1 u m x = bTs1 b m x := funext fun p => by unfold bTs1 bGone bV; rw [h.std, h.rdyP, h.2.2.2.2.2]
  unfold bTs
  rw [e3]
theorem bSm.req {b u : sm_W} (h : bSm u b) (m x s : Int) : bReq u m x s = bReq b m x s := by unfold bReq bV; rw [h.std, h.rdyP, h.2.2.2.2.2]
theorem bSm.cf {b u : sm_W} (h : bSm u b) (x r : Int) : bCf u x r = bCf b x r := funext fun z => by unfold bCf bFor; rw [h.1]
theorem pWt_sm {b u : sm_W} {m : Int} (h : bSm u b) (h164 : wI u 164 = wI b 164) (h168 : wI u 168 = wI b 168) (h169 : wI u 169 = wI b 169) (k : pWt b m) : pWt u m := by
  intro x x0 x1
  rw [h.1] at x1
  obtain ⟨k1, k2, k3, k4, k5⟩ := k x x0 x1
  rw [h164, h168, h169, h.1, h.cf, h.cf, h.G, h.G, h.G, h.T]
  exact ⟨fun y y0 y1 => by rw [h.G]; exact k1 y y0 y1, k2, k3, k4, fun s s0 s1 => by rw [h.req]; exact k5 s s0 s1⟩
/-- the waits of the minute m -/
theorem pWt_wait {b : sm_W} {m : Int} (hD : mDay b) (hd : mDue b m) (hU : rUq b) (hX : ∀ y, 0 ≤ y → y < wI b 155 1 → pX b m y) (h : pWt b (m - 1)) : pWt (mWait m b (wI b 155 1)) m := by
  have hm := vOK_many hD.1.2
  obtain ⟨hs, hx, _⟩ := mWait_at (t := m) hD (wI b 155 1) hm.1 (Int.le_refl _)
  generalize mWait m b (wI b 155 1) = A at *
  intro x x0 x1
  rw [hs.1] at x1
  obtain ⟨k1, k2, k3, k4, k5⟩ := h x x0 x1
  have g := hx x x0 x1
  have gi := fun c => bG_in (c := c) hD hd hU hX x0 x1
  have ti := bTs_in hD hX x0 x1
  have hsh := hD.2 x x0 x1
  have hw0 : 0 ≤ wI b 160 x := by unfold mSh at hsh; exact hsh.2.2.1.1
  have hwI := mWho_in b (sFrom (wI b 161 x) (mWay (wI b 155) x)) (wI b 155 1) hm.1
  have hwE : mWho b (sFrom (wI b 161 x) (mWay (wI b 155) x)) (wI b 155 1) = mWhoA b x := rfl
  rw [hwE] at hwI
  rw [hs.1, hs.cf, hs.cf, hs.G, hs.G, hs.G, hs.T]
  have r1 := g.1 1 (by decide) (by decide)
  have r2 := g.1 2 (by decide) (by decide)
  have r3 := g.1 3 (by decide) (by decide)
  have hRs : ∀ r, (r = 1 ∨ r = 2) → ((r = mRs b x) ↔ (0 ≤ mWhoA b x ∧ bCf b x r (mWhoA b x) = 1)) := fun r hr => by
    unfold mRs bCf bFor
    by_cases k : mWhoA b x < 0
    · rw [if_pos k]
      exact ⟨fun q => by omega, fun q => by omega⟩
    · rw [if_neg k]
      by_cases k9 : mWay (wI b 155) x = mWay (wI b 155) (mWhoA b x)
      · rw [if_pos k9, if_neg (fun q => q k9.symm)]
        refine ⟨fun q => ⟨by omega, by rw [if_pos q.symm]⟩, fun q => ?_⟩
        have q2 := q.2
        by_cases q3 : (2 : Int) = r
        · exact q3.symm
        · rw [if_neg q3] at q2; exact absurd q2 (by decide)
      · rw [if_neg k9, if_pos (fun q => k9 q.symm)]
        refine ⟨fun q => ⟨by omega, by rw [if_pos q.symm]⟩, fun q => ?_⟩
        have q2 := q.2
        by_cases q3 : (1 : Int) = r
        · exact q3.symm
        · rw [if_neg q3] at q2; exact absurd q2 (by decide)
  have hR3 : (3 = mRs b x) ↔ ¬ 0 ≤ mWhoA b x := by
    unfold mRs
    by_cases k : mWhoA b x < 0
    · rw [if_pos k]
      exact ⟨fun _ => by omega, fun _ => rfl⟩
    · rw [if_neg k]
      split <;> exact ⟨fun q => absurd q (by decide), fun q => absurd (by omega) q⟩
  by_cases c : bAc b m x
  · have c' : wI b 160 x ≤ 1 ∧ mReady b x ≤ m := c
    refine ⟨fun y y0 y1 => ?_, ?_, ?_, ?_, fun s s0 s1 => ?_⟩
    · rw [hs.G, ((g.2 y y0 (by omega)).1 c).1, k1 y y0 y1, gi]
      congr 1
      unfold b1
      by_cases q : y = mWhoA b x
      · rw [if_pos q, if_pos (show _ ∧ _ from ⟨c', by omega, by rw [if_pos q.symm]⟩)]
      · rw [if_neg q, if_neg]
        rintro ⟨_, _, q2⟩
        rw [if_neg (fun e => q e.symm)] at q2
        exact absurd q2 (by decide)
    · rw [r1.1 c, k2, gi]
      congr 1
      by_cases q : 1 = mRs b x
      · rw [if_pos q, if_pos ⟨c', (hRs 1 (Or.inl rfl)).mp q⟩]
      · rw [if_neg q, if_neg (fun e => q ((hRs 1 (Or.inl rfl)).mpr e.2))]
    · rw [r2.1 c, k3, gi]
      congr 1
      by_cases q : 2 = mRs b x
      · rw [if_pos q, if_pos ⟨c', (hRs 2 (Or.inr rfl)).mp q⟩]
      · rw [if_neg q, if_neg (fun e => q ((hRs 2 (Or.inr rfl)).mpr e.2))]
    · rw [r3.1 c, k4, gi, ti, if_pos c']
      by_cases q : 3 = mRs b x
      · rw [if_pos q, if_neg (fun e => hR3.mp q e.2.1)]
        omega
      · have q2 : 0 ≤ mWhoA b x := by
          apply Classical.byContradiction
          intro e
          exact q (hR3.mpr e)
        rw [if_neg q, if_pos ⟨c', q2, rfl⟩]
        omega
    · rw [hs.req, ((g.2 s s0 s1).1 c).2, k5 s s0 s1]
      have hst := bStand hD x0 x1 (hX x x0 x1) c'.1
      have hrd := pX_rdy (hX x x0 x1) c'.1 hw0
      by_cases q : s = wI b 161 x
      · rw [if_pos q]
        unfold bReq
        rw [q, hst.1, if_neg (by decide), ← hrd, if_pos (Or.inr c'.2)]
      · rw [if_neg q]
        unfold bReq
        by_cases e1 : bStd b x s = 0
        · rw [if_pos e1, if_pos e1]
        · rw [if_neg e1, if_neg e1]
          have e2 : 0 ≤ bV b x s := by
            apply Classical.byContradiction
            intro e2
            exact q (bStand_inv hD x0 x1 (hX x x0 x1) s0 s1 e1 (by omega)).2
          rw [if_pos (Or.inl e2), if_pos (Or.inl e2)]
  · have c' : ¬ (wI b 160 x ≤ 1 ∧ mReady b x ≤ m) := c
    have gz : ∀ cc, bG cc b m x = bG cc b (m - 1) x := fun cc => by rw [gi, if_neg (fun e => c' e.1), Int.add_zero]
    have tz : bTs b m x = bTs b (m - 1) x := by rw [ti, if_neg c', Int.add_zero]
    rw [gz, gz, gz, tz, r1.2 c, r2.2 c, r3.2 c]
    refine ⟨fun y y0 y1 => ?_, k2, k3, k4, fun s s0 s1 => ?_⟩
    · rw [hs.G, gz, ((g.2 y y0 (by omega)).2 c).1]
      exact k1 y y0 y1
    · rw [hs.req, ((g.2 s s0 s1).2 c).2, k5 s s0 s1]
      unfold bReq
      by_cases e1 : bStd b x s = 0
      · rw [if_pos e1, if_pos e1]
      · rw [if_neg e1, if_neg e1]
        by_cases e2 : 0 ≤ bV b x s
        · rw [if_pos (Or.inl e2), if_pos (Or.inl e2)]
        · have e3 := bStand_inv hD x0 x1 (hX x x0 x1) s0 s1 e1 (by omega)
          have hrd := pX_rdy (hX x x0 x1) e3.1 hw0
          rw [← e3.2] at hrd
          have e4 : ¬ bRdy b x s ≤ m := fun e => c' ⟨e3.1, by rw [hrd]; exact e⟩
          rw [if_neg (show ¬ (0 ≤ bV b x s ∨ bRdy b x s ≤ m - 1) by omega), if_neg (show ¬ (0 ≤ bV b x s ∨ bRdy b x s ≤ m) by omega)]
