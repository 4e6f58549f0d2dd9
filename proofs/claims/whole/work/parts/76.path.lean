/-! THE REFERENCE'S RECORDS: the way of a shuttle -/
def kW (B E : Int) : Int := if B < E then 1 else -1
def kP (B E s : Int) : Int := if B < E then s - B else B - s
/-- a shuttle's way from B to E: it stands at st or rides behind it (rd = 1); C and V are when it came and left, up to the minute t -/
def pP (B E er sp : Int) (ru C V : Int → Int) (st rd t : Int) : Prop :=
  (0 ≤ kP B E st ∧ kP B E st ≤ kP B E E) ∧ (rd = 1 → kP B E st < kP B E E) ∧
  ∀ s, 0 ≤ s → s < 8 →
   (0 ≤ C s ↔ 1 ≤ kP B E s ∧ kP B E s ≤ kP B E st) ∧
   (0 ≤ V s ↔ 0 ≤ kP B E s ∧ (kP B E s < kP B E st ∨ (kP B E s = kP B E st ∧ rd = 1))) ∧
   (0 ≤ C s → C s ≤ t ∧ C s = V (s - kW B E) + ru (sFrom (s - kW B E) (kW B E))) ∧
   (0 ≤ V s → (if s = B then er else C s + sp) ≤ V s ∧ V s ≤ t)
theorem pP_mono {B E er sp : Int} {ru C V : Int → Int} {st rd t t1 : Int} (h : pP B E er sp ru C V st rd t) (ht : t ≤ t1) : pP B E er sp ru C V st rd t1 := by
  refine ⟨h.1, h.2.1, fun s s0 s1 => ?_⟩
  obtain ⟨h1, h2, h3, h4⟩ := h.2.2 s s0 s1
  refine ⟨h1, h2, fun k => ?_, fun k => ?_⟩
  · have := h3 k; omega
  · have := h4 k; omega
theorem pP_cg {B E er sp : Int} {ru C V C1 V1 : Int → Int} {st rd t : Int} (b0 : 0 ≤ B) (b1 : B < 8) (e0 : 0 ≤ E) (e1 : E < 8) (hC : ∀ s, 0 ≤ s → s < 8 → C1 s = C s) (hV : ∀ s, 0 ≤ s → s < 8 → V1 s = V s) (h : pP B E er sp ru C V st rd t) : pP B E er sp ru C1 V1 st rd t := by
  refine ⟨h.1, h.2.1, fun s s0 s1 => ?_⟩
  obtain ⟨h1, h2, h3, h4⟩ := h.2.2 s s0 s1
  rw [hC s s0 s1, hV s s0 s1]
  refine ⟨h1, h2, fun k => ?_, h4⟩
  have h5 := h1.mp k
  have h6 := h.1
  rw [hV (s - kW B E) (by unfold kP kW at *; split <;> split at h5 <;> omega) (by unfold kP kW at *; split <;> split at h5 <;> omega)]
  exact h3 k
theorem kP_st {B E st : Int} (hne : B ≠ E) (b0 : 0 ≤ B) (b1 : B < 8) (e0 : 0 ≤ E) (e1 : E < 8) (h0 : 0 ≤ kP B E st) (h1 : kP B E st < kP B E E) : kP B E (st + kW B E) = kP B E st + 1 ∧ (0 ≤ st ∧ st < 8) ∧ (0 ≤ st + kW B E ∧ st + kW B E < 8) ∧ st + kW B E ≠ B := by
  unfold kP kW at *
  split <;> split at h0 <;> omega
theorem kP_inj {B E s r : Int} (h : kP B E s = kP B E r) : s = r := by
  unfold kP at h
  split at h <;> omega
theorem pP_come {B E er sp : Int} {ru C V : Int → Int} {st t : Int} (hne : B ≠ E) (b0 : 0 ≤ B) (b1 : B < 8) (e0 : 0 ≤ E) (e1 : E < 8) (t0 : 0 ≤ t) (h : pP B E er sp ru C V st 1 t) (ht : V st + ru (sFrom st (kW B E)) = t) : pP B E er sp ru (updI C (st + kW B E) t) V (st + kW B E) 0 t := by
  obtain ⟨⟨h1, h2⟩, h3, h4⟩ := h
  have h3 := h3 rfl
  obtain ⟨k1, k2, k3, k4⟩ := kP_st hne b0 b1 e0 e1 h1 h3
  refine ⟨by omega, fun k => absurd k (by decide), fun s s0 s1 => ?_⟩
  obtain ⟨g1, g2, g3, g4⟩ := h4 s s0 s1
  unfold updI
  by_cases c : s = st + kW B E
  · subst c
    simp only [if_true]
    refine ⟨⟨fun _ => by omega, fun _ => t0⟩, ?_, fun _ => ⟨Int.le_refl _, ?_⟩, fun k => ?_⟩
    · rw [g2, k1]; omega
    · rw [show st + kW B E - kW B E = st by omega, ht]
    · have := g2.mp k; omega
  · simp only [c, if_false]
    have hk : kP B E s ≠ kP B E (st + kW B E) := fun k => c (kP_inj k)
    refine ⟨?_, ?_, g3, g4⟩
    · rw [g1]; omega
    · rw [g2]; omega
theorem pP_lv {B E er sp : Int} {ru C V : Int → Int} {st t : Int} (hne : B ≠ E) (b0 : 0 ≤ B) (b1 : B < 8) (e0 : 0 ≤ E) (e1 : E < 8) (t0 : 0 ≤ t) (h : pP B E er sp ru C V st 0 t) (hs : kP B E st < kP B E E) (hr : (if st = B then er else C st + sp) ≤ t) : pP B E er sp ru C (updI V st t) st 1 t := by
  obtain ⟨⟨h1, h2⟩, h3, h4⟩ := h
  obtain ⟨k1, k2, k3, k4⟩ := kP_st hne b0 b1 e0 e1 h1 hs
  refine ⟨⟨h1, h2⟩, fun _ => hs, fun s s0 s1 => ?_⟩
  obtain ⟨g1, g2, g3, g4⟩ := h4 s s0 s1
  unfold updI
  refine ⟨g1, ?_, fun k => ?_, ?_⟩
  · by_cases c : s = st
    · subst c
      rw [if_pos rfl]
      exact ⟨fun _ => ⟨h1, Or.inr ⟨rfl, rfl⟩⟩, fun _ => t0⟩
    · simp only [c, if_false]
      have hk : kP B E s ≠ kP B E st := fun k => c (kP_inj k)
      rw [g2]
      omega
  · have := g1.mp k
    have hx : ¬ s - kW B E = st := fun q => by
      have e : kP B E s = kP B E (st + kW B E) := by rw [show s = st + kW B E by omega]
      omega
    rw [if_neg hx]
    exact g3 k
  · by_cases c : s = st
    · subst c
      simp only [if_true]
      exact fun _ => ⟨hr, Int.le_refl _⟩
    · simp only [c, if_false]
      exact g4
/-- who has come to a station has left those before it -/
theorem pP_ord {B E er sp : Int} {ru C V : Int → Int} {st rd t : Int} (hne : B ≠ E) (b0 : 0 ≤ B) (b1 : B < 8) (e0 : 0 ≤ E) (e1 : E < 8) (hsp : 0 ≤ sp) (hru : ∀ k, 0 ≤ k → k < 7 → 1 ≤ ru k) (h : pP B E er sp ru C V st rd t) : ∀ (n : Nat) (s r : Int), 0 ≤ s → s < 8 → 0 ≤ r → r < 8 → kP B E s < kP B E r → kP B E r ≤ n → 0 ≤ kP B E s → 0 ≤ C r → 0 ≤ V s ∧ V s < C r := by
  intro n
  induction n with
  | zero => intro s r _ _ _ _ h1 h2 h3 _; omega
  | succ n ih =>
    intro s r s0 s1 r0 r1 hlt hn hs hC
    obtain ⟨⟨h1, h2⟩, h3, h4⟩ := h
    obtain ⟨g1, g2, g3, g4⟩ := h4 r r0 r1
    have hk := g1.mp hC
    obtain ⟨q1, q2⟩ := g3 hC
    have hp : kP B E (r - kW B E) = kP B E r - 1 ∧ (0 ≤ r - kW B E ∧ r - kW B E < 8) ∧ (0 ≤ sFrom (r - kW B E) (kW B E) ∧ sFrom (r - kW B E) (kW B E) < 7) := by
      unfold kP kW sFrom at *
      split <;> split at hlt <;> omega
    obtain ⟨f1, f2, f3, f4⟩ := h4 (r - kW B E) hp.2.1.1 hp.2.1.2
    have hru1 := hru _ hp.2.2.1 hp.2.2.2
    have hV : 0 ≤ V (r - kW B E) := f2.mpr (by omega)
    by_cases c : s = r - kW B E
    · subst c
      omega
    · have hk2 : kP B E s ≠ kP B E (r - kW B E) := fun k => c (kP_inj k)
      have hC2 : 0 ≤ C (r - kW B E) := f1.mpr (by omega)
      have := ih s (r - kW B E) s0 s1 hp.2.1.1 hp.2.1.2 (by omega) (by omega) hs hC2
      have f5 := f4 hV
      have hB : ¬ r - kW B E = B := fun k => by
        have : kP B E (r - kW B E) = kP B E B := by rw [k]
        have : kP B E B = 0 := by unfold kP; split <;> omega
        omega
      rw [if_neg hB] at f5
      omega
def bC (b : sm_W) (x s : Int) : Int := wI b 163 (8 * x + s)
def bV (b : sm_W) (x s : Int) : Int := wI b 165 (8 * x + s)
def bBe (b : sm_W) (x : Int) : Int := wI b 155 (17 + 5 * x)
def bEn (b : sm_W) (x : Int) : Int := wI b 155 (17 + 5 * x + 1)
def bRu (b : sm_W) (k : Int) : Int := wI b 155 (10 + k)
def bRdy (b : sm_W) (x s : Int) : Int := if s = bBe b x then wI b 155 (17 + 5 * x + 2) else bC b x s + wI b 155 (17 + 5 * x + 3)
/-- the station where a shuttle is, or behind it -/
def pSt (b : sm_W) (x : Int) : Int := if wI b 160 x = 2 then (if 0 < mWay (wI b 155) x then wI b 161 x else wI b 161 x + 1) else wI b 161 x
def pX (b : sm_W) (t x : Int) : Prop := pP (bBe b x) (bEn b x) (wI b 155 (17 + 5 * x + 2)) (wI b 155 (17 + 5 * x + 3)) (bRu b) (bC b x) (bV b x) (pSt b x) (if wI b 160 x = 2 then 1 else 0) t ∧ (wI b 160 x = 0 → wI b 161 x = bBe b x) ∧ (wI b 160 x = 1 → wI b 161 x ≠ bBe b x ∧ wI b 162 x = bC b x (wI b 161 x)) ∧ (wI b 160 x = 2 → wI b 162 x = bV b x (pSt b x))
theorem mWay_kW (b : sm_W) (x : Int) : mWay (wI b 155) x = kW (bBe b x) (bEn b x) := rfl
theorem pX_mono {b : sm_W} {t t1 x : Int} (h : pX b t x) (ht : t ≤ t1) : pX b t1 x := ⟨pP_mono h.1 ht, h.2⟩
/-- the ready minute of one that stands -/
theorem pX_rdy {b : sm_W} {t x : Int} (h : pX b t x) (hs : wI b 160 x ≤ 1) (h0 : 0 ≤ wI b 160 x) : mReady b x = bRdy b x (wI b 161 x) := by
  unfold mReady bRdy
  by_cases c : wI b 160 x = 0
  · rw [if_pos c, if_pos (h.2.1 c)]
  · have := h.2.2.1 (by omega)
    rw [if_neg c, if_neg this.1, this.2]
theorem pX_cm1 {b : sm_W} {t x : Int} (hD : mDay b) (t0 : 0 ≤ t) (x0 : 0 ≤ x) (x1 : x < wI b 155 1) (h : ∀ y, 0 ≤ y → y < wI b 155 1 → pX b t y) : ∀ y, 0 ≤ y → y < wI b 155 1 → pX (mCm1 t x b) t y := by
  by_cases c : wI b 160 x = 2 ∧ t - wI b 162 x = wI b 155 (10 + wI b 161 x)
  · have hb := mToS_b hD x0 x1 c.1
    obtain ⟨j160, j161, j162, j163, jo⟩ := mCm1_in c
    have j155 := jo 155 (by decide) (by decide) (by decide) (by decide)
    have j165 := jo 165 (by decide) (by decide) (by decide) (by decide)
    intro y y0 y1
    have hy := h y y0 y1
    have hq := vOK_sh hD.1.2 y0 y1
    generalize mCm1 t x b = A at *
    unfold pX bBe bEn bRu at *
    rw [j155, j160, j162, j161]
    have eV : bV A y = bV b y := by unfold bV; rw [j165]
    rw [eV]
    by_cases e : y = x
    · subst e
      obtain ⟨h1, h2, h3, h4⟩ := hy
      have p1 : pSt b y = (if 0 < mWay (wI b 155) y then wI b 161 y else wI b 161 y + 1) := by unfold pSt; rw [if_pos c.1]
      have eC : bC A y = updI (bC b y) (mToS b y) t := funext fun s => by
        unfold bC updI
        rw [j163]
        by_cases k : s = mToS b y
        · rw [if_pos k, if_pos (by omega)]
        · rw [if_neg k, if_neg (by omega)]
      have p2 : pSt A y = mToS b y := by
        unfold pSt
        rw [j160, j161, if_pos rfl, if_pos rfl, if_neg]
        split <;> decide
      have p3 : mToS b y = pSt b y + mWay (wI b 155) y := by rw [p1]; exact hb.2.2.1
      rw [eC, p2, if_pos rfl, if_pos rfl, if_pos rfl, if_neg (show ¬ (if mToS b y = wI b 155 (17 + 5 * y + 1) then (3 : Int) else 1) = 2 by split <;> decide)]
      rw [if_pos c.1] at h1
      refine ⟨?_, fun k => ?_, fun _ => ⟨hb.2.2.2.2.1, ?_⟩, fun k => ?_⟩
      · rw [p3]
        refine pP_come (by omega) hq.1.1 hq.1.2 hq.2.1.1 hq.2.1.2 t0 h1 ?_
        have h5 := h4 c.1
        rw [← h5]
        have h6 : sFrom (pSt b y) (kW (wI b 155 (17 + 5 * y)) (wI b 155 (17 + 5 * y + 1))) = wI b 161 y := by rw [p1]; exact hb.2.2.2.1.symm
        rw [h6]
        omega
      · exfalso; revert k; split <;> decide
      · unfold updI; rw [if_pos rfl]
      · exfalso; revert k; split <;> decide
    · have eC : ∀ s, 0 ≤ s → s < 8 → bC A y s = bC b y s := fun s s0 s1 => by
        unfold bC
        rw [j163, if_neg (by omega)]
      have p2 : pSt A y = pSt b y := by
        unfold pSt
        rw [j160, j161, j155, if_neg e, if_neg e]
      rw [p2, if_neg e, if_neg e, if_neg e]
      refine ⟨pP_cg hq.1.1 hq.1.2 hq.2.1.1 hq.2.1.2 eC (fun _ _ _ => rfl) hy.1, hy.2.1, fun k => ?_, hy.2.2.2⟩
      have h5 := hy.2.2.1 k
      have hs := hD.2 y y0 y1
      unfold mSh at hs
      rw [eC _ (by omega) (by omega)]
      exact h5
  · rw [mCm1_no c]
    exact h
theorem pX_lv1 {b : sm_W} {t x : Int} (hD : mDay b) (t0 : 0 ≤ t) (x0 : 0 ≤ x) (x1 : x < wI b 155 1) (hs : wI b 160 x ≤ 1) (hr : mReady b x ≤ t) (h : ∀ y, 0 ≤ y → y < wI b 155 1 → pX b t y) : ∀ y, 0 ≤ y → y < wI b 155 1 → pX (mLv1 b x t) t y := by
  have hb := mSt_b hD x0 x1 hs
  have hsx := hD.2 x x0 x1
  have hw3 : 0 ≤ wI b 160 x ∧ wI b 160 x ≤ 3 := by unfold mSh at hsx; exact hsx.2.2.1
  obtain ⟨j160, j161, j162, j165, j164, jo⟩ := mLv1_in b x t
  have j155 := jo 155 (by decide) (by decide) (by decide) (by decide) (by decide)
  have j163 := jo 163 (by decide) (by decide) (by decide) (by decide) (by decide)
  intro y y0 y1
  have hy := h y y0 y1
  have hq := vOK_sh hD.1.2 y0 y1
  have hrd := fun (e : y = x) => pX_rdy hy (by rw [e]; exact hs) (by rw [e]; exact hw3.1)
  have hw := mWay_pm (wI b 155) x
  generalize mLv1 b x t = A at *
  unfold pX bBe bEn bRu at *
  rw [j155, j160, j162, j161]
  have eC : bC A y = bC b y := by unfold bC; rw [j163]
  rw [eC]
  by_cases e : y = x
  · subst e
    have hrd := hrd rfl
    obtain ⟨h1, h2, h3, h4⟩ := hy
    have p1 : pSt b y = wI b 161 y := by unfold pSt; rw [if_neg (by omega)]
    have eV : bV A y = updI (bV b y) (wI b 161 y) t := funext fun s => by
      unfold bV updI
      rw [j165]
      by_cases k : s = wI b 161 y
      · rw [if_pos k, if_pos (by omega)]
      · rw [if_neg k, if_neg (by omega)]
    have p2 : pSt A y = wI b 161 y := by
      unfold pSt sFrom at *
      rw [j160, j161, j155, if_pos rfl, if_pos rfl, if_pos rfl]
      rcases hw with ⟨hw, hlt⟩ | ⟨hw, hlt⟩ <;> rw [hw] <;> simp only [Int.reduceLT, if_true, if_false] <;> omega
    rw [eV, p2]
    simp only [if_true]
    rw [p1, if_neg (show ¬ wI b 160 y = 2 by omega)] at h1
    refine ⟨?_, fun k => absurd k (by decide), fun k => absurd k (by decide), fun _ => ?_⟩
    · refine pP_lv (by omega) hq.1.1 hq.1.2 hq.2.1.1 hq.2.1.2 t0 h1 ?_ ?_
      · have h5 := h1.1
        have : kP (wI b 155 (17 + 5 * y)) (wI b 155 (17 + 5 * y + 1)) (wI b 161 y) ≠ kP (wI b 155 (17 + 5 * y)) (wI b 155 (17 + 5 * y + 1)) (wI b 155 (17 + 5 * y + 1)) := fun k => hb.2.2.2 (kP_inj k)
        omega
      · unfold bRdy bBe at hrd
        omega
    · unfold updI; rw [if_pos rfl]
  · have eV : ∀ s, 0 ≤ s → s < 8 → bV A y s = bV b y s := fun s s0 s1 => by
      unfold bV
      rw [j165, if_neg (by omega)]
    have p2 : pSt A y = pSt b y := by
      unfold pSt
      rw [j160, j161, j155, if_neg e, if_neg e]
    rw [p2, if_neg e, if_neg e, if_neg e]
    refine ⟨pP_cg hq.1.1 hq.1.2 hq.2.1.1 hq.2.1.2 (fun _ _ _ => rfl) eV hy.1, hy.2.1, hy.2.2.1, fun k => ?_⟩
    have h5 := hy.2.2.2 k
    have hs := hD.2 y y0 y1
    unfold mSh at hs
    have h8 := hs.2.2.2.2.1 k
    rw [eV _ (by unfold pSt; rw [if_pos k]; split <;> omega) (by unfold pSt; rw [if_pos k]; split <;> omega)]
    exact h5
/-- two shuttles are on one stretch one after another -/
def bBh (b : sm_W) (x s : Int) : Int := if 0 < mWay (wI b 155) x then s else s + 1
def pDJ (b : sm_W) : Prop := ∀ x y, 0 ≤ x → x < wI b 155 1 → 0 ≤ y → y < wI b 155 1 → x ≠ y → ∀ s, 0 ≤ s → s < 7 → 0 ≤ bV b x (bBh b x s) → 0 ≤ bV b y (bBh b y s) → bV b x (bBh b x s) + bRu b s ≤ bV b y (bBh b y s) ∨ bV b y (bBh b y s) + bRu b s ≤ bV b x (bBh b x s)
/-- who left to a stretch and isn't there any more, was there up to now at most -/
theorem pX_gone {b : sm_W} {t y s : Int} (hD : mDay b) (y0 : 0 ≤ y) (y1 : y < wI b 155 1) (h : pX b t y) (s0 : 0 ≤ s) (s1 : s < 7) (hV : 0 ≤ bV b y (bBh b y s)) (hn : ¬ bOn b y s) : bV b y (bBh b y s) + bRu b s ≤ t := by
  obtain ⟨h1, _, _, h4⟩ := h
  have hq := vOK_sh hD.1.2 y0 y1
  have hw := mWay_pm (wI b 155) y
  have hs := hD.2 y y0 y1
  unfold mSh at hs
  obtain ⟨⟨k1, k2⟩, k3, k4⟩ := h1
  have hbh : 0 ≤ bBh b y s ∧ bBh b y s < 8 := by unfold bBh; split <;> omega
  have g := k4 (bBh b y s) hbh.1 hbh.2
  have g2 := g.2.1.mp hV
  have hlt : kP (bBe b y) (bEn b y) (bBh b y s) < kP (bBe b y) (bEn b y) (pSt b y) := by
    rcases g2 with ⟨g3, g4 | ⟨g4, g5⟩⟩
    · exact g4
    · exfalso
      have c2 : wI b 160 y = 2 := by
        apply Classical.byContradiction
        intro k
        rw [if_neg k] at g5
        revert g5; decide
      refine hn ⟨c2, ?_⟩
      have h5 := kP_inj g4
      unfold bBh pSt at h5
      rw [if_pos c2] at h5
      split at h5 <;> omega
  have hw1 : bBh b y s + kW (bBe b y) (bEn b y) = (if 0 < mWay (wI b 155) y then s + 1 else s) ∧ sFrom (bBh b y s) (kW (bBe b y) (bEn b y)) = s := by
    rw [← mWay_kW]
    unfold bBh sFrom
    rcases hw with ⟨hw, _⟩ | ⟨hw, _⟩ <;> rw [hw] <;> simp only [Int.reduceLT, if_true, if_false, true_and, and_true] <;> omega
  have hst := kP_st (B := bBe b y) (E := bEn b y) (st := bBh b y s) hq.2.2.1 hq.1.1 hq.1.2 hq.2.1.1 hq.2.1.2 g2.1 (by omega)
  have f := k4 (bBh b y s + kW (bBe b y) (bEn b y)) hst.2.2.1.1 hst.2.2.1.2
  have f1 := f.1.mpr (by omega)
  have f2 := f.2.2.1 f1
  rw [show bBh b y s + kW (bBe b y) (bEn b y) - kW (bBe b y) (bEn b y) = bBh b y s by omega, hw1.2] at f2
  omega
theorem pDJ_sm {b u : sm_W} (h : pDJ b) (h155 : wI u 155 = wI b 155) (h165 : wI u 165 = wI b 165) : pDJ u := by
  unfold pDJ bV bBh bRu at *
  rw [h155, h165]
  exact h
theorem pDJ_lv1 {b : sm_W} {t x : Int} (hD : mDay b) (x0 : 0 ≤ x) (x1 : x < wI b 155 1) (hc : mCan b x t = 1) (hX : ∀ y, 0 ≤ y → y < wI b 155 1 → pX b t y) (h : pDJ b) : pDJ (mLv1 b x t) := by
  have hm := vOK_many hD.1.2
  have hp := mCan_pre hc
  have hb := mSt_b hD x0 x1 hp.1
  have hfree : ∀ y, 0 ≤ y → y < wI b 155 1 → ¬ bOn b y (sFrom (wI b 161 x) (mWay (wI b 155) x)) := by
    refine (mWho_neg _ _ _ hm.1).mp ?_
    unfold mCan at hc
    rw [if_pos hp] at hc
    apply Classical.byContradiction
    intro k
    rw [if_neg k] at hc
    revert hc
    decide
  obtain ⟨j160, j161, j162, j165, j164, jo⟩ := mLv1_in b x t
  have j155 := jo 155 (by decide) (by decide) (by decide) (by decide) (by decide)
  have hw := mWay_pm (wI b 155) x
  generalize mLv1 b x t = A at *
  have eV : ∀ y s, 0 ≤ y → y < 8 → 0 ≤ s → s < 8 → bV A y s = if y = x ∧ s = wI b 161 x then t else bV b y s := fun y s y0 y1 s0 s1 => by
    unfold bV
    rw [j165]
    by_cases k : y = x ∧ s = wI b 161 x
    · rw [if_pos k, if_pos (by rw [k.1, k.2])]
    · rw [if_neg k, if_neg (by omega)]
  have eB : ∀ y s, bBh A y s = bBh b y s := fun y s => by unfold bBh; rw [j155]
  have hkey : ∀ s, 0 ≤ s → s < 7 → bBh b x s = wI b 161 x → s = sFrom (wI b 161 x) (mWay (wI b 155) x) := fun s s0 s1 k => by
    rw [← k]
    unfold bBh sFrom
    rcases hw with ⟨hw, _⟩ | ⟨hw, _⟩ <;> rw [hw] <;> simp only [Int.reduceLT, if_true, if_false] <;> omega
  intro y z y0 y1 z0 z1 hne s s0 s1
  rw [j155] at y1 z1
  have rb : ∀ q, 0 ≤ bBh b q s ∧ bBh b q s < 8 := fun q => by unfold bBh; split <;> omega
  rw [eB, eB, eV y _ y0 (by omega) (rb y).1 (rb y).2, eV z _ z0 (by omega) (rb z).1 (rb z).2]
  have hru : bRu A s = bRu b s := by unfold bRu; rw [j155]
  rw [hru]
  by_cases c1 : y = x ∧ bBh b y s = wI b 161 x
  · have c2 : ¬ (z = x ∧ bBh b z s = wI b 161 x) := fun k => hne (by omega)
    rw [if_pos c1, if_neg c2]
    intro _ hz
    right
    have hs := hkey s s0 s1 (by have q := c1.2; rw [c1.1] at q; exact q)
    exact pX_gone hD z0 z1 (hX z z0 z1) s0 s1 hz (by rw [hs]; exact hfree z z0 z1)
  · rw [if_neg c1]
    by_cases c2 : z = x ∧ bBh b z s = wI b 161 x
    · rw [if_pos c2]
      intro hy _
      left
      have hs := hkey s s0 s1 (by have q := c2.2; rw [c2.1] at q; exact q)
      exact pX_gone hD y0 y1 (hX y y0 y1) s0 s1 hy (by rw [hs]; exact hfree y y0 y1)
    · rw [if_neg c2]
      exact h y z y0 y1 z0 z1 hne s s0 s1
