/-! THE REFERENCE'S RECORDS: waits, as sums over the places -/
def bStd (b : sm_W) (x p : Int) : Int := if p = bBe b x then 1 else (if bC b x p < 0 then 0 else (if p = bEn b x then 0 else 1))
def bGone (b : sm_W) (m x p : Int) : Int := if bV b x p < 0 then m + 1 else bV b x p
def bMn (b : sm_W) (y s fr ah : Int) : Int := if bV b y (bBh b y s) < 0 then 0 else (if xMnA (bV b y (bBh b y s)) (bRu b s) fr ah < 0 then 0 else xMnA (bV b y (bBh b y s)) (bRu b s) fr ah)
def bFor (b : sm_W) (x y : Int) : Int := if mWay (wI b 155) x = mWay (wI b 155) y then 2 else 1
def bSf (b : sm_W) (x p : Int) : Int := sFrom p (mWay (wI b 155) x)
def bGy (c : Int → Int) (b : sm_W) (m x p y : Int) : Int := if c y = 1 then bMn b y (bSf b x p) (bRdy b x p) (bGone b m x p) else 0
def bG1 (c : Int → Int) (b : sm_W) (m x p : Int) : Int := if bStd b x p = 0 then 0 else sumI (bGy c b m x p) (wI b 155 1)
def bG (c : Int → Int) (b : sm_W) (m x : Int) : Int := sumI (bG1 c b m x) 8
def bTs1 (b : sm_W) (m x p : Int) : Int := if bStd b x p = 0 then 0 else (if bGone b m x p ≤ bRdy b x p then 0 else bGone b m x p - bRdy b x p)
def bTs (b : sm_W) (m x : Int) : Int := sumI (bTs1 b m x) 8
def bReq (b : sm_W) (m x s : Int) : Int := if bStd b x s = 0 then -6 else (if 0 ≤ bV b x s ∨ bRdy b x s ≤ m then bRdy b x s else -6)
def b1 (y z : Int) : Int := if z = y then 1 else 0
def bCf (b : sm_W) (x r z : Int) : Int := if bFor b x z = r then 1 else 0
/-- the counters, told by when who came and left -/
def pWt (b : sm_W) (m : Int) : Prop := ∀ x, 0 ≤ x → x < wI b 155 1 → (∀ y, 0 ≤ y → y < wI b 155 1 → wI b 168 (8 * x + y) = bG (b1 y) b m x) ∧ wI b 169 (4 * x + 1) = bG (bCf b x 1) b m x ∧ wI b 169 (4 * x + 2) = bG (bCf b x 2) b m x ∧ wI b 169 (4 * x + 3) = bTs b m x - bG (fun _ => 1) b m x ∧ ∀ s, 0 ≤ s → s < 8 → wI b 164 (8 * x + s) = bReq b m x s
theorem xMnA_0 {m r fr ah : Int} (h : ah ≤ fr ∨ ah ≤ m) : (if xMnA m r fr ah < 0 then 0 else xMnA m r fr ah) = 0 := by
  unfold xMnA
  grind
/-- the same words over two worlds -/
theorem bG1_cg {c : Int → Int} {b u : sm_W} {m m1 x p : Int} (h155 : wI u 155 = wI b 155) (hm : 0 ≤ wI b 155 1) (hs : bStd u x p = bStd b x p) (h : bStd b x p ≠ 0 → ∀ y, 0 ≤ y → y < wI b 155 1 → bMn u y (bSf b x p) (bRdy u x p) (bGone u m1 x p) = bMn b y (bSf b x p) (bRdy b x p) (bGone b m x p)) : bG1 c u m1 x p = bG1 c b m x p := by
  unfold bG1
  rw [hs, h155]
  by_cases k : bStd b x p = 0
  · rw [if_pos k, if_pos k]
  · rw [if_neg k, if_neg k]
    refine sumI_cgI hm (fun y y0 y1 => ?_)
    have e : bSf u x p = bSf b x p := by unfold bSf; rw [h155]
    unfold bGy
    rw [e, h k y y0 y1]
theorem bMn_0 {b : sm_W} {y s fr ah : Int} (h : ah ≤ fr) : bMn b y s fr ah = 0 := by
  unfold bMn
  rw [xMnA_0 (Or.inl h)]
  split <;> rfl
theorem bG1_0 {c : Int → Int} {b : sm_W} {m x p : Int} (hm : 0 ≤ wI b 155 1) (h : bStd b x p ≠ 0 → bGone b m x p ≤ bRdy b x p) : bG1 c b m x p = 0 := by
  unfold bG1
  by_cases k : bStd b x p = 0
  · rw [if_pos k]
  · rw [if_neg k]
    refine sumI_z hm (fun y y0 y1 => ?_)
    unfold bGy
    rw [bMn_0 (h k)]
    split <;> rfl
/-- a shuttle comes in at m: nothing is counted yet -/
theorem pWt_cm1 {b : sm_W} {m x : Int} (hD : mDay b) (m0 : 0 ≤ m) (x0 : 0 ≤ x) (x1 : x < wI b 155 1) (hX : ∀ y, 0 ≤ y → y < wI b 155 1 → pX b m y) (h : pWt b (m - 1)) : pWt (mCm1 m x b) (m - 1) := by
  by_cases c : wI b 160 x = 2 ∧ m - wI b 162 x = wI b 155 (10 + wI b 161 x)
  · have hm := vOK_many hD.1.2
    have hb := mToS_b hD x0 x1 c.1
    have hqx := vOK_sh hD.1.2 x0 x1
    obtain ⟨j160, j161, j162, j163, jo⟩ := mCm1_in c
    have j155 := jo 155 (by decide) (by decide) (by decide) (by decide)
    have j165 := jo 165 (by decide) (by decide) (by decide) (by decide)
    have j164 := jo 164 (by decide) (by decide) (by decide) (by decide)
    have j168 := jo 168 (by decide) (by decide) (by decide) (by decide)
    have j169 := jo 169 (by decide) (by decide) (by decide) (by decide)
    have hx := hX x x0 x1
    have hst : pSt b x = (if 0 < mWay (wI b 155) x then wI b 161 x else wI b 161 x + 1) := by unfold pSt; rw [if_pos c.1]
    have hto : mToS b x = pSt b x + kW (bBe b x) (bEn b x) := by rw [hst, ← mWay_kW]; exact hb.2.2.1
    have hk := kP_st (B := bBe b x) (E := bEn b x) (st := pSt b x) hqx.2.2.1 hqx.1.1 hqx.1.2 hqx.2.1.1 hqx.2.1.2 hx.1.1.1 (hx.1.2.1 (by rw [if_pos c.1]))
    rw [← hto] at hk
    -- before, it had not been there
    have hC0 : ¬ 0 ≤ bC b x (mToS b x) := fun k => by
      have := (hx.1.2.2 _ hb.1.1 hb.1.2).1.mp k
      omega
    have hV0 : ¬ 0 ≤ bV b x (mToS b x) := fun k => by
      have := (hx.1.2.2 _ hb.1.1 hb.1.2).2.1.mp k
      omega
    generalize mCm1 m x b = A at *
    have eV : ∀ y s, bV A y s = bV b y s := fun y s => by unfold bV; rw [j165]
    have eC : ∀ y s, 0 ≤ s → s < 8 → ¬ (y = x ∧ s = mToS b x) → bC A y s = bC b y s := fun y s s0 s1 k => by
      unfold bC
      rw [j163, if_neg (by omega)]
    have eCx : bC A x (mToS b x) = m := by unfold bC; rw [j163, if_pos rfl]
    have eBe : ∀ y, bBe A y = bBe b y := fun y => by unfold bBe; rw [j155]
    have eEn : ∀ y, bEn A y = bEn b y := fun y => by unfold bEn; rw [j155]
    have eMn : ∀ y s fr ah, bMn A y s fr ah = bMn b y s fr ah := fun y s fr ah => by
      have e1 : bBh A y s = bBh b y s := by unfold bBh; rw [j155]
      have e2 : bRu A s = bRu b s := by unfold bRu; rw [j155]
      unfold bMn
      rw [e1, e2, eV]
    have eFor : ∀ y z, bFor A y z = bFor b y z := fun y z => by unfold bFor; rw [j155]
    have eCf : ∀ y r, bCf A y r = bCf b y r := fun y r => funext fun z => by unfold bCf; rw [eFor]
    have eGn : ∀ y s, bGone A (m - 1) y s = bGone b (m - 1) y s := fun y s => by unfold bGone; rw [eV]
    have same : ∀ y s, 0 ≤ s → s < 8 → ¬ (y = x ∧ s = mToS b x) → bStd A y s = bStd b y s ∧ bRdy A y s = bRdy b y s := fun y s s0 s1 k => by
      unfold bStd bRdy
      rw [eC y s s0 s1 k, eBe, eEn, j155]
      exact ⟨rfl, rfl⟩
    have hSb : bStd b x (mToS b x) = 0 := by
      unfold bStd
      rw [if_neg hk.2.2.2, if_pos (by omega)]
    have hGx : bGone b (m - 1) x (mToS b x) = m := by unfold bGone; rw [if_pos (by omega)]; omega
    have hRx : m ≤ bRdy A x (mToS b x) := by
      unfold bRdy
      rw [eBe, if_neg hk.2.2.2, eCx, j155]
      omega
    have key : ∀ cc y s, 0 ≤ s → s < 8 → bG1 cc A (m - 1) y s = bG1 cc b (m - 1) y s := fun cc y s s0 s1 => by
      by_cases k : y = x ∧ s = mToS b x
      · rw [k.1, k.2, bG1_0 (b := A) (by rw [j155]; exact hm.1) (fun _ => by rw [eGn, hGx]; exact hRx), bG1_0 (b := b) hm.1 (fun q => absurd hSb q)]
      · obtain ⟨k1, k2⟩ := same y s s0 s1 k
        exact bG1_cg j155 hm.1 k1 (fun _ z _ _ => by rw [eMn, k2, eGn])
    have keyT : ∀ y s, 0 ≤ s → s < 8 → bTs1 A (m - 1) y s = bTs1 b (m - 1) y s := fun y s s0 s1 => by
      unfold bTs1
      by_cases k : y = x ∧ s = mToS b x
      · rw [k.1, k.2, hSb, if_pos rfl, eGn, hGx, if_pos hRx]
        split <;> rfl
      · obtain ⟨k1, k2⟩ := same y s s0 s1 k
        rw [k1, k2, eGn]
    have keyR : ∀ y s, 0 ≤ s → s < 8 → bReq A (m - 1) y s = bReq b (m - 1) y s := fun y s s0 s1 => by
      unfold bReq
      by_cases k : y = x ∧ s = mToS b x
      · rw [k.1, k.2, hSb, if_pos rfl, eV, if_neg (show ¬ (0 ≤ bV b x (mToS b x) ∨ bRdy A x (mToS b x) ≤ m - 1) by omega)]
        split <;> rfl
      · obtain ⟨k1, k2⟩ := same y s s0 s1 k
        rw [k1, k2, eV]
    intro y y0 y1
    rw [j155] at y1
    obtain ⟨h1, h2, h3, h4, h5⟩ := h y y0 y1
    rw [j168, j169, j164, j155, eCf, eCf]
    have hG : ∀ cc, bG cc A (m - 1) y = bG cc b (m - 1) y := fun cc => sumI_cgI (by decide) (fun s s0 s1 => key cc y s s0 s1)
    have hT : bTs A (m - 1) y = bTs b (m - 1) y := sumI_cgI (by decide) (fun s s0 s1 => keyT y s s0 s1)
    rw [hG, hG, hG, hT]
    refine ⟨fun z z0 z1 => ?_, h2, h3, h4, fun s s0 s1 => ?_⟩
    · rw [hG]
      exact h1 z z0 z1
    · rw [keyR y s s0 s1]
      exact h5 s s0 s1
  · rw [mCm1_no c]
    exact h
/-- a shuttle leaves at m: nothing is counted yet -/
theorem pWt_lv1 {b : sm_W} {m x : Int} (hD : mDay b) (m0 : 0 ≤ m) (x0 : 0 ≤ x) (x1 : x < wI b 155 1) (hs : wI b 160 x ≤ 1) (hr : mReady b x ≤ m) (hX : ∀ y, 0 ≤ y → y < wI b 155 1 → pX b m y) (h : pWt b (m - 1)) : pWt (mLv1 b x m) (m - 1) := by
  have hm := vOK_many hD.1.2
  have hb := mSt_b hD x0 x1 hs
  have hsx := hD.2 x x0 x1
  have hw3 : 0 ≤ wI b 160 x ∧ wI b 160 x ≤ 3 := by unfold mSh at hsx; exact hsx.2.2.1
  obtain ⟨j160, j161, j162, j165, j164, jo⟩ := mLv1_in b x m
  have j155 := jo 155 (by decide) (by decide) (by decide) (by decide) (by decide)
  have j163 := jo 163 (by decide) (by decide) (by decide) (by decide) (by decide)
  have j168 := jo 168 (by decide) (by decide) (by decide) (by decide) (by decide)
  have j169 := jo 169 (by decide) (by decide) (by decide) (by decide) (by decide)
  have hx := hX x x0 x1
  have hrd := pX_rdy hx hs hw3.1
  have hw := mWay_pm (wI b 155) x
  have p1 : pSt b x = wI b 161 x := by unfold pSt; rw [if_neg (by omega)]
  have hV0 : ¬ 0 ≤ bV b x (wI b 161 x) := fun k => by
    have := (hx.1.2.2 _ hb.1.1 hb.1.2).2.1.mp k
    rw [p1, if_neg (show ¬ wI b 160 x = 2 by omega)] at this
    omega
  have hS : bStd b x (wI b 161 x) = 1 := by
    unfold bStd
    by_cases k : wI b 161 x = bBe b x
    · rw [if_pos k]
    · have h1 := (hx.1.2.2 _ hb.1.1 hb.1.2).1
      have hk : kP (bBe b x) (bEn b x) (wI b 161 x) ≠ kP (bBe b x) (bEn b x) (bBe b x) := fun q => k (kP_inj q)
      have hk0 : kP (bBe b x) (bEn b x) (bBe b x) = 0 := by unfold kP; split <;> omega
      have h2 := hx.1.1.1
      rw [p1] at h1 h2
      have h3 := h1.mpr (by omega)
      rw [if_neg k, if_neg (by omega), if_neg (show ¬ wI b 161 x = bEn b x from hb.2.2.2)]
  generalize mLv1 b x m = A at *
  have eC : ∀ y s, bC A y s = bC b y s := fun y s => by unfold bC; rw [j163]
  have eV : ∀ y s, 0 ≤ s → s < 8 → bV A y s = if y = x ∧ s = wI b 161 x then m else bV b y s := fun y s s0 s1 => by
    unfold bV
    rw [j165]
    by_cases k : y = x ∧ s = wI b 161 x
    · rw [if_pos k, if_pos (by rw [k.1, k.2])]
    · rw [if_neg k, if_neg (by omega)]
  have eBe : ∀ y, bBe A y = bBe b y := fun y => by unfold bBe; rw [j155]
  have eEn : ∀ y, bEn A y = bEn b y := fun y => by unfold bEn; rw [j155]
  have eStd : ∀ y s, bStd A y s = bStd b y s := fun y s => by unfold bStd; rw [eC, eBe, eEn]
  have eRdy : ∀ y s, bRdy A y s = bRdy b y s := fun y s => by unfold bRdy; rw [eC, eBe, j155]
  have eFor : ∀ y z, bFor A y z = bFor b y z := fun y z => by unfold bFor; rw [j155]
  have eCf : ∀ y r, bCf A y r = bCf b y r := fun y r => funext fun z => by unfold bCf; rw [eFor]
  have eGn : ∀ y s, 0 ≤ y → y < wI b 155 1 → 0 ≤ s → s < 8 → bGone A (m - 1) y s = bGone b (m - 1) y s ∧ bGone b (m - 1) y s ≤ m := fun y s y0 y1 s0 s1 => by
    unfold bGone
    rw [eV y s s0 s1]
    have h4 := ((hX y y0 y1).1.2.2 s s0 s1).2.2.2
    by_cases k : y = x ∧ s = wI b 161 x
    · rw [if_pos k, if_neg (by omega), k.1, k.2, if_pos (by omega)]
      omega
    · rw [if_neg k]
      split <;> omega
  have rb : ∀ q s, 0 ≤ s → s < 7 → 0 ≤ bBh b q s ∧ bBh b q s < 8 := fun q s s0 s1 => by unfold bBh; split <;> omega
  have eMn : ∀ y s fr ah, 0 ≤ s → s < 7 → ah ≤ m → bMn A y s fr ah = bMn b y s fr ah := fun y s fr ah s0 s1 ha => by
    have e1 : bBh A y s = bBh b y s := by unfold bBh; rw [j155]
    have e2 : bRu A s = bRu b s := by unfold bRu; rw [j155]
    have := rb y s s0 s1
    unfold bMn
    rw [e1, e2, eV y _ this.1 this.2]
    by_cases k : y = x ∧ bBh b y s = wI b 161 x
    · rw [if_pos k, xMnA_0 (Or.inr ha), k.2, k.1, if_pos (show bV b x (wI b 161 x) < 0 by omega)]
      split <;> rfl
    · rw [if_neg k]
  intro y y0 y1
  rw [j155] at y1
  have hqy := vOK_sh hD.1.2 y0 y1
  obtain ⟨h1, h2, h3, h4, h5⟩ := h y y0 y1
  -- the stretch ahead of a place where one stood
  have hsf : ∀ s, 0 ≤ s → s < 8 → bStd b y s ≠ 0 → 0 ≤ bSf b y s ∧ bSf b y s < 7 := fun s s0 s1 k => by
    have hwy := mWay_pm (wI b 155) y
    have g := (hX y y0 y1).1.2.2 s s0 s1
    unfold bStd at k
    unfold bSf sFrom
    have hk : s = bBe b y ∨ (0 ≤ bC b y s ∧ s ≠ bEn b y) := by
      by_cases k1 : s = bBe b y
      · exact Or.inl k1
      · rw [if_neg k1] at k
        right
        by_cases k2 : bC b y s < 0
        · rw [if_pos k2] at k; exact absurd rfl k
        · rw [if_neg k2] at k
          refine ⟨by omega, fun k3 => ?_⟩
          rw [if_pos k3] at k
          exact absurd rfl k
    have g1 := g.1
    have g2 := (hX y y0 y1).1.1
    unfold kP bBe bEn at *
    rcases hwy with ⟨hw, hlt⟩ | ⟨hw, hlt⟩ <;> rw [hw] <;> simp only [Int.reduceLT, if_true, if_false] <;> split at g1 <;> omega
  have key : ∀ cc s, 0 ≤ s → s < 8 → bG1 cc A (m - 1) y s = bG1 cc b (m - 1) y s := fun cc s s0 s1 => by
    refine bG1_cg j155 hm.1 (eStd y s) (fun k z z0 z1 => ?_)
    obtain ⟨g1, g2⟩ := eGn y s y0 y1 s0 s1
    obtain ⟨f1, f2⟩ := hsf s s0 s1 k
    rw [eRdy, g1, eMn z _ _ _ f1 f2 g2]
  have hG : ∀ cc, bG cc A (m - 1) y = bG cc b (m - 1) y := fun cc => sumI_cgI (by decide) (fun s s0 s1 => key cc s s0 s1)
  have hT : bTs A (m - 1) y = bTs b (m - 1) y := sumI_cgI (by decide) (fun s s0 s1 => by unfold bTs1; rw [eStd, eRdy, (eGn y s y0 y1 s0 s1).1])
  rw [j168, j169, j155, eCf, eCf, hG, hG, hG, hT]
  refine ⟨fun z z0 z1 => ?_, h2, h3, h4, fun s s0 s1 => ?_⟩
  · rw [hG]
    exact h1 z z0 z1
  · have h6 := h5 s s0 s1
    unfold bReq at h6 ⊢
    rw [j164, eStd, eRdy, eV y s s0 s1]
    by_cases k : y = x ∧ s = wI b 161 x
    · rw [if_pos (show 8 * y + s = 8 * x + wI b 161 x by rw [k.1, k.2]), if_pos k, k.1, k.2, hS, if_neg (by decide), if_pos (Or.inl m0), hrd]
    · rw [if_neg (show ¬ 8 * y + s = 8 * x + wI b 161 x by omega), if_neg k]
      exact h6
