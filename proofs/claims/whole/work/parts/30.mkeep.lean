/-! WHAT A STEP LEAVES AS IT IS: cells outside a set, and what is written within it -/
def sFr (S : Nat → Int → Int → Prop) (w u : sm_W) : Prop := u.1 = w.1 ∧ u.2.1 = w.2.1 ∧ u.2.2.2 = w.2.2.2 ∧ ∀ a i, wI u a i = wI w a i ∨ S a i (wI u a i)
theorem sFr.refl {S : Nat → Int → Int → Prop} (w : sm_W) : sFr S w w := ⟨rfl, rfl, rfl, fun _ _ => Or.inl rfl⟩
theorem sFr.trans {S : Nat → Int → Int → Prop} {w u v : sm_W} (h : sFr S w u) (h2 : sFr S u v) : sFr S w v := ⟨h2.1.trans h.1, h2.2.1.trans h.2.1, h2.2.2.1.trans h.2.2.1, fun a i => by
  rcases h2.2.2.2 a i with e | e
  · rw [e]; exact h.2.2.2 a i
  · exact Or.inr e⟩
theorem sFr.st {S : Nat → Int → Int → Prop} {w u : sm_W} {a : Nat} {i v : Int} (h : sFr S w u) (hs : S a i v) : sFr S w (wsI u a i v) := ⟨h.1, h.2.1, h.2.2.1, fun b j => by
  rw [wI_wsI]
  split
  · next e => obtain ⟨rfl, rfl⟩ := e; exact Or.inr hs
  · exact h.2.2.2 b j⟩
theorem sFr.S {S : Nat → Int → Int → Prop} {w u : sm_W} (h : sFr S w u) (a : Nat) : wS u a = wS w a := by show u.2.1 a = w.2.1 a; rw [h.2.1]
theorem sFr.R {S : Nat → Int → Int → Prop} {w u : sm_W} (h : sFr S w u) (a : Nat) : wR u a = wR w a := by show u.2.2.2 a = w.2.2.2 a; rw [h.2.2.1]
theorem sFr.out {S : Nat → Int → Int → Prop} {w u : sm_W} (h : sFr S w u) {a : Nat} {i : Int} (hn : ∀ v, ¬ S a i v) : wI u a i = wI w a i := by
  rcases h.2.2.2 a i with e | e
  · exact e
  · exact absurd e (hn _)
theorem sFr.outA {S : Nat → Int → Int → Prop} {w u : sm_W} (h : sFr S w u) {a : Nat} (hn : ∀ i v, ¬ S a i v) : wI u a = wI w a := funext fun i => h.out (hn i)
theorem sFr.mono {S T : Nat → Int → Int → Prop} {w u : sm_W} (h : sFr S w u) (hs : ∀ a i v, S a i v → T a i v) : sFr T w u := ⟨h.1, h.2.1, h.2.2.1, fun a i => (h.2.2.2 a i).imp id (hs a i _)⟩
/-- the cells of the reference's day -/
def sRun (a : Nat) (i v : Int) : Prop := (a = 154 ∧ (i = 17 ∨ i = 18 ∨ i = 20)) ∨ (160 ≤ a ∧ a ≤ 162) ∨ (a = 163 ∧ -6 ≤ v ∧ v ≤ 100000) ∨ (a = 164 ∧ -6 ≤ v ∧ v ≤ 200000) ∨ (a = 165 ∧ -6 ≤ v ∧ v ≤ 100000) ∨ (166 ≤ a ∧ a ≤ 170)
theorem mCm1_fr {t x : Int} (w : sm_W) (t0 : 0 ≤ t) (t1 : t ≤ 100000) : sFr sRun w (mCm1 t x w) := by
  unfold mCm1
  split
  · split
    · exact ((((sFr.refl w).st (by unfold sRun; omega)).st (by unfold sRun; omega)).st (by unfold sRun; omega)).st (by unfold sRun; omega)
    · exact ((((sFr.refl w).st (by unfold sRun; omega)).st (by unfold sRun; omega)).st (by unfold sRun; omega)).st (by unfold sRun; omega)
  · exact sFr.refl w
theorem mMt1_fr (t x y : Int) (w : sm_W) : sFr sRun w (mMt1 t x y w) := by
  unfold mMt1
  split
  · exact ((sFr.refl w).st (by unfold sRun; omega)).st (by unfold sRun; omega)
  · exact sFr.refl w
theorem mReady_b {w : sm_W} {x : Int} (hD : mDay w) (x0 : 0 ≤ x) (x1 : x < wI w 155 1) : 0 ≤ mReady w x ∧ mReady w x ≤ 200000 := by
  have hs := hD.2 x x0 x1
  have hq := vOK_sh hD.1.2 x0 x1
  unfold mSh at hs
  unfold mReady
  split <;> omega
theorem mLv1_fr {w : sm_W} {x t : Int} (hD : mDay w) (x0 : 0 ≤ x) (x1 : x < wI w 155 1) (t0 : 0 ≤ t) (t1 : t ≤ 100000) : sFr sRun w (mLv1 w x t) := by
  have := mReady_b hD x0 x1
  unfold mLv1
  exact (((((sFr.refl w).st (by unfold sRun; omega)).st (by unfold sRun; omega)).st (by unfold sRun; omega)).st (by unfold sRun; omega)).st (by unfold sRun; omega)
theorem mWt1_fr {w : sm_W} {x t : Int} (hD : mDay w) (x0 : 0 ≤ x) (x1 : x < wI w 155 1) : sFr sRun w (mWt1 t x w) := by
  have := mReady_b hD x0 x1
  unfold mWt1
  split
  · split
    · exact (((sFr.refl w).st (by unfold sRun; omega)).st (by unfold sRun; omega)).st (by unfold sRun; omega)
    · exact ((sFr.refl w).st (by unfold sRun; omega)).st (by unfold sRun; omega)
  · exact sFr.refl w
theorem sFr.it {S : Nat → Int → Int → Prop} {f : Int → sm_W → sm_W} {w : sm_W} (n : Int) (hn : 0 ≤ n) (hs : ∀ i r, 0 ≤ i → i < n → sFr S w r → sFr S r (f i r)) : sFr S w (itI f w n) :=
  itI_ind (f := f) (fun _ r => sFr S w r) n (sFr.refl w) (fun i r i0 i1 hr => hr.trans (hs i r i0 i1 hr)) n hn (Int.le_refl _)
