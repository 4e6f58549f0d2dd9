/-! THE TWO DAYS: how the class's day and the reference's stand to one another -/
theorem sumI_cg {f g : Int → Int} : ∀ n : Nat, (∀ x : Int, 0 ≤ x → x < n → f x = g x) → sumI f n = sumI g n
  | 0, _ => rfl
  | n + 1, h => by
    have e : ((n + 1 : Nat) : Int) = (n : Int) + 1 := by omega
    rw [e, sumI_s f (by omega), sumI_s g (by omega), sumI_cg n (fun x h0 h1 => h x h0 (by omega)), h n (by omega) (by omega)]
theorem sumI_cgI {f g : Int → Int} {n : Int} (hn : 0 ≤ n) (h : ∀ x, 0 ≤ x → x < n → f x = g x) : sumI f n = sumI g n := by
  have := sumI_cg (f := f) (g := g) n.toNat (fun x h0 h1 => h x h0 (by omega))
  rw [Int.toNat_of_nonneg hn] at this
  exact this
theorem sumI_up {f g : Int → Int} {x e : Int} (h0 : 0 ≤ x) (hx : f x = g x + e) (ho : ∀ y : Int, y ≠ x → f y = g y) : ∀ n : Nat, x < (n : Int) → sumI f n = sumI g n + e
  | 0, h => by omega
  | n + 1, hlt => by
    have e1 : ((n + 1 : Nat) : Int) = (n : Int) + 1 := by omega
    rw [e1, sumI_s f (by omega), sumI_s g (by omega)]
    by_cases c : x = n
    · subst c
      rw [hx, sumI_cg n (fun y y0 y1 => ho y (by omega))]
      omega
    · rw [sumI_up h0 hx ho n (by omega), ho n (by omega)]
      omega
theorem sumI_upI {f g : Int → Int} {x e n : Int} (h0 : 0 ≤ x) (h1 : x < n) (hx : f x = g x + e) (ho : ∀ y, y ≠ x → f y = g y) : sumI f n = sumI g n + e := by
  have := sumI_up h0 hx ho n.toNat (by omega)
  rw [Int.toNat_of_nonneg (by omega)] at this
  exact this
/-- what a shuttle that comes in changes -/
def mToS (w : sm_W) (x : Int) : Int := if 0 < mWay (wI w 155) x then wI w 161 x + 1 else wI w 161 x
theorem mCm1_in {t x : Int} {w : sm_W} (c : wI w 160 x = 2 ∧ t - wI w 162 x = wI w 155 (10 + wI w 161 x)) : (∀ y, wI (mCm1 t x w) 160 y = if y = x then (if mToS w x = wI w 155 (17 + 5 * x + 1) then 3 else 1) else wI w 160 y) ∧ (∀ y, wI (mCm1 t x w) 161 y = if y = x then mToS w x else wI w 161 y) ∧ (∀ y, wI (mCm1 t x w) 162 y = if y = x then t else wI w 162 y) ∧ (∀ k, wI (mCm1 t x w) 163 k = if k = 8 * x + mToS w x then t else wI w 163 k) ∧ (∀ a, a ≠ 160 → a ≠ 161 → a ≠ 162 → a ≠ 163 → wI (mCm1 t x w) a = wI w a) := by
  unfold mCm1 mToS
  rw [if_pos c]
  split
  · refine ⟨fun y => ?_, fun y => ?_, fun y => ?_, fun k => ?_, fun a h1 h2 h3 h4 => by rw [wIf_ne h3, wIf_ne h2, wIf_ne h1, wIf_ne h4]⟩ <;> simp only [wI_wsI, Nat.reduceEqDiff, false_and, true_and, if_false]
  · refine ⟨fun y => ?_, fun y => ?_, fun y => ?_, fun k => ?_, fun a h1 h2 h3 h4 => by rw [wIf_ne h3, wIf_ne h2, wIf_ne h1, wIf_ne h4]⟩ <;> simp only [wI_wsI, Nat.reduceEqDiff, false_and, true_and, if_false]
theorem mCm1_no {t x : Int} {w : sm_W} (c : ¬ (wI w 160 x = 2 ∧ t - wI w 162 x = wI w 155 (10 + wI w 161 x))) : mCm1 t x w = w := by
  unfold mCm1
  rw [if_neg c]
theorem mLv1_in (w : sm_W) (x t : Int) : (∀ y, wI (mLv1 w x t) 160 y = if y = x then 2 else wI w 160 y) ∧ (∀ y, wI (mLv1 w x t) 161 y = if y = x then sFrom (wI w 161 x) (mWay (wI w 155) x) else wI w 161 y) ∧ (∀ y, wI (mLv1 w x t) 162 y = if y = x then t else wI w 162 y) ∧ (∀ k, wI (mLv1 w x t) 165 k = if k = 8 * x + wI w 161 x then t else wI w 165 k) ∧ (∀ k, wI (mLv1 w x t) 164 k = if k = 8 * x + wI w 161 x then mReady w x else wI w 164 k) ∧ (∀ a, a ≠ 160 → a ≠ 161 → a ≠ 162 → a ≠ 164 → a ≠ 165 → wI (mLv1 w x t) a = wI w a) := by
  unfold mLv1
  refine ⟨fun y => ?_, fun y => ?_, fun y => ?_, fun k => ?_, fun k => ?_, fun a h1 h2 h3 h4 h5 => by rw [wIf_ne h3, wIf_ne h1, wIf_ne h2, wIf_ne h5, wIf_ne h4]⟩ <;> simp only [wI_wsI, Nat.reduceEqDiff, false_and, true_and, if_false]
/-- the lines are alike: but the priorities, of which the order counts -/
def rLn (a : sm_W) (d : Nat) (b : sm_W) : Prop := wI a (d + 1) 7 = wI b 155 1 ∧ wI a (d + 1) 8 = wI b 155 0 ∧ (∀ k, 0 ≤ k → k < 8 → wI a (d + 1 + 1) k = wI b 155 (2 + k)) ∧ (∀ k, 0 ≤ k → k < 7 → wI a (d + 1 + 2) k = wI b 155 (10 + k)) ∧
  (∀ x, 0 ≤ x → x < wI b 155 1 → wI a (d + 1 + 3) x = wI b 155 (17 + 5 * x) ∧ wI a (d + 1 + 4) x = wI b 155 (17 + 5 * x + 1) ∧ wI a (d + 1 + 5) x = wI b 155 (17 + 5 * x + 2) ∧ wI a (d + 1 + 6) x = wI b 155 (17 + 5 * x + 3) ∧ mWay (vL a (d + 1)) x = mWay (wI b 155) x ∧ ∀ p, 0 ≤ p → p < 8 → vTime (vL a (d + 1)) x p = vTime (wI b 155) x p) ∧
  (∀ x y, 0 ≤ x → x < wI b 155 1 → 0 ≤ y → y < wI b 155 1 → (wI a (d + 1 + 7) y < wI a (d + 1 + 7) x ↔ wI b 155 (17 + 5 * y + 4) < wI b 155 (17 + 5 * x + 4)))
theorem rLn_fr {a a1 b b1 : sm_W} {d : Nat} (h : rLn a d b) (ha : sFr (sDy d) a a1) (hb : wI b1 155 = wI b 155) : rLn a1 d b1 := by
  unfold rLn at *
  rw [hb, sDy_v ha, sDy_l0 ha, sDy_l (k := 1) ha (by decide), sDy_l (k := 2) ha (by decide), sDy_l (k := 3) ha (by decide), sDy_l (k := 4) ha (by decide), sDy_l (k := 5) ha (by decide), sDy_l (k := 6) ha (by decide), sDy_l (k := 7) ha (by decide)]
  exact h
/-- when something is up for a shuttle -/
def bDue (b : sm_W) (x : Int) : Int := if wI b 160 x = 2 then wI b 162 x + wI b 155 (10 + wI b 161 x) else mReady b x
def rSh (a : sm_W) (d : Nat) (b : sm_W) (x : Int) : Prop :=
  (wI b 160 x ≤ 1 → wI a (d + 28) x = 0 ∧ wI a (d + 27) x = wI b 161 x ∧ wI a (d + 29) x = mReady b x ∧ wI a (d + 30) x = (if wI b 155 0 = 1 then -(mReady b x) else (if wI b 155 0 = 2 then vTime (wI b 155) x (wI b 161 x) else 0))) ∧
  (wI b 160 x = 2 → wI a (d + 28) x = 1 ∧ wI a (d + 27) x = (if 0 < mWay (wI b 155) x then wI b 161 x else wI b 161 x + 1) ∧ wI a (d + 29) x = wI b 162 x + wI b 155 (10 + wI b 161 x)) ∧
  (wI b 160 x = 3 → wI a (d + 28) x = 0 ∧ wI a (d + 27) x = wI b 161 x) ∧
  (wI b 160 x = 0 → wI b 161 x = wI b 155 (17 + 5 * x)) ∧ (wI b 160 x = 1 → wI b 161 x ≠ wI b 155 (17 + 5 * x)) ∧
  (∀ s, 0 ≤ s → s < 8 → wI a (dC d x) s = wI b 163 (8 * x + s) ∧ wI a (dV d x) s = wI b 165 (8 * x + s))
def rTk (b : sm_W) (s x : Int) : Int := if (wI b 160 x = 1 ∧ wI b 161 x = s) ∨ (mTo b x = s ∧ mTo b x ≠ wI b 155 (17 + 5 * x + 1)) then 1 else 0
theorem mTaken_sum (b : sm_W) (s : Int) (n : Int) (hn : 0 ≤ n) : mTaken b s n = sumI (rTk b s) n := by
  refine itI_ind (f := mTk b s) (fun i r => r = sumI (rTk b s) i) n rfl (fun i r h0 h1 h => ?_) n hn (Int.le_refl _)
  rw [sumI_s _ h0, ← h]
  unfold mTk rTk
  split <;> omega
def bOn (b : sm_W) (x s : Int) : Prop := wI b 160 x = 2 ∧ wI b 161 x = s
def rUq (b : sm_W) : Prop := ∀ x y, 0 ≤ x → x < wI b 155 1 → 0 ≤ y → y < wI b 155 1 → wI b 160 x = 2 → wI b 160 y = 2 → wI b 161 x = wI b 161 y → x = y
def rGl (a : sm_W) (d : Nat) (b : sm_W) : Prop := (∀ s, 0 ≤ s → s < 7 → wI a (d + 31) s = 0 → ∀ x, 0 ≤ x → x < wI b 155 1 → ¬ bOn b x s) ∧ (∀ s, 0 ≤ s → s < 7 → wI a (d + 31) s ≠ 0 → ∃ x, 0 ≤ x ∧ x < wI b 155 1 ∧ bOn b x s) ∧ rUq b ∧ (∀ s, 0 ≤ s → s < 8 → wI a (d + 32) s = sumI (rTk b s) (wI b 155 1))
def rel (a : sm_W) (d : Nat) (b : sm_W) : Prop := rLn a d b ∧ (∀ x, 0 ≤ x → x < wI b 155 1 → rSh a d b x) ∧ rGl a d b
/-- the cells that count -/
theorem rel_b {a b b1 : sm_W} {d : Nat} (h : rel a d b) (h155 : wI b1 155 = wI b 155) (h160 : wI b1 160 = wI b 160) (h161 : wI b1 161 = wI b 161) (h162 : wI b1 162 = wI b 162) (h163 : wI b1 163 = wI b 163) (h165 : wI b1 165 = wI b 165) : rel a d b1 := by
  have e1 : ∀ x, mReady b1 x = mReady b x := fun x => by unfold mReady; rw [h155, h160, h162]
  have e2 : ∀ s, rTk b1 s = rTk b s := fun s => funext fun x => by unfold rTk mTo; rw [h155, h160, h161]
  unfold rel rLn rGl rSh rUq bOn at *
  simp only [e1, e2, h155, h160, h161, h162, h163, h165]
  exact h
theorem rel_a {a a1 b : sm_W} {d : Nat} (h : rel a d b) (ha : sFr (fun x _ _ => x = d) a a1) : rel a1 d b := by
  have hf : sFr (sDy d) a a1 := ha.mono (fun c i v hs => Or.inl hs)
  have g : ∀ c, c ≠ d → wI a1 c = wI a c := fun c hc => ha.outA (fun i v hs => hc hs)
  refine ⟨rLn_fr h.1 hf rfl, fun x x0 x1 => ?_, ?_⟩
  · have h1 := h.2.1 x x0 x1
    unfold rSh at *
    rw [g (d + 27) (by omega), g (d + 28) (by omega), g (d + 29) (by omega), g (d + 30) (by omega), g (dC d x) (by unfold dC; omega), g (dV d x) (by unfold dV; omega)]
    exact h1
  · have h1 := h.2.2
    unfold rGl at *
    rw [g (d + 31) (by omega), g (d + 32) (by omega)]
    exact h1
