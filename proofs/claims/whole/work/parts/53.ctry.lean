/-! THE CLASS: what a line's changes are in 57 numbers -/
def updI (v : Int → Int) (i x : Int) : Int → Int := fun j => if j = i then x else v j
theorem wI_updI (w : sm_W) (a : Nat) (i x : Int) : wI (wsI w a i x) a = updI (wI w a) i x := by
  funext j
  unfold updI
  rw [wI_wsI]
  simp only [true_and]
theorem vL_u3 (w : sm_W) (a : Nat) {s : Int} (x : Int) (h : 0 ≤ s) : vL (wsI w (a + 3) s x) a = updI (vL w a) (17 + 5 * s) x := by
  funext j
  unfold vL updI
  dsimp only
  rw [wIf_ne (show ¬ a = a + 3 by omega), wIf_ne (show ¬ a + 1 = a + 3 by omega), wIf_ne (show ¬ a + 2 = a + 3 by omega), wIf_ne (show ¬ a + 4 = a + 3 by omega), wIf_ne (show ¬ a + 5 = a + 3 by omega), wIf_ne (show ¬ a + 6 = a + 3 by omega), wIf_ne (show ¬ a + 7 = a + 3 by omega)]
  by_cases hj : j = 17 + 5 * s
  · rw [if_pos hj, if_neg (by omega), if_neg (by omega), if_neg (by omega), if_neg (by omega), if_pos (by omega), wI_wsI, if_pos ⟨rfl, by omega⟩]
  · rw [if_neg hj]
    repeat' (split; · first | rfl | (rw [wI_wsI, if_neg (by omega)]))
    all_goals first | rfl | (rw [wI_wsI, if_neg (by omega)])
theorem vL_u4 (w : sm_W) (a : Nat) {s : Int} (x : Int) (h : 0 ≤ s) : vL (wsI w (a + 4) s x) a = updI (vL w a) (17 + 5 * s + 1) x := by
  funext j
  unfold vL updI
  dsimp only
  rw [wIf_ne (show ¬ a = a + 4 by omega), wIf_ne (show ¬ a + 1 = a + 4 by omega), wIf_ne (show ¬ a + 2 = a + 4 by omega), wIf_ne (show ¬ a + 3 = a + 4 by omega), wIf_ne (show ¬ a + 5 = a + 4 by omega), wIf_ne (show ¬ a + 6 = a + 4 by omega), wIf_ne (show ¬ a + 7 = a + 4 by omega)]
  by_cases hj : j = 17 + 5 * s + 1
  · rw [if_pos hj, if_neg (by omega), if_neg (by omega), if_neg (by omega), if_neg (by omega), if_neg (by omega), if_pos (by omega), wI_wsI, if_pos ⟨rfl, by omega⟩]
  · rw [if_neg hj]
    repeat' (split; · first | rfl | (rw [wI_wsI, if_neg (by omega)]))
    all_goals first | rfl | (rw [wI_wsI, if_neg (by omega)])
theorem vL_u5 (w : sm_W) (a : Nat) {s : Int} (x : Int) (h : 0 ≤ s) : vL (wsI w (a + 5) s x) a = updI (vL w a) (17 + 5 * s + 2) x := by
  funext j
  unfold vL updI
  dsimp only
  rw [wIf_ne (show ¬ a = a + 5 by omega), wIf_ne (show ¬ a + 1 = a + 5 by omega), wIf_ne (show ¬ a + 2 = a + 5 by omega), wIf_ne (show ¬ a + 3 = a + 5 by omega), wIf_ne (show ¬ a + 4 = a + 5 by omega), wIf_ne (show ¬ a + 6 = a + 5 by omega), wIf_ne (show ¬ a + 7 = a + 5 by omega)]
  by_cases hj : j = 17 + 5 * s + 2
  · rw [if_pos hj, if_neg (by omega), if_neg (by omega), if_neg (by omega), if_neg (by omega), if_neg (by omega), if_neg (by omega), if_pos (by omega), wI_wsI, if_pos ⟨rfl, by omega⟩]
  · rw [if_neg hj]
    repeat' (split; · first | rfl | (rw [wI_wsI, if_neg (by omega)]))
    all_goals first | rfl | (rw [wI_wsI, if_neg (by omega)])
theorem vL_u6 (w : sm_W) (a : Nat) {s : Int} (x : Int) (h : 0 ≤ s) : vL (wsI w (a + 6) s x) a = updI (vL w a) (17 + 5 * s + 3) x := by
  funext j
  unfold vL updI
  dsimp only
  rw [wIf_ne (show ¬ a = a + 6 by omega), wIf_ne (show ¬ a + 1 = a + 6 by omega), wIf_ne (show ¬ a + 2 = a + 6 by omega), wIf_ne (show ¬ a + 3 = a + 6 by omega), wIf_ne (show ¬ a + 4 = a + 6 by omega), wIf_ne (show ¬ a + 5 = a + 6 by omega), wIf_ne (show ¬ a + 7 = a + 6 by omega)]
  by_cases hj : j = 17 + 5 * s + 3
  · rw [if_pos hj, if_neg (by omega), if_neg (by omega), if_neg (by omega), if_neg (by omega), if_neg (by omega), if_neg (by omega), if_neg (by omega), if_pos (by omega), wI_wsI, if_pos ⟨rfl, by omega⟩]
  · rw [if_neg hj]
    repeat' (split; · first | rfl | (rw [wI_wsI, if_neg (by omega)]))
    all_goals first | rfl | (rw [wI_wsI, if_neg (by omega)])
theorem vL_u7 (w : sm_W) (a : Nat) {s : Int} (x : Int) (h : 0 ≤ s) : vL (wsI w (a + 7) s x) a = updI (vL w a) (17 + 5 * s + 4) x := by
  funext j
  unfold vL updI
  dsimp only
  rw [wIf_ne (show ¬ a = a + 7 by omega), wIf_ne (show ¬ a + 1 = a + 7 by omega), wIf_ne (show ¬ a + 2 = a + 7 by omega), wIf_ne (show ¬ a + 3 = a + 7 by omega), wIf_ne (show ¬ a + 4 = a + 7 by omega), wIf_ne (show ¬ a + 5 = a + 7 by omega), wIf_ne (show ¬ a + 6 = a + 7 by omega)]
  by_cases hj : j = 17 + 5 * s + 4
  · rw [if_pos hj, if_neg (by omega), if_neg (by omega), if_neg (by omega), if_neg (by omega), if_neg (by omega), if_neg (by omega), if_neg (by omega), if_neg (by omega), wI_wsI, if_pos ⟨rfl, by omega⟩]
  · rw [if_neg hj]
    repeat' (split; · first | rfl | (rw [wI_wsI, if_neg (by omega)]))
    all_goals first | rfl | (rw [wI_wsI, if_neg (by omega)])
theorem vL_u1 (w : sm_W) (a : Nat) {s : Int} (x : Int) (h : 0 ≤ s) (h1 : s < 8) : vL (wsI w (a + 1) s x) a = updI (vL w a) (2 + s) x := by
  funext j
  unfold vL updI
  dsimp only
  rw [wIf_ne (show ¬ a = a + 1 by omega), wIf_ne (show ¬ a + 2 = a + 1 by omega), wIf_ne (show ¬ a + 3 = a + 1 by omega), wIf_ne (show ¬ a + 4 = a + 1 by omega), wIf_ne (show ¬ a + 5 = a + 1 by omega), wIf_ne (show ¬ a + 6 = a + 1 by omega), wIf_ne (show ¬ a + 7 = a + 1 by omega)]
  by_cases hj : j = 2 + s
  · rw [if_pos hj, if_neg (by omega), if_neg (by omega), if_pos (by omega), wI_wsI, if_pos ⟨rfl, by omega⟩]
  · rw [if_neg hj]
    repeat' (split; · first | rfl | (rw [wI_wsI, if_neg (by omega)]))
    all_goals first | rfl | (rw [wI_wsI, if_neg (by omega)])
theorem vL_u2 (w : sm_W) (a : Nat) {s : Int} (x : Int) (h : 0 ≤ s) (h1 : s < 7) : vL (wsI w (a + 2) s x) a = updI (vL w a) (10 + s) x := by
  funext j
  unfold vL updI
  dsimp only
  rw [wIf_ne (show ¬ a = a + 2 by omega), wIf_ne (show ¬ a + 1 = a + 2 by omega), wIf_ne (show ¬ a + 3 = a + 2 by omega), wIf_ne (show ¬ a + 4 = a + 2 by omega), wIf_ne (show ¬ a + 5 = a + 2 by omega), wIf_ne (show ¬ a + 6 = a + 2 by omega), wIf_ne (show ¬ a + 7 = a + 2 by omega)]
  by_cases hj : j = 10 + s
  · rw [if_pos hj, if_neg (by omega), if_neg (by omega), if_neg (by omega), if_pos (by omega), wI_wsI, if_pos ⟨rfl, by omega⟩]
  · rw [if_neg hj]
    repeat' (split; · first | rfl | (rw [wI_wsI, if_neg (by omega)]))
    all_goals first | rfl | (rw [wI_wsI, if_neg (by omega)])
theorem vL_u8 (w : sm_W) (a : Nat) (x : Int) : vL (wsI w a 8 x) a = updI (vL w a) 0 x := by
  funext j
  have e8 : wI (wsI w a 8 x) a 8 = x := by rw [wI_wsI, if_pos ⟨rfl, rfl⟩]
  have e7 : wI (wsI w a 8 x) a 7 = wI w a 7 := by rw [wI_wsI, if_neg (by omega)]
  unfold vL updI
  dsimp only
  rw [wIf_ne (show ¬ a + 1 = a by omega), wIf_ne (show ¬ a + 2 = a by omega), wIf_ne (show ¬ a + 3 = a by omega), wIf_ne (show ¬ a + 4 = a by omega), wIf_ne (show ¬ a + 5 = a by omega), wIf_ne (show ¬ a + 6 = a by omega), wIf_ne (show ¬ a + 7 = a by omega), e8, e7]
  by_cases hj : j = 0
  · rw [if_pos hj, if_pos hj]
  · rw [if_neg hj, if_neg hj, if_neg hj]
theorem vL_u7n (w : sm_W) (a : Nat) (x : Int) : vL (wsI w a 7 x) a = updI (vL w a) 1 x := by
  funext j
  have e8 : wI (wsI w a 7 x) a 8 = wI w a 8 := by rw [wI_wsI, if_neg (by omega)]
  have e7 : wI (wsI w a 7 x) a 7 = x := by rw [wI_wsI, if_pos ⟨rfl, rfl⟩]
  unfold vL updI
  dsimp only
  rw [wIf_ne (show ¬ a + 1 = a by omega), wIf_ne (show ¬ a + 2 = a by omega), wIf_ne (show ¬ a + 3 = a by omega), wIf_ne (show ¬ a + 4 = a by omega), wIf_ne (show ¬ a + 5 = a by omega), wIf_ne (show ¬ a + 6 = a by omega), wIf_ne (show ¬ a + 7 = a by omega), e8, e7]
  by_cases hj : j = 1
  · rw [if_neg (show ¬ j = 0 by omega), if_pos hj, if_pos hj]
  · by_cases h0 : j = 0
    · rw [if_pos h0, if_neg hj, if_pos h0]
    · rw [if_neg h0, if_neg hj, if_neg hj, if_neg h0, if_neg hj]
/-- changes of the 57 numbers that keep them in order -/
theorem vOK_updI {v : Int → Int} (h : vOK v) {c x : Int} (hc : (c = 0 ∧ 0 ≤ x ∧ x ≤ 2) ∨ (2 ≤ c ∧ c < 10 ∧ 1 ≤ x ∧ x ≤ 4) ∨ (10 ≤ c ∧ c < 17 ∧ 1 ≤ x ∧ x ≤ 30) ∨ (∃ s, 0 ≤ s ∧ c = 17 + 5 * s + 2 ∧ 0 ≤ x ∧ x ≤ 300) ∨ (∃ s, 0 ≤ s ∧ c = 17 + 5 * s + 4 ∧ 0 ≤ x ∧ x ≤ 9)) : vOK (updI v c x) := by
  obtain ⟨w, hw⟩ : ∃ w : sm_W, wI w 155 = v := ⟨(0, (fun _ => (0, 0)), (fun _ => v), (fun _ _ => none)), rfl⟩
  subst hw
  rw [← wI_updI]
  rcases hc with h1 | h1 | h1 | ⟨s, s0, rfl, h1⟩ | ⟨s, s0, rfl, h1⟩
  · exact vOK_cell h (Or.inl h1)
  · exact vOK_cell h (Or.inr (Or.inl h1))
  · exact vOK_cell h (Or.inr (Or.inr h1))
  · exact vOK_sh2 h s0 h1
  · exact vOK_sh4 h s0 h1
theorem lOK_st {w u : sm_W} {a : Nat} (h : lOK w a) (hT : sT u) (hv : vOK (vL u a)) : lOK u a := ⟨hT, h.2.1, hv⟩
theorem lOK_pr {w : sm_W} {a : Nat} (h : lOK w a) {s x : Int} (s0 : 0 ≤ s) (hx : 0 ≤ x ∧ x ≤ 9) : lOK (wsI w (a + 7) s x) a := by
  refine lOK_st h (sT_wsI h.1) ?_
  rw [vL_u7 w a x s0]
  exact vOK_updI h.2.2 (Or.inr (Or.inr (Or.inr (Or.inr ⟨s, s0, rfl, hx⟩))))
theorem lOK_fi {w : sm_W} {a : Nat} (h : lOK w a) {x : Int} (hx : 0 ≤ x ∧ x ≤ 2) : lOK (wsI w a 8 x) a := by
  refine lOK_st h (sT_wsI h.1) ?_
  rw [vL_u8 w a x]
  exact vOK_updI h.2.2 (Or.inl ⟨rfl, hx⟩)
theorem sFr.cp {S : Nat → Int → Int → Prop} {w u : sm_W} {a b : Nat} {n : Int} (h : sFr S w u) (hs : ∀ j v, S b j v) : sFr S w (wCp u a b n) := ⟨h.1, h.2.1, h.2.2.1, fun c j => by
  rw [wI_wCp]
  split
  · next e => obtain ⟨rfl, -, -⟩ := e; exact Or.inr (hs _ _)
  · exact h.2.2.2 c j⟩
/-! THE CLASS: all orders are tried, one after the other -/
def sOr (a : Nat) (i _ : Int) : Prop := (a = 80 ∧ i = 1) ∨ a = 81 ∨ a = 82
theorem sOr_d {d : Nat} (hd : sm_isD d) : ∀ a i v, sOr a i v → a < d ∨ d + 32 < a := fun a i v h => by
  unfold sOr at h
  unfold sm_isD at hd
  omega
theorem zKb_fr (w : sm_W) (D n : Int) : sFr sOr w (zKb w D n) := by
  unfold zKb
  split
  · exact sFr.refl w
  · split
    · exact ((sFr.refl w).st (Or.inl ⟨rfl, rfl⟩)).cp (fun _ _ => Or.inr (Or.inl rfl))
    · split
      · exact ((sFr.refl w).st (Or.inl ⟨rfl, rfl⟩)).cp (fun _ _ => Or.inr (Or.inl rfl))
      · exact sFr.refl w
def zRng (w : sm_W) (n : Int) : Prop := ∀ p, 0 ≤ p → p < n → 0 ≤ wI w 82 p ∧ wI w 82 p < n
theorem zSw_rng {w : sm_W} {n i j : Int} (h : zRng w n) (i0 : 0 ≤ i) (i1 : i < n) (j0 : 0 ≤ j) (j1 : j < n) : zRng (zSw w i j) n := by
  intro p p0 p1
  unfold zSw
  rw [wI_wsI]
  split
  · exact h i i0 i1
  · rw [wI_wsI]
    split
    · exact h j j0 j1
    · exact h p p0 p1
theorem zRv_rng {n : Int} : ∀ (k : Nat) (w : sm_W) (lo hi : Int), zRng w n → 0 ≤ lo → hi < n → zRng (zRv k w lo hi) n
  | 0, w, _, _, h, _, _ => h
  | k + 1, w, lo, hi, h, h0, h1 => by
    rw [zRv_s]
    split
    · exact zRv_rng k _ _ _ (zSw_rng h h0 (by omega) (by omega) h1) (by omega) (by omega)
    · exact h
theorem zNx_rng {w : sm_W} {n : Int} (h : zRng w n) : zRng (zNxW w n) n := by
  unfold zNxW
  split
  · exact h
  · next c =>
    have a1 := zAt_b w (n - 1).toNat
    have a2 := zGr_b w (zNxA w n) (n - 1 - zNxA w n).toNat
    have e1 : zAt w (n - 1).toNat = zNxA w n := rfl
    have e2 : zGr w (zNxA w n) (n - 1 - zNxA w n).toNat = zNxG w n := rfl
    rw [e1] at a1
    rw [e2] at a2
    exact zRv_rng 5 _ _ _ (zSw_rng h (by omega) (by omega) (by omega) (by omega)) (by omega) (by omega)
theorem zRng_fr {S : Nat → Int → Int → Prop} {w u : sm_W} {n : Int} (h : zRng w n) (hf : sFr S w u) (hS : ∀ i v, ¬ S 82 i v) : zRng u n := by
  intro p p0 p1
  rw [hf.outA hS]
  exact h p p0 p1
def tPr1 (d : Nat) (n p : Int) (r : sm_W) : sm_W := wsI r (d + 1 + 7) (wI r 82 p) (n - p)
def tPr (d : Nat) (n : Int) (r : sm_W) : sm_W := itI (tPr1 d n) r n
/-- what holds ahead of a try -/
def tI (r : sm_W) (d : Nat) (n : Int) : Prop := dOK r d ∧ wI r (d + 1) 7 = n ∧ zRng r n
theorem tPrL {d : Nat} {n : Int} {r : sm_W} (h : tI r d n) (h5 : n ≤ 5) (k : Int) (k0 : 0 ≤ k) (k1 : k ≤ n) : tI (itI (tPr1 d n) r k) d n ∧ (∀ a, a ≠ d + 1 + 7 → wI (itI (tPr1 d n) r k) a = wI r a) := by
  have hd := h.1.1
  refine itI_ind (f := tPr1 d n) (fun _ q => tI q d n ∧ (∀ a, a ≠ d + 1 + 7 → wI q a = wI r a)) k ⟨h, fun _ _ => rfl⟩ (fun i q i0 i1 hq => ?_) k k0 (Int.le_refl _)
  have hr := hq.1.2.2 i i0 (by omega)
  unfold tPr1
  refine ⟨⟨⟨hd, lOK_pr hq.1.1.2 hr.1 (by omega)⟩, by rw [wIf_ne (by omega)]; exact hq.1.2.1, fun p p0 p1 => ?_⟩, fun a ha => by rw [wIf_ne ha]; exact hq.2 a ha⟩
  rw [wIf_ne (by unfold sm_isD at hd; omega)]
  exact hq.1.2.2 p p0 p1
def tSt (d : Nat) (n : Int) (r : sm_W) : sm_W := zKb (xRun d (tPr d n r)) (xDl (xRun d (tPr d n r)) d) n
def tLp : Nat → Nat → Int → sm_W → Int → sm_W
  | 0, _, _, w, _ => w
  | k + 1, d, n, w, m => if m = 0 then w else tLp k d n (zNxW (tSt d n w) n) (zNxB (tSt d n w) n)
theorem tLp_s (k d : Nat) (n : Int) (w : sm_W) (m : Int) : tLp (k + 1) d n w m = if m = 0 then w else tLp k d n (zNxW (tSt d n w) n) (zNxB (tSt d n w) n) := rfl
theorem tSt_i {d : Nat} {n : Int} {r : sm_W} (h : tI r d n) (h5 : n ≤ 5) : tI (tPr d n r) d n ∧ xOK (xRun d (tPr d n r)) d ∧ tI (tSt d n r) d n ∧ tI (zNxW (tSt d n r) n) d n := by
  have hd := h.1.1
  have hn := dOK_n h.1
  have h1 := (tPrL h h5 n (by have := h.2.1; omega) (Int.le_refl _)).1
  have e1 : itI (tPr1 d n) r n = tPr d n r := rfl
  rw [e1] at h1
  have h2 := xRun_ok h1.1
  have f2 := (xRun_fr h1.1).1
  have r2 : zRng (xRun d (tPr d n r)) n := zRng_fr h1.2.2 f2 (fun i v hs => by unfold sDy at hs; unfold sm_isD at hd; omega)
  have n2 : wI (xRun d (tPr d n r)) (d + 1) 7 = n := by rw [sDy_l0 f2]; exact h1.2.1
  have f3 := zKb_fr (xRun d (tPr d n r)) (xDl (xRun d (tPr d n r)) d) n
  have r3 : zRng (tSt d n r) n := by
    intro p p0 p1
    have e : wI (tSt d n r) 82 = wI (xRun d (tPr d n r)) 82 := by
      funext j
      unfold tSt zKb
      split
      · rfl
      · split
        · rw [wI_wCp, if_neg (fun h => absurd h.1 (by decide)), wIf_ne (by decide)]
        · split
          · rw [wI_wCp, if_neg (fun h => absurd h.1 (by decide)), wIf_ne (by decide)]
          · rfl
    rw [e]
    exact r2 p p0 p1
  have s3 := dSm_fr f3 (sOr_d hd)
  have d3 : dOK (tSt d n r) d := dSm_ok s3 (sFr_sT f3 h2.1.1.2.1) h2.1.1
  have n3 : wI (tSt d n r) (d + 1) 7 = n := by
    have e : wI (tSt d n r) (d + 1) = wI (xRun d (tPr d n r)) (d + 1) := s3 _ (by omega) (by omega)
    rw [e]; exact n2
  have f4 := (zNxW_fr (tSt d n r) n).mono (T := sOr) (fun a i v h => Or.inr (Or.inr h))
  have s4 := dSm_fr f4 (sOr_d hd)
  exact ⟨h1, h2.1, ⟨d3, n3, r3⟩, ⟨dSm_ok s4 (sFr_sT f4 d3.2.1) d3, by rw [s4 _ (by omega) (by omega)]; exact n3, zNx_rng r3⟩⟩
theorem zNxB_01 (w : sm_W) (n : Int) : zNxB w n = 0 ∨ zNxB w n = 1 := by
  unfold zNxB
  split
  · exact Or.inl rfl
  · exact Or.inr rfl
def tO1 (p : Int) (r : sm_W) : sm_W := wsI r 82 p p
def tW0 (d : Nat) (n : Int) (w : sm_W) : sm_W := wsI (wsI (itI tO1 w n) 80 1 (-6)) (d + 1) 8 0
def tAll (d : Nat) (w : sm_W) : sm_W := tLp 120 d (wI w (d + 1) 7) (tW0 d (wI w (d + 1) 7) w) 1
theorem tO1_in (w : sm_W) (n : Int) (n0 : 0 ≤ n) : sFr (fun a _ _ => a = 82) w (itI tO1 w n) ∧ ∀ p, 0 ≤ p → p < n → wI (itI tO1 w n) 82 p = p := by
  refine itI_ind (f := tO1) (fun i r => sFr (fun a _ _ => a = 82) w r ∧ ∀ p, 0 ≤ p → p < i → wI r 82 p = p) n ⟨sFr.refl w, fun p h1 h2 => by omega⟩ (fun i r i0 i1 hr => ⟨hr.1.st rfl, fun p p0 p1 => ?_⟩) n n0 (Int.le_refl _)
  unfold tO1
  rw [wI_wsI]
  by_cases c : p = i
  · rw [if_pos ⟨rfl, c⟩, c]
  · rw [if_neg (fun h => c h.2)]
    exact hr.2 p p0 (by omega)
theorem tW0_i {d : Nat} {w : sm_W} (hD : dOK w d) : tI (tW0 d (wI w (d + 1) 7) w) d (wI w (d + 1) 7) := by
  have hd := hD.1
  have hn := dOK_n hD
  have h := tO1_in w (wI w (d + 1) 7) hn.1
  have f1 : sFr sOr w (wsI (itI tO1 w (wI w (d + 1) 7)) 80 1 (-6)) := (h.1.mono (fun a i v h => Or.inr (Or.inr h))).st (Or.inl ⟨rfl, rfl⟩)
  have s1 := dSm_fr f1 (sOr_d hd)
  have d1 := dSm_ok s1 (sFr_sT f1 hD.2.1) hD
  refine ⟨⟨hd, lOK_fi d1.2 (by omega)⟩, ?_, fun p p0 p1 => ?_⟩
  · unfold tW0
    rw [wI_wsI, if_neg (fun h => absurd h.2 (by decide)), s1 _ (by omega) (by omega)]
  · unfold tW0
    rw [wIf_ne (by unfold sm_isD at hd; omega), wIf_ne (by decide), h.2 p p0 p1]
    exact ⟨p0, p1⟩
def p_X4_tryAll : List sm_V → sm_W → Prop
  | [.inr (.inl o), .inr (.inl d)], w => o = 80 ∧ dOK w d ∧ wI w (d + 1) 7 ≤ 5
  | _, _ => False
def f_X4_tryAll : sm_F
  | [.inr (.inl o), .inr (.inl d)], w => (none, tAll d w)
  | _, w => (none, w)
def tb_X4_tryAll : List (Nat × List sm_O) := [(0, [oA 1, oGr 0 11 0, oGi 2 9 7, oK 5, oMin, oIs 2, oK 0, oIs 3, oFg 4, oFg 5, oGo 14]),
  (14, [oI 3, oI 2, oGe 32, oA 0, oGr 4 3 2, oI 3, oI 3, oIst, oInc 3 1, oFg 4, oFg 5, oGo 14]),
  (32, [oA 0, oK (-6), oPi 4 3 1, oA 1, oGr 0 11 0, oK 0, oPi 2 9 8, oK 1, oIs 3, oK 0, oIs 4, oFg 5, oGo 51]),
  (51, [oI 4, oK 120, oGe 121, oI 3, oEq0 121, oK 0, oIs 5, oFg 3, oGo 65]),
  (65, [oI 5, oI 2, oGe 96, oA 1, oGr 0 11 0, oGr 2 9 6, oA 0, oGr 4 3 2, oI 5, oIl, oI 2, oI 5, oSub, oIst, oInc 5 1, oFg 3, oGo 65]),
  (96, [oA 1, oCv 0 11 p_X0_run f_X0_run 0 0 1, oA 0, oA 1, oCv 0 11 p_X0_delay f_X0_delay 0 0 1, oI 2, oCv 4 3 p_X4_keepIfBetter f_X4_keepIfBetter 0 0 3, oA 0, oI 2, oCv 4 3 p_X4_nextOrder f_X4_nextOrder 0 0 2, oIs 3, oInc 4 1, oFg 5, oGo 51]),
  (121, [oVr])]
set_option maxRecDepth 100000 in
theorem sb_X4_tryAll_0 (l : Launch) : sm_SndB l RX4 "tryAll" cX4_tryAll 6 0 6 0 [oA 1, oGr 0 11 0, oGi 2 9 7, oK 5, oMin, oIs 2, oK 0, oIs 3, oFg 4, oFg 5, oGo 14] := sb_cons (sd_aload_n (by decide +kernel : decode cX4_tryAll 0 = .ok (.aload_n 1, 1)) rfl) (sb_cons (sd_getr (k := 0) kl_0 (by decide) rfl wm_70 (by decide +kernel : decode cX4_tryAll 1 = .ok (.getfield 18, 3))) (sb_cons (sd_geti (k := 7) kl_2 (by decide) rfl wm_56 (by decide +kernel : decode cX4_tryAll 4 = .ok (.getfield 24, 3))) (sb_cons (sd_iconst (by decide +kernel : decode cX4_tryAll 7 = .ok (.iconst 5, 1)) ⟨by decide, by decide⟩) (sb_cons (sd_min (by decide) wm_541 wm_277 wm_12 wm_278 (by decide +kernel : decode cX4_tryAll 8 = .ok (.invokestatic 30, 3))) (sb_cons (sd_istore_n (by decide +kernel : decode cX4_tryAll 11 = .ok (.istore_n 2, 1)) rfl) (sb_cons (sd_iconst (by decide +kernel : decode cX4_tryAll 12 = .ok (.iconst 0, 1)) ⟨by decide, by decide⟩) (sb_cons (sd_istore_n (by decide +kernel : decode cX4_tryAll 13 = .ok (.istore_n 3, 1)) rfl) (sb_cons (sd_fg) (sb_cons (sd_fg) (sb_cons (sd_fall (x := 0)) sb_nil))))))))))
set_option maxRecDepth 100000 in
theorem sb_X4_tryAll_14 (l : Launch) : sm_SndB l RX4 "tryAll" cX4_tryAll 6 0 6 14 [oI 3, oI 2, oGe 32, oA 0, oGr 4 3 2, oI 3, oI 3, oIst, oInc 3 1, oFg 4, oFg 5, oGo 14] := sb_cons (sd_iload_n (by decide +kernel : decode cX4_tryAll 14 = .ok (.iload_n 3, 1)) rfl) (sb_cons (sd_iload_n (by decide +kernel : decode cX4_tryAll 15 = .ok (.iload_n 2, 1)) rfl) (sb_cons (sd_ge (by decide +kernel : decode cX4_tryAll 16 = .ok (.if_icmp .ge 16, 3)) (by decide)) (sb_cons (sd_aload_n (by decide +kernel : decode cX4_tryAll 19 = .ok (.aload_n 0, 1)) rfl) (sb_cons (sd_getr (k := 2) kl_4 (by decide) rfl wm_119 (by decide +kernel : decode cX4_tryAll 20 = .ok (.getfield 15, 3))) (sb_cons (sd_iload_n (by decide +kernel : decode cX4_tryAll 23 = .ok (.iload_n 3, 1)) rfl) (sb_cons (sd_iload_n (by decide +kernel : decode cX4_tryAll 24 = .ok (.iload_n 3, 1)) rfl) (sb_cons (sd_iastore (by decide +kernel : decode cX4_tryAll 25 = .ok (.iastore, 1))) (sb_cons (sd_iinc (by decide +kernel : decode cX4_tryAll 26 = .ok (.iinc 3 1, 3))) (sb_cons (sd_fg) (sb_cons (sd_fg) (sb_cons (sd_goto (x := 0) (by decide +kernel : decode cX4_tryAll 29 = .ok (.goto (-15), 3)) (by decide)) sb_nil)))))))))))
set_option maxRecDepth 100000 in
theorem sb_X4_tryAll_32 (l : Launch) : sm_SndB l RX4 "tryAll" cX4_tryAll 6 0 6 32 [oA 0, oK (-6), oPi 4 3 1, oA 1, oGr 0 11 0, oK 0, oPi 2 9 8, oK 1, oIs 3, oK 0, oIs 4, oFg 5, oGo 51] := sb_cons (sd_aload_n (by decide +kernel : decode cX4_tryAll 32 = .ok (.aload_n 0, 1)) rfl) (sb_cons (sd_bipush (by decide +kernel : decode cX4_tryAll 33 = .ok (.bipush (-6), 2)) ⟨by decide, by decide⟩ (by decide)) (sb_cons (sd_puti (k := 1) kl_4 (by decide) rfl (Or.inl rfl) wm_117 (by decide +kernel : decode cX4_tryAll 35 = .ok (.putfield 36, 3))) (sb_cons (sd_aload_n (by decide +kernel : decode cX4_tryAll 38 = .ok (.aload_n 1, 1)) rfl) (sb_cons (sd_getr (k := 0) kl_0 (by decide) rfl wm_70 (by decide +kernel : decode cX4_tryAll 39 = .ok (.getfield 18, 3))) (sb_cons (sd_iconst (by decide +kernel : decode cX4_tryAll 42 = .ok (.iconst 0, 1)) ⟨by decide, by decide⟩) (sb_cons (sd_puti (k := 8) kl_2 (by decide) rfl (Or.inl rfl) wm_62 (by decide +kernel : decode cX4_tryAll 43 = .ok (.putfield 39, 3))) (sb_cons (sd_iconst (by decide +kernel : decode cX4_tryAll 46 = .ok (.iconst 1, 1)) ⟨by decide, by decide⟩) (sb_cons (sd_istore_n (by decide +kernel : decode cX4_tryAll 47 = .ok (.istore_n 3, 1)) rfl) (sb_cons (sd_iconst (by decide +kernel : decode cX4_tryAll 48 = .ok (.iconst 0, 1)) ⟨by decide, by decide⟩) (sb_cons (sd_istore (by decide +kernel : decode cX4_tryAll 49 = .ok (.istore 4, 2))) (sb_cons (sd_fg) (sb_cons (sd_fall (x := 0)) sb_nil))))))))))))
set_option maxRecDepth 100000 in
theorem sb_X4_tryAll_51 (l : Launch) : sm_SndB l RX4 "tryAll" cX4_tryAll 6 0 6 51 [oI 4, oK 120, oGe 121, oI 3, oEq0 121, oK 0, oIs 5, oFg 3, oGo 65] := sb_cons (sd_iload (by decide +kernel : decode cX4_tryAll 51 = .ok (.iload 4, 2))) (sb_cons (sd_bipush (by decide +kernel : decode cX4_tryAll 53 = .ok (.bipush 120, 2)) ⟨by decide, by decide⟩ (by decide)) (sb_cons (sd_ge (by decide +kernel : decode cX4_tryAll 55 = .ok (.if_icmp .ge 66, 3)) (by decide)) (sb_cons (sd_iload_n (by decide +kernel : decode cX4_tryAll 58 = .ok (.iload_n 3, 1)) rfl) (sb_cons (sd_eq0 (by decide +kernel : decode cX4_tryAll 59 = .ok (.ifCond .eq 62, 3)) (by decide)) (sb_cons (sd_iconst (by decide +kernel : decode cX4_tryAll 62 = .ok (.iconst 0, 1)) ⟨by decide, by decide⟩) (sb_cons (sd_istore (by decide +kernel : decode cX4_tryAll 63 = .ok (.istore 5, 2))) (sb_cons (sd_fg) (sb_cons (sd_fall (x := 0)) sb_nil))))))))
set_option maxRecDepth 100000 in
theorem sb_X4_tryAll_65 (l : Launch) : sm_SndB l RX4 "tryAll" cX4_tryAll 6 0 6 65 [oI 5, oI 2, oGe 96, oA 1, oGr 0 11 0, oGr 2 9 6, oA 0, oGr 4 3 2, oI 5, oIl, oI 2, oI 5, oSub, oIst, oInc 5 1, oFg 3, oGo 65] := sb_cons (sd_iload (by decide +kernel : decode cX4_tryAll 65 = .ok (.iload 5, 2))) (sb_cons (sd_iload_n (by decide +kernel : decode cX4_tryAll 67 = .ok (.iload_n 2, 1)) rfl) (sb_cons (sd_ge (by decide +kernel : decode cX4_tryAll 68 = .ok (.if_icmp .ge 28, 3)) (by decide)) (sb_cons (sd_aload_n (by decide +kernel : decode cX4_tryAll 71 = .ok (.aload_n 1, 1)) rfl) (sb_cons (sd_getr (k := 0) kl_0 (by decide) rfl wm_70 (by decide +kernel : decode cX4_tryAll 72 = .ok (.getfield 18, 3))) (sb_cons (sd_getr (k := 6) kl_2 (by decide) rfl wm_54 (by decide +kernel : decode cX4_tryAll 75 = .ok (.getfield 42, 3))) (sb_cons (sd_aload_n (by decide +kernel : decode cX4_tryAll 78 = .ok (.aload_n 0, 1)) rfl) (sb_cons (sd_getr (k := 2) kl_4 (by decide) rfl wm_119 (by decide +kernel : decode cX4_tryAll 79 = .ok (.getfield 15, 3))) (sb_cons (sd_iload (by decide +kernel : decode cX4_tryAll 82 = .ok (.iload 5, 2))) (sb_cons (sd_iaload (by decide +kernel : decode cX4_tryAll 84 = .ok (.iaload, 1))) (sb_cons (sd_iload_n (by decide +kernel : decode cX4_tryAll 85 = .ok (.iload_n 2, 1)) rfl) (sb_cons (sd_iload (by decide +kernel : decode cX4_tryAll 86 = .ok (.iload 5, 2))) (sb_cons (sd_isub (by decide +kernel : decode cX4_tryAll 88 = .ok (.isub, 1))) (sb_cons (sd_iastore (by decide +kernel : decode cX4_tryAll 89 = .ok (.iastore, 1))) (sb_cons (sd_iinc (by decide +kernel : decode cX4_tryAll 90 = .ok (.iinc 5 1, 3))) (sb_cons (sd_fg) (sb_cons (sd_goto (x := 0) (by decide +kernel : decode cX4_tryAll 93 = .ok (.goto (-28), 3)) (by decide)) sb_nil))))))))))))))))
set_option maxRecDepth 100000 in
theorem sb_X4_tryAll_96 (l : Launch) : sm_SndB l RX4 "tryAll" cX4_tryAll 6 0 6 96 [oA 1, oCv 0 11 p_X0_run f_X0_run 0 0 1, oA 0, oA 1, oCv 0 11 p_X0_delay f_X0_delay 0 0 1, oI 2, oCv 4 3 p_X4_keepIfBetter f_X4_keepIfBetter 0 0 3, oA 0, oI 2, oCv 4 3 p_X4_nextOrder f_X4_nextOrder 0 0 2, oIs 3, oInc 4 1, oFg 5, oGo 51] := sb_cons (sd_aload_n (by decide +kernel : decode cX4_tryAll 96 = .ok (.aload_n 1, 1)) rfl) (sb_cons (sd_callv (n := 0) (met_X0_run l) (by decide) (by decide) wm_287 wm_542 wm_2 ⟨by decide +kernel, by decide +kernel, by decide +kernel⟩ kl_0 wm_285 wm_286 (by decide +kernel : decode cX4_tryAll 97 = .ok (.invokevirtual 45, 3))) (sb_cons (sd_aload_n (by decide +kernel : decode cX4_tryAll 100 = .ok (.aload_n 0, 1)) rfl) (sb_cons (sd_aload_n (by decide +kernel : decode cX4_tryAll 101 = .ok (.aload_n 1, 1)) rfl) (sb_cons (sd_callv (n := 0) (met_X0_delay l) (by decide) (by decide) wm_433 wm_543 wm_2 ⟨by decide +kernel, by decide +kernel, by decide +kernel⟩ kl_0 wm_431 wm_432 (by decide +kernel : decode cX4_tryAll 102 = .ok (.invokevirtual 48, 3))) (sb_cons (sd_iload_n (by decide +kernel : decode cX4_tryAll 105 = .ok (.iload_n 2, 1)) rfl) (sb_cons (sd_callv (n := 2) (met_X4_keepIfBetter l) (by decide) (by decide) wm_546 wm_544 wm_7 ⟨by decide +kernel, by decide +kernel, by decide +kernel⟩ kl_4 wm_545 wm_1094 (by decide +kernel : decode cX4_tryAll 106 = .ok (.invokevirtual 52, 3))) (sb_cons (sd_aload_n (by decide +kernel : decode cX4_tryAll 109 = .ok (.aload_n 0, 1)) rfl) (sb_cons (sd_iload_n (by decide +kernel : decode cX4_tryAll 110 = .ok (.iload_n 2, 1)) rfl) (sb_cons (sd_callv (n := 1) (met_X4_nextOrder l) (by decide) (by decide) wm_551 wm_549 wm_7 ⟨by decide +kernel, by decide +kernel, by decide +kernel⟩ kl_4 wm_550 wm_1095 (by decide +kernel : decode cX4_tryAll 111 = .ok (.invokevirtual 56, 3))) (sb_cons (sd_istore_n (by decide +kernel : decode cX4_tryAll 114 = .ok (.istore_n 3, 1)) rfl) (sb_cons (sd_iinc (by decide +kernel : decode cX4_tryAll 115 = .ok (.iinc 4 1, 3))) (sb_cons (sd_fg) (sb_cons (sd_goto (x := 0) (by decide +kernel : decode cX4_tryAll 118 = .ok (.goto (-67), 3)) (by decide)) sb_nil)))))))))))))
set_option maxRecDepth 100000 in
theorem sb_X4_tryAll_121 (l : Launch) : sm_SndB l RX4 "tryAll" cX4_tryAll 6 0 6 121 [oVr] := sb_cons (sd_return (x := 0) rfl (by decide +kernel : decode cX4_tryAll 121 = .ok (.return_, 1))) sb_nil
theorem sn_X4_tryAll (l : Launch) : sm_SndT l RX4 "tryAll" cX4_tryAll 6 0 6 tb_X4_tryAll := st_cons (sb_X4_tryAll_0 l) (st_cons (sb_X4_tryAll_14 l) (st_cons (sb_X4_tryAll_32 l) (st_cons (sb_X4_tryAll_51 l) (st_cons (sb_X4_tryAll_65 l) (st_cons (sb_X4_tryAll_96 l) (st_cons (sb_X4_tryAll_121 l) (st_nil)))))))
set_option maxRecDepth 100000 in
set_option maxHeartbeats 4000000 in
theorem ok_X4_tryAll : sm_Ok tb_X4_tryAll 6 0 0 p_X4_tryAll f_X4_tryAll := by
  intro as w hp ha hw
  match as, hp with
  | [.inr (.inl o), .inr (.inl d)], hp =>
  refine ⟨Nat.le_of_ble_eq_true rfl, fun Z hZ => ?_⟩
  obtain ⟨rfl, hD, h5⟩ := hp
  have hd := hD.1
  have hn := dOK_n hD
  have hI0 := tW0_i hD
  have hE0 : tLp 120 d (wI w (d + 1) 7) (tW0 d (wI w (d + 1) 7) w) 1 = tAll d w := rfl
  have hne : ¬ 82 = d + 1 + 7 := by unfold sm_isD at hd; omega
  have hne2 : ¬ 80 = d + 1 + 7 := by unfold sm_isD at hd; omega
  generalize hE : tAll d w = E at *
  obtain ⟨d0, d9, d18, d27, d28, d29, d30, d31, d32, s0, s1, s2, s5, s6, s7, s8, s9, s10⟩ := dS hD.2.1 hD.1
  obtain ⟨l0, l1, l2, l3, l4, l5, l6, l7, r0, r1, r2, r3, r4, r5, r6⟩ := lS hD.2.1 (dL hD.1)
  have hT := hD.2.1
  generalize hN : wI w (d + 1) 7 = n at *
  have hl := sm_loopM (S := Nat × sm_W × Int) Z 51 (fun s => s.1) (fun s => s.1 ≤ 120 ∧ tI s.2.1 d n ∧ (s.2.2 = 0 ∨ s.2.2 = 1) ∧ tLp s.1 d n s.2.1 s.2.2 = E) (fun s => [some (.inr (.inl 80)), some (.inr (.inl d)), some (.inl n), some (.inl s.2.2), some (.inl (120 - s.1)), none]) (fun s => s.2.1) 0 0 (fun s hI ih => by
    obtain ⟨k, u, m⟩ := s
    dsimp only at hI ih ⊢
    obtain ⟨hk, hU, hm, he⟩ := hI
    cases k with
    | zero =>
      have he : u = E := he
      clear ih
      refine hZ (fun u => Nat.beq u 14 || Nat.beq u 51 || Nat.beq u 65) 14 51 _ _ _ _ _ ?_
      simp only [sm_run, sm_blk, sm_get, sm_ent, sm_ents, sm_wds, sm_wd, sm_nl, sm_pop, sm_back, sm_cases, oK, oLK, oL, oI, oA, oJ, oIs, oAs, oJs, oInc, oAdd, oSub, oMul, oDiv, oRem, oNeg, oAnd, oAndB, oOr, oShl, oI2c, oI2l, oL2i, oLand, oLor, oLshl, oLshr, oLushr, oLcmp, oDup, oDup2, oPop, oGo, oFg, oEq, oNe, oLt, oGe, oGt, oLe, oEq0, oNe0, oLt0, oGe0, oGt0, oLe0, oSw, oGi, oGr, oPi, oPz, oPr, oLen, oIl, oZl, oCl, oRl, oIst, oZst, oCst, oRst, oCopy, oNew, oNa, oNa2, oObj, oCs, oCv, oCi, oIr, oZr, oVr, Nat.beq, List.getElem?_cons_zero, List.getElem?_cons_succ, List.set_cons_zero, List.set_cons_succ, List.length_cons, List.length_nil, List.nil_append, List.cons_append, List.append_nil, List.replicate_succ, List.replicate_zero, Nat.reduceAdd, Nat.reduceSub, Nat.reduceLT, Nat.reduceLeDiff, Nat.reduceBEq, true_and, and_true, Nat.zero_add, Nat.add_zero, Nat.le_refl, Option.some.injEq, exists_eq_left', true_or, or_true, or_false, false_or, reduceCtorEq, Prod.mk.injEq, Sum.inl.injEq, and_self, false_and, and_false, not_true_eq_false, not_false_eq_true, false_implies, true_implies, sm_r, Int.add_zero, Int.zero_add, wI_wsI, wS_wsI, wR_wsI, wI_wCp, wS_wCp, wR_wCp, Nat.reduceEqDiff, reduceIte, sT_iff, sT_iffC, wIf_ne, ne_eq, Bool.false_or, Bool.true_or, Bool.or_false, Bool.or_true, Bool.or_self, Nat.left_eq_add, Nat.add_eq_left, Nat.add_left_inj, oMax, oMin, oAbs, tb_X4_tryAll, p_X0_delay, p_X0_run, p_X4_keepIfBetter, p_X4_nextOrder, f_X0_delay, f_X0_run, f_X4_keepIfBetter, f_X4_nextOrder, p_X4_tryAll, f_X4_tryAll, hE]
      repeat' (first | exact True.intro | with_reducible assumption | with_reducible refine And.intro ?_ ?_ | intro _)
      all_goals first
        | omega
        | assumption
        | rfl
        | (split <;> omega)
        | (have k9 := ih (by omega)
           (repeat' split at k9) <;> first | exact k9 | omega)
        | (have k9 := ih2 (by omega)
           (repeat' split at k9) <;> first | exact k9 | omega)
        | exact he (by omega)
        | ((with_reducible congr 1) <;> omega)
        | (rw [if_pos (by omega)] at he; exact he)
        | exact hD1 (by omega)
        | exact hD2 (by omega)
        | grind
        | skip
    | succ k =>
      rw [tLp_s] at he
      by_cases c : m = 0
      · rw [if_pos c] at he
        clear ih
        refine hZ (fun u => Nat.beq u 14 || Nat.beq u 51 || Nat.beq u 65) 14 51 _ _ _ _ _ ?_
        simp only [sm_run, sm_blk, sm_get, sm_ent, sm_ents, sm_wds, sm_wd, sm_nl, sm_pop, sm_back, sm_cases, oK, oLK, oL, oI, oA, oJ, oIs, oAs, oJs, oInc, oAdd, oSub, oMul, oDiv, oRem, oNeg, oAnd, oAndB, oOr, oShl, oI2c, oI2l, oL2i, oLand, oLor, oLshl, oLshr, oLushr, oLcmp, oDup, oDup2, oPop, oGo, oFg, oEq, oNe, oLt, oGe, oGt, oLe, oEq0, oNe0, oLt0, oGe0, oGt0, oLe0, oSw, oGi, oGr, oPi, oPz, oPr, oLen, oIl, oZl, oCl, oRl, oIst, oZst, oCst, oRst, oCopy, oNew, oNa, oNa2, oObj, oCs, oCv, oCi, oIr, oZr, oVr, Nat.beq, List.getElem?_cons_zero, List.getElem?_cons_succ, List.set_cons_zero, List.set_cons_succ, List.length_cons, List.length_nil, List.nil_append, List.cons_append, List.append_nil, List.replicate_succ, List.replicate_zero, Nat.reduceAdd, Nat.reduceSub, Nat.reduceLT, Nat.reduceLeDiff, Nat.reduceBEq, true_and, and_true, Nat.zero_add, Nat.add_zero, Nat.le_refl, Option.some.injEq, exists_eq_left', true_or, or_true, or_false, false_or, reduceCtorEq, Prod.mk.injEq, Sum.inl.injEq, and_self, false_and, and_false, not_true_eq_false, not_false_eq_true, false_implies, true_implies, sm_r, Int.add_zero, Int.zero_add, wI_wsI, wS_wsI, wR_wsI, wI_wCp, wS_wCp, wR_wCp, Nat.reduceEqDiff, reduceIte, sT_iff, sT_iffC, wIf_ne, ne_eq, Bool.false_or, Bool.true_or, Bool.or_false, Bool.or_true, Bool.or_self, Nat.left_eq_add, Nat.add_eq_left, Nat.add_left_inj, oMax, oMin, oAbs, tb_X4_tryAll, p_X0_delay, p_X0_run, p_X4_keepIfBetter, p_X4_nextOrder, f_X0_delay, f_X0_run, f_X4_keepIfBetter, f_X4_nextOrder, p_X4_tryAll, f_X4_tryAll, hE]
        repeat' (first | exact True.intro | with_reducible assumption | with_reducible refine And.intro ?_ ?_ | intro _)
        all_goals first
          | omega
          | assumption
          | rfl
          | (split <;> omega)
          | (have k9 := ih (by omega)
             (repeat' split at k9) <;> first | exact k9 | omega)
          | (have k9 := ih2 (by omega)
             (repeat' split at k9) <;> first | exact k9 | omega)
          | exact he (by omega)
          | ((with_reducible congr 1) <;> omega)
          | (rw [if_pos (by omega)] at he; exact he)
          | exact hD1 (by omega)
          | exact hD2 (by omega)
          | grind
          | skip
      · rw [if_neg c] at he
        have hS := tSt_i hU h5
        have ih := ih (k, zNxW (tSt d n u) n, zNxB (tSt d n u) n) ⟨by omega, hS.2.2.2, zNxB_01 _ _, he⟩ (Nat.lt_succ_self k)
        dsimp only at ih
        have hcast : (120 : Int) - ((k + 1 : Nat) : Int) + 1 = 120 - (k : Int) := by omega
        have hl2 := sm_loopI Z 65 0 n (fun j => [some (.inr (.inl 80)), some (.inr (.inl d)), some (.inl n), none, some (.inl (120 - ((k + 1 : Nat) : Int))), some (.inl j)]) (fun j => itI (tPr1 d n) u j) 0 0 hn.1 (fun j g0 g1 ih2 => by
          have hJ := tPrL hU h5 j g0 g1
          rw [itI_s _ _ g0] at ih2
          have hej : j = n → itI (tPr1 d n) u j = tPr d n u := fun e => by rw [e]; rfl
          generalize itI (tPr1 d n) u j = v at *
          obtain ⟨⟨hDv, hnv, hrv⟩, hov⟩ := hJ
          have hTv := hDv.2.1
          obtain ⟨d0, d9, d18, d27, d28, d29, d30, d31, d32, s0, s1, s2, s5, s6, s7, s8, s9, s10⟩ := dS hTv hd
          obtain ⟨l0, l1, l2, l3, l4, l5, l6, l7, r0, r1, r2, r3, r4, r5, r6⟩ := lS hTv (dL hd)
          by_cases e : j = n
          · have hej := hej e
            subst hej
            clear ih2
            have hXr := hS.2.1
            have hTr := hXr.1.2.1
            have eR : zKb (xRun d (tPr d n u)) (xDl (xRun d (tPr d n u)) d) n = tSt d n u := rfl
            have hTs := hS.2.2.1.1.2.1
            have hDv2 := hDv
            clear hov hS hE0 hI0 he
            have q0 := (dS hTr hd).1
            generalize hRe : xRun d (tPr d n u) = R at *
            refine hZ (fun u => Nat.beq u 51 || Nat.beq u 65) 14 65 _ _ _ _ _ ?_
            simp only [sm_run, sm_blk, sm_get, sm_ent, sm_ents, sm_wds, sm_wd, sm_nl, sm_pop, sm_back, sm_cases, oK, oLK, oL, oI, oA, oJ, oIs, oAs, oJs, oInc, oAdd, oSub, oMul, oDiv, oRem, oNeg, oAnd, oAndB, oOr, oShl, oI2c, oI2l, oL2i, oLand, oLor, oLshl, oLshr, oLushr, oLcmp, oDup, oDup2, oPop, oGo, oFg, oEq, oNe, oLt, oGe, oGt, oLe, oEq0, oNe0, oLt0, oGe0, oGt0, oLe0, oSw, oGi, oGr, oPi, oPz, oPr, oLen, oIl, oZl, oCl, oRl, oIst, oZst, oCst, oRst, oCopy, oNew, oNa, oNa2, oObj, oCs, oCv, oCi, oIr, oZr, oVr, Nat.beq, List.getElem?_cons_zero, List.getElem?_cons_succ, List.set_cons_zero, List.set_cons_succ, List.length_cons, List.length_nil, List.nil_append, List.cons_append, List.append_nil, List.replicate_succ, List.replicate_zero, Nat.reduceAdd, Nat.reduceSub, Nat.reduceLT, Nat.reduceLeDiff, Nat.reduceBEq, true_and, and_true, Nat.zero_add, Nat.add_zero, Nat.le_refl, Option.some.injEq, exists_eq_left', true_or, or_true, or_false, false_or, reduceCtorEq, Prod.mk.injEq, Sum.inl.injEq, and_self, false_and, and_false, not_true_eq_false, not_false_eq_true, false_implies, true_implies, sm_r, Int.add_zero, Int.zero_add, wI_wsI, wS_wsI, wR_wsI, wI_wCp, wS_wCp, wR_wCp, Nat.reduceEqDiff, reduceIte, sT_iff, sT_iffC, wIf_ne, ne_eq, Bool.false_or, Bool.true_or, Bool.or_false, Bool.or_true, Bool.or_self, Nat.left_eq_add, Nat.add_eq_left, Nat.add_left_inj, oMax, oMin, oAbs, tb_X4_tryAll, p_X0_delay, p_X0_run, p_X4_keepIfBetter, p_X4_nextOrder, f_X0_delay, f_X0_run, f_X4_keepIfBetter, f_X4_nextOrder, p_X4_tryAll, f_X4_tryAll, d0, hDv2, hXr, hTr, eR, sS_80 hTr, sS_80 hTs, hTs, q0, hcast, hRe]
            repeat' (first | exact True.intro | with_reducible assumption | with_reducible refine And.intro ?_ ?_ | intro _)
            all_goals first
              | omega
              | assumption
              | rfl
              | (split <;> omega)
              | (have k9 := ih (by omega)
                 (repeat' split at k9) <;> first | exact k9 | omega)
              | (have k9 := ih2 (by omega)
                 (repeat' split at k9) <;> first | exact k9 | omega)
              | exact he (by omega)
              | ((with_reducible congr 1) <;> omega)
              | (rw [if_pos (by omega)] at he; exact he)
              | exact hD1 (by omega)
              | exact hD2 (by omega)
              | grind
              | skip
          · have ih2 := ih2 (by omega)
            have hrj := hrv j g0 (by omega)
            clear hej ih hS
            unfold tPr1 at ih2
            refine hZ (fun u => Nat.beq u 51 || Nat.beq u 65) 14 65 _ _ _ _ _ ?_
            simp only [sm_run, sm_blk, sm_get, sm_ent, sm_ents, sm_wds, sm_wd, sm_nl, sm_pop, sm_back, sm_cases, oK, oLK, oL, oI, oA, oJ, oIs, oAs, oJs, oInc, oAdd, oSub, oMul, oDiv, oRem, oNeg, oAnd, oAndB, oOr, oShl, oI2c, oI2l, oL2i, oLand, oLor, oLshl, oLshr, oLushr, oLcmp, oDup, oDup2, oPop, oGo, oFg, oEq, oNe, oLt, oGe, oGt, oLe, oEq0, oNe0, oLt0, oGe0, oGt0, oLe0, oSw, oGi, oGr, oPi, oPz, oPr, oLen, oIl, oZl, oCl, oRl, oIst, oZst, oCst, oRst, oCopy, oNew, oNa, oNa2, oObj, oCs, oCv, oCi, oIr, oZr, oVr, Nat.beq, List.getElem?_cons_zero, List.getElem?_cons_succ, List.set_cons_zero, List.set_cons_succ, List.length_cons, List.length_nil, List.nil_append, List.cons_append, List.append_nil, List.replicate_succ, List.replicate_zero, Nat.reduceAdd, Nat.reduceSub, Nat.reduceLT, Nat.reduceLeDiff, Nat.reduceBEq, true_and, and_true, Nat.zero_add, Nat.add_zero, Nat.le_refl, Option.some.injEq, exists_eq_left', true_or, or_true, or_false, false_or, reduceCtorEq, Prod.mk.injEq, Sum.inl.injEq, and_self, false_and, and_false, not_true_eq_false, not_false_eq_true, false_implies, true_implies, sm_r, Int.add_zero, Int.zero_add, wI_wsI, wS_wsI, wR_wsI, wI_wCp, wS_wCp, wR_wCp, Nat.reduceEqDiff, reduceIte, sT_iff, sT_iffC, wIf_ne, ne_eq, Bool.false_or, Bool.true_or, Bool.or_false, Bool.or_true, Bool.or_self, Nat.left_eq_add, Nat.add_eq_left, Nat.add_left_inj, oMax, oMin, oAbs, tb_X4_tryAll, p_X0_delay, p_X0_run, p_X4_keepIfBetter, p_X4_nextOrder, f_X0_delay, f_X0_run, f_X4_keepIfBetter, f_X4_nextOrder, p_X4_tryAll, f_X4_tryAll, d0, s0, l0, r6, l7, sS_80 hTv, sR_80_2 hTv, sS_82 hTv]
            repeat' (first | exact True.intro | with_reducible assumption | with_reducible refine And.intro ?_ ?_ | intro _)
            all_goals first
              | omega
              | assumption
              | rfl
              | (split <;> omega)
              | (have k9 := ih (by omega)
                 (repeat' split at k9) <;> first | exact k9 | omega)
              | (have k9 := ih2 (by omega)
                 (repeat' split at k9) <;> first | exact k9 | omega)
              | exact he (by omega)
              | ((with_reducible congr 1) <;> omega)
              | (rw [if_pos (by omega)] at he; exact he)
              | exact hD1 (by omega)
              | exact hD2 (by omega)
              | grind
              | skip
          )
        rw [itI_0] at hl2
        clear ih
        refine hZ (fun u => Nat.beq u 14 || Nat.beq u 51 || Nat.beq u 65) 14 51 _ _ _ _ _ ?_
        simp only [sm_run, sm_blk, sm_get, sm_ent, sm_ents, sm_wds, sm_wd, sm_nl, sm_pop, sm_back, sm_cases, oK, oLK, oL, oI, oA, oJ, oIs, oAs, oJs, oInc, oAdd, oSub, oMul, oDiv, oRem, oNeg, oAnd, oAndB, oOr, oShl, oI2c, oI2l, oL2i, oLand, oLor, oLshl, oLshr, oLushr, oLcmp, oDup, oDup2, oPop, oGo, oFg, oEq, oNe, oLt, oGe, oGt, oLe, oEq0, oNe0, oLt0, oGe0, oGt0, oLe0, oSw, oGi, oGr, oPi, oPz, oPr, oLen, oIl, oZl, oCl, oRl, oIst, oZst, oCst, oRst, oCopy, oNew, oNa, oNa2, oObj, oCs, oCv, oCi, oIr, oZr, oVr, Nat.beq, List.getElem?_cons_zero, List.getElem?_cons_succ, List.set_cons_zero, List.set_cons_succ, List.length_cons, List.length_nil, List.nil_append, List.cons_append, List.append_nil, List.replicate_succ, List.replicate_zero, Nat.reduceAdd, Nat.reduceSub, Nat.reduceLT, Nat.reduceLeDiff, Nat.reduceBEq, true_and, and_true, Nat.zero_add, Nat.add_zero, Nat.le_refl, Option.some.injEq, exists_eq_left', true_or, or_true, or_false, false_or, reduceCtorEq, Prod.mk.injEq, Sum.inl.injEq, and_self, false_and, and_false, not_true_eq_false, not_false_eq_true, false_implies, true_implies, sm_r, Int.add_zero, Int.zero_add, wI_wsI, wS_wsI, wR_wsI, wI_wCp, wS_wCp, wR_wCp, Nat.reduceEqDiff, reduceIte, sT_iff, sT_iffC, wIf_ne, ne_eq, Bool.false_or, Bool.true_or, Bool.or_false, Bool.or_true, Bool.or_self, Nat.left_eq_add, Nat.add_eq_left, Nat.add_left_inj, oMax, oMin, oAbs, tb_X4_tryAll, p_X0_delay, p_X0_run, p_X4_keepIfBetter, p_X4_nextOrder, f_X0_delay, f_X0_run, f_X4_keepIfBetter, f_X4_nextOrder, p_X4_tryAll, f_X4_tryAll]
        repeat' (first | exact True.intro | with_reducible assumption | with_reducible refine And.intro ?_ ?_ | intro _)
        all_goals first
          | omega
          | assumption
          | rfl
          | (split <;> omega)
          | (have k9 := ih (by omega)
             (repeat' split at k9) <;> first | exact k9 | omega)
          | (have k9 := ih2 (by omega)
             (repeat' split at k9) <;> first | exact k9 | omega)
          | exact he (by omega)
          | ((with_reducible congr 1) <;> omega)
          | (rw [if_pos (by omega)] at he; exact he)
          | exact hD1 (by omega)
          | exact hD2 (by omega)
          | skip
    )
  have h51 := hl (120, tW0 d n w, 1) ⟨Nat.le_refl _, hI0, Or.inr rfl, hE0⟩
  dsimp only at h51
  have h51 : Z 51 [some (.inr (.inl 80)), some (.inr (.inl d)), some (.inl n), some (.inl 1), some (.inl 0), none] [] (tW0 d n w) 0 0 := h51
  clear hl
  have hl1 := sm_loopI Z 14 0 n (fun j => [some (.inr (.inl 80)), some (.inr (.inl d)), some (.inl n), some (.inl j), none, none]) (fun j => itI tO1 w j) 0 0 hn.1 (fun j g0 g1 ih => by
    have hJ := (tO1_in w j g0).1.mono (T := sOr) (fun a i v h => Or.inr (Or.inr h))
    have hTv := sFr_sT hJ hT
    rw [itI_s _ _ g0] at ih
    have hej : j = n → wsI (wsI (itI tO1 w j) 80 1 (-6)) (d + 1) 8 0 = tW0 d n w := fun e => by rw [e]; rfl
    generalize hTW : tW0 d n w = TW at *
    generalize itI tO1 w j = v at *
    obtain ⟨d0, d9, d18, d27, d28, d29, d30, d31, d32, s0, s1, s2, s5, s6, s7, s8, s9, s10⟩ := dS hTv hd
    obtain ⟨l0, l1, l2, l3, l4, l5, l6, l7, r0, r1, r2, r3, r4, r5, r6⟩ := lS hTv (dL hd)
    by_cases e : j = n
    · have hej := hej e
      clear ih
      refine hZ (fun u => Nat.beq u 14 || Nat.beq u 51) 14 14 _ _ _ _ _ ?_
      simp only [sm_run, sm_blk, sm_get, sm_ent, sm_ents, sm_wds, sm_wd, sm_nl, sm_pop, sm_back, sm_cases, oK, oLK, oL, oI, oA, oJ, oIs, oAs, oJs, oInc, oAdd, oSub, oMul, oDiv, oRem, oNeg, oAnd, oAndB, oOr, oShl, oI2c, oI2l, oL2i, oLand, oLor, oLshl, oLshr, oLushr, oLcmp, oDup, oDup2, oPop, oGo, oFg, oEq, oNe, oLt, oGe, oGt, oLe, oEq0, oNe0, oLt0, oGe0, oGt0, oLe0, oSw, oGi, oGr, oPi, oPz, oPr, oLen, oIl, oZl, oCl, oRl, oIst, oZst, oCst, oRst, oCopy, oNew, oNa, oNa2, oObj, oCs, oCv, oCi, oIr, oZr, oVr, Nat.beq, List.getElem?_cons_zero, List.getElem?_cons_succ, List.set_cons_zero, List.set_cons_succ, List.length_cons, List.length_nil, List.nil_append, List.cons_append, List.append_nil, List.replicate_succ, List.replicate_zero, Nat.reduceAdd, Nat.reduceSub, Nat.reduceLT, Nat.reduceLeDiff, Nat.reduceBEq, true_and, and_true, Nat.zero_add, Nat.add_zero, Nat.le_refl, Option.some.injEq, exists_eq_left', true_or, or_true, or_false, false_or, reduceCtorEq, Prod.mk.injEq, Sum.inl.injEq, and_self, false_and, and_false, not_true_eq_false, not_false_eq_true, false_implies, true_implies, sm_r, Int.add_zero, Int.zero_add, wI_wsI, wS_wsI, wR_wsI, wI_wCp, wS_wCp, wR_wCp, Nat.reduceEqDiff, reduceIte, sT_iff, sT_iffC, wIf_ne, ne_eq, Bool.false_or, Bool.true_or, Bool.or_false, Bool.or_true, Bool.or_self, Nat.left_eq_add, Nat.add_eq_left, Nat.add_left_inj, oMax, oMin, oAbs, tb_X4_tryAll, p_X0_delay, p_X0_run, p_X4_keepIfBetter, p_X4_nextOrder, f_X0_delay, f_X0_run, f_X4_keepIfBetter, f_X4_nextOrder, p_X4_tryAll, f_X4_tryAll, d0, s0, l0, sS_80 hTv, hej]
      repeat' (first | exact True.intro | with_reducible assumption | with_reducible refine And.intro ?_ ?_ | intro _)
      all_goals first
        | omega
        | assumption
        | rfl
        | (split <;> omega)
        | (have k9 := ih (by omega)
           (repeat' split at k9) <;> first | exact k9 | omega)
        | (have k9 := ih2 (by omega)
           (repeat' split at k9) <;> first | exact k9 | omega)
        | exact he (by omega)
        | ((with_reducible congr 1) <;> omega)
        | (rw [if_pos (by omega)] at he; exact he)
        | exact hD1 (by omega)
        | exact hD2 (by omega)
        | grind
        | skip
    · have ih := ih (by omega)
      clear hej h51
      unfold tO1 at ih
      refine hZ (fun u => Nat.beq u 14 || Nat.beq u 51) 14 14 _ _ _ _ _ ?_
      simp only [sm_run, sm_blk, sm_get, sm_ent, sm_ents, sm_wds, sm_wd, sm_nl, sm_pop, sm_back, sm_cases, oK, oLK, oL, oI, oA, oJ, oIs, oAs, oJs, oInc, oAdd, oSub, oMul, oDiv, oRem, oNeg, oAnd, oAndB, oOr, oShl, oI2c, oI2l, oL2i, oLand, oLor, oLshl, oLshr, oLushr, oLcmp, oDup, oDup2, oPop, oGo, oFg, oEq, oNe, oLt, oGe, oGt, oLe, oEq0, oNe0, oLt0, oGe0, oGt0, oLe0, oSw, oGi, oGr, oPi, oPz, oPr, oLen, oIl, oZl, oCl, oRl, oIst, oZst, oCst, oRst, oCopy, oNew, oNa, oNa2, oObj, oCs, oCv, oCi, oIr, oZr, oVr, Nat.beq, List.getElem?_cons_zero, List.getElem?_cons_succ, List.set_cons_zero, List.set_cons_succ, List.length_cons, List.length_nil, List.nil_append, List.cons_append, List.append_nil, List.replicate_succ, List.replicate_zero, Nat.reduceAdd, Nat.reduceSub, Nat.reduceLT, Nat.reduceLeDiff, Nat.reduceBEq, true_and, and_true, Nat.zero_add, Nat.add_zero, Nat.le_refl, Option.some.injEq, exists_eq_left', true_or, or_true, or_false, false_or, reduceCtorEq, Prod.mk.injEq, Sum.inl.injEq, and_self, false_and, and_false, not_true_eq_false, not_false_eq_true, false_implies, true_implies, sm_r, Int.add_zero, Int.zero_add, wI_wsI, wS_wsI, wR_wsI, wI_wCp, wS_wCp, wR_wCp, Nat.reduceEqDiff, reduceIte, sT_iff, sT_iffC, wIf_ne, ne_eq, Bool.false_or, Bool.true_or, Bool.or_false, Bool.or_true, Bool.or_self, Nat.left_eq_add, Nat.add_eq_left, Nat.add_left_inj, oMax, oMin, oAbs, tb_X4_tryAll, p_X0_delay, p_X0_run, p_X4_keepIfBetter, p_X4_nextOrder, f_X0_delay, f_X0_run, f_X4_keepIfBetter, f_X4_nextOrder, p_X4_tryAll, f_X4_tryAll, sS_80 hTv, sR_80_2 hTv, sS_82 hTv]
      repeat' (first | exact True.intro | with_reducible assumption | with_reducible refine And.intro ?_ ?_ | intro _)
      all_goals first
        | omega
        | assumption
        | rfl
        | (split <;> omega)
        | (have k9 := ih (by omega)
           (repeat' split at k9) <;> first | exact k9 | omega)
        | (have k9 := ih2 (by omega)
           (repeat' split at k9) <;> first | exact k9 | omega)
        | exact he (by omega)
        | ((with_reducible congr 1) <;> omega)
        | (rw [if_pos (by omega)] at he; exact he)
        | exact hD1 (by omega)
        | exact hD2 (by omega)
        | grind
        | skip
    )
  rw [itI_0] at hl1
  have hmn : (if (5 : Int) < n then 5 else n) = n := if_neg (by omega)
  clear h51
  refine hZ (fun u => Nat.beq u 14 || Nat.beq u 51) 14 0 _ _ _ _ _ ?_
  simp only [sm_run, sm_blk, sm_get, sm_ent, sm_ents, sm_wds, sm_wd, sm_nl, sm_pop, sm_back, sm_cases, oK, oLK, oL, oI, oA, oJ, oIs, oAs, oJs, oInc, oAdd, oSub, oMul, oDiv, oRem, oNeg, oAnd, oAndB, oOr, oShl, oI2c, oI2l, oL2i, oLand, oLor, oLshl, oLshr, oLushr, oLcmp, oDup, oDup2, oPop, oGo, oFg, oEq, oNe, oLt, oGe, oGt, oLe, oEq0, oNe0, oLt0, oGe0, oGt0, oLe0, oSw, oGi, oGr, oPi, oPz, oPr, oLen, oIl, oZl, oCl, oRl, oIst, oZst, oCst, oRst, oCopy, oNew, oNa, oNa2, oObj, oCs, oCv, oCi, oIr, oZr, oVr, Nat.beq, List.getElem?_cons_zero, List.getElem?_cons_succ, List.set_cons_zero, List.set_cons_succ, List.length_cons, List.length_nil, List.nil_append, List.cons_append, List.append_nil, List.replicate_succ, List.replicate_zero, Nat.reduceAdd, Nat.reduceSub, Nat.reduceLT, Nat.reduceLeDiff, Nat.reduceBEq, true_and, and_true, Nat.zero_add, Nat.add_zero, Nat.le_refl, Option.some.injEq, exists_eq_left', true_or, or_true, or_false, false_or, reduceCtorEq, Prod.mk.injEq, Sum.inl.injEq, and_self, false_and, and_false, not_true_eq_false, not_false_eq_true, false_implies, true_implies, sm_r, Int.add_zero, Int.zero_add, wI_wsI, wS_wsI, wR_wsI, wI_wCp, wS_wCp, wR_wCp, Nat.reduceEqDiff, reduceIte, sT_iff, sT_iffC, wIf_ne, ne_eq, Bool.false_or, Bool.true_or, Bool.or_false, Bool.or_true, Bool.or_self, Nat.left_eq_add, Nat.add_eq_left, Nat.add_left_inj, oMax, oMin, oAbs, tb_X4_tryAll, p_X0_delay, p_X0_run, p_X4_keepIfBetter, p_X4_nextOrder, f_X0_delay, f_X0_run, f_X4_keepIfBetter, f_X4_nextOrder, p_X4_tryAll, f_X4_tryAll, d0, s0, l0, hN, hmn]
  repeat' (first | exact True.intro | with_reducible assumption | with_reducible refine And.intro ?_ ?_ | intro _)
  all_goals first
    | omega
    | assumption
    | rfl
    | (split <;> omega)
    | (have k9 := ih (by omega)
       (repeat' split at k9) <;> first | exact k9 | omega)
    | (have k9 := ih2 (by omega)
       (repeat' split at k9) <;> first | exact k9 | omega)
    | exact he (by omega)
    | ((with_reducible congr 1) <;> omega)
    | (rw [if_pos (by omega)] at he; exact he)
    | exact hD1 (by omega)
    | exact hD2 (by omega)
    | skip

theorem met_X4_tryAll (l : Launch) : sm_Met l yX4_tryAll cX4_tryAll 6 none 6 0 0 p_X4_tryAll f_X4_tryAll := sm_met 0 (Or.inl ⟨rfl, rfl⟩) (by decide +kernel) (sn_X4_tryAll l) ok_X4_tryAll