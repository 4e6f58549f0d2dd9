/-! THE BEST ORDER: all orders, and the best of them -/
def bS (Dq : List Nat → Int) (best : Int × List Nat) (q : List Nat) : Int × List Nat := if Dq q < 0 then best else (if best.1 < 0 then (Dq q, q) else (if Dq q < best.1 then (Dq q, q) else best))
/-- the class ahead of a try -/
def JC (a : sm_W) (g : Int → Int) (n : Nat) (best : Int × List Nat) (u : sm_W) : Prop := cAg a u ∧ tI u 34 n ∧ LC g (vL u 35) ∧ wI u 80 1 = best.1 ∧ (0 ≤ best.1 → yE n (wI u 81) best.2)
/-- the reference ahead of a try -/
def JR (b : sm_W) (g : Int → Int) (n : Nat) (best : Int × List Nat) (r : sm_W × Int) : Prop := mGd0 r.1 ∧ mCh r.1 ∧ LC g (wI r.1 155) ∧ (∀ x, (x < 154 ∨ 156 ≤ x ∧ x ≤ 158 ∨ x = 173) → wI r.1 x = wI b x) ∧ (wI r.1 154 2 = wI b 154 2 ∧ wI r.1 154 3 = wI b 154 3 ∧ wI r.1 154 24 = wI b 154 24) ∧ eq57 (wI r.1 159) (wI b 155) ∧ r.2 = best.1 ∧ (0 ≤ best.1 → yE n (wI r.1 172) best.2)
theorem zKb_82 (w : sm_W) (D n : Int) : wI (zKb w D n) 82 = wI w 82 := by
  funext j
  unfold zKb
  split
  · rfl
  · split
    · rw [wI_wCp, if_neg (fun h => absurd h.1 (by decide)), wIf_ne (by decide)]
    · split
      · rw [wI_wCp, if_neg (fun h => absurd h.1 (by decide)), wIf_ne (by decide)]
      · rfl
theorem cAg_fS {S : Nat → Int → Int → Prop} {a u w : sm_W} (h : cAg a u) (hf : sFr S u w) (hS : ∀ x i v, S x i v → ¬ ((2 ≤ x ∧ x ≤ 9) ∨ x = 84 ∨ (86 ≤ x ∧ x < 154) ∨ x = 83)) : cAg a w := by
  refine ⟨sFr_sT hf h.1, fun x hx => ?_, ?_, fun j => ?_⟩
  · rw [hf.outA (fun i v hs => hS x i v hs (by omega))]
    exact h.2.1 x hx
  · rw [hf.outA (fun i v hs => hS 83 i v hs (by omega))]
    exact h.2.2.1
  · rw [hf.R]
    exact h.2.2.2 j
theorem JC_step {a : sm_W} {g : Int → Int} {n : Nat} {best : Int × List Nat} {u : sm_W} {q : List Nat} {Dq : List Nat → Int} (hn : n ≤ 5) (h : JC a g n best u) (hz : zE n u q) (hd : xDl (xRun 34 (tPr 34 n u)) 34 = Dq q) : JC a g n (bS Dq best q) (zNxW (tSt 34 n u) n) ∧ zE n (zNxW (tSt 34 n u) n) (pNx q n) ∧ zNxB (tSt 34 n u) n = (pB q n : Nat) := by
  obtain ⟨h1, h2, h3, h4, h5⟩ := h
  have k := tSt_i h2 (by omega)
  have f1 := tPr_fr (n : Int) (by omega) u
  have f2 := (xRun_fr k.1.1).1
  have f3 := zKb_fr (xRun 34 (tPr 34 n u)) (xDl (xRun 34 (tPr 34 n u)) 34) n
  have f4 := zNxW_fr (tSt 34 n u) n
  have e3 : zKb (xRun 34 (tPr 34 n u)) (xDl (xRun 34 (tPr 34 n u)) 34) n = tSt 34 n u := rfl
  rw [e3] at f3
  have r1 : ∀ x, (x = 80 ∨ x = 81 ∨ x = 82 ∨ (35 ≤ x ∧ x ≤ 41)) → wI (xRun 34 (tPr 34 n u)) x = wI u x := fun x hx => by
    rw [f2.outA (fun i v hs => by unfold sDy at hs; omega), f1.outA (fun i v hs => by omega)]
  have zs : zE n (tSt 34 n u) q := by
    refine ⟨hz.1, fun p hp => ?_⟩
    unfold tSt
    rw [zKb_82, r1 82 (by omega)]
    exact hz.2 p hp
  have nx := zE_nx zs
  refine ⟨⟨?_, k.2.2.2, ?_, ?_, ?_⟩, nx⟩
  · exact cAg_fS (cAg_fS (cAg_fS (cAg_fS h1 f1 (fun x i v hs => by omega)) f2 (fun x i v hs => by unfold sDy at hs; omega)) f3 (fun x i v hs => by unfold sOr at hs; omega)) f4 (fun x i v hs => by omega)
  · refine LC_vL (fun x x0 x1 => ?_) h3
    rw [f4.outA (fun i v hs => by omega), f3.outA (fun i v hs => by unfold sOr at hs; omega)]
    exact r1 x (by omega)
  · rw [f4.outA (fun i v hs => by omega)]
    unfold tSt zKb bS
    rw [hd, r1 80 (by omega), h4]
    by_cases c : Dq q < 0
    · rw [if_pos c, if_pos c, r1 80 (by omega), h4]
    · rw [if_neg c, if_neg c]
      by_cases c1 : best.1 < 0
      · rw [if_pos c1, if_pos c1, wI_wCp, if_neg (fun h => absurd h.1 (by decide)), wI_wsI, if_pos ⟨rfl, rfl⟩]
      · rw [if_neg c1, if_neg c1]
        by_cases c2 : Dq q < best.1
        · rw [if_pos c2, if_pos c2, wI_wCp, if_neg (fun h => absurd h.1 (by decide)), wI_wsI, if_pos ⟨rfl, rfl⟩]
        · rw [if_neg c2, if_neg c2, r1 80 (by omega), h4]
  · have cp : ∀ D : Int, yE n (wI (wCp (wsI (xRun 34 (tPr 34 n u)) 80 1 D) 82 81 n) 81) q := fun D => by
      refine ⟨hz.1, fun p hp => ?_⟩
      rw [wI_wCp, if_pos ⟨rfl, by omega, by omega⟩, wIf_ne (by decide), r1 82 (by omega)]
      exact hz.2 p hp
    rw [f4.outA (fun i v hs => by omega)]
    unfold tSt zKb bS
    rw [hd, r1 80 (by omega), h4]
    by_cases c : Dq q < 0
    · rw [if_pos c, if_pos c, r1 81 (by omega)]
      exact h5
    · rw [if_neg c, if_neg c]
      by_cases c1 : best.1 < 0
      · rw [if_pos c1, if_pos c1]
        exact fun _ => cp _
      · rw [if_neg c1, if_neg c1]
        by_cases c2 : Dq q < best.1
        · rw [if_pos c2, if_pos c2]
          exact fun _ => cp _
        · rw [if_neg c2, if_neg c2, r1 81 (by omega)]
          exact h5
theorem JC_all {a : sm_W} {g : Int → Int} {n : Nat} {Dq : List Nat → Int} (hn : n ≤ 5) (hA : ∀ best u q, JC a g n best u → zE n u q → pOk n q = true → xDl (xRun 34 (tPr 34 n u)) 34 = Dq q) : ∀ (k : Nat) (q : List Nat) (m : Nat) (u : sm_W) (best : Int × List Nat), JC a g n best u → zE n u q → (∀ q' ∈ pLp k n q m, pOk n q' = true) → JC a g n ((pLp k n q m).foldl (bS Dq) best) (tLp k 34 n u m)
  | 0, _, _, _, _, h, _, _ => h
  | k + 1, q, m, u, best, h, hz, hq => by
    rw [tLp_s]
    have e : pLp (k + 1) n q m = if m = 0 then [] else q :: pLp k n (pNx q n) (pB q n) := rfl
    rw [e] at hq ⊢
    by_cases c : m = 0
    · rw [if_pos c, if_pos (by omega)]
      exact h
    · rw [if_neg c] at hq
      rw [if_neg c, if_neg (by omega), List.foldl_cons]
      obtain ⟨s1, s2, s3⟩ := JC_step (Dq := Dq) hn h hz (hA best u q h hz (hq q List.mem_cons_self))
      rw [s3]
      exact JC_all hn hA k _ _ _ _ s1 s2 (fun q' h' => hq q' (List.mem_cons_of_mem _ h'))
theorem JR_171 {b : sm_W} {g : Int → Int} {n : Nat} {best : Int × List Nat} {r : sm_W × Int} {y : sm_W} (h : JR b g n best r) (hG : mGd0 y) (ho : ∀ x, x ≠ 171 → wI y x = wI r.1 x) : JR b g n best (y, r.2) := by
  obtain ⟨h1, h2, h3, h4, h5, h6, h7, h8⟩ := h
  refine ⟨hG, mCh_of h2 (fun x _ _ h _ => ho x h), by rw [ho 155 (by decide)]; exact h3, fun x hx => by rw [ho x (by omega)]; exact h4 x hx, by rw [ho 154 (by decide)]; exact h5, by rw [ho 159 (by decide)]; exact h6, h7, ?_⟩
  rw [ho 172 (by decide)]
  exact h8
theorem JR_step {b : sm_W} {g : Int → Int} {n : Nat} {best : Int × List Nat} {r : sm_W × Int} {Dq : List Nat → Int} (hn : n ≤ 5) (hg : g 1 = n) (hB : ∀ v q, mGd0 v → mCh v → LC g (wI v 155) → yE n (wI v 171) q → pOk n q = true → mDl (mRun (mDo v)) = Dq q) (num : Nat) (hq : ∀ q, pNm n num = some q → pOk n q = true) (h : JR b g n best r) : JR b g n (match pNm n num with | none => best | some q => bS Dq best q) (mBo1 n num r) := by
  have hn1 : wI r.1 155 1 = n := h.2.2.1.2.1.trans hg
  have k1 := mLo_gd (u := r.1) (n := n) (num := num) h.1 hn1 (by omega)
  have k2 := (mLo_inv (w := r.1) (n := n) (num := num) (by omega) (by omega) n (by omega) (Int.le_refl _)).1
  have hJ := JR_171 h k1.1 k2
  unfold mBo1 mBoT
  rcases mLo_q (w := r.1) (n := n) (num := num) with ⟨e, f⟩ | ⟨q, e, f, y⟩
  · rw [e, if_pos f]
    unfold mBoC
    rw [if_pos (show (((mLo r.1 n num n).1, (-6 : Int)) : sm_W × Int).2 < 0 from (by decide : (-6 : Int) < 0))]
    exact hJ
  · have hO := hq q e
    rw [e, if_neg f]
    generalize (mLo r.1 n num n).1 = v at *
    obtain ⟨h1, h2, h3, h4, h5, h6, h7, h8⟩ := hJ
    dsimp only at h1 h2 h3 h4 h5 h6 h7 h8
    have hD := hB v q h1 h2 h3 y hO
    have hP := k1.2.2.1 (by omega)
    have hG := (mDo_gd h1 hP).1
    obtain ⟨m1, m2, -⟩ := mDo_at hO hg y h3
    have hC : mCh (mDo v) := mCh_of h2 (fun a h _ _ _ => m2 a h)
    have s1 := mRun_st hG
    have s2 := (mRun_ch hG hC).1
    have s3 := mRun_159 hG
    rw [hD]
    have w1 : ∀ x, (x < 154 ∨ 156 ≤ x ∧ x ≤ 159 ∨ 171 ≤ x) → wI (mRun (mDo v)) x = wI v x := fun x hx => by rw [s3.1 x (by omega), m2 x (by omega)]
    have w2 : wI (mRun (mDo v)) 154 2 = wI b 154 2 ∧ wI (mRun (mDo v)) 154 3 = wI b 154 3 ∧ wI (mRun (mDo v)) 154 24 = wI b 154 24 := by
      rw [s3.2.1, s3.2.2.1, s3.2.2.2, m2 154 (by decide)]
      exact h5
    have w3 : LC g (wI (mRun (mDo v)) 155) := by rw [s1.2]; exact m1
    generalize mRun (mDo v) = z at *
    have hz : JR b g n best (z, r.2) := ⟨s1.1, s2, w3, fun x hx => by rw [w1 x (by omega)]; exact h4 x hx, w2, by rw [w1 159 (by omega)]; exact h6, h7, by rw [w1 172 (by omega)]; exact h8⟩
    have cg := mCp_gd (n := n) s1.1 (by omega)
    have ci := mCpA_in 171 172 (by decide) z n (by omega)
    have hc : ∀ D : Int, JR b g n (D, q) (itI (mCpA 171 172) z n, D) := fun D => by
      obtain ⟨g1, g2, g3, g4, g5, g6, g7, g8⟩ := hz
      dsimp only at g1 g2 g3 g4 g5 g6 g7 g8
      have o := ci.2.1
      refine ⟨cg.1, mCh_of g2 (fun x _ _ _ h => o x h), by show LC g (wI _ 155); rw [o 155 (by decide)]; exact g3, fun x hx => ?_, ?_, ?_, rfl, fun _ => ⟨y.1, fun p hp => ?_⟩⟩
      · show wI _ x = _
        rw [o x (by omega)]; exact g4 x hx
      · show wI _ 154 2 = _ ∧ wI _ 154 3 = _ ∧ wI _ 154 24 = _
        rw [o 154 (by decide)]; exact g5
      · show eq57 (wI _ 159) _
        rw [o 159 (by decide)]; exact g6
      · show wI _ 172 p = _
        rw [(ci.1 p).1 ⟨by omega, by omega⟩, w1 171 (by omega)]
        exact y.2 p hp
    show JR b g n (bS Dq best q) (mBoC n r.2 (z, Dq q))
    unfold mBoC bS
    dsimp only
    rw [h7] at *
    by_cases c : Dq q < 0
    · rw [if_pos c, if_pos c]
      exact hz
    · rw [if_neg c, if_neg c]
      by_cases c1 : best.1 < 0
      · rw [if_pos c1, if_pos c1]
        exact hc _
      · rw [if_neg c1, if_neg c1]
        by_cases c2 : Dq q < best.1
        · rw [if_pos c2, if_pos c2]
          exact hc _
        · rw [if_neg c2, if_neg c2]
          exact hz
theorem JR_all {b : sm_W} {g : Int → Int} {n : Nat} {best : Int × List Nat} {r : sm_W × Int} {Dq : List Nat → Int} (hn : n ≤ 5) (hg : g 1 = n) (hB : ∀ v q, mGd0 v → mCh v → LC g (wI v 155) → yE n (wI v 171) q → pOk n q = true → mDl (mRun (mDo v)) = Dq q) (h : JR b g n best r) : ∀ N : Nat, (∀ q ∈ pAll n N, pOk n q = true) → JR b g n ((pAll n N).foldl (bS Dq) best) (itI (mBo1 n) r N) := by
  intro N
  induction N with
  | zero => exact fun _ => h
  | succ N ih =>
    intro hq
    have e : itI (mBo1 n) r ((N : Int) + 1) = mBo1 n N (itI (mBo1 n) r N) := itI_s _ _ (by omega)
    rw [show ((N + 1 : Nat) : Int) = (N : Int) + 1 by omega, e]
    rw [pAll_s] at hq ⊢
    have i := ih (fun q hq' => hq q (List.mem_append_left _ hq'))
    have s := JR_step (Dq := Dq) hn hg hB N (fun q e => hq q (List.mem_append_right _ (by rw [e]; exact List.mem_singleton_self q))) i
    rw [List.foldl_append]
    generalize pNm n N = o at *
    cases o with
    | none => exact s
    | some q => exact s
