/-! THE LAW: one call of each, the answers alike -/
def lwS (pc : List sm_V → sm_W → Prop) (fc : sm_F) (pm : List sm_V → sm_W → Prop) (fm : sm_F) (as : List sm_V) (w : sm_W) : Prop := pc (.inr (.inl 0) :: as) w ∧ ∃ A u z, fc (.inr (.inl 0) :: as) w = (some (.inl A), u) ∧ sT u ∧ wS u 1000 = wS w 1000 ∧ wI u 1000 = wI w 1000 ∧ pm (.inr (.inl 154) :: as) u ∧ fm (.inr (.inl 154) :: as) u = (some (.inl A), z) ∧ Rel z z ∧ wS z 1000 = wS w 1000 ∧ wI z 1000 = wI w 1000
theorem lwS_of {pc : List sm_V → sm_W → Prop} {fc : sm_F} {pm : List sm_V → sm_W → Prop} {fm : sm_F} {as : List sm_V} {w u z : sm_W} {A B : Int} (hpc : pc (.inr (.inl 0) :: as) w) (hfc : fc (.inr (.inl 0) :: as) w = (some (.inl A), u)) (hC : fC w u) (hpm : pm (.inr (.inl 154) :: as) u) (hfm : fm (.inr (.inl 154) :: as) u = (some (.inl B), z)) (hM : fM u z) (st : A = B ∧ Rel u z) : lwS pc fc pm fm as w := by
  refine ⟨hpc, A, u, z, hfc, hC.1, hC.2.2, hC.2.1 1000 (by decide), hpm, by rw [hfm, st.1], Rel_m st.2 hM, hM.2.2.2.trans hC.2.2, (hM.2.1 1000 (by decide)).trans (hC.2.1 1000 (by decide))⟩
theorem fC_if {c : Prop} [Decidable c] {w u v : sm_W} (h1 : c → fC w u) (h2 : ¬ c → fC w v) : fC w (if c then u else v) := by
  split
  · next h => exact h1 h
  · next h => exact h2 h
theorem fM_if {c : Prop} [Decidable c] {w u v : sm_W} (h1 : c → fM w u) (h2 : ¬ c → fM w v) : fM w (if c then u else v) := by
  split
  · next h => exact h1 h
  · next h => exact h2 h
theorem f155 (b : sm_W) (i v : Int) : sFr (fun x _ _ => x = 155) b (wsI b 155 i v) := fr1 _ _ rfl
theorem kf1 {b : sm_W} (hT : sT b) (i v : Int) : fM b (wsI (mKf b 1) 155 i v) := by
  rw [mKf_1]
  exact fM_ls hT (mKeep_f b) (f155 _ _ _)
theorem fM_keep {b z : sm_W} (hT : sT b) (hz : sFr (fun x _ _ => x = 155) (mKeep b) z) : fM b z := fM_ls hT (mKeep_f b) hz
theorem fC_gW {w : sm_W} (h : cOK w) {x : Int} (x0 : 0 ≤ x) (x1 : x < wI w 2 7) : fC w (gW (xRun 1 w) 1 x 8) := by
  have hD := cOK_d h
  have k := xRun_ok hD
  have e : wI (xRun 1 w) (1 + 1) 7 = wI w 2 7 := by rw [sDy_l0 (xRun_fr hD).1]
  have g := (gW_inv k.1 k.2 x0 (by rw [e]; exact x1) 8 (by decide) (by decide)).1
  exact (fC_run hD).tr (fC_fr g k.1.1.2.1 (fun x i v hs => by unfold sWt at hs; omega))
theorem fC_mGa {w : sm_W} (h : cOK w) : fC w (mGa (xRun 1 w) 1) := by
  have hD := cOK_d h
  have k := xRun_ok hD
  have hn := dOK_n k.1.1
  have g := (mGaL_inv k.1 (wI (xRun 1 w) (1 + 1) 7) hn.1 (Int.le_refl _)).1
  exact (fC_run hD).tr (fC_fr g k.1.1.2.1 (fun x i v hs => by unfold sMt at hs; omega))
theorem fC_of {w : sm_W} (h : cOK w) (x k : Int) : fC w (cOfW w x k) := by
  have h1 := fC_run (cOK_d h)
  have h2 := fC.rf h.1.1
  unfold cOfW
  by_cases c : 0 ≤ x ∧ x < wI w 2 7
  · have h3 := fC_gW h c.1 c.2
    rw [if_pos c]
    repeat' split
    all_goals assumption
  · rw [if_neg c]; exact h2
theorem fC_day {w : sm_W} (h : cOK w) (k : Int) : fC w (cDyW w k) := by
  have h1 := fC_run (cOK_d h)
  have h2 := fC.rf h.1.1
  have h3 := fC_mGa h
  unfold cDyW
  repeat' split
  all_goals assumption
theorem fC_bT {w : sm_W} (h : lOK w 2) : ∀ n : Nat, (n : Int) ≤ 8 → fC w (bT w n).1 := by
  intro n
  induction n with
  | zero => exact fun _ => fC.rf h.1
  | succ n ih =>
    intro hn
    have e1 : bT w ((n : Int) + 1) = bT1 n (bT w n) := itI_s _ _ (by omega)
    have hk := (bT_ok h n (by omega) (by omega)).1
    have hi := ih (by omega)
    rw [show ((n + 1 : Nat) : Int) = (n : Int) + 1 by omega, e1]
    generalize bT w n = p at *
    unfold bT1
    have c1 := fC_cT hk
    split
    · next q =>
      have hD := bTU_ok hk (by omega) (by omega) q
      have c2 : fC p.1 (bTU p.1 n) := fC_st c1 (by decide)
      exact hi.tr (c2.tr (fC_run hD))
    · exact hi.tr c1
theorem fM_mBt {b : sm_W} (h : mGd0 b) : ∀ n : Nat, (n : Int) ≤ 8 → fM b (mBt b n).1 := by
  intro n
  induction n with
  | zero => exact fun _ => fM.rf h.1.1
  | succ n ih =>
    intro hn
    have e1 : mBt b ((n : Int) + 1) = mBt1 n (mBt b n) := itI_s _ _ (by omega)
    have hk := (mBt_inv h n (by omega) (by omega)).1
    have hi := ih (by omega)
    rw [show ((n + 1 : Nat) : Int) = (n : Int) + 1 by omega, e1]
    generalize mBt b n = p at *
    unfold mBt1
    split
    · next q =>
      have hG := mBtU_gd hk (by omega) (by omega) q
      have c1 : fM p.1 (mBtU p.1 n) := fM_fr (f155 _ _ _) hk.1.1 (fun a i v hs => by omega)
      have c2 := fM_run hG
      have c3 : fM (mRun (mBtU p.1 n)) (mBtD (mRun (mBtU p.1 n)) n) := fM_fr (f155 _ _ _) (mRun_st hG).1.1.1 (fun a i v hs => by omega)
      exact hi.tr ((c1.tr c2).tr c3)
    · exact hi
theorem fC_tLp {n : Int} (h5 : n ≤ 5) : ∀ (k : Nat) (w : sm_W) (m : Int), tI w 34 n → fC w (tLp k 34 n w m) := by
  intro k
  induction k with
  | zero => exact fun w m h => fC.rf h.1.2.1
  | succ k ih =>
    intro w m h
    rw [tLp_s]
    split
    · exact fC.rf h.1.2.1
    · obtain ⟨g1, g2, g3, g4⟩ := tSt_i h h5
      have n0 := lOK_n h.1.2
      have e7 : wI w (34 + 1) 7 = n := h.2.1
      have c1 : fC w (tPr 34 n w) := fC_fr (S := fun a _ _ => a = 42) (sFr.it (f := tPr1 34 n) n (by have : wI w (34 + 1) 7 = n := h.2.1; omega) (fun i r _ _ _ => (sFr.refl r).st rfl)) h.1.2.1 (fun a i v hs => by omega)
      have c2 := fC_run g1.1
      have c3 : fC (xRun 34 (tPr 34 n w)) (tSt 34 n w) := fC_fr (zKb_fr _ _ _) g2.1.2.1 (fun a i v hs => by unfold sOr at hs; omega)
      have c4 : fC (tSt 34 n w) (zNxW (tSt 34 n w) n) := fC_fr (zNxW_fr _ _) g3.1.2.1 (fun a i v hs => by omega)
      exact (((c1.tr c2).tr c3).tr c4).tr (ih _ _ g4)
theorem fC_tAll {w : sm_W} (h : lOK w 2) (h5 : wI w 2 7 ≤ 5) : fC w (tAll 34 (cT w)) := by
  have k := cT_in h
  have hD : dOK (cT w) 34 := ⟨Or.inr rfl, k.2.1⟩
  have e : wI (cT w) (34 + 1) 7 = wI w 2 7 := k.2.2.2.1 1 (by decide) (by decide)
  have n0 := lOK_n k.2.1
  have c0 := fC_cT h
  have c1 : fC (cT w) (tW0 34 (wI (cT w) (34 + 1) 7) (cT w)) := by
    unfold tW0
    refine fC_st (fC_st ?_ (by decide)) (by decide)
    exact fC_fr (tO1_in (cT w) _ n0.1).1 k.1 (fun a i v hs => by omega)
  unfold tAll
  exact (c0.tr c1).tr (fC_tLp (by rw [e]; exact h5) 120 _ _ (tW0_i hD))
theorem mLo_f (u : sm_W) (n num : Int) (k : Int) (k0 : 0 ≤ k) : sFr sMm u (mLo u n num k).1 :=
  itI_ind (f := mLo1 n) (a := (u, num, (1 : Int))) (fun _ r => sFr sMm u r.1) k (sFr.refl u) (fun i r _ _ hr => hr.st (by unfold sMm; omega)) k k0 (Int.le_refl _)
theorem fM_mBo {b : sm_W} (hG : mGd0 b) (h5 : wI b 155 1 ≤ 5) : ∀ k : Nat, fM b (mBo b k).1 := by
  have hm := vOK_many hG.1.2
  intro k
  induction k with
  | zero =>
    have e : (mBo b ((0 : Nat) : Int)).1 = mBo0 b := rfl
    rw [e]
    unfold mBo0
    exact fM_fr ((mAs0_f b).st (by unfold sMm; omega)) hG.1.1 sMm_b
  | succ k ih =>
    have e1 : mBo b ((k : Int) + 1) = mBo1 (wI b 155 1) k (mBo b k) := itI_s _ _ (by omega)
    have hi := mBo_inv hG h5 k (by omega)
    rw [show ((k + 1 : Nat) : Int) = (k : Int) + 1 by omega, e1]
    generalize mBo b k = p at *
    have g := mLo_gd (num := (k : Int)) hi.1 hi.2 (by omega)
    have hd := mDo_gd g.1 (g.2.2.1 h5)
    have c1 := mLo_f p.1 (wI b 155 1) k (wI b 155 1) hm.1
    have gT := mBoT_gd (num := (k : Int)) hi.1 hi.2 h5 (by omega)
    have cT1 : fM p.1 (mBoT (wI b 155 1) k p.1).1 := by
      unfold mBoT
      split
      · exact fM_fr c1 hi.1.1.1 sMm_b
      · have hn : wI (mLo p.1 (wI b 155 1) k (wI b 155 1)).1 155 1 = wI b 155 1 := by rw [g.2.1]; exact hi.2
        have c2 : sFr sMm (mLo p.1 (wI b 155 1) k (wI b 155 1)).1 (mDo (mLo p.1 (wI b 155 1) k (wI b 155 1)).1) := sFr.it (f := mDo1) _ (by rw [hn]; exact hm.1) (fun i r _ _ _ => (sFr.refl r).st (by unfold sMm; omega))
        exact (fM_fr (c1.trans c2) hi.1.1.1 sMm_b).tr (fM_run hd.1)
    unfold mBo1
    generalize mBoT (wI b 155 1) k p.1 = t at *
    have c3 : fM t.1 (itI (mCpA 171 172) t.1 (wI b 155 1)) := fM_fr (S := sMm) (sFr.it (f := mCpA 171 172) _ hm.1 (fun i r _ _ _ => (sFr.refl r).st (by unfold sMm; omega))) gT.1.1.1 sMm_b
    have c4 := ih.tr cT1
    unfold mBoC
    repeat' split
    all_goals first
      | exact c4
      | exact c4.tr c3
/-- the reading of a text writes the reference's own cells -/
theorem fT_54 (b : sm_W) (k v : Int) : sFr sMm b (wsI b 154 k v) := fr1 _ _ (by unfold sMm; omega)
theorem fT_75 (b : sm_W) (k v : Int) : sFr sMm b (wsI b 175 k v) := fr1 _ _ (by unfold sMm; omega)
theorem fT_74 (b : sm_W) (k v : Int) : sFr sMm b (wsI b 174 k v) := fr1 _ _ (by unfold sMm; omega)
theorem fT_W (b : sm_W) (x y : Int) : sFr sMm b (tW b x y) := (fT_54 b _ _).trans (fT_54 _ _ _)
theorem fT_S (b : sm_W) (s : Int) : sFr sMm b (tSign b s) := by
  unfold tSign
  split <;> exact fT_W _ _ _
theorem fT_O (b : sm_W) (n hi : Int) : sFr sMm b (tOne b n hi) := by
  unfold tOne
  split
  · exact ((fT_54 b _ _).trans (fT_75 _ _ _)).trans (fT_54 _ _ _)
  · exact fT_54 b _ _
theorem fT_NL (n : Int) : ∀ (m : Nat) (b : sm_W) (v : Int), sFr sMm b (tNumL m b n v) := by
  intro m
  induction m with
  | zero => intro b v; exact fT_75 b _ _
  | succ m ih =>
    intro b v
    rw [tNumL_s]
    split
    · split
      · exact (fT_W b _ _).trans (ih _ _)
      · exact (fT_W b _ _).trans (ih _ _)
    · exact fT_75 b _ _
theorem fT_N (b : sm_W) (n : Int) : sFr sMm b (tNum b n) := by
  unfold tNum
  split
  · exact (fT_W b _ _).trans (fT_NL _ _ _ _)
  · exact fT_54 b _ _
theorem fT_Sh (b : sm_W) : sFr sMm b (tSh b) := by
  have h5 : sFr sMm b (tSh5 b) := ((((fT_O b _ _).trans (fT_S _ _)).trans (fT_O _ _ _)).trans (fT_S _ _)).trans (fT_N _ _)
  have h7 : ∀ z, sFr sMm z (tSh7 z) := fun z => (fT_75 z _ _).trans (fT_75 _ _ _)
  have hP : ∀ z, sFr sMm z (tShP z) := fun z => by
    unfold tShP
    split
    · exact ((h7 z).trans (fT_54 _ _ _)).trans (fT_N _ _)
    · exact h7 z
  have hC : ∀ z, sFr sMm z (tShC z) := fun z => by
    unfold tShC
    split
    · exact (fT_54 z _ _).trans (fT_O _ _ _)
    · exact sFr.refl z
  exact (h5.trans (hP _)).trans (hC _)
theorem fT_B (b : sm_W) (c : Int) : sFr sMm b (tBody b c) := by
  have n1 : ∀ h s, sFr sMm b (tNum (tSign (tOne b 0 h) s) 1) := fun h s => ((fT_O b _ _).trans (fT_S _ _)).trans (fT_N _ _)
  unfold tBody
  repeat' split
  all_goals first
    | exact fT_Sh b
    | exact n1 _ _
    | exact ((fT_O b _ _).trans (fT_S _ _)).trans (fT_O _ _ _)
    | exact fT_O b _ _
    | exact (fT_54 b _ _).trans (fT_54 _ _ _)
theorem fT_Ord (b : sm_W) : sFr sMm b (tOrd b) := by
  have h1 : sFr sMm b (tOrd0 b) := (fT_54 b 25 (wI b 154 25 + 1)).trans (fT_B _ _)
  refine h1.trans ?_
  have e : tOrd b = tOrdE (tNext b) (tOrd0 b) := rfl
  rw [e]
  generalize tNext b = c
  generalize tOrd0 b = z
  unfold tOrdE
  split
  · exact (fT_74 z _ _).trans (fT_54 _ _ _)
  · exact sFr.refl z
theorem fT_Fl : ∀ (m : Nat) (b : sm_W), sFr sMm b (tFl m b) := by
  intro m
  induction m with
  | zero => intro b; exact sFr.refl b
  | succ m ih =>
    intro b
    rw [tFl_s]
    split
    · split
      · exact ((fT_S b 59).trans (fT_Ord _)).trans (ih _)
      · exact (fT_S b 59).trans (ih _)
    · exact sFr.refl b
theorem tFault_fr (b : sm_W) : sFr sMm b (tFault b) := (((fT_54 b 25 0).trans (fT_54 _ 26 0)).trans (fT_54 _ 27 0)).trans ((fT_Ord _).trans (fT_Fl _ _))
theorem cW_f {q : sm_W} (hO : mOK q) (k : Int) : sFr sMm q (cW q k) := by
  have m5 : ∀ i v, sFr sMm q (wsI (mKf q 0) 155 i v) := fun i v => by rw [mKf_0]; exact fr1 _ _ (by unfold sMm; omega)
  have md : ∀ {u z : sm_W}, sFr (fun x _ _ => x = 155) u z → sFr sMm u z := fun h => h.mono (fun a i v hs => by unfold sMm; omega)
  unfold cW
  repeat' split
  all_goals first
    | exact sFr.refl q
    | exact m5 _ _
    | (rw [mKf_0]; exact md (mNew_fr _ _ _ _ _ _))
    | (next c => unfold mRm; rw [mKf_0]; exact (m5 _ _).trans (sFr.it (f := mRm1 _) _ (by omega) (fun i r _ _ _ => (sFr.refl r).st (by unfold sMm; omega))))
theorem cLp_fr : ∀ (n : Nat) (q : sm_W) (k : Int), mOK q → sFr sMm q (cLp n q k).1 := by
  intro n
  induction n with
  | zero => intro q k _; exact sFr.refl q
  | succ n ih =>
    intro q k hO
    have cs := cW_st hO k
    rw [cLp_s]
    split
    · split
      · exact sFr.refl q
      · exact (cW_f hO k).trans (ih _ _ cs.1)
    · exact sFr.refl q
theorem tFault_f {b : sm_W} (h : tOK (tF0 b)) : fM b (tFault b) := by
  have t := tFault_st h
  have hS : sFr sMm b (tFault b) := tFault_fr b
  exact fM_fr hS h.1 sMm_b
theorem fM_carry {u : sm_W} {a : sm_W} (h : Rel a u) : fM u (f_X8_carryOut [.inr (.inl 154)] u).2 := by
  have hb := h.2.1
  have tf := tFault_st hb.2.2.2.1
  have f1 := tFault_fr u
  show fM u (if wI (tFault u) 154 26 = 1 then tFault u else wsI (cOut u).1 154 24 0)
  refine fM_if (fun _ => fM_fr f1 hb.1.1.1 sMm_b) (fun _ => ?_)
  have h155 : wI (tFault u) 155 = wI u 155 := tf.2.1.1 155 (by decide) (by decide) (by decide)
  have hK := mKeep_keep (w := tFault u)
  have hO : mOK (mKeep (tFault u)) := ⟨hK.2 tf.1.1, by rw [hK.1 155 (by decide) (by decide), h155]; exact hb.1.1.2⟩
  exact fM_fr ((f1.trans ((mKeep_f _).trans (cLp_fr 40 _ 0 hO))).trans (fT_54 _ _ _)) hb.1.1.1 sMm_b
theorem fC_carry {w : sm_W} (h : Rel w w) : fC w (f_X7_carryOut [.inr (.inl 0)] w).2 := by
  have h0 : fC w (kF0 w) := fC_st (fC.rf h.1.1.1.1) (by decide)
  have k0 := kF_in 80 (kF0 w) h.1.2.2 (by unfold kF0; rw [wI_wsI, if_pos ⟨rfl, rfl⟩]; decide)
  have h1 : fC w (kF 80 (kF0 w)).1 := h0.tr (fC_fr k0.1 h.1.2.2.1 (fun a i v hs => by unfold sRd at hs; omega))
  show fC w (if (kF 80 (kF0 w)).2 = -6 then hKp (wsI (cCo w).1 83 0 0) 67 else (kF 80 (kF0 w)).1)
  refine fC_if (fun _ => ?_) (fun _ => h1)
  have hr := (kF_ag h).rel h
  have eCo : cCo w = kOb 80 (kF0 (cB (kF 80 (kF0 w)).1)) 0 := rfl
  generalize (kF 80 (kF0 w)).1 = a1 at *
  have h2 := (cB_ag hr.1.1).rel hr
  have a83 : wI (kF0 (cB a1)) 83 2 = 0 := by unfold kF0; rw [wI_wsI, if_pos ⟨rfl, rfl⟩]
  have v0 : vL (kF0 (cB a1)) 2 = vL (cB a1) 2 := vL_of8 (fun k hk => by unfold kF0; exact wIf_ne (by omega))
  have hl0 : lOK (kF0 (cB a1)) 2 := ⟨h2.1.2.2.1, is2, by rw [v0]; exact h2.1.1.1.2.2⟩
  have all := kOb_all 80 (kF0 (cB a1)) 0 h2.1.2.2 (by rw [a83]; decide) hl0 (Int.le_refl _)
  rw [← eCo] at all
  obtain ⟨f1, f2, f3, f4⟩ := all
  have hx : ∀ a i v, sOb a i v → a < 154 ∧ a ≠ 86 := fun a i v hs => by
    rcases hs with hs | hs
    · unfold sRd at hs; omega
    · unfold sLn at hs; omega
  have c2 : fC w (cB a1) := h1.tr (fC_cB hr.1.1)
  have c3 : fC w (kF0 (cB a1)) := fC_st c2 (by decide)
  have c4 : fC w (wsI (cCo w).1 83 0 0) := fC_st (c3.tr (fC_fr f1 c3.1 (fun a i v hs => (hx a i v hs).1))) (by decide)
  have e86 : wI (wsI (cCo w).1 83 0 0) 86 = wI (cB a1) 86 := by
    rw [wIf_ne (by decide), f1.outA (fun i v hs => (hx 86 i v hs).2 rfl)]
    unfold kF0
    exact wIf_ne (by decide)
  have eR : ∀ i, wR (wsI (cCo w).1 83 0 0) 87 i = wR (cB a1) 87 i := fun i => by
    have e1 : wR (wsI (cCo w).1 83 0 0) 87 i = wR (cCo w).1 87 i := rfl
    rw [e1, f1.R]
    rfl
  have hlu : ∀ i, hLn (wsI (cCo w).1 83 0 0) i = hLn (cB a1) i := fun i => by unfold hLn; rw [eR]
  have g := hKp_in c4.1 (by rw [e86]; exact h2.1.1.2) (fun i j i0 i1 j0 j1 hne => by rw [hlu, hlu]; exact h2.1.2.1 i j i0 i1 j0 j1 hne)
  refine ⟨g.1, fun x hx => ?_, ?_⟩
  · rw [g.2.1 x (by omega) (by omega)]
    exact c4.2.1 x hx
  · rw [hKp_S c4.1]
    exact c4.2.2
theorem lw_first {w : sm_W} (h : Rel w w) (v : Int) : lwS p_X7_first f_X7_first p_X8_first f_X8_first [.inl v] w := by
  have hC : fC w (f_X7_first [.inr (.inl 0), .inl v] w).2 := fC_if (fun _ => fC_k1 h (fr1 _ _ (by unfold sLn; omega))) (fun _ => fC_cB h.1.1)
  have hr := Rel_c h hC
  have hb := hr.2.1
  have hv := hb.1.1.2
  have hT := hb.1.1.1
  have hG := hb.1
  exact lwS_of ⟨rfl, h.1.1⟩ rfl hC ⟨rfl, hT, hb.2.2.1⟩ rfl (fM_if (fun _ => fM_keep hT (f155 _ _ _)) (fun _ => fM.rf hT)) (st_first hr v)
theorem lw_tracks {w : sm_W} (h : Rel w w) (s : Int) (v : Int) : lwS p_X7_tracks f_X7_tracks p_X8_tracks f_X8_tracks [.inl s, .inl v] w := by
  have hC : fC w (f_X7_tracks [.inr (.inl 0), .inl s, .inl v] w).2 := fC_if (fun _ => fC_if (fun _ => fC_k1 h (fr1 _ _ (by unfold sLn; omega))) (fun _ => fC_cB h.1.1)) (fun _ => fC_cB h.1.1)
  have hr := Rel_c h hC
  have hb := hr.2.1
  have hv := hb.1.1.2
  have hT := hb.1.1.1
  have hG := hb.1
  exact lwS_of ⟨rfl, h.1.1⟩ rfl hC ⟨rfl, hT, hb.2.2.1⟩ rfl (fM_if (fun _ => fM_if (fun _ => kf1 hT _ _) (fun _ => fM.rf hT)) (fun _ => fM.rf hT)) (st_tracks hr s v)
theorem lw_running {w : sm_W} (h : Rel w w) (s : Int) (v : Int) : lwS p_X7_running f_X7_running p_X8_running f_X8_running [.inl s, .inl v] w := by
  have hC : fC w (f_X7_running [.inr (.inl 0), .inl s, .inl v] w).2 := fC_if (fun _ => fC_if (fun _ => fC_k1 h (fr1 _ _ (by unfold sLn; omega))) (fun _ => fC_cB h.1.1)) (fun _ => fC_cB h.1.1)
  have hr := Rel_c h hC
  have hb := hr.2.1
  have hv := hb.1.1.2
  have hT := hb.1.1.1
  have hG := hb.1
  exact lwS_of ⟨rfl, h.1.1⟩ rfl hC ⟨rfl, hT, hb.2.2.1⟩ rfl (fM_if (fun _ => fM_if (fun _ => kf1 hT _ _) (fun _ => fM.rf hT)) (fun _ => fM.rf hT)) (st_running hr s v)
theorem lw_shuttle {w : sm_W} (h : Rel w w) (p : Int) (q : Int) (c : Int) (d : Int) (e : Int) : lwS p_X7_shuttle f_X7_shuttle p_X8_shuttle f_X8_shuttle [.inl p, .inl q, .inl c, .inl d, .inl e] w := by
  have hC : fC w (f_X7_shuttle [.inr (.inl 0), .inl p, .inl q, .inl c, .inl d, .inl e] w).2 := fC_if (fun _ => fC_cB h.1.1) (fun _ => fC_k1 h (lNewSh_fr 2 (cB w) p q c d e))
  have hr := Rel_c h hC
  have hb := hr.2.1
  have hv := hb.1.1.2
  have hT := hb.1.1.1
  have hG := hb.1
  exact lwS_of ⟨rfl, h.1.1⟩ rfl hC ⟨rfl, hb.1.1, hb.2.2.1⟩ rfl (fM_if (fun _ => fM.rf hT) (fun _ => fM_if (fun _ => fM.rf hT) (fun _ => by rw [mKf_1]; exact fM_keep hT (mNew_fr _ _ _ _ _ _)))) (st_shuttle hr p q c d e)
theorem lw_late {w : sm_W} (h : Rel w w) (x : Int) (v : Int) : lwS p_X7_late f_X7_late p_X8_late f_X8_late [.inl x, .inl v] w := by
  have hC : fC w (f_X7_late [.inr (.inl 0), .inl x, .inl v] w).2 := fC_if (fun _ => fC_cB h.1.1) (fun _ => fC_k1 h (fr1 _ _ (by unfold sLn; omega)))
  have hr := Rel_c h hC
  have hb := hr.2.1
  have hv := hb.1.1.2
  have hT := hb.1.1.1
  have hG := hb.1
  exact lwS_of ⟨rfl, h.1.1⟩ rfl hC ⟨rfl, hb.1.1, hb.2.2.1⟩ rfl (fM_if (fun _ => fM.rf hT) (fun _ => kf1 hT _ _)) (st_late hr x v)
theorem lw_prefer {w : sm_W} (h : Rel w w) (x : Int) (v : Int) : lwS p_X7_prefer f_X7_prefer p_X8_prefer f_X8_prefer [.inl x, .inl v] w := by
  have hC : fC w (f_X7_prefer [.inr (.inl 0), .inl x, .inl v] w).2 := fC_if (fun _ => fC_if (fun _ => fC_k1 h (fr1 _ _ (by unfold sLn; omega))) (fun _ => fC_cB h.1.1)) (fun _ => fC_cB h.1.1)
  have hr := Rel_c h hC
  have hb := hr.2.1
  have hv := hb.1.1.2
  have hT := hb.1.1.1
  have hG := hb.1
  exact lwS_of ⟨rfl, h.1.1⟩ rfl hC ⟨rfl, hb.1.1, hb.2.2.1⟩ rfl (fM_if (fun _ => fM_if (fun _ => kf1 hT _ _) (fun _ => fM.rf hT)) (fun _ => fM.rf hT)) (st_prefer hr x v)
theorem lw_remove {w : sm_W} (h : Rel w w) (x : Int) : lwS p_X7_remove f_X7_remove p_X8_remove f_X8_remove [.inl x] w := by
  have hC : fC w (f_X7_remove [.inr (.inl 0), .inl x] w).2 := fC_if (fun c => fC_k1 h (lRm_fr 2 (cB w) (by have hB := cB_in h.1.1; have e : wI (cB w) 2 7 = wI w 2 7 := congrFun hB.2.2.2.1 1; rw [e]; omega))) (fun _ => fC_cB h.1.1)
  have hr := Rel_c h hC
  have hb := hr.2.1
  have hv := hb.1.1.2
  have hT := hb.1.1.1
  have hG := hb.1
  exact lwS_of ⟨rfl, h.1.1⟩ rfl hC ⟨rfl, hb.1.1, hb.2.2.1⟩ rfl (fM_if (fun c => by unfold mRm; rw [mKf_1]; exact fM_keep hT ((f155 _ _ _).trans (sFr.it (f := mRm1 x) _ (by omega) (fun i r _ _ _ => (sFr.refl r).st rfl)))) (fun _ => fM.rf hT)) (st_remove hr x)
theorem lw_ofShuttle {w : sm_W} (h : Rel w w) (x : Int) (k : Int) : lwS p_X7_ofShuttle f_X7_ofShuttle p_X8_ofShuttle f_X8_ofShuttle [.inl x, .inl k] w := by
  have hC : fC w (f_X7_ofShuttle [.inr (.inl 0), .inl x, .inl k] w).2 := fC_of h.1.1 x k
  have hr := Rel_c h hC
  have hb := hr.2.1
  have hv := hb.1.1.2
  have hT := hb.1.1.1
  have hG := hb.1
  exact lwS_of ⟨rfl, h.1.1⟩ rfl hC ⟨rfl, hG⟩ rfl (fM_if (fun _ => fM_if (fun _ => fM.rf hT) (fun _ => fM_run hG)) (fun _ => fM.rf hT)) (st_of hr x k)
theorem lw_count {w : sm_W} (h : Rel w w) (k : Int) : lwS p_X7_count f_X7_count p_X8_count f_X8_count [.inl k] w := by
  have hC : fC w (f_X7_count [.inr (.inl 0), .inl k] w).2 := fC.rf h.1.1.1.1
  have hr := Rel_c h hC
  have hb := hr.2.1
  have hv := hb.1.1.2
  have hT := hb.1.1.1
  have hG := hb.1
  exact lwS_of ⟨rfl, h.1.1.1.1⟩ rfl hC ⟨rfl, hT⟩ rfl (fM.rf hT) (⟨st_count hr k, hr⟩)
theorem lw_day {w : sm_W} (h : Rel w w) (k : Int) : lwS p_X7_day f_X7_day p_X8_day f_X8_day [.inl k] w := by
  have hC : fC w (f_X7_day [.inr (.inl 0), .inl k] w).2 := fC_day h.1.1 k
  have hr := Rel_c h hC
  have hb := hr.2.1
  have hv := hb.1.1.2
  have hT := hb.1.1.1
  have hG := hb.1
  exact lwS_of ⟨rfl, h.1.1⟩ rfl hC ⟨rfl, hG⟩ rfl (fM_run hG) (st_day hr k)
theorem lw_at {w : sm_W} (h : Rel w w) (x : Int) (t : Int) : lwS p_X7_at f_X7_at p_X8_at f_X8_at [.inl x, .inl t] w := by
  have hC : fC w (f_X7_at [.inr (.inl 0), .inl x, .inl t] w).2 := fC_if (fun _ => fC_if (fun _ => fC_run (cOK_d h.1.1)) (fun _ => fC.rf h.1.1.1.1)) (fun _ => fC.rf h.1.1.1.1)
  have hr := Rel_c h hC
  have hb := hr.2.1
  have hv := hb.1.1.2
  have hT := hb.1.1.1
  have hG := hb.1
  exact lwS_of ⟨rfl, h.1.1⟩ rfl hC ⟨rfl, hG⟩ rfl (fM_if (fun _ => fM_if (fun _ => fM_run hG) (fun _ => fM.rf hT)) (fun _ => fM.rf hT)) (st_at hr x t)
theorem lw_when {w : sm_W} (h : Rel w w) (x : Int) (s : Int) (k : Int) : lwS p_X7_when f_X7_when p_X8_when f_X8_when [.inl x, .inl s, .inl k] w := by
  have hC : fC w (f_X7_when [.inr (.inl 0), .inl x, .inl s, .inl k] w).2 := fC_if (fun _ => fC_if (fun _ => fC_run (cOK_d h.1.1)) (fun _ => fC_if (fun _ => fC_run (cOK_d h.1.1)) (fun _ => fC.rf h.1.1.1.1))) (fun _ => fC.rf h.1.1.1.1)
  have hr := Rel_c h hC
  have hb := hr.2.1
  have hv := hb.1.1.2
  have hT := hb.1.1.1
  have hG := hb.1
  exact lwS_of ⟨rfl, h.1.1⟩ rfl hC ⟨rfl, hG⟩ rfl (fM_if (fun _ => fM_if (fun _ => fM_run hG) (fun _ => fM.rf hT)) (fun _ => fM.rf hT)) (st_when hr x s k)
theorem lw_why {w : sm_W} (h : Rel w w) (x : Int) (t : Int) : lwS p_X7_why f_X7_why p_X8_why f_X8_why [.inl x, .inl t] w := by
  have hC : fC w (f_X7_why [.inr (.inl 0), .inl x, .inl t] w).2 := fC_if (fun _ => fC_if (fun _ => fC_run (cOK_d h.1.1)) (fun _ => fC.rf h.1.1.1.1)) (fun _ => fC.rf h.1.1.1.1)
  have hr := Rel_c h hC
  have hb := hr.2.1
  have hv := hb.1.1.2
  have hT := hb.1.1.1
  have hG := hb.1
  exact lwS_of ⟨rfl, h.1.1⟩ rfl hC ⟨rfl, hG⟩ rfl (fM_if (fun _ => fM_if (fun _ => fM_run hG) (fun _ => fM.rf hT)) (fun _ => fM.rf hT)) (st_why hr x t)
theorem lw_meeting {w : sm_W} (h : Rel w w) (n : Int) (c : Int) : lwS p_X7_meeting f_X7_meeting p_X8_meeting f_X8_meeting [.inl n, .inl c] w := by
  have hC : fC w (f_X7_meeting [.inr (.inl 0), .inl n, .inl c] w).2 := fC_mGa h.1.1
  have hr := Rel_c h hC
  have hb := hr.2.1
  have hv := hb.1.1.2
  have hT := hb.1.1.1
  have hG := hb.1
  exact lwS_of ⟨rfl, h.1.1⟩ rfl hC ⟨rfl, hG⟩ rfl (fM_run hG) (st_meeting hr n c)
theorem lw_delayIfLate {w : sm_W} (h : Rel w w) (x : Int) (v : Int) : lwS p_X7_delayIfLate f_X7_delayIfLate p_X8_delayIfLate f_X8_delayIfLate [.inl x, .inl v] w := by
  have hC : fC w (f_X7_delayIfLate [.inr (.inl 0), .inl x, .inl v] w).2 := fC_if (fun _ => fC_cT h.1.1.1) (fun c => (fC_st (fC_cT h.1.1.1) (by decide)).tr (fC_run (cTL_ok h.1.1.1 c)))
  have hr := Rel_c h hC
  have hb := hr.2.1
  have hv := hb.1.1.2
  have hT := hb.1.1.1
  have hG := hb.1
  exact lwS_of ⟨rfl, h.1.1⟩ rfl hC ⟨rfl, hG⟩ rfl (fM_if (fun _ => fM.rf hT) (fun c => fM_try hG ((mAs0_f _).st (by unfold sMm; omega)) (mIfL_gd hG c))) (st_ifLate hr x v)
theorem lw_delayIfSlow {w : sm_W} (h : Rel w w) (s : Int) (v : Int) : lwS p_X7_delayIfSlow f_X7_delayIfSlow p_X8_delayIfSlow f_X8_delayIfSlow [.inl s, .inl v] w := by
  have hC : fC w (f_X7_delayIfSlow [.inr (.inl 0), .inl s, .inl v] w).2 := fC_if (fun c => fC_if (fun c2 => (fC_st (fC_cT h.1.1.1) (by decide)).tr (fC_run (cTS_ok h.1.1.1 c c2))) (fun _ => fC_cT h.1.1.1)) (fun _ => fC_cT h.1.1.1)
  have hr := Rel_c h hC
  have hb := hr.2.1
  have hv := hb.1.1.2
  have hT := hb.1.1.1
  have hG := hb.1
  exact lwS_of ⟨rfl, h.1.1⟩ rfl hC ⟨rfl, hG⟩ rfl (fM_if (fun c => fM_if (fun c2 => fM_try hG ((mAs0_f _).st (by unfold sMm; omega)) (mIfS_gd hG c c2)) (fun _ => fM.rf hT)) (fun _ => fM.rf hT)) (st_ifSlow hr s v)
theorem lw_bestTrack {w : sm_W} (h : Rel w w) (k : Int) : lwS p_X7_bestTrack f_X7_bestTrack p_X8_bestTrack f_X8_bestTrack [.inl k] w := by
  have hC : fC w (f_X7_bestTrack [.inr (.inl 0), .inl k] w).2 := fC_if (fun _ => fC_bT h.1.1.1 8 (by decide)) (fun _ => fC_if (fun _ => fC_bT h.1.1.1 8 (by decide)) (fun _ => fC.rf h.1.1.1.1))
  have hr := Rel_c h hC
  have hb := hr.2.1
  have hv := hb.1.1.2
  have hT := hb.1.1.1
  have hG := hb.1
  exact lwS_of ⟨rfl, h.1.1⟩ rfl hC ⟨rfl, hG⟩ rfl (fM_if (fun _ => fM_mBt hG 8 (by decide)) (fun _ => fM.rf hT)) (st_bestTrack hr k)
theorem fM_best {u : sm_W} (hG : mGd0 u) (h5 : wI u 155 1 ≤ 5) : fM u (mBack (mBo u (mOrds (wI u 155 1) (wI u 155 1))).1) := by
  have hm := vOK_many hG.1.2
  have hO := mOrds_b hm.1 h5 hm.1 (Int.le_refl _)
  have q := fM_mBo hG h5 (mOrds (wI u 155 1) (wI u 155 1)).toNat
  rw [Int.toNat_of_nonneg hO.1] at q
  exact q.tr (fM_fr (mBack_f _) q.1 sMm_b)
theorem lw_bestOrder {w : sm_W} (h : Rel w w) (k : Int) : lwS p_X7_bestOrder f_X7_bestOrder p_X8_bestOrder f_X8_bestOrder [.inl k] w := by
  have hC : fC w (f_X7_bestOrder [.inr (.inl 0), .inl k] w).2 := fC_if (fun _ => fC_if (fun _ => fC.rf h.1.1.1.1) (fun c => fC_tAll h.1.1.1 (by omega))) (fun _ => fC.rf h.1.1.1.1)
  have hr := Rel_c h hC
  have hb := hr.2.1
  have hv := hb.1.1.2
  have hT := hb.1.1.1
  have hG := hb.1
  exact lwS_of ⟨rfl, h.1.1⟩ rfl hC ⟨rfl, hG⟩ rfl (fM_if (fun _ => fM_if (fun _ => fM.rf hT) (fun c => fM_best hG (Int.not_lt.mp c))) (fun _ => fM.rf hT)) (st_bestOrder hr k)
theorem lw_put {w : sm_W} (h : Rel w w) (c : Int64) : lwS p_X7_put f_X7_put p_X8_put f_X8_put [(.inr (.inr c))] w := by
  have hC : fC w (f_X7_put [.inr (.inl 0), (.inr (.inr c))] w).2 := fC_if (fun _ => fC.rf h.1.1.1.1) (fun _ => fC_if (fun _ => fC.rf h.1.1.1.1) (fun _ => fC_fr (kApL c _ w _ (kC_b 8 c 0 (Int.le_refl _)).1).1 h.1.1.1.1 (fun a i v hs => by omega)))
  have hr := Rel_c h hC
  have hb := hr.2.1
  have hv := hb.1.1.2
  have hT := hb.1.1.1
  have hG := hb.1
  exact lwS_of ⟨rfl, h.1.1.1.1, by have := (tOK_F0.mp h.2.1.2.2.2.1).2.1; have e := h.2.2.2.2.2.1; omega⟩ rfl hC ⟨rfl, hT, (tOK_F0.mp hb.2.2.2.1).2.1⟩ rfl (fM_if (fun _ => fM.rf hT) (fun _ => fM_if (fun _ => fM.rf hT) (fun _ => fM_fr (S := sMm) ((sFr.it (f := mPut1 c _ _) _ (by have := (kC_8 c).1; have := kC_b 8 c 0 (Int.le_refl _); omega) (fun i r _ _ _ => (sFr.refl r).st (by unfold sMm; omega))).st (by unfold sMm; omega)) hT sMm_b))) (st_put hr c)
theorem lw_wipe {w : sm_W} (h : Rel w w)  : lwS p_X7_wipe f_X7_wipe p_X8_wipe f_X8_wipe [] w := by
  have hC : fC w (f_X7_wipe [.inr (.inl 0)] w).2 := fC_st (fC.rf h.1.1.1.1) (by decide)
  have hr := Rel_c h hC
  have hb := hr.2.1
  have hv := hb.1.1.2
  have hT := hb.1.1.1
  have hG := hb.1
  exact lwS_of ⟨rfl, h.1.1.1.1⟩ rfl hC ⟨rfl, hT⟩ rfl (fM_fr (S := sMm) (fr1 _ _ (by unfold sMm; omega)) hT sMm_b) (⟨h.2.2.2.2.2.1.trans rfl, (st_wipe hr).2⟩)
theorem lw_fault {w : sm_W} (h : Rel w w)  : lwS p_X7_fault f_X7_fault p_X8_fault f_X8_fault [] w := by
  have hC : fC w (f_X7_fault [.inr (.inl 0)] w).2 := (fC_st (fC.rf h.1.1.1.1) (by decide)).tr (fC_fr (kF_in 80 (kF0 w) h.1.2.2 (by unfold kF0; rw [wI_wsI, if_pos ⟨rfl, rfl⟩]; decide)).1 h.1.2.2.1 (fun a i v hs => by unfold sRd at hs; omega))
  have hr := Rel_c h hC
  have hb := hr.2.1
  have hv := hb.1.1.2
  have hT := hb.1.1.1
  have hG := hb.1
  exact lwS_of ⟨rfl, h.1.2.2⟩ rfl hC ⟨rfl, hb.2.2.2.1⟩ rfl (tFault_f hb.2.2.2.1) (st_fault hr)
theorem lw_undo {w : sm_W} (h : Rel w w)  : lwS p_X7_undo f_X7_undo p_X8_undo f_X8_undo [] w := by
  have hC : fC w (f_X7_undo [.inr (.inl 0)] w).2 := fC_if (fun _ => fC.rf h.1.1.1.1) (fun _ => (fC_st (fC.rf h.1.1.1.1) (by decide)).tr (fC_fr (cpL_fr 2 _ _) (sT_wsI h.1.1.1.1) (fun a i v hs => by unfold sLn at hs; omega)))
  have hr := Rel_c h hC
  have hb := hr.2.1
  have hv := hb.1.1.2
  have hT := hb.1.1.1
  have hG := hb.1
  exact lwS_of ⟨rfl, h.1.1.1.1, h.1.1.2⟩ rfl hC ⟨rfl, hT, hb.2.2.1⟩ rfl (fM_if (fun _ => fM.rf hT) (fun _ => fM_fr (S := sMm) ((fr1 _ _ (by unfold sMm; omega)).trans (sFr.it (f := mUn1 _) 57 (by decide) (fun i r _ _ _ => (sFr.refl r).st (by unfold sMm; omega)))) hT sMm_b)) (st_undo hr)
theorem lw_save {w : sm_W} (h : Rel w w) (s : Int) : lwS p_X7_save f_X7_save p_X8_save f_X8_save [.inl s] w := by
  have hC : fC w (f_X7_save [.inr (.inl 0), .inl s] w).2 := fC_if (fun _ => fC_st (fC_fr (cpL_fr _ 2 w) h.1.1.1.1 (fun a i v hs => by have := cSl_b s; unfold sLn at hs; omega)) (by decide)) (fun _ => fC.rf h.1.1.1.1)
  have hr := Rel_c h hC
  have hb := hr.2.1
  have hv := hb.1.1.2
  have hT := hb.1.1.1
  have hG := hb.1
  exact lwS_of ⟨rfl, h.1.1.1.1⟩ rfl hC ⟨rfl, hT⟩ rfl (fM_if (fun _ => fM_fr (S := sMm) ((sFr.it (f := mSv1 s) 57 (by decide) (fun i r _ _ _ => (sFr.refl r).st (by unfold sMm; omega))).st (by unfold sMm; omega)) hT sMm_b) (fun _ => fM.rf hT)) (st_save hr s)
theorem lw_restore {w : sm_W} (h : Rel w w) (s : Int) : lwS p_X7_restore f_X7_restore p_X8_restore f_X8_restore [.inl s] w := by
  have hC : fC w (f_X7_restore [.inr (.inl 0), .inl s] w).2 := fC_if (fun _ => fC_if (fun _ => fC.rf h.1.1.1.1) (fun _ => by unfold cChg; exact fC_if (fun _ => (fC_cB h.1.1).tr (fC_fr (cpL_fr 2 _ _) (cB_in h.1.1).1 (fun a i v hs => by unfold sLn at hs; omega))) (fun _ => fC_k1 h (cpL_fr 2 _ _)))) (fun _ => fC.rf h.1.1.1.1)
  have hr := Rel_c h hC
  have hb := hr.2.1
  have hv := hb.1.1.2
  have hT := hb.1.1.1
  have hG := hb.1
  exact lwS_of ⟨rfl, h.1.1⟩ rfl hC ⟨rfl, hT, hb.2.2.1⟩ rfl (fM_if (fun _ => fM_if (fun _ => fM.rf hT) (fun _ => fM_keep hT (sFr.it (f := mRs1 s) 57 (by decide) (fun i r _ _ _ => (sFr.refl r).st rfl)))) (fun _ => fM.rf hT)) (st_restore hr s)
theorem lw_carryOut {w : sm_W} (h : Rel w w)  : lwS p_X7_carryOut f_X7_carryOut p_X8_carryOut f_X8_carryOut [] w := by
  have hC : fC w (f_X7_carryOut [.inr (.inl 0)] w).2 := fC_carry h
  have hr := Rel_c h hC
  have hb := hr.2.1
  have hv := hb.1.1.2
  have hT := hb.1.1.1
  have hG := hb.1
  exact lwS_of ⟨rfl, h.1.1, h.1.2.2⟩ rfl hC ⟨rfl, hb.1.1, hb.2.2.1, hb.2.2.2.1⟩ rfl (fM_carry hr) (st_carry hr)
