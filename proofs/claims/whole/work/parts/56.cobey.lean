/-! THE CLASS: orders are carried out -/
def eq57 (u v : Int → Int) : Prop := ∀ j, 0 ≤ j → j < 57 → u j = v j
theorem eq57.rf (v : Int → Int) : eq57 v v := fun _ _ _ => rfl
theorem eq57.tr {u v z : Int → Int} (h : eq57 u v) (h2 : eq57 v z) : eq57 u z := fun j a b => (h j a b).trans (h2 j a b)
theorem eq57.sy {u v : Int → Int} (h : eq57 u v) : eq57 v u := fun j a b => (h j a b).symm
theorem eq57.up {u v : Int → Int} (h : eq57 u v) (i x : Int) : eq57 (updI u i x) (updI v i x) := fun j a b => by
  unfold updI
  split
  · rfl
  · exact h j a b
theorem vOK_57 {u v : Int → Int} (h : eq57 u v) (hv : vOK v) : vOK u := by
  have hn := vOK_many hv
  have e1 : u 1 = v 1 := h 1 (by decide) (by decide)
  obtain ⟨a1, a2, a3, a4, a5⟩ := hv
  refine ⟨by rw [h 0 (by decide) (by decide)]; exact a1, by rw [e1]; exact a2, fun k k0 k1 => by rw [h (2 + k) (by omega) (by omega)]; exact a3 k k0 k1, fun k k0 k1 => by rw [h (10 + k) (by omega) (by omega)]; exact a4 k k0 k1, fun y y0 y1 => ?_⟩
  rw [e1] at y1
  rw [h (17 + 5 * y) (by omega) (by omega), h (17 + 5 * y + 1) (by omega) (by omega), h (17 + 5 * y + 2) (by omega) (by omega), h (17 + 5 * y + 3) (by omega) (by omega), h (17 + 5 * y + 4) (by omega) (by omega)]
  exact a5 y y0 y1
/-- a world whose reference holds some numbers -/
def wOf (v : Int → Int) : sm_W := (0, (fun _ => (0, 0)), (fun _ => v), (fun _ _ => none))
theorem wOf_at (v : Int → Int) (a : Nat) : wI (wOf v) a = v := rfl
/-- one shuttle more -/
theorem vL_new (w : sm_W) (a : Nat) (hn : 0 ≤ wI w a 7) (p q c d e : Int) : vL (lNewSh a w p q c d e) a = wI (mNewSh (wOf (vL w a)) p q c d e) 155 := by
  have h1 : wI (wOf (vL w a)) 155 1 = wI w a 7 := rfl
  unfold lNewSh mNewSh
  rw [vL_u7n, vL_u7 _ _ _ hn, vL_u6 _ _ _ hn, vL_u5 _ _ _ hn, vL_u4 _ _ _ hn, vL_u3 _ _ _ hn, h1, wI_updI, wI_updI, wI_updI, wI_updI, wI_updI, wI_updI, wOf_at]
theorem lRm_in (a : Nat) (x : Int) (w : sm_W) (n : Int) (n0 : 0 ≤ n) : ∀ (r : Nat), 3 ≤ r → r ≤ 7 → ∀ k, wI (itI (fun j => lRm1 a (x + j)) w n) (a + r) k = if x ≤ k ∧ k < x + n then wI w (a + r) (k + 1) else wI w (a + r) k := by
  refine itI_ind (f := fun j => lRm1 a (x + j)) (fun i r => ∀ (b : Nat), 3 ≤ b → b ≤ 7 → ∀ k, wI r (a + b) k = if x ≤ k ∧ k < x + i then wI w (a + b) (k + 1) else wI w (a + b) k) n (fun b _ _ k => (if_neg (by omega)).symm) (fun i r i0 i1 hr b b0 b1 k => ?_) n n0 (Int.le_refl _)
  have key : wI (lRm1 a (x + i) r) (a + b) k = if k = x + i then wI r (a + b) (k + 1) else wI r (a + b) k := by
    unfold lRm1
    have hb : b = 3 ∨ b = 4 ∨ b = 5 ∨ b = 6 ∨ b = 7 := by omega
    simp only [wI_wsI]
    rcases hb with rfl | rfl | rfl | rfl | rfl <;> simp only [Nat.add_left_cancel_iff, Nat.reduceEqDiff, false_and, true_and, if_false] <;> split <;> first | (next e => rw [e]) | rfl
  show wI (lRm1 a (x + i) r) (a + b) k = _
  rw [key, hr b b0 b1 k, hr b b0 b1 (k + 1)]
  by_cases c : k = x + i
  · rw [if_pos c, if_neg (by omega), if_pos (by omega)]
  · rw [if_neg c]
    by_cases c2 : x ≤ k ∧ k < x + i
    · rw [if_pos c2, if_pos (by omega)]
    · rw [if_neg c2, if_neg (show ¬ (x ≤ k ∧ k < x + (i + 1)) by omega)]
/-- a shuttle less -/
theorem vL_rm {w : sm_W} {a : Nat} {x : Int} (x0 : 0 ≤ x) (x1 : x < wI w a 7) (b : Int) : eq57 (vL (lRm a w x) a) (wI (mRm (wOf (vL w a)) x b) 155) := by
  have h1 : wI (wOf (vL w a)) 155 1 = wI w a 7 := rfl
  intro j j0 j1
  rw [mRm_at (w := wOf (vL w a)) x0 (by rw [h1]; exact x1) j, h1, wOf_at]
  have hin := lRm_in a x (wsI w a 7 (wI w a 7 - 1)) (wI w a 7 - 1 - x) (by omega)
  have hL := lRmL a x (wsI w a 7 (wI w a 7 - 1)) (wI w a 7 - 1 - x) (by omega)
  have ho : ∀ c : Nat, (c = a + 1 ∨ c = a + 2) → wI (lRm a w x) c = wI w c := fun c hc => by
    have := itI_ind (f := fun j => lRm1 a (x + j)) (a := wsI w a 7 (wI w a 7 - 1)) (fun _ r => wI r c = wI w c) (wI w a 7 - 1 - x) (wIf_ne (by omega)) (fun i r _ _ hr => by unfold lRm1; rw [wIf_ne (by omega), wIf_ne (by omega), wIf_ne (by omega), wIf_ne (by omega), wIf_ne (by omega), hr]) (wI w a 7 - 1 - x) (by omega) (Int.le_refl _)
    exact this
  have hE : itI (fun j => lRm1 a (x + j)) (wsI w a 7 (wI w a 7 - 1)) (wI w a 7 - 1 - x) = lRm a w x := rfl
  rw [hE] at hin hL
  have e7 : wI (lRm a w x) a 7 = wI w a 7 - 1 := by rw [hL.1, wI_wsI, if_pos ⟨rfl, rfl⟩]
  have e8 : wI (lRm a w x) a 8 = wI w a 8 := by rw [hL.1, wI_wsI, if_neg (by omega)]
  have hr : ∀ (r : Nat), 3 ≤ r → r ≤ 7 → ∀ k, wI (lRm a w x) (a + r) k = if x ≤ k ∧ k < wI w a 7 - 1 then wI w (a + r) (k + 1) else wI w (a + r) k := fun r r0 r1 k => by
    rw [hin r r0 r1 k, wIf_ne (show ¬ a + r = a by omega), show x + (wI w a 7 - 1 - x) = wI w a 7 - 1 by omega]
  unfold vL
  rw [e7, e8, ho (a + 1) (Or.inl rfl), ho (a + 2) (Or.inr rfl), hr 3 (by omega) (by omega), hr 4 (by omega) (by omega), hr 5 (by omega) (by omega), hr 6 (by omega) (by omega), hr 7 (by omega) (by omega)]
  by_cases c0 : j = 0
  · rw [if_pos c0, if_neg (by omega), if_neg (by omega), if_pos c0]
  · rw [if_neg c0]
    by_cases c1 : j = 1
    · rw [if_pos c1, if_neg (by omega), if_pos c1]
    · rw [if_neg c1, if_neg c1]
      by_cases c10 : j < 10
      · rw [if_pos c10, if_neg (by omega), if_neg c0, if_pos c10, if_neg c1]
      · rw [if_neg c10]
        by_cases c17 : j < 17
        · rw [if_pos c17, if_neg (by omega), if_neg c0, if_neg c10, if_pos c17, if_neg c1]
        · rw [if_neg c17, if_neg c0, if_neg c10, if_neg c17, if_neg (show ¬ j + 5 = 0 by omega), if_neg (show ¬ j + 5 = 1 by omega), if_neg (show ¬ j + 5 < 10 by omega), if_neg (show ¬ j + 5 < 17 by omega), show (j + 5 - 17) % 5 = (j - 17) % 5 by omega, show (j + 5 - 17) / 5 = (j - 17) / 5 + 1 by omega]
          by_cases cm : 17 + 5 * x ≤ j ∧ j < 17 + 5 * (wI w a 7 - 1)
          · have cm2 : x ≤ (j - 17) / 5 ∧ (j - 17) / 5 < wI w a 7 - 1 := by omega
            rw [if_pos cm, if_pos cm2, if_pos cm2, if_pos cm2, if_pos cm2, if_pos cm2]
          · have cm2 : ¬ (x ≤ (j - 17) / 5 ∧ (j - 17) / 5 < wI w a 7 - 1) := by omega
            rw [if_neg cm, if_neg cm2, if_neg cm2, if_neg cm2, if_neg cm2, if_neg cm2, if_neg c1]
/-- a copy of a line -/
theorem vL_cp {w : sm_W} {a b : Nat} (h : a + 8 ≤ b ∨ b + 8 ≤ a) : eq57 (vL (cpL a b w) a) (vL w b) := by
  have e7 : wI (cpL a b w) a 7 = wI w b 7 := by
    unfold cpL
    rw [wI_wsI, if_neg (by omega), wI_wsI, if_pos ⟨rfl, rfl⟩]
  have e8 : wI (cpL a b w) a 8 = wI w b 8 := by
    unfold cpL
    rw [wI_wsI, if_pos ⟨rfl, rfl⟩]
  have key : ∀ (k : Nat) (n : Int), (k = 1 ∧ n = 8 ∨ k = 2 ∧ n = 7 ∨ (3 ≤ k ∧ k ≤ 7) ∧ n = 8) → ∀ j, 0 ≤ j → j < n → wI (cpL a b w) (a + k) j = wI w (b + k) j := by
    intro k n hk j j0 j1
    have hk2 : k = 1 ∨ k = 2 ∨ k = 3 ∨ k = 4 ∨ k = 5 ∨ k = 6 ∨ k = 7 := by omega
    unfold cpL
    rw [wIf_ne (by omega), wIf_ne (by omega)]
    simp only [wI_wCp]
    rcases hk2 with rfl | rfl | rfl | rfl | rfl | rfl | rfl
    · rw [if_neg (by omega), if_neg (by omega), if_neg (by omega), if_neg (by omega), if_neg (by omega), if_neg (by omega), if_pos (by omega)]
    · rw [if_neg (by omega), if_neg (by omega), if_neg (by omega), if_neg (by omega), if_neg (by omega), if_pos (by omega), if_neg (by omega)]
    · rw [if_neg (by omega), if_neg (by omega), if_neg (by omega), if_neg (by omega), if_pos (by omega), if_neg (by omega), if_neg (by omega)]
    · rw [if_neg (by omega), if_neg (by omega), if_neg (by omega), if_pos (by omega), if_neg (by omega), if_neg (by omega), if_neg (by omega)]
    · rw [if_neg (by omega), if_neg (by omega), if_pos (by omega), if_neg (by omega), if_neg (by omega), if_neg (by omega), if_neg (by omega)]
    · rw [if_neg (by omega), if_pos (by omega), if_neg (by omega), if_neg (by omega), if_neg (by omega), if_neg (by omega), if_neg (by omega)]
    · rw [if_pos (by omega), if_neg (by omega), if_neg (by omega), if_neg (by omega), if_neg (by omega), if_neg (by omega), if_neg (by omega)]
  intro j j0 j1
  unfold vL
  rw [e7, e8]
  by_cases c0 : j = 0
  · rw [if_pos c0, if_pos c0]
  · rw [if_neg c0, if_neg c0]
    by_cases c1 : j = 1
    · rw [if_pos c1, if_pos c1]
    · rw [if_neg c1, if_neg c1]
      by_cases c10 : j < 10
      · rw [if_pos c10, if_pos c10, key 1 8 (by omega) _ (by omega) (by omega)]
      · rw [if_neg c10, if_neg c10]
        by_cases c17 : j < 17
        · rw [if_pos c17, if_pos c17, key 2 7 (by omega) _ (by omega) (by omega)]
        · rw [if_neg c17, if_neg c17, key 3 8 (by omega) _ (by omega) (by omega), key 4 8 (by omega) _ (by omega) (by omega), key 5 8 (by omega) _ (by omega) (by omega), key 6 8 (by omega) _ (by omega) (by omega), key 7 8 (by omega) _ (by omega) (by omega)]
/-- the cells of a line -/
def sLn (a : Nat) (x : Nat) (_ _ : Int) : Prop := a ≤ x ∧ x ≤ a + 7
theorem cpL_fr (a b : Nat) (w : sm_W) : sFr (sLn a) w (cpL a b w) := by
  have h : ∀ k, k ≤ 7 → ∀ j v, sLn a (a + k) j v := fun k hk j v => ⟨by omega, by omega⟩
  have h0 : ∀ j v, sLn a a j v := fun j v => ⟨by omega, by omega⟩
  exact (((((((((sFr.refl w).cp (h 1 (by omega))).cp (h 2 (by omega))).cp (h 3 (by omega))).cp (h 4 (by omega))).cp (h 5 (by omega))).cp (h 6 (by omega))).cp (h 7 (by omega))).st (h0 _ _)).st (h0 _ _)
def kM (w : sm_W) (i : Int) : Int := wI w 85 i
def kObA (w : sm_W) (a : Nat) : Int := if wI w 83 3 = 115 then (if mShOk (wI w 85 0) (wI w 85 1) (wI w 85 2) (wI w 85 3) (wI w 85 4) < 0 then mShOk (wI w 85 0) (wI w 85 1) (wI w 85 2) (wI w 85 3) (wI w 85 4) else (if wI w a 7 = 8 then -4 else wI w a 7)) else (if wI w 83 3 = 108 then (if lLateE w a (wI w 85 0) (wI w 85 1) < 0 then lLateE w a (wI w 85 0) (wI w 85 1) else wI w (a + 5) (wI w 85 0) + wI w 85 1) else (if wI w 83 3 = 116 then (if 0 ≤ wI w 85 0 ∧ wI w 85 0 ≤ 7 then (if 1 ≤ wI w 85 1 ∧ wI w 85 1 ≤ 4 then wI w (a + 1) (wI w 85 0) else -2) else -1) else (if wI w 83 3 = 114 then (if 0 ≤ wI w 85 0 ∧ wI w 85 0 ≤ 6 then (if 1 ≤ wI w 85 1 ∧ wI w 85 1 ≤ 30 then wI w (a + 2) (wI w 85 0) else -2) else -1) else (if wI w 83 3 = 112 then (if 0 ≤ wI w 85 0 ∧ wI w 85 0 < wI w a 7 then (if 0 ≤ wI w 85 1 ∧ wI w 85 1 ≤ 9 then wI w (a + 7) (wI w 85 0) else -2) else -1) else (if wI w 83 3 = 120 then (if 0 ≤ wI w 85 0 ∧ wI w 85 0 < wI w a 7 then wI w a 7 - 1 else -1) else -3)))))
def kObW (w : sm_W) (a : Nat) : sm_W := if wI w 83 3 = 115 then (if mShOk (wI w 85 0) (wI w 85 1) (wI w 85 2) (wI w 85 3) (wI w 85 4) < 0 then w else (if wI w a 7 = 8 then w else lNewSh a w (wI w 85 0) (wI w 85 1) (wI w 85 2) (wI w 85 3) (wI w 85 4))) else (if wI w 83 3 = 108 then (if lLateE w a (wI w 85 0) (wI w 85 1) < 0 then w else wsI w (a + 5) (wI w 85 0) (wI w (a + 5) (wI w 85 0) + wI w 85 1)) else (if wI w 83 3 = 116 then (if 0 ≤ wI w 85 0 ∧ wI w 85 0 ≤ 7 then (if 1 ≤ wI w 85 1 ∧ wI w 85 1 ≤ 4 then wsI w (a + 1) (wI w 85 0) (wI w 85 1) else w) else w) else (if wI w 83 3 = 114 then (if 0 ≤ wI w 85 0 ∧ wI w 85 0 ≤ 6 then (if 1 ≤ wI w 85 1 ∧ wI w 85 1 ≤ 30 then wsI w (a + 2) (wI w 85 0) (wI w 85 1) else w) else w) else (if wI w 83 3 = 112 then (if 0 ≤ wI w 85 0 ∧ wI w 85 0 < wI w a 7 then (if 0 ≤ wI w 85 1 ∧ wI w 85 1 ≤ 9 then wsI w (a + 7) (wI w 85 0) (wI w 85 1) else w) else w) else (if wI w 83 3 = 120 then (if 0 ≤ wI w 85 0 ∧ wI w 85 0 < wI w a 7 then lRm a w (wI w 85 0) else w) else w)))))
def p_X5_obeyOrder : List sm_V → sm_W → Prop
  | [.inr (.inl o), .inr (.inl a)], w => o = 83 ∧ lOK w a
  | _, _ => False
def f_X5_obeyOrder : sm_F
  | [.inr (.inl o), .inr (.inl a)], w => (some (.inl (kObA w a)), kObW w a)
  | _, w => (none, w)
def tb_X5_obeyOrder : List (Nat × List sm_O) := [(0, [oA 0, oGi 5 5 3, oSw 108 [107, 186, 186, 186, 158, 186, 141, 72, 124, 186, 186, 186, 175] 186]),
  (72, [oA 1, oA 0, oGr 5 5 4, oK 0, oIl, oA 0, oGr 5 5 4, oK 1, oIl, oA 0, oGr 5 5 4, oK 2, oIl, oA 0, oGr 5 5 4, oK 3, oIl, oA 0, oGr 5 5 4, oK 4, oIl, oCv 2 9 p_X2_addShuttle f_X2_addShuttle 0 0 6, oIr]),
  (107, [oA 1, oA 0, oGr 5 5 4, oK 0, oIl, oA 0, oGr 5 5 4, oK 1, oIl, oCv 2 9 p_X2_startLater f_X2_startLater 0 0 3, oIr]),
  (124, [oA 1, oA 0, oGr 5 5 4, oK 0, oIl, oA 0, oGr 5 5 4, oK 1, oIl, oCv 2 9 p_X2_setTracks f_X2_setTracks 0 0 3, oIr]),
  (141, [oA 1, oA 0, oGr 5 5 4, oK 0, oIl, oA 0, oGr 5 5 4, oK 1, oIl, oCv 2 9 p_X2_setRunning f_X2_setRunning 0 0 3, oIr]),
  (158, [oA 1, oA 0, oGr 5 5 4, oK 0, oIl, oA 0, oGr 5 5 4, oK 1, oIl, oCv 2 9 p_X2_setPriority f_X2_setPriority 0 0 3, oIr]),
  (175, [oA 1, oA 0, oGr 5 5 4, oK 0, oIl, oCv 2 9 p_X2_takeAway f_X2_takeAway 0 0 2, oIr]),
  (186, [oK (-3), oIr])]
set_option maxRecDepth 100000 in
theorem sb_X5_obeyOrder_0 (l : Launch) : sm_SndB l RX5 "obeyOrder" cX5_obeyOrder 2 1 2 0 [oA 0, oGi 5 5 3, oSw 108 [107, 186, 186, 186, 158, 186, 141, 72, 124, 186, 186, 186, 175] 186] := sb_cons (sd_aload_n (by decide +kernel : decode cX5_obeyOrder 0 = .ok (.aload_n 0, 1)) rfl) (sb_cons (sd_geti (k := 3) kl_5 (by decide) rfl wm_130 (by decide +kernel : decode cX5_obeyOrder 1 = .ok (.getfield 44, 3))) (sb_cons (sd_sw (x := 0) (by decide +kernel : decode cX5_obeyOrder 4 = .ok (.tableswitch 182 108 120 #[103, 182, 182, 182, 154, 182, 137, 68, 120, 182, 182, 182, 171], 68)) (by decide) (by decide) (by decide)) sb_nil))
set_option maxRecDepth 100000 in
theorem sb_X5_obeyOrder_72 (l : Launch) : sm_SndB l RX5 "obeyOrder" cX5_obeyOrder 2 1 2 72 [oA 1, oA 0, oGr 5 5 4, oK 0, oIl, oA 0, oGr 5 5 4, oK 1, oIl, oA 0, oGr 5 5 4, oK 2, oIl, oA 0, oGr 5 5 4, oK 3, oIl, oA 0, oGr 5 5 4, oK 4, oIl, oCv 2 9 p_X2_addShuttle f_X2_addShuttle 0 0 6, oIr] := sb_cons (sd_aload_n (by decide +kernel : decode cX5_obeyOrder 72 = .ok (.aload_n 1, 1)) rfl) (sb_cons (sd_aload_n (by decide +kernel : decode cX5_obeyOrder 73 = .ok (.aload_n 0, 1)) rfl) (sb_cons (sd_getr (k := 4) kl_5 (by decide) rfl wm_131 (by decide +kernel : decode cX5_obeyOrder 74 = .ok (.getfield 15, 3))) (sb_cons (sd_iconst (by decide +kernel : decode cX5_obeyOrder 77 = .ok (.iconst 0, 1)) ⟨by decide, by decide⟩) (sb_cons (sd_iaload (by decide +kernel : decode cX5_obeyOrder 78 = .ok (.iaload, 1))) (sb_cons (sd_aload_n (by decide +kernel : decode cX5_obeyOrder 79 = .ok (.aload_n 0, 1)) rfl) (sb_cons (sd_getr (k := 4) kl_5 (by decide) rfl wm_131 (by decide +kernel : decode cX5_obeyOrder 80 = .ok (.getfield 15, 3))) (sb_cons (sd_iconst (by decide +kernel : decode cX5_obeyOrder 83 = .ok (.iconst 1, 1)) ⟨by decide, by decide⟩) (sb_cons (sd_iaload (by decide +kernel : decode cX5_obeyOrder 84 = .ok (.iaload, 1))) (sb_cons (sd_aload_n (by decide +kernel : decode cX5_obeyOrder 85 = .ok (.aload_n 0, 1)) rfl) (sb_cons (sd_getr (k := 4) kl_5 (by decide) rfl wm_131 (by decide +kernel : decode cX5_obeyOrder 86 = .ok (.getfield 15, 3))) (sb_cons (sd_iconst (by decide +kernel : decode cX5_obeyOrder 89 = .ok (.iconst 2, 1)) ⟨by decide, by decide⟩) (sb_cons (sd_iaload (by decide +kernel : decode cX5_obeyOrder 90 = .ok (.iaload, 1))) (sb_cons (sd_aload_n (by decide +kernel : decode cX5_obeyOrder 91 = .ok (.aload_n 0, 1)) rfl) (sb_cons (sd_getr (k := 4) kl_5 (by decide) rfl wm_131 (by decide +kernel : decode cX5_obeyOrder 92 = .ok (.getfield 15, 3))) (sb_cons (sd_iconst (by decide +kernel : decode cX5_obeyOrder 95 = .ok (.iconst 3, 1)) ⟨by decide, by decide⟩) (sb_cons (sd_iaload (by decide +kernel : decode cX5_obeyOrder 96 = .ok (.iaload, 1))) (sb_cons (sd_aload_n (by decide +kernel : decode cX5_obeyOrder 97 = .ok (.aload_n 0, 1)) rfl) (sb_cons (sd_getr (k := 4) kl_5 (by decide) rfl wm_131 (by decide +kernel : decode cX5_obeyOrder 98 = .ok (.getfield 15, 3))) (sb_cons (sd_iconst (by decide +kernel : decode cX5_obeyOrder 101 = .ok (.iconst 4, 1)) ⟨by decide, by decide⟩) (sb_cons (sd_iaload (by decide +kernel : decode cX5_obeyOrder 102 = .ok (.iaload, 1))) (sb_cons (sd_callv (n := 5) (met_X2_addShuttle l) (by decide) (by decide) wm_223 wm_636 wm_3 ⟨by decide +kernel, by decide +kernel, by decide +kernel⟩ kl_2 wm_221 wm_222 (by decide +kernel : decode cX5_obeyOrder 103 = .ok (.invokevirtual 47, 3))) (sb_cons (sd_ireturn (x := 0) rfl (by decide +kernel : decode cX5_obeyOrder 106 = .ok (.ireturn, 1))) sb_nil))))))))))))))))))))))
set_option maxRecDepth 100000 in
theorem sb_X5_obeyOrder_107 (l : Launch) : sm_SndB l RX5 "obeyOrder" cX5_obeyOrder 2 1 2 107 [oA 1, oA 0, oGr 5 5 4, oK 0, oIl, oA 0, oGr 5 5 4, oK 1, oIl, oCv 2 9 p_X2_startLater f_X2_startLater 0 0 3, oIr] := sb_cons (sd_aload_n (by decide +kernel : decode cX5_obeyOrder 107 = .ok (.aload_n 1, 1)) rfl) (sb_cons (sd_aload_n (by decide +kernel : decode cX5_obeyOrder 108 = .ok (.aload_n 0, 1)) rfl) (sb_cons (sd_getr (k := 4) kl_5 (by decide) rfl wm_131 (by decide +kernel : decode cX5_obeyOrder 109 = .ok (.getfield 15, 3))) (sb_cons (sd_iconst (by decide +kernel : decode cX5_obeyOrder 112 = .ok (.iconst 0, 1)) ⟨by decide, by decide⟩) (sb_cons (sd_iaload (by decide +kernel : decode cX5_obeyOrder 113 = .ok (.iaload, 1))) (sb_cons (sd_aload_n (by decide +kernel : decode cX5_obeyOrder 114 = .ok (.aload_n 0, 1)) rfl) (sb_cons (sd_getr (k := 4) kl_5 (by decide) rfl wm_131 (by decide +kernel : decode cX5_obeyOrder 115 = .ok (.getfield 15, 3))) (sb_cons (sd_iconst (by decide +kernel : decode cX5_obeyOrder 118 = .ok (.iconst 1, 1)) ⟨by decide, by decide⟩) (sb_cons (sd_iaload (by decide +kernel : decode cX5_obeyOrder 119 = .ok (.iaload, 1))) (sb_cons (sd_callv (n := 2) (met_X2_startLater l) (by decide) (by decide) wm_233 wm_637 wm_3 ⟨by decide +kernel, by decide +kernel, by decide +kernel⟩ kl_2 wm_231 wm_232 (by decide +kernel : decode cX5_obeyOrder 120 = .ok (.invokevirtual 53, 3))) (sb_cons (sd_ireturn (x := 0) rfl (by decide +kernel : decode cX5_obeyOrder 123 = .ok (.ireturn, 1))) sb_nil))))))))))
set_option maxRecDepth 100000 in
theorem sb_X5_obeyOrder_124 (l : Launch) : sm_SndB l RX5 "obeyOrder" cX5_obeyOrder 2 1 2 124 [oA 1, oA 0, oGr 5 5 4, oK 0, oIl, oA 0, oGr 5 5 4, oK 1, oIl, oCv 2 9 p_X2_setTracks f_X2_setTracks 0 0 3, oIr] := sb_cons (sd_aload_n (by decide +kernel : decode cX5_obeyOrder 124 = .ok (.aload_n 1, 1)) rfl) (sb_cons (sd_aload_n (by decide +kernel : decode cX5_obeyOrder 125 = .ok (.aload_n 0, 1)) rfl) (sb_cons (sd_getr (k := 4) kl_5 (by decide) rfl wm_131 (by decide +kernel : decode cX5_obeyOrder 126 = .ok (.getfield 15, 3))) (sb_cons (sd_iconst (by decide +kernel : decode cX5_obeyOrder 129 = .ok (.iconst 0, 1)) ⟨by decide, by decide⟩) (sb_cons (sd_iaload (by decide +kernel : decode cX5_obeyOrder 130 = .ok (.iaload, 1))) (sb_cons (sd_aload_n (by decide +kernel : decode cX5_obeyOrder 131 = .ok (.aload_n 0, 1)) rfl) (sb_cons (sd_getr (k := 4) kl_5 (by decide) rfl wm_131 (by decide +kernel : decode cX5_obeyOrder 132 = .ok (.getfield 15, 3))) (sb_cons (sd_iconst (by decide +kernel : decode cX5_obeyOrder 135 = .ok (.iconst 1, 1)) ⟨by decide, by decide⟩) (sb_cons (sd_iaload (by decide +kernel : decode cX5_obeyOrder 136 = .ok (.iaload, 1))) (sb_cons (sd_callv (n := 2) (met_X2_setTracks l) (by decide) (by decide) wm_197 wm_638 wm_3 ⟨by decide +kernel, by decide +kernel, by decide +kernel⟩ kl_2 wm_195 wm_196 (by decide +kernel : decode cX5_obeyOrder 137 = .ok (.invokevirtual 57, 3))) (sb_cons (sd_ireturn (x := 0) rfl (by decide +kernel : decode cX5_obeyOrder 140 = .ok (.ireturn, 1))) sb_nil))))))))))
set_option maxRecDepth 100000 in
theorem sb_X5_obeyOrder_141 (l : Launch) : sm_SndB l RX5 "obeyOrder" cX5_obeyOrder 2 1 2 141 [oA 1, oA 0, oGr 5 5 4, oK 0, oIl, oA 0, oGr 5 5 4, oK 1, oIl, oCv 2 9 p_X2_setRunning f_X2_setRunning 0 0 3, oIr] := sb_cons (sd_aload_n (by decide +kernel : decode cX5_obeyOrder 141 = .ok (.aload_n 1, 1)) rfl) (sb_cons (sd_aload_n (by decide +kernel : decode cX5_obeyOrder 142 = .ok (.aload_n 0, 1)) rfl) (sb_cons (sd_getr (k := 4) kl_5 (by decide) rfl wm_131 (by decide +kernel : decode cX5_obeyOrder 143 = .ok (.getfield 15, 3))) (sb_cons (sd_iconst (by decide +kernel : decode cX5_obeyOrder 146 = .ok (.iconst 0, 1)) ⟨by decide, by decide⟩) (sb_cons (sd_iaload (by decide +kernel : decode cX5_obeyOrder 147 = .ok (.iaload, 1))) (sb_cons (sd_aload_n (by decide +kernel : decode cX5_obeyOrder 148 = .ok (.aload_n 0, 1)) rfl) (sb_cons (sd_getr (k := 4) kl_5 (by decide) rfl wm_131 (by decide +kernel : decode cX5_obeyOrder 149 = .ok (.getfield 15, 3))) (sb_cons (sd_iconst (by decide +kernel : decode cX5_obeyOrder 152 = .ok (.iconst 1, 1)) ⟨by decide, by decide⟩) (sb_cons (sd_iaload (by decide +kernel : decode cX5_obeyOrder 153 = .ok (.iaload, 1))) (sb_cons (sd_callv (n := 2) (met_X2_setRunning l) (by decide) (by decide) wm_210 wm_639 wm_3 ⟨by decide +kernel, by decide +kernel, by decide +kernel⟩ kl_2 wm_208 wm_209 (by decide +kernel : decode cX5_obeyOrder 154 = .ok (.invokevirtual 60, 3))) (sb_cons (sd_ireturn (x := 0) rfl (by decide +kernel : decode cX5_obeyOrder 157 = .ok (.ireturn, 1))) sb_nil))))))))))
set_option maxRecDepth 100000 in
theorem sb_X5_obeyOrder_158 (l : Launch) : sm_SndB l RX5 "obeyOrder" cX5_obeyOrder 2 1 2 158 [oA 1, oA 0, oGr 5 5 4, oK 0, oIl, oA 0, oGr 5 5 4, oK 1, oIl, oCv 2 9 p_X2_setPriority f_X2_setPriority 0 0 3, oIr] := sb_cons (sd_aload_n (by decide +kernel : decode cX5_obeyOrder 158 = .ok (.aload_n 1, 1)) rfl) (sb_cons (sd_aload_n (by decide +kernel : decode cX5_obeyOrder 159 = .ok (.aload_n 0, 1)) rfl) (sb_cons (sd_getr (k := 4) kl_5 (by decide) rfl wm_131 (by decide +kernel : decode cX5_obeyOrder 160 = .ok (.getfield 15, 3))) (sb_cons (sd_iconst (by decide +kernel : decode cX5_obeyOrder 163 = .ok (.iconst 0, 1)) ⟨by decide, by decide⟩) (sb_cons (sd_iaload (by decide +kernel : decode cX5_obeyOrder 164 = .ok (.iaload, 1))) (sb_cons (sd_aload_n (by decide +kernel : decode cX5_obeyOrder 165 = .ok (.aload_n 0, 1)) rfl) (sb_cons (sd_getr (k := 4) kl_5 (by decide) rfl wm_131 (by decide +kernel : decode cX5_obeyOrder 166 = .ok (.getfield 15, 3))) (sb_cons (sd_iconst (by decide +kernel : decode cX5_obeyOrder 169 = .ok (.iconst 1, 1)) ⟨by decide, by decide⟩) (sb_cons (sd_iaload (by decide +kernel : decode cX5_obeyOrder 170 = .ok (.iaload, 1))) (sb_cons (sd_callv (n := 2) (met_X2_setPriority l) (by decide) (by decide) wm_248 wm_640 wm_3 ⟨by decide +kernel, by decide +kernel, by decide +kernel⟩ kl_2 wm_246 wm_247 (by decide +kernel : decode cX5_obeyOrder 171 = .ok (.invokevirtual 63, 3))) (sb_cons (sd_ireturn (x := 0) rfl (by decide +kernel : decode cX5_obeyOrder 174 = .ok (.ireturn, 1))) sb_nil))))))))))
set_option maxRecDepth 100000 in
theorem sb_X5_obeyOrder_175 (l : Launch) : sm_SndB l RX5 "obeyOrder" cX5_obeyOrder 2 1 2 175 [oA 1, oA 0, oGr 5 5 4, oK 0, oIl, oCv 2 9 p_X2_takeAway f_X2_takeAway 0 0 2, oIr] := sb_cons (sd_aload_n (by decide +kernel : decode cX5_obeyOrder 175 = .ok (.aload_n 1, 1)) rfl) (sb_cons (sd_aload_n (by decide +kernel : decode cX5_obeyOrder 176 = .ok (.aload_n 0, 1)) rfl) (sb_cons (sd_getr (k := 4) kl_5 (by decide) rfl wm_131 (by decide +kernel : decode cX5_obeyOrder 177 = .ok (.getfield 15, 3))) (sb_cons (sd_iconst (by decide +kernel : decode cX5_obeyOrder 180 = .ok (.iconst 0, 1)) ⟨by decide, by decide⟩) (sb_cons (sd_iaload (by decide +kernel : decode cX5_obeyOrder 181 = .ok (.iaload, 1))) (sb_cons (sd_callv (n := 1) (met_X2_takeAway l) (by decide) (by decide) wm_258 wm_641 wm_3 ⟨by decide +kernel, by decide +kernel, by decide +kernel⟩ kl_2 wm_256 wm_257 (by decide +kernel : decode cX5_obeyOrder 182 = .ok (.invokevirtual 66, 3))) (sb_cons (sd_ireturn (x := 0) rfl (by decide +kernel : decode cX5_obeyOrder 185 = .ok (.ireturn, 1))) sb_nil))))))
set_option maxRecDepth 100000 in
theorem sb_X5_obeyOrder_186 (l : Launch) : sm_SndB l RX5 "obeyOrder" cX5_obeyOrder 2 1 2 186 [oK (-3), oIr] := sb_cons (sd_bipush (by decide +kernel : decode cX5_obeyOrder 186 = .ok (.bipush (-3), 2)) ⟨by decide, by decide⟩ (by decide)) (sb_cons (sd_ireturn (x := 0) rfl (by decide +kernel : decode cX5_obeyOrder 188 = .ok (.ireturn, 1))) sb_nil)
theorem sn_X5_obeyOrder (l : Launch) : sm_SndT l RX5 "obeyOrder" cX5_obeyOrder 2 1 2 tb_X5_obeyOrder := st_cons (sb_X5_obeyOrder_0 l) (st_cons (sb_X5_obeyOrder_72 l) (st_cons (sb_X5_obeyOrder_107 l) (st_cons (sb_X5_obeyOrder_124 l) (st_cons (sb_X5_obeyOrder_141 l) (st_cons (sb_X5_obeyOrder_158 l) (st_cons (sb_X5_obeyOrder_175 l) (st_cons (sb_X5_obeyOrder_186 l) (st_nil))))))))
set_option maxRecDepth 100000 in
set_option maxHeartbeats 4000000 in
theorem ok_X5_obeyOrder : sm_Ok tb_X5_obeyOrder 2 0 0 p_X5_obeyOrder f_X5_obeyOrder := by
  intro as w hp ha hw
  match as, hp with
  | [.inr (.inl o), .inr (.inl a)], hp =>
  refine ⟨Nat.le_of_ble_eq_true rfl, fun Z hZ => ?_⟩
  obtain ⟨rfl, hO⟩ := hp
  have hT := hO.1
  have hL := hO.2.1
  obtain ⟨l0, l1, l2, l3, l4, l5, l6, l7, r0, r1, r2, r3, r4, r5, r6⟩ := lS hT hL
  by_cases c1 : wI w 83 3 = 115
  · skip
    refine hZ (fun _ => false) 16 0 _ _ _ _ _ ?_
    simp only [sm_run, sm_blk, sm_get, sm_ent, sm_ents, sm_wds, sm_wd, sm_nl, sm_pop, sm_back, sm_cases, oK, oLK, oL, oI, oA, oJ, oIs, oAs, oJs, oInc, oAdd, oSub, oMul, oDiv, oRem, oNeg, oAnd, oAndB, oOr, oShl, oI2c, oI2l, oL2i, oLand, oLor, oLshl, oLshr, oLushr, oLcmp, oDup, oDup2, oPop, oGo, oFg, oEq, oNe, oLt, oGe, oGt, oLe, oEq0, oNe0, oLt0, oGe0, oGt0, oLe0, oSw, oGi, oGr, oPi, oPz, oPr, oLen, oIl, oZl, oCl, oRl, oIst, oZst, oCst, oRst, oCopy, oNew, oNa, oNa2, oObj, oCs, oCv, oCi, oIr, oZr, oVr, Nat.beq, List.getElem?_cons_zero, List.getElem?_cons_succ, List.set_cons_zero, List.set_cons_succ, List.length_cons, List.length_nil, List.nil_append, List.cons_append, List.append_nil, List.replicate_succ, List.replicate_zero, Nat.reduceAdd, Nat.reduceSub, Nat.reduceLT, Nat.reduceLeDiff, Nat.reduceBEq, true_and, and_true, Nat.zero_add, Nat.add_zero, Nat.le_refl, Option.some.injEq, exists_eq_left', true_or, or_true, or_false, false_or, reduceCtorEq, Prod.mk.injEq, Sum.inl.injEq, and_self, false_and, and_false, not_true_eq_false, not_false_eq_true, false_implies, true_implies, sm_r, Int.add_zero, Int.zero_add, wI_wsI, wS_wsI, wR_wsI, wI_wCp, wS_wCp, wR_wCp, Nat.reduceEqDiff, reduceIte, sT_iff, sT_iffC, wIf_ne, ne_eq, Bool.false_or, Bool.true_or, Bool.or_false, Bool.or_true, Bool.or_self, Nat.left_eq_add, Nat.add_eq_left, Nat.add_left_inj, oMax, oMin, oAbs, tb_X5_obeyOrder, p_X2_addShuttle, p_X2_setPriority, p_X2_setRunning, p_X2_setTracks, p_X2_startLater, p_X2_takeAway, f_X2_addShuttle, f_X2_setPriority, f_X2_setRunning, f_X2_setTracks, f_X2_startLater, f_X2_takeAway, p_X5_obeyOrder, f_X5_obeyOrder, sS_83 hT, sR_83_4 hT, sS_85 hT, hT, hL, hO, l0, Int.reduceAdd, Int.reduceEq, kObA, kObW, c1]
    repeat' (first | exact True.intro | with_reducible assumption | with_reducible refine And.intro ?_ ?_ | intro _)
    all_goals first
      | omega
      | assumption
      | rfl
      | (split <;> omega)
      | grind
      | skip
  · by_cases c2 : wI w 83 3 = 108
    · skip
      refine hZ (fun _ => false) 16 0 _ _ _ _ _ ?_
      simp only [sm_run, sm_blk, sm_get, sm_ent, sm_ents, sm_wds, sm_wd, sm_nl, sm_pop, sm_back, sm_cases, oK, oLK, oL, oI, oA, oJ, oIs, oAs, oJs, oInc, oAdd, oSub, oMul, oDiv, oRem, oNeg, oAnd, oAndB, oOr, oShl, oI2c, oI2l, oL2i, oLand, oLor, oLshl, oLshr, oLushr, oLcmp, oDup, oDup2, oPop, oGo, oFg, oEq, oNe, oLt, oGe, oGt, oLe, oEq0, oNe0, oLt0, oGe0, oGt0, oLe0, oSw, oGi, oGr, oPi, oPz, oPr, oLen, oIl, oZl, oCl, oRl, oIst, oZst, oCst, oRst, oCopy, oNew, oNa, oNa2, oObj, oCs, oCv, oCi, oIr, oZr, oVr, Nat.beq, List.getElem?_cons_zero, List.getElem?_cons_succ, List.set_cons_zero, List.set_cons_succ, List.length_cons, List.length_nil, List.nil_append, List.cons_append, List.append_nil, List.replicate_succ, List.replicate_zero, Nat.reduceAdd, Nat.reduceSub, Nat.reduceLT, Nat.reduceLeDiff, Nat.reduceBEq, true_and, and_true, Nat.zero_add, Nat.add_zero, Nat.le_refl, Option.some.injEq, exists_eq_left', true_or, or_true, or_false, false_or, reduceCtorEq, Prod.mk.injEq, Sum.inl.injEq, and_self, false_and, and_false, not_true_eq_false, not_false_eq_true, false_implies, true_implies, sm_r, Int.add_zero, Int.zero_add, wI_wsI, wS_wsI, wR_wsI, wI_wCp, wS_wCp, wR_wCp, Nat.reduceEqDiff, reduceIte, sT_iff, sT_iffC, wIf_ne, ne_eq, Bool.false_or, Bool.true_or, Bool.or_false, Bool.or_true, Bool.or_self, Nat.left_eq_add, Nat.add_eq_left, Nat.add_left_inj, oMax, oMin, oAbs, tb_X5_obeyOrder, p_X2_addShuttle, p_X2_setPriority, p_X2_setRunning, p_X2_setTracks, p_X2_startLater, p_X2_takeAway, f_X2_addShuttle, f_X2_setPriority, f_X2_setRunning, f_X2_setTracks, f_X2_startLater, f_X2_takeAway, p_X5_obeyOrder, f_X5_obeyOrder, sS_83 hT, sR_83_4 hT, sS_85 hT, hT, hL, hO, l0, Int.reduceAdd, Int.reduceEq, kObA, kObW, c2]
      repeat' (first | exact True.intro | with_reducible assumption | with_reducible refine And.intro ?_ ?_ | intro _)
      all_goals first
        | omega
        | assumption
        | rfl
        | (split <;> omega)
        | grind
        | skip
    · by_cases c3 : wI w 83 3 = 116
      · skip
        refine hZ (fun _ => false) 16 0 _ _ _ _ _ ?_
        simp only [sm_run, sm_blk, sm_get, sm_ent, sm_ents, sm_wds, sm_wd, sm_nl, sm_pop, sm_back, sm_cases, oK, oLK, oL, oI, oA, oJ, oIs, oAs, oJs, oInc, oAdd, oSub, oMul, oDiv, oRem, oNeg, oAnd, oAndB, oOr, oShl, oI2c, oI2l, oL2i, oLand, oLor, oLshl, oLshr, oLushr, oLcmp, oDup, oDup2, oPop, oGo, oFg, oEq, oNe, oLt, oGe, oGt, oLe, oEq0, oNe0, oLt0, oGe0, oGt0, oLe0, oSw, oGi, oGr, oPi, oPz, oPr, oLen, oIl, oZl, oCl, oRl, oIst, oZst, oCst, oRst, oCopy, oNew, oNa, oNa2, oObj, oCs, oCv, oCi, oIr, oZr, oVr, Nat.beq, List.getElem?_cons_zero, List.getElem?_cons_succ, List.set_cons_zero, List.set_cons_succ, List.length_cons, List.length_nil, List.nil_append, List.cons_append, List.append_nil, List.replicate_succ, List.replicate_zero, Nat.reduceAdd, Nat.reduceSub, Nat.reduceLT, Nat.reduceLeDiff, Nat.reduceBEq, true_and, and_true, Nat.zero_add, Nat.add_zero, Nat.le_refl, Option.some.injEq, exists_eq_left', true_or, or_true, or_false, false_or, reduceCtorEq, Prod.mk.injEq, Sum.inl.injEq, and_self, false_and, and_false, not_true_eq_false, not_false_eq_true, false_implies, true_implies, sm_r, Int.add_zero, Int.zero_add, wI_wsI, wS_wsI, wR_wsI, wI_wCp, wS_wCp, wR_wCp, Nat.reduceEqDiff, reduceIte, sT_iff, sT_iffC, wIf_ne, ne_eq, Bool.false_or, Bool.true_or, Bool.or_false, Bool.or_true, Bool.or_self, Nat.left_eq_add, Nat.add_eq_left, Nat.add_left_inj, oMax, oMin, oAbs, tb_X5_obeyOrder, p_X2_addShuttle, p_X2_setPriority, p_X2_setRunning, p_X2_setTracks, p_X2_startLater, p_X2_takeAway, f_X2_addShuttle, f_X2_setPriority, f_X2_setRunning, f_X2_setTracks, f_X2_startLater, f_X2_takeAway, p_X5_obeyOrder, f_X5_obeyOrder, sS_83 hT, sR_83_4 hT, sS_85 hT, hT, hL, hO, l0, Int.reduceAdd, Int.reduceEq, kObA, kObW, c3]
        repeat' (first | exact True.intro | with_reducible assumption | with_reducible refine And.intro ?_ ?_ | intro _)
        all_goals first
          | omega
          | assumption
          | rfl
          | (split <;> omega)
          | grind
          | skip
      · by_cases c4 : wI w 83 3 = 114
        · skip
          refine hZ (fun _ => false) 16 0 _ _ _ _ _ ?_
          simp only [sm_run, sm_blk, sm_get, sm_ent, sm_ents, sm_wds, sm_wd, sm_nl, sm_pop, sm_back, sm_cases, oK, oLK, oL, oI, oA, oJ, oIs, oAs, oJs, oInc, oAdd, oSub, oMul, oDiv, oRem, oNeg, oAnd, oAndB, oOr, oShl, oI2c, oI2l, oL2i, oLand, oLor, oLshl, oLshr, oLushr, oLcmp, oDup, oDup2, oPop, oGo, oFg, oEq, oNe, oLt, oGe, oGt, oLe, oEq0, oNe0, oLt0, oGe0, oGt0, oLe0, oSw, oGi, oGr, oPi, oPz, oPr, oLen, oIl, oZl, oCl, oRl, oIst, oZst, oCst, oRst, oCopy, oNew, oNa, oNa2, oObj, oCs, oCv, oCi, oIr, oZr, oVr, Nat.beq, List.getElem?_cons_zero, List.getElem?_cons_succ, List.set_cons_zero, List.set_cons_succ, List.length_cons, List.length_nil, List.nil_append, List.cons_append, List.append_nil, List.replicate_succ, List.replicate_zero, Nat.reduceAdd, Nat.reduceSub, Nat.reduceLT, Nat.reduceLeDiff, Nat.reduceBEq, true_and, and_true, Nat.zero_add, Nat.add_zero, Nat.le_refl, Option.some.injEq, exists_eq_left', true_or, or_true, or_false, false_or, reduceCtorEq, Prod.mk.injEq, Sum.inl.injEq, and_self, false_and, and_false, not_true_eq_false, not_false_eq_true, false_implies, true_implies, sm_r, Int.add_zero, Int.zero_add, wI_wsI, wS_wsI, wR_wsI, wI_wCp, wS_wCp, wR_wCp, Nat.reduceEqDiff, reduceIte, sT_iff, sT_iffC, wIf_ne, ne_eq, Bool.false_or, Bool.true_or, Bool.or_false, Bool.or_true, Bool.or_self, Nat.left_eq_add, Nat.add_eq_left, Nat.add_left_inj, oMax, oMin, oAbs, tb_X5_obeyOrder, p_X2_addShuttle, p_X2_setPriority, p_X2_setRunning, p_X2_setTracks, p_X2_startLater, p_X2_takeAway, f_X2_addShuttle, f_X2_setPriority, f_X2_setRunning, f_X2_setTracks, f_X2_startLater, f_X2_takeAway, p_X5_obeyOrder, f_X5_obeyOrder, sS_83 hT, sR_83_4 hT, sS_85 hT, hT, hL, hO, l0, Int.reduceAdd, Int.reduceEq, kObA, kObW, c4]
          repeat' (first | exact True.intro | with_reducible assumption | with_reducible refine And.intro ?_ ?_ | intro _)
          all_goals first
            | omega
            | assumption
            | rfl
            | (split <;> omega)
            | grind
            | skip
        · by_cases c5 : wI w 83 3 = 112
          · skip
            refine hZ (fun _ => false) 16 0 _ _ _ _ _ ?_
            simp only [sm_run, sm_blk, sm_get, sm_ent, sm_ents, sm_wds, sm_wd, sm_nl, sm_pop, sm_back, sm_cases, oK, oLK, oL, oI, oA, oJ, oIs, oAs, oJs, oInc, oAdd, oSub, oMul, oDiv, oRem, oNeg, oAnd, oAndB, oOr, oShl, oI2c, oI2l, oL2i, oLand, oLor, oLshl, oLshr, oLushr, oLcmp, oDup, oDup2, oPop, oGo, oFg, oEq, oNe, oLt, oGe, oGt, oLe, oEq0, oNe0, oLt0, oGe0, oGt0, oLe0, oSw, oGi, oGr, oPi, oPz, oPr, oLen, oIl, oZl, oCl, oRl, oIst, oZst, oCst, oRst, oCopy, oNew, oNa, oNa2, oObj, oCs, oCv, oCi, oIr, oZr, oVr, Nat.beq, List.getElem?_cons_zero, List.getElem?_cons_succ, List.set_cons_zero, List.set_cons_succ, List.length_cons, List.length_nil, List.nil_append, List.cons_append, List.append_nil, List.replicate_succ, List.replicate_zero, Nat.reduceAdd, Nat.reduceSub, Nat.reduceLT, Nat.reduceLeDiff, Nat.reduceBEq, true_and, and_true, Nat.zero_add, Nat.add_zero, Nat.le_refl, Option.some.injEq, exists_eq_left', true_or, or_true, or_false, false_or, reduceCtorEq, Prod.mk.injEq, Sum.inl.injEq, and_self, false_and, and_false, not_true_eq_false, not_false_eq_true, false_implies, true_implies, sm_r, Int.add_zero, Int.zero_add, wI_wsI, wS_wsI, wR_wsI, wI_wCp, wS_wCp, wR_wCp, Nat.reduceEqDiff, reduceIte, sT_iff, sT_iffC, wIf_ne, ne_eq, Bool.false_or, Bool.true_or, Bool.or_false, Bool.or_true, Bool.or_self, Nat.left_eq_add, Nat.add_eq_left, Nat.add_left_inj, oMax, oMin, oAbs, tb_X5_obeyOrder, p_X2_addShuttle, p_X2_setPriority, p_X2_setRunning, p_X2_setTracks, p_X2_startLater, p_X2_takeAway, f_X2_addShuttle, f_X2_setPriority, f_X2_setRunning, f_X2_setTracks, f_X2_startLater, f_X2_takeAway, p_X5_obeyOrder, f_X5_obeyOrder, sS_83 hT, sR_83_4 hT, sS_85 hT, hT, hL, hO, l0, Int.reduceAdd, Int.reduceEq, kObA, kObW, c5]
            repeat' (first | exact True.intro | with_reducible assumption | with_reducible refine And.intro ?_ ?_ | intro _)
            all_goals first
              | omega
              | assumption
              | rfl
              | (split <;> omega)
              | grind
              | skip
          · by_cases c6 : wI w 83 3 = 120
            · skip
              refine hZ (fun _ => false) 16 0 _ _ _ _ _ ?_
              simp only [sm_run, sm_blk, sm_get, sm_ent, sm_ents, sm_wds, sm_wd, sm_nl, sm_pop, sm_back, sm_cases, oK, oLK, oL, oI, oA, oJ, oIs, oAs, oJs, oInc, oAdd, oSub, oMul, oDiv, oRem, oNeg, oAnd, oAndB, oOr, oShl, oI2c, oI2l, oL2i, oLand, oLor, oLshl, oLshr, oLushr, oLcmp, oDup, oDup2, oPop, oGo, oFg, oEq, oNe, oLt, oGe, oGt, oLe, oEq0, oNe0, oLt0, oGe0, oGt0, oLe0, oSw, oGi, oGr, oPi, oPz, oPr, oLen, oIl, oZl, oCl, oRl, oIst, oZst, oCst, oRst, oCopy, oNew, oNa, oNa2, oObj, oCs, oCv, oCi, oIr, oZr, oVr, Nat.beq, List.getElem?_cons_zero, List.getElem?_cons_succ, List.set_cons_zero, List.set_cons_succ, List.length_cons, List.length_nil, List.nil_append, List.cons_append, List.append_nil, List.replicate_succ, List.replicate_zero, Nat.reduceAdd, Nat.reduceSub, Nat.reduceLT, Nat.reduceLeDiff, Nat.reduceBEq, true_and, and_true, Nat.zero_add, Nat.add_zero, Nat.le_refl, Option.some.injEq, exists_eq_left', true_or, or_true, or_false, false_or, reduceCtorEq, Prod.mk.injEq, Sum.inl.injEq, and_self, false_and, and_false, not_true_eq_false, not_false_eq_true, false_implies, true_implies, sm_r, Int.add_zero, Int.zero_add, wI_wsI, wS_wsI, wR_wsI, wI_wCp, wS_wCp, wR_wCp, Nat.reduceEqDiff, reduceIte, sT_iff, sT_iffC, wIf_ne, ne_eq, Bool.false_or, Bool.true_or, Bool.or_false, Bool.or_true, Bool.or_self, Nat.left_eq_add, Nat.add_eq_left, Nat.add_left_inj, oMax, oMin, oAbs, tb_X5_obeyOrder, p_X2_addShuttle, p_X2_setPriority, p_X2_setRunning, p_X2_setTracks, p_X2_startLater, p_X2_takeAway, f_X2_addShuttle, f_X2_setPriority, f_X2_setRunning, f_X2_setTracks, f_X2_startLater, f_X2_takeAway, p_X5_obeyOrder, f_X5_obeyOrder, sS_83 hT, sR_83_4 hT, sS_85 hT, hT, hL, hO, l0, Int.reduceAdd, Int.reduceEq, kObA, kObW, c6]
              repeat' (first | exact True.intro | with_reducible assumption | with_reducible refine And.intro ?_ ?_ | intro _)
              all_goals first
                | omega
                | assumption
                | rfl
                | (split <;> omega)
                | grind
                | skip
            · skip
              refine hZ (fun _ => false) 16 0 _ _ _ _ _ ?_
              simp only [sm_run, sm_blk, sm_get, sm_ent, sm_ents, sm_wds, sm_wd, sm_nl, sm_pop, sm_back, sm_cases, oK, oLK, oL, oI, oA, oJ, oIs, oAs, oJs, oInc, oAdd, oSub, oMul, oDiv, oRem, oNeg, oAnd, oAndB, oOr, oShl, oI2c, oI2l, oL2i, oLand, oLor, oLshl, oLshr, oLushr, oLcmp, oDup, oDup2, oPop, oGo, oFg, oEq, oNe, oLt, oGe, oGt, oLe, oEq0, oNe0, oLt0, oGe0, oGt0, oLe0, oSw, oGi, oGr, oPi, oPz, oPr, oLen, oIl, oZl, oCl, oRl, oIst, oZst, oCst, oRst, oCopy, oNew, oNa, oNa2, oObj, oCs, oCv, oCi, oIr, oZr, oVr, Nat.beq, List.getElem?_cons_zero, List.getElem?_cons_succ, List.set_cons_zero, List.set_cons_succ, List.length_cons, List.length_nil, List.nil_append, List.cons_append, List.append_nil, List.replicate_succ, List.replicate_zero, Nat.reduceAdd, Nat.reduceSub, Nat.reduceLT, Nat.reduceLeDiff, Nat.reduceBEq, true_and, and_true, Nat.zero_add, Nat.add_zero, Nat.le_refl, Option.some.injEq, exists_eq_left', true_or, or_true, or_false, false_or, reduceCtorEq, Prod.mk.injEq, Sum.inl.injEq, and_self, false_and, and_false, not_true_eq_false, not_false_eq_true, false_implies, true_implies, sm_r, Int.add_zero, Int.zero_add, wI_wsI, wS_wsI, wR_wsI, wI_wCp, wS_wCp, wR_wCp, Nat.reduceEqDiff, reduceIte, sT_iff, sT_iffC, wIf_ne, ne_eq, Bool.false_or, Bool.true_or, Bool.or_false, Bool.or_true, Bool.or_self, Nat.left_eq_add, Nat.add_eq_left, Nat.add_left_inj, oMax, oMin, oAbs, tb_X5_obeyOrder, p_X2_addShuttle, p_X2_setPriority, p_X2_setRunning, p_X2_setTracks, p_X2_startLater, p_X2_takeAway, f_X2_addShuttle, f_X2_setPriority, f_X2_setRunning, f_X2_setTracks, f_X2_startLater, f_X2_takeAway, p_X5_obeyOrder, f_X5_obeyOrder, sS_83 hT, sR_83_4 hT, sS_85 hT, hT, hL, hO, l0, Int.reduceAdd, Int.reduceEq, kObA, kObW, if_neg c1, if_neg c2, if_neg c3, if_neg c4, if_neg c5, if_neg c6]
              repeat' (first | exact True.intro | with_reducible assumption | with_reducible refine And.intro ?_ ?_ | intro _)
              all_goals first
                | omega
                | assumption
                | rfl
                | (split <;> omega)
                | grind
                | skip

theorem met_X5_obeyOrder (l : Launch) : sm_Met l yX5_obeyOrder cX5_obeyOrder 2 (some .int) 2 0 0 p_X5_obeyOrder f_X5_obeyOrder := sm_met 1 (Or.inr (Or.inl ⟨rfl, rfl⟩)) (by decide +kernel) (sn_X5_obeyOrder l) ok_X5_obeyOrder