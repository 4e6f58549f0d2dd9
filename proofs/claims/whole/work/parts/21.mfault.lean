/-! THE REFERENCE: an order, the fault, and what is carried out -/
theorem tSh_st {w : sm_W} (h : tOK w) : tOK (tSh w) ∧ wI w 154 25 ≤ wI (tSh w) 154 25 ∧ wI (tSh w) 154 27 = wI w 154 27 := by
  have a1 := tOne_st h 0 55
  have a2 := tSign_st (s := 62) a1.1 (by decide)
  have a3 := tOne_st a2.1 1 55
  have a4 := tSign_st (s := 64) a3.1 (by decide)
  have a5 := tNum_st a4.1 2
  have e5 : tNum (tSign (tOne (tSign (tOne w 0 55) 62) 1 55) 64) 2 = tSh5 w := rfl
  rw [e5] at a5
  have a8 := tShP_st a5.1
  have a9 := tShC_st a8.1
  exact ⟨a9.1, by unfold tSh; omega, by unfold tSh; omega⟩
/-- once wrong, always wrong -/
theorem tSign_w {w : sm_W} {s : Int} (h : wI w 154 26 = 1) : wI (tSign w s) 154 26 = 1 ∧ wI (tSign w s) 154 25 = wI w 154 25 := by
  unfold tSign
  rw [if_neg (by omega)]
  exact ⟨rfl, rfl⟩
theorem tOne_w {w : sm_W} {n s : Int} (h : wI w 154 26 = 1) : wI (tOne w n s) 154 26 = 1 ∧ wI (tOne w n s) 154 25 = wI w 154 25 := by
  unfold tOne
  rw [if_neg (by omega)]
  exact ⟨rfl, rfl⟩
theorem tNum_w {w : sm_W} {n : Int} (h : wI w 154 26 = 1) : wI (tNum w n) 154 26 = 1 ∧ wI (tNum w n) 154 25 = wI w 154 25 := by
  unfold tNum
  rw [if_neg (by omega)]
  exact ⟨rfl, rfl⟩
theorem tSh_w {w : sm_W} (h : wI w 154 26 = 1) : wI (tSh w) 154 26 = 1 ∧ wI (tSh w) 154 25 = wI w 154 25 := by
  have a1 := tOne_w (n := 0) (s := 55) h
  have a2 := tSign_w (s := 62) a1.1
  have a3 := tOne_w (n := 1) (s := 55) a2.1
  have a4 := tSign_w (s := 64) a3.1
  have a5 := tNum_w (n := 2) a4.1
  have e5 : tNum (tSign (tOne (tSign (tOne w 0 55) 62) 1 55) 64) 2 = tSh5 w := rfl
  rw [e5] at a5
  have a7 : wI (tShP (tSh5 w)) 154 26 = 1 ∧ wI (tShP (tSh5 w)) 154 25 = wI (tSh5 w) 154 25 := by
    unfold tShP
    rw [if_neg (by omega)]
    exact ⟨a5.1, rfl⟩
  unfold tSh tShC
  rw [if_neg (by omega)]
  omega
/-- the body of an order behind its letter -/
def tBody (w : sm_W) (c : Int) : sm_W := if c = 115 then tSh w else (if c = 108 then tNum (tSign (tOne w 0 55) 43) 1 else (if c = 116 then tNum (tSign (tOne w 0 55) 61) 1 else (if c = 114 then tNum (tSign (tOne w 0 54) 61) 1 else (if c = 112 then tOne (tSign (tOne w 0 55) 61) 1 57 else (if c = 120 then tOne w 0 55 else wsI (wsI w 154 25 (wI w 154 25 - 1)) 154 26 1)))))
def tOrd0 (w : sm_W) : sm_W := tBody (wsI w 154 25 (wI w 154 25 + 1)) (tNext w)
def tOrdE (c : Int) (w : sm_W) : sm_W := if wI w 154 26 = 0 then wsI (wsI w 174 (wI w 154 27) c) 154 27 (wI w 154 27 + 1) else w
def tOrd (w : sm_W) : sm_W := tOrdE (tNext w) (tOrd0 w)
theorem tBody_st {w : sm_W} (h : tOK w) (c : Int) (h0 : 0 < wI w 154 25) : tOK (tBody w c) ∧ wI w 154 25 - 1 ≤ wI (tBody w c) 154 25 ∧ wI (tBody w c) 154 27 = wI w 154 27 ∧ (wI (tBody w c) 154 26 = 0 → wI w 154 25 + 1 ≤ wI (tBody w c) 154 25) := by
  have hw := h.2.2.2.1
  have key : ∀ u : sm_W, tOK u → wI w 154 25 ≤ wI u 154 25 → wI u 154 27 = wI w 154 27 → (wI u 154 26 = 0 → wI w 154 25 + 1 ≤ wI u 154 25) → tOK u ∧ wI w 154 25 - 1 ≤ wI u 154 25 ∧ wI u 154 27 = wI w 154 27 ∧ (wI u 154 26 = 0 → wI w 154 25 + 1 ≤ wI u 154 25) := fun u a b c d => ⟨a, by omega, c, d⟩
  have one : ∀ hi : Int, ∀ s : Int, 0 < s → tOK (tSign (tOne w 0 hi) s) ∧ wI w 154 25 ≤ wI (tSign (tOne w 0 hi) s) 154 25 ∧ wI (tSign (tOne w 0 hi) s) 154 27 = wI w 154 27 ∧ (wI (tSign (tOne w 0 hi) s) 154 26 = 1 ∨ wI w 154 25 + 1 ≤ wI (tSign (tOne w 0 hi) s) 154 25) := by
    intro hi s hs
    have a1 := tOne_st h 0 hi
    have a2 := tSign_st a1.1 hs
    refine ⟨a2.1, by omega, by omega, ?_⟩
    rcases a1.1.2.2.2.1 with e | e
    · right
      have := a1.2.2.2 e
      omega
    · exact Or.inl (tSign_w e).1
  have two : ∀ hi s : Int, 0 < s → ∀ n : Int, tOK (tNum (tSign (tOne w 0 hi) s) n) ∧ wI w 154 25 - 1 ≤ wI (tNum (tSign (tOne w 0 hi) s) n) 154 25 ∧ wI (tNum (tSign (tOne w 0 hi) s) n) 154 27 = wI w 154 27 ∧ (wI (tNum (tSign (tOne w 0 hi) s) n) 154 26 = 0 → wI w 154 25 + 1 ≤ wI (tNum (tSign (tOne w 0 hi) s) n) 154 25) := by
    intro hi s hs n
    obtain ⟨b1, b2, b3, b4⟩ := one hi s hs
    have b5 := tNum_st b1 n
    refine key _ b5.1 (by omega) (by omega) (fun e => ?_)
    rcases b4 with b4 | b4
    · have := (tNum_w (n := n) b4).1
      omega
    · omega
  unfold tBody
  split
  · have a := tSh_st h
    refine key _ a.1 a.2.1 a.2.2 (fun e => ?_)
    have a1 := tOne_st h 0 55
    have a2 := tSign_st (s := 62) a1.1 (by decide)
    have a3 := tOne_st a2.1 1 55
    have a4 := tSign_st (s := 64) a3.1 (by decide)
    have a5 := tNum_st a4.1 2
    have e5 : tNum (tSign (tOne (tSign (tOne w 0 55) 62) 1 55) 64) 2 = tSh5 w := rfl
    rw [e5] at a5
    have a8 := tShP_st a5.1
    have a9 := tShC_st a8.1
    have e9 : tShC (tShP (tSh5 w)) = tSh w := rfl
    rw [e9] at a9
    rcases a1.1.2.2.2.1 with e1 | e1
    · have := a1.2.2.2 e1
      omega
    · exfalso
      have b2 := tSign_w (s := 62) e1
      have b3 := tOne_w (n := 1) (s := 55) b2.1
      have b4 := tSign_w (s := 64) b3.1
      have b5 := tNum_w (n := 2) b4.1
      rw [e5] at b5
      have b7 : wI (tShP (tSh5 w)) 154 26 = 1 := by
        unfold tShP
        rw [if_neg (by omega)]
        exact b5.1
      have b9 : wI (tSh w) 154 26 = 1 := by
        unfold tSh tShC
        rw [if_neg (by omega)]
        exact b7
      omega
  · split
    · exact two 55 43 (by decide) 1
    · split
      · exact two 55 61 (by decide) 1
      · split
        · exact two 54 61 (by decide) 1
        · split
          · obtain ⟨b1, b2, b3, b4⟩ := one 55 61 (by decide)
            have b5 := tOne_st b1 1 57
            refine key _ b5.1 (by omega) (by omega) (fun e => ?_)
            have := b5.2.2.2 e
            omega
          · split
            · have a1 := tOne_st h 0 55
              refine key _ a1.1 a1.2.1 a1.2.2.1 (fun e => ?_)
              have := a1.2.2.2 e
              omega
            · exact ⟨tOK_26 (tOK_25 h (by have := h.2.2.1; omega)) (Or.inr rfl), Int.le_refl _, rfl, fun e => absurd (show (1 : Int) = 0 from e) (by decide)⟩
def p_X8_takeOrder : List sm_V → sm_W → Prop
  | [.inr (.inl m)], w => m = 154 ∧ tOK w ∧ wI w 154 25 ≤ 80 ∧ wI w 154 27 ≤ 27
  | _, _ => False
def f_X8_takeOrder : sm_F
  | [.inr (.inl m)], w => (none, tOrd w)
  | _, w => (none, w)
def tb_X8_takeOrder : List (Nat × List sm_O) := [(0, [oA 0, oCv 8 30 p_X8_next f_X8_next 0 0 1, oIs 1, oA 0, oDup, oGi 8 30 25, oK 1, oAdd, oPi 8 30 25, oI 1, oSw 108 [91, 177, 177, 177, 144, 177, 112, 84, 112, 177, 177, 177, 167] 177]),
  (84, [oA 0, oCv 8 30 p_X8_takeShuttle f_X8_takeShuttle 0 0 1, oGo 192]),
  (91, [oA 0, oK 0, oK 55, oCv 8 30 p_X8_takeOne f_X8_takeOne 0 0 3, oA 0, oK 43, oCv 8 30 p_X8_takeSign f_X8_takeSign 0 0 2, oA 0, oK 1, oCv 8 30 p_X8_takeNumber f_X8_takeNumber 0 0 2, oGo 192]),
  (112, [oA 0, oK 0, oI 1, oK 116, oNe 125, oK 55, oGo 127]),
  (125, [oK 54, oGo 127]),
  (127, [oCv 8 30 p_X8_takeOne f_X8_takeOne 0 0 3, oA 0, oK 61, oCv 8 30 p_X8_takeSign f_X8_takeSign 0 0 2, oA 0, oK 1, oCv 8 30 p_X8_takeNumber f_X8_takeNumber 0 0 2, oGo 192]),
  (144, [oA 0, oK 0, oK 55, oCv 8 30 p_X8_takeOne f_X8_takeOne 0 0 3, oA 0, oK 61, oCv 8 30 p_X8_takeSign f_X8_takeSign 0 0 2, oA 0, oK 1, oK 57, oCv 8 30 p_X8_takeOne f_X8_takeOne 0 0 3, oGo 192]),
  (167, [oA 0, oK 0, oK 55, oCv 8 30 p_X8_takeOne f_X8_takeOne 0 0 3, oGo 192]),
  (177, [oA 0, oDup, oGi 8 30 25, oK 1, oSub, oPi 8 30 25, oA 0, oK 1, oPz 8 30 26, oGo 192]),
  (192, [oA 0, oGi 8 30 26, oNe0 219, oA 0, oGr 8 30 28, oA 0, oGi 8 30 27, oI 1, oIst, oA 0, oDup, oGi 8 30 27, oK 1, oAdd, oPi 8 30 27, oGo 219]),
  (219, [oVr])]
set_option maxRecDepth 100000 in
theorem sb_X8_takeOrder_0 (l : Launch) : sm_SndB l RX8 "takeOrder" cX8_takeOrder 2 0 3 0 [oA 0, oCv 8 30 p_X8_next f_X8_next 0 0 1, oIs 1, oA 0, oDup, oGi 8 30 25, oK 1, oAdd, oPi 8 30 25, oI 1, oSw 108 [91, 177, 177, 177, 144, 177, 112, 84, 112, 177, 177, 177, 167] 177] := sb_cons (sd_aload_n (by decide +kernel : decode cX8_takeOrder 0 = .ok (.aload_n 0, 1)) rfl) (sb_cons (sd_callv (n := 0) (met_X8_next l) (by decide) (by decide) wm_1032 wm_1030 wm_10 ⟨by decide +kernel, by decide +kernel, by decide +kernel⟩ kl_8 wm_1031 wm_1155 (by decide +kernel : decode cX8_takeOrder 1 = .ok (.invokevirtual 276, 3))) (sb_cons (sd_istore_n (by decide +kernel : decode cX8_takeOrder 4 = .ok (.istore_n 1, 1)) rfl) (sb_cons (sd_aload_n (by decide +kernel : decode cX8_takeOrder 5 = .ok (.aload_n 0, 1)) rfl) (sb_cons (sd_dup (by decide +kernel : decode cX8_takeOrder 6 = .ok (.dup, 1))) (sb_cons (sd_geti (k := 25) kl_8 (by decide) rfl wm_698 (by decide +kernel : decode cX8_takeOrder 7 = .ok (.getfield 270, 3))) (sb_cons (sd_iconst (by decide +kernel : decode cX8_takeOrder 10 = .ok (.iconst 1, 1)) ⟨by decide, by decide⟩) (sb_cons (sd_iadd (by decide +kernel : decode cX8_takeOrder 11 = .ok (.iadd, 1))) (sb_cons (sd_puti (k := 25) kl_8 (by decide) rfl (Or.inl rfl) wm_698 (by decide +kernel : decode cX8_takeOrder 12 = .ok (.putfield 270, 3))) (sb_cons (sd_iload_n (by decide +kernel : decode cX8_takeOrder 15 = .ok (.iload_n 1, 1)) rfl) (sb_cons (sd_sw (x := 0) (by decide +kernel : decode cX8_takeOrder 16 = .ok (.tableswitch 161 108 120 #[75, 161, 161, 161, 128, 161, 96, 68, 96, 161, 161, 161, 151], 68)) (by decide) (by decide) (by decide)) sb_nil))))))))))
set_option maxRecDepth 100000 in
theorem sb_X8_takeOrder_84 (l : Launch) : sm_SndB l RX8 "takeOrder" cX8_takeOrder 2 0 3 84 [oA 0, oCv 8 30 p_X8_takeShuttle f_X8_takeShuttle 0 0 1, oGo 192] := sb_cons (sd_aload_n (by decide +kernel : decode cX8_takeOrder 84 = .ok (.aload_n 0, 1)) rfl) (sb_cons (sd_callv (n := 0) (met_X8_takeShuttle l) (by decide) (by decide) wm_1036 wm_1034 wm_10 ⟨by decide +kernel, by decide +kernel, by decide +kernel⟩ kl_8 wm_1035 wm_1156 (by decide +kernel : decode cX8_takeOrder 85 = .ok (.invokevirtual 292, 3))) (sb_cons (sd_goto (x := 0) (by decide +kernel : decode cX8_takeOrder 88 = .ok (.goto 104, 3)) (by decide)) sb_nil))
set_option maxRecDepth 100000 in
theorem sb_X8_takeOrder_91 (l : Launch) : sm_SndB l RX8 "takeOrder" cX8_takeOrder 2 0 3 91 [oA 0, oK 0, oK 55, oCv 8 30 p_X8_takeOne f_X8_takeOne 0 0 3, oA 0, oK 43, oCv 8 30 p_X8_takeSign f_X8_takeSign 0 0 2, oA 0, oK 1, oCv 8 30 p_X8_takeNumber f_X8_takeNumber 0 0 2, oGo 192] := sb_cons (sd_aload_n (by decide +kernel : decode cX8_takeOrder 91 = .ok (.aload_n 0, 1)) rfl) (sb_cons (sd_iconst (by decide +kernel : decode cX8_takeOrder 92 = .ok (.iconst 0, 1)) ⟨by decide, by decide⟩) (sb_cons (sd_bipush (by decide +kernel : decode cX8_takeOrder 93 = .ok (.bipush 55, 2)) ⟨by decide, by decide⟩ (by decide)) (sb_cons (sd_callv (n := 2) (met_X8_takeOne l) (by decide) (by decide) wm_1040 wm_1038 wm_10 ⟨by decide +kernel, by decide +kernel, by decide +kernel⟩ kl_8 wm_1039 wm_1157 (by decide +kernel : decode cX8_takeOrder 95 = .ok (.invokevirtual 282, 3))) (sb_cons (sd_aload_n (by decide +kernel : decode cX8_takeOrder 98 = .ok (.aload_n 0, 1)) rfl) (sb_cons (sd_bipush (by decide +kernel : decode cX8_takeOrder 99 = .ok (.bipush 43, 2)) ⟨by decide, by decide⟩ (by decide)) (sb_cons (sd_callv (n := 1) (met_X8_takeSign l) (by decide) (by decide) wm_1044 wm_1042 wm_10 ⟨by decide +kernel, by decide +kernel, by decide +kernel⟩ kl_8 wm_1043 wm_1158 (by decide +kernel : decode cX8_takeOrder 101 = .ok (.invokevirtual 286, 3))) (sb_cons (sd_aload_n (by decide +kernel : decode cX8_takeOrder 104 = .ok (.aload_n 0, 1)) rfl) (sb_cons (sd_iconst (by decide +kernel : decode cX8_takeOrder 105 = .ok (.iconst 1, 1)) ⟨by decide, by decide⟩) (sb_cons (sd_callv (n := 1) (met_X8_takeNumber l) (by decide) (by decide) wm_1048 wm_1046 wm_10 ⟨by decide +kernel, by decide +kernel, by decide +kernel⟩ kl_8 wm_1047 wm_1159 (by decide +kernel : decode cX8_takeOrder 106 = .ok (.invokevirtual 289, 3))) (sb_cons (sd_goto (x := 0) (by decide +kernel : decode cX8_takeOrder 109 = .ok (.goto 83, 3)) (by decide)) sb_nil))))))))))
set_option maxRecDepth 100000 in
theorem sb_X8_takeOrder_112 (l : Launch) : sm_SndB l RX8 "takeOrder" cX8_takeOrder 2 0 3 112 [oA 0, oK 0, oI 1, oK 116, oNe 125, oK 55, oGo 127] := sb_cons (sd_aload_n (by decide +kernel : decode cX8_takeOrder 112 = .ok (.aload_n 0, 1)) rfl) (sb_cons (sd_iconst (by decide +kernel : decode cX8_takeOrder 113 = .ok (.iconst 0, 1)) ⟨by decide, by decide⟩) (sb_cons (sd_iload_n (by decide +kernel : decode cX8_takeOrder 114 = .ok (.iload_n 1, 1)) rfl) (sb_cons (sd_bipush (by decide +kernel : decode cX8_takeOrder 115 = .ok (.bipush 116, 2)) ⟨by decide, by decide⟩ (by decide)) (sb_cons (sd_ne (by decide +kernel : decode cX8_takeOrder 117 = .ok (.if_icmp .ne 8, 3)) (by decide)) (sb_cons (sd_bipush (by decide +kernel : decode cX8_takeOrder 120 = .ok (.bipush 55, 2)) ⟨by decide, by decide⟩ (by decide)) (sb_cons (sd_goto (x := 0) (by decide +kernel : decode cX8_takeOrder 122 = .ok (.goto 5, 3)) (by decide)) sb_nil))))))
set_option maxRecDepth 100000 in
theorem sb_X8_takeOrder_125 (l : Launch) : sm_SndB l RX8 "takeOrder" cX8_takeOrder 2 0 3 125 [oK 54, oGo 127] := sb_cons (sd_bipush (by decide +kernel : decode cX8_takeOrder 125 = .ok (.bipush 54, 2)) ⟨by decide, by decide⟩ (by decide)) (sb_cons (sd_fall (x := 0)) sb_nil)
set_option maxRecDepth 100000 in
theorem sb_X8_takeOrder_127 (l : Launch) : sm_SndB l RX8 "takeOrder" cX8_takeOrder 2 0 3 127 [oCv 8 30 p_X8_takeOne f_X8_takeOne 0 0 3, oA 0, oK 61, oCv 8 30 p_X8_takeSign f_X8_takeSign 0 0 2, oA 0, oK 1, oCv 8 30 p_X8_takeNumber f_X8_takeNumber 0 0 2, oGo 192] := sb_cons (sd_callv (n := 2) (met_X8_takeOne l) (by decide) (by decide) wm_1040 wm_1038 wm_10 ⟨by decide +kernel, by decide +kernel, by decide +kernel⟩ kl_8 wm_1039 wm_1157 (by decide +kernel : decode cX8_takeOrder 127 = .ok (.invokevirtual 282, 3))) (sb_cons (sd_aload_n (by decide +kernel : decode cX8_takeOrder 130 = .ok (.aload_n 0, 1)) rfl) (sb_cons (sd_bipush (by decide +kernel : decode cX8_takeOrder 131 = .ok (.bipush 61, 2)) ⟨by decide, by decide⟩ (by decide)) (sb_cons (sd_callv (n := 1) (met_X8_takeSign l) (by decide) (by decide) wm_1044 wm_1042 wm_10 ⟨by decide +kernel, by decide +kernel, by decide +kernel⟩ kl_8 wm_1043 wm_1158 (by decide +kernel : decode cX8_takeOrder 133 = .ok (.invokevirtual 286, 3))) (sb_cons (sd_aload_n (by decide +kernel : decode cX8_takeOrder 136 = .ok (.aload_n 0, 1)) rfl) (sb_cons (sd_iconst (by decide +kernel : decode cX8_takeOrder 137 = .ok (.iconst 1, 1)) ⟨by decide, by decide⟩) (sb_cons (sd_callv (n := 1) (met_X8_takeNumber l) (by decide) (by decide) wm_1048 wm_1046 wm_10 ⟨by decide +kernel, by decide +kernel, by decide +kernel⟩ kl_8 wm_1047 wm_1159 (by decide +kernel : decode cX8_takeOrder 138 = .ok (.invokevirtual 289, 3))) (sb_cons (sd_goto (x := 0) (by decide +kernel : decode cX8_takeOrder 141 = .ok (.goto 51, 3)) (by decide)) sb_nil)))))))
set_option maxRecDepth 100000 in
theorem sb_X8_takeOrder_144 (l : Launch) : sm_SndB l RX8 "takeOrder" cX8_takeOrder 2 0 3 144 [oA 0, oK 0, oK 55, oCv 8 30 p_X8_takeOne f_X8_takeOne 0 0 3, oA 0, oK 61, oCv 8 30 p_X8_takeSign f_X8_takeSign 0 0 2, oA 0, oK 1, oK 57, oCv 8 30 p_X8_takeOne f_X8_takeOne 0 0 3, oGo 192] := sb_cons (sd_aload_n (by decide +kernel : decode cX8_takeOrder 144 = .ok (.aload_n 0, 1)) rfl) (sb_cons (sd_iconst (by decide +kernel : decode cX8_takeOrder 145 = .ok (.iconst 0, 1)) ⟨by decide, by decide⟩) (sb_cons (sd_bipush (by decide +kernel : decode cX8_takeOrder 146 = .ok (.bipush 55, 2)) ⟨by decide, by decide⟩ (by decide)) (sb_cons (sd_callv (n := 2) (met_X8_takeOne l) (by decide) (by decide) wm_1040 wm_1038 wm_10 ⟨by decide +kernel, by decide +kernel, by decide +kernel⟩ kl_8 wm_1039 wm_1157 (by decide +kernel : decode cX8_takeOrder 148 = .ok (.invokevirtual 282, 3))) (sb_cons (sd_aload_n (by decide +kernel : decode cX8_takeOrder 151 = .ok (.aload_n 0, 1)) rfl) (sb_cons (sd_bipush (by decide +kernel : decode cX8_takeOrder 152 = .ok (.bipush 61, 2)) ⟨by decide, by decide⟩ (by decide)) (sb_cons (sd_callv (n := 1) (met_X8_takeSign l) (by decide) (by decide) wm_1044 wm_1042 wm_10 ⟨by decide +kernel, by decide +kernel, by decide +kernel⟩ kl_8 wm_1043 wm_1158 (by decide +kernel : decode cX8_takeOrder 154 = .ok (.invokevirtual 286, 3))) (sb_cons (sd_aload_n (by decide +kernel : decode cX8_takeOrder 157 = .ok (.aload_n 0, 1)) rfl) (sb_cons (sd_iconst (by decide +kernel : decode cX8_takeOrder 158 = .ok (.iconst 1, 1)) ⟨by decide, by decide⟩) (sb_cons (sd_bipush (by decide +kernel : decode cX8_takeOrder 159 = .ok (.bipush 57, 2)) ⟨by decide, by decide⟩ (by decide)) (sb_cons (sd_callv (n := 2) (met_X8_takeOne l) (by decide) (by decide) wm_1040 wm_1038 wm_10 ⟨by decide +kernel, by decide +kernel, by decide +kernel⟩ kl_8 wm_1039 wm_1157 (by decide +kernel : decode cX8_takeOrder 161 = .ok (.invokevirtual 282, 3))) (sb_cons (sd_goto (x := 0) (by decide +kernel : decode cX8_takeOrder 164 = .ok (.goto 28, 3)) (by decide)) sb_nil)))))))))))
set_option maxRecDepth 100000 in
theorem sb_X8_takeOrder_167 (l : Launch) : sm_SndB l RX8 "takeOrder" cX8_takeOrder 2 0 3 167 [oA 0, oK 0, oK 55, oCv 8 30 p_X8_takeOne f_X8_takeOne 0 0 3, oGo 192] := sb_cons (sd_aload_n (by decide +kernel : decode cX8_takeOrder 167 = .ok (.aload_n 0, 1)) rfl) (sb_cons (sd_iconst (by decide +kernel : decode cX8_takeOrder 168 = .ok (.iconst 0, 1)) ⟨by decide, by decide⟩) (sb_cons (sd_bipush (by decide +kernel : decode cX8_takeOrder 169 = .ok (.bipush 55, 2)) ⟨by decide, by decide⟩ (by decide)) (sb_cons (sd_callv (n := 2) (met_X8_takeOne l) (by decide) (by decide) wm_1040 wm_1038 wm_10 ⟨by decide +kernel, by decide +kernel, by decide +kernel⟩ kl_8 wm_1039 wm_1157 (by decide +kernel : decode cX8_takeOrder 171 = .ok (.invokevirtual 282, 3))) (sb_cons (sd_goto (x := 0) (by decide +kernel : decode cX8_takeOrder 174 = .ok (.goto 18, 3)) (by decide)) sb_nil))))
set_option maxRecDepth 100000 in
theorem sb_X8_takeOrder_177 (l : Launch) : sm_SndB l RX8 "takeOrder" cX8_takeOrder 2 0 3 177 [oA 0, oDup, oGi 8 30 25, oK 1, oSub, oPi 8 30 25, oA 0, oK 1, oPz 8 30 26, oGo 192] := sb_cons (sd_aload_n (by decide +kernel : decode cX8_takeOrder 177 = .ok (.aload_n 0, 1)) rfl) (sb_cons (sd_dup (by decide +kernel : decode cX8_takeOrder 178 = .ok (.dup, 1))) (sb_cons (sd_geti (k := 25) kl_8 (by decide) rfl wm_698 (by decide +kernel : decode cX8_takeOrder 179 = .ok (.getfield 270, 3))) (sb_cons (sd_iconst (by decide +kernel : decode cX8_takeOrder 182 = .ok (.iconst 1, 1)) ⟨by decide, by decide⟩) (sb_cons (sd_isub (by decide +kernel : decode cX8_takeOrder 183 = .ok (.isub, 1))) (sb_cons (sd_puti (k := 25) kl_8 (by decide) rfl (Or.inl rfl) wm_698 (by decide +kernel : decode cX8_takeOrder 184 = .ok (.putfield 270, 3))) (sb_cons (sd_aload_n (by decide +kernel : decode cX8_takeOrder 187 = .ok (.aload_n 0, 1)) rfl) (sb_cons (sd_iconst (by decide +kernel : decode cX8_takeOrder 188 = .ok (.iconst 1, 1)) ⟨by decide, by decide⟩) (sb_cons (sd_putz (k := 26) kl_8 (by decide) rfl (Or.inl rfl) wm_699 (by decide +kernel : decode cX8_takeOrder 189 = .ok (.putfield 273, 3))) (sb_cons (sd_fall (x := 0)) sb_nil)))))))))
set_option maxRecDepth 100000 in
theorem sb_X8_takeOrder_192 (l : Launch) : sm_SndB l RX8 "takeOrder" cX8_takeOrder 2 0 3 192 [oA 0, oGi 8 30 26, oNe0 219, oA 0, oGr 8 30 28, oA 0, oGi 8 30 27, oI 1, oIst, oA 0, oDup, oGi 8 30 27, oK 1, oAdd, oPi 8 30 27, oGo 219] := sb_cons (sd_aload_n (by decide +kernel : decode cX8_takeOrder 192 = .ok (.aload_n 0, 1)) rfl) (sb_cons (sd_geti (k := 26) kl_8 (by decide) rfl wm_699 (by decide +kernel : decode cX8_takeOrder 193 = .ok (.getfield 273, 3))) (sb_cons (sd_ne0 (by decide +kernel : decode cX8_takeOrder 196 = .ok (.ifCond .ne 23, 3)) (by decide)) (sb_cons (sd_aload_n (by decide +kernel : decode cX8_takeOrder 199 = .ok (.aload_n 0, 1)) rfl) (sb_cons (sd_getr (k := 28) kl_8 (by decide) rfl wm_701 (by decide +kernel : decode cX8_takeOrder 200 = .ok (.getfield 68, 3))) (sb_cons (sd_aload_n (by decide +kernel : decode cX8_takeOrder 203 = .ok (.aload_n 0, 1)) rfl) (sb_cons (sd_geti (k := 27) kl_8 (by decide) rfl wm_700 (by decide +kernel : decode cX8_takeOrder 204 = .ok (.getfield 279, 3))) (sb_cons (sd_iload_n (by decide +kernel : decode cX8_takeOrder 207 = .ok (.iload_n 1, 1)) rfl) (sb_cons (sd_iastore (by decide +kernel : decode cX8_takeOrder 208 = .ok (.iastore, 1))) (sb_cons (sd_aload_n (by decide +kernel : decode cX8_takeOrder 209 = .ok (.aload_n 0, 1)) rfl) (sb_cons (sd_dup (by decide +kernel : decode cX8_takeOrder 210 = .ok (.dup, 1))) (sb_cons (sd_geti (k := 27) kl_8 (by decide) rfl wm_700 (by decide +kernel : decode cX8_takeOrder 211 = .ok (.getfield 279, 3))) (sb_cons (sd_iconst (by decide +kernel : decode cX8_takeOrder 214 = .ok (.iconst 1, 1)) ⟨by decide, by decide⟩) (sb_cons (sd_iadd (by decide +kernel : decode cX8_takeOrder 215 = .ok (.iadd, 1))) (sb_cons (sd_puti (k := 27) kl_8 (by decide) rfl (Or.inl rfl) wm_700 (by decide +kernel : decode cX8_takeOrder 216 = .ok (.putfield 279, 3))) (sb_cons (sd_fall (x := 0)) sb_nil)))))))))))))))
set_option maxRecDepth 100000 in
theorem sb_X8_takeOrder_219 (l : Launch) : sm_SndB l RX8 "takeOrder" cX8_takeOrder 2 0 3 219 [oVr] := sb_cons (sd_return (x := 0) rfl (by decide +kernel : decode cX8_takeOrder 219 = .ok (.return_, 1))) sb_nil
theorem sn_X8_takeOrder (l : Launch) : sm_SndT l RX8 "takeOrder" cX8_takeOrder 2 0 3 tb_X8_takeOrder := st_cons (sb_X8_takeOrder_0 l) (st_cons (sb_X8_takeOrder_84 l) (st_cons (sb_X8_takeOrder_91 l) (st_cons (sb_X8_takeOrder_112 l) (st_cons (sb_X8_takeOrder_125 l) (st_cons (sb_X8_takeOrder_127 l) (st_cons (sb_X8_takeOrder_144 l) (st_cons (sb_X8_takeOrder_167 l) (st_cons (sb_X8_takeOrder_177 l) (st_cons (sb_X8_takeOrder_192 l) (st_cons (sb_X8_takeOrder_219 l) (st_nil)))))))))))
set_option maxRecDepth 100000 in
set_option maxHeartbeats 4000000 in
theorem ok_X8_takeOrder : sm_Ok tb_X8_takeOrder 2 0 0 p_X8_takeOrder f_X8_takeOrder := by
  intro as w hp ha hw
  match as, hp with
  | [.inr (.inl m)], hp =>
  refine ⟨Nat.le_of_ble_eq_true rfl, fun Z hZ => ?_⟩
  obtain ⟨rfl, hO, hs, hr⟩ := hp
  have h1 := hO.2.1
  have h2 := hO.2.2.1
  have h27 := hO.2.2.2.2.1
  have hO1 := tOK_25 (v := wI w 154 25 + 1) hO (by omega)
  have hb := tBody_st hO1 (tNext w) (by show 0 < wI w 154 25 + 1; omega)
  have e0 : tBody (wsI w 154 25 (wI w 154 25 + 1)) (tNext w) = tOrd0 w := rfl
  rw [e0] at hb
  have hb27 : wI (tOrd0 w) 154 27 = wI w 154 27 := hb.2.2.1
  have h192 : Z 192 [some (.inr (.inl 154)), some (.inl (tNext w))] [] (tOrd0 w) 0 0 := by
    have e9 : tOrdE (tNext w) (tOrd0 w) = tOrd w := rfl
    have hT := hb.1.1
    generalize tOrd0 w = u at *
    unfold tOrdE at e9
    by_cases c : wI u 154 26 = 0
    · rw [if_pos c] at e9
      refine hZ (fun u => Nat.beq u 192) 14 192 _ _ _ _ _ ?_
      simp only [sm_run, sm_blk, sm_get, sm_ent, sm_ents, sm_wds, sm_wd, sm_nl, sm_pop, sm_back, sm_cases, oK, oLK, oL, oI, oA, oJ, oIs, oAs, oJs, oInc, oAdd, oSub, oMul, oDiv, oRem, oNeg, oAnd, oAndB, oOr, oShl, oI2c, oI2l, oL2i, oLand, oLor, oLshl, oLshr, oLushr, oLcmp, oDup, oDup2, oPop, oGo, oFg, oEq, oNe, oLt, oGe, oGt, oLe, oEq0, oNe0, oLt0, oGe0, oGt0, oLe0, oSw, oGi, oGr, oPi, oPz, oPr, oLen, oIl, oZl, oCl, oRl, oIst, oZst, oCst, oRst, oCopy, oNew, oNa, oNa2, oObj, oCs, oCv, oCi, oIr, oZr, oVr, Nat.beq, List.getElem?_cons_zero, List.getElem?_cons_succ, List.set_cons_zero, List.set_cons_succ, List.length_cons, List.length_nil, List.nil_append, List.cons_append, List.append_nil, List.replicate_succ, List.replicate_zero, Nat.reduceAdd, Nat.reduceSub, Nat.reduceLT, Nat.reduceLeDiff, Nat.reduceBEq, true_and, and_true, Nat.zero_add, Nat.add_zero, Nat.le_refl, Option.some.injEq, exists_eq_left', true_or, or_true, or_false, false_or, reduceCtorEq, Prod.mk.injEq, Sum.inl.injEq, and_self, false_and, and_false, not_true_eq_false, not_false_eq_true, false_implies, true_implies, sm_r, Int.add_zero, Int.zero_add, wI_wsI, wS_wsI, wR_wsI, wI_wCp, wS_wCp, wR_wCp, Nat.reduceEqDiff, reduceIte, sT_iff, sT_iffC, wIf_ne, ne_eq, Bool.false_or, Bool.true_or, Bool.or_false, Bool.or_true, Bool.or_self, tb_X8_takeOrder, p_X8_next, p_X8_takeNumber, p_X8_takeOne, p_X8_takeShuttle, p_X8_takeSign, f_X8_next, f_X8_takeNumber, f_X8_takeOne, f_X8_takeShuttle, f_X8_takeSign, p_X8_takeOrder, f_X8_takeOrder, sS_154 hT, sR_154_28 hT, sS_174 hT, hT, sT_iff, Int.reduceEq, e9]
      repeat' (first | exact True.intro | with_reducible assumption | with_reducible refine And.intro ?_ ?_ | intro _)
      all_goals first
        | omega
        | assumption
        | rfl
        | (split <;> omega)
        | (have k9 := ih (by omega)
           (repeat' split at k9) <;> first | exact k9 | omega)
        | (have k9 := ih2 (by omega)
           (repeat' split at k9) <;> first | exact k9 | omega)
        | exact he (by omega)
        | (congr 1; omega)
        | (rw [if_pos (by omega)] at he; exact he)
        | exact hD1 (by omega)
        | exact hD2 (by omega)
        | grind
        | skip
    · rw [if_neg c] at e9
      refine hZ (fun u => Nat.beq u 192) 14 192 _ _ _ _ _ ?_
      simp only [sm_run, sm_blk, sm_get, sm_ent, sm_ents, sm_wds, sm_wd, sm_nl, sm_pop, sm_back, sm_cases, oK, oLK, oL, oI, oA, oJ, oIs, oAs, oJs, oInc, oAdd, oSub, oMul, oDiv, oRem, oNeg, oAnd, oAndB, oOr, oShl, oI2c, oI2l, oL2i, oLand, oLor, oLshl, oLshr, oLushr, oLcmp, oDup, oDup2, oPop, oGo, oFg, oEq, oNe, oLt, oGe, oGt, oLe, oEq0, oNe0, oLt0, oGe0, oGt0, oLe0, oSw, oGi, oGr, oPi, oPz, oPr, oLen, oIl, oZl, oCl, oRl, oIst, oZst, oCst, oRst, oCopy, oNew, oNa, oNa2, oObj, oCs, oCv, oCi, oIr, oZr, oVr, Nat.beq, List.getElem?_cons_zero, List.getElem?_cons_succ, List.set_cons_zero, List.set_cons_succ, List.length_cons, List.length_nil, List.nil_append, List.cons_append, List.append_nil, List.replicate_succ, List.replicate_zero, Nat.reduceAdd, Nat.reduceSub, Nat.reduceLT, Nat.reduceLeDiff, Nat.reduceBEq, true_and, and_true, Nat.zero_add, Nat.add_zero, Nat.le_refl, Option.some.injEq, exists_eq_left', true_or, or_true, or_false, false_or, reduceCtorEq, Prod.mk.injEq, Sum.inl.injEq, and_self, false_and, and_false, not_true_eq_false, not_false_eq_true, false_implies, true_implies, sm_r, Int.add_zero, Int.zero_add, wI_wsI, wS_wsI, wR_wsI, wI_wCp, wS_wCp, wR_wCp, Nat.reduceEqDiff, reduceIte, sT_iff, sT_iffC, wIf_ne, ne_eq, Bool.false_or, Bool.true_or, Bool.or_false, Bool.or_true, Bool.or_self, tb_X8_takeOrder, p_X8_next, p_X8_takeNumber, p_X8_takeOne, p_X8_takeShuttle, p_X8_takeSign, f_X8_next, f_X8_takeNumber, f_X8_takeOne, f_X8_takeShuttle, f_X8_takeSign, p_X8_takeOrder, f_X8_takeOrder, sS_154 hT]
      repeat' (first | exact True.intro | with_reducible assumption | with_reducible refine And.intro ?_ ?_ | intro _)
      all_goals first
        | omega
        | assumption
        | rfl
        | (split <;> omega)
        | (have k9 := ih (by omega)
           (repeat' split at k9) <;> first | exact k9 | omega)
        | (have k9 := ih2 (by omega)
           (repeat' split at k9) <;> first | exact k9 | omega)
        | exact he (by omega)
        | (congr 1; omega)
        | (rw [if_pos (by omega)] at he; exact he)
        | exact hD1 (by omega)
        | exact hD2 (by omega)
        | grind
        | skip
  have ih : (0 : Int) = 0 → Z 192 [some (.inr (.inl 154)), some (.inl (tNext w))] [] (tOrd0 w) 0 0 := fun _ => h192
  clear h192
  unfold tOrd0 tBody at ih
  have hT := hO.1
  have hT1 := hO1.1
  have a5 := tOne_st hO1 0 55
  have a4 := tOne_st hO1 0 54
  have b1 := tSign_st (s := 43) a5.1 (by decide)
  have b2 := tSign_st (s := 61) a5.1 (by decide)
  have b3 := tSign_st (s := 61) a4.1 (by decide)
  have c1 := a5.1
  have c2 := a4.1
  have c3 := b1.1
  have c4 := b2.1
  have c5 := b3.1
  refine hZ (fun u => Nat.beq u 192) 14 0 _ _ _ _ _ ?_
  simp only [sm_run, sm_blk, sm_get, sm_ent, sm_ents, sm_wds, sm_wd, sm_nl, sm_pop, sm_back, sm_cases, oK, oLK, oL, oI, oA, oJ, oIs, oAs, oJs, oInc, oAdd, oSub, oMul, oDiv, oRem, oNeg, oAnd, oAndB, oOr, oShl, oI2c, oI2l, oL2i, oLand, oLor, oLshl, oLshr, oLushr, oLcmp, oDup, oDup2, oPop, oGo, oFg, oEq, oNe, oLt, oGe, oGt, oLe, oEq0, oNe0, oLt0, oGe0, oGt0, oLe0, oSw, oGi, oGr, oPi, oPz, oPr, oLen, oIl, oZl, oCl, oRl, oIst, oZst, oCst, oRst, oCopy, oNew, oNa, oNa2, oObj, oCs, oCv, oCi, oIr, oZr, oVr, Nat.beq, List.getElem?_cons_zero, List.getElem?_cons_succ, List.set_cons_zero, List.set_cons_succ, List.length_cons, List.length_nil, List.nil_append, List.cons_append, List.append_nil, List.replicate_succ, List.replicate_zero, Nat.reduceAdd, Nat.reduceSub, Nat.reduceLT, Nat.reduceLeDiff, Nat.reduceBEq, true_and, and_true, Nat.zero_add, Nat.add_zero, Nat.le_refl, Option.some.injEq, exists_eq_left', true_or, or_true, or_false, false_or, reduceCtorEq, Prod.mk.injEq, Sum.inl.injEq, and_self, false_and, and_false, not_true_eq_false, not_false_eq_true, false_implies, true_implies, sm_r, Int.add_zero, Int.zero_add, wI_wsI, wS_wsI, wR_wsI, wI_wCp, wS_wCp, wR_wCp, Nat.reduceEqDiff, reduceIte, sT_iff, sT_iffC, wIf_ne, ne_eq, Bool.false_or, Bool.true_or, Bool.or_false, Bool.or_true, Bool.or_self, tb_X8_takeOrder, p_X8_next, p_X8_takeNumber, p_X8_takeOne, p_X8_takeShuttle, p_X8_takeSign, f_X8_next, f_X8_takeNumber, f_X8_takeOne, f_X8_takeShuttle, f_X8_takeSign, p_X8_takeOrder, f_X8_takeOrder, sS_154 hT, hO, hO1, sS_154 hT1, c1, c2, c3, c4, c5, sS_154 c1.1, sS_154 c2.1, sS_154 c3.1, sS_154 c4.1, sS_154 c5.1, sT_iff, Int.reduceEq, Int.reduceAdd]
  repeat' (first | exact True.intro | with_reducible assumption | with_reducible refine And.intro ?_ ?_ | intro _)
  all_goals first
    | omega
    | assumption
    | rfl
    | (split <;> omega)
    | (have k9 := ih (by omega)
       (repeat' split at k9) <;> first | exact k9 | omega)
    | (have k9 := ih2 (by omega)
       (repeat' split at k9) <;> first | exact k9 | omega)
    | exact he (by omega)
    | (congr 1; omega)
    | (rw [if_pos (by omega)] at he; exact he)
    | exact hD1 (by omega)
    | exact hD2 (by omega)
    | skip

theorem met_X8_takeOrder (l : Launch) : sm_Met l yX8_takeOrder cX8_takeOrder 2 none 3 0 0 p_X8_takeOrder f_X8_takeOrder := sm_met 0 (Or.inl ⟨rfl, rfl⟩) (by decide +kernel) (sn_X8_takeOrder l) ok_X8_takeOrder