/-! CONSTRUCTORS: the reference -/
def mG0 (w : sm_W) : sm_W := w
def mG1 (w : sm_W) : sm_W := wsR (wNw (mG0 w) 9 57) 154 0 155
def mG2 (w : sm_W) : sm_W := wsR (wNw (mG1 w) 9 342) 154 1 156
def mG3 (w : sm_W) : sm_W := wsR (wNw (mG2 w) 9 114) 154 4 157
def mG4 (w : sm_W) : sm_W := wsR (wNw (mG3 w) 10 2) 154 5 158
def mG5 (w : sm_W) : sm_W := wsR (wNw (mG4 w) 9 57) 154 6 159
def mG6 (w : sm_W) : sm_W := wsR (wNw (mG5 w) 9 8) 154 7 160
def mG7 (w : sm_W) : sm_W := wsR (wNw (mG6 w) 9 8) 154 8 161
def mG8 (w : sm_W) : sm_W := wsR (wNw (mG7 w) 9 8) 154 9 162
def mG9 (w : sm_W) : sm_W := wsR (wNw (mG8 w) 9 64) 154 10 163
def mG10 (w : sm_W) : sm_W := wsR (wNw (mG9 w) 9 64) 154 11 164
def mG11 (w : sm_W) : sm_W := wsR (wNw (mG10 w) 9 64) 154 12 165
def mG12 (w : sm_W) : sm_W := wsR (wNw (mG11 w) 9 64) 154 13 166
def mG13 (w : sm_W) : sm_W := wsR (wNw (mG12 w) 9 64) 154 14 167
def mG14 (w : sm_W) : sm_W := wsR (wNw (mG13 w) 9 64) 154 15 168
def mG15 (w : sm_W) : sm_W := wsR (wNw (mG14 w) 9 32) 154 16 169
def mG16 (w : sm_W) : sm_W := wsR (wNw (mG15 w) 9 57) 154 19 170
def mG17 (w : sm_W) : sm_W := wsR (wNw (mG16 w) 9 5) 154 21 171
def mG18 (w : sm_W) : sm_W := wsR (wNw (mG17 w) 9 5) 154 22 172
def mG19 (w : sm_W) : sm_W := wsR (wNw (mG18 w) 9 80) 154 23 173
def mG20 (w : sm_W) : sm_W := wsR (wNw (mG19 w) 9 29) 154 28 174
def mG21 (w : sm_W) : sm_W := wsR (wNw (mG20 w) 9 145) 154 29 175
theorem mG0_in {w : sm_W} (hn : w.1 = 155) (hs : wS w 154 = (8, 30)) : (mG0 w).1 = 155 ∧ wS (mG0 w) 154 = (8, 30) := ⟨hn, hs⟩
theorem mG1_in {w : sm_W} (hn : w.1 = 155) (hs : wS w 154 = (8, 30)) : (mG1 w).1 = 156 ∧ wS (mG1 w) 154 = (8, 30) := by
  have h := mG0_in hn hs
  unfold mG1
  generalize mG0 w = u at *
  refine ⟨by rw [wsR_n, wNw_n, h.1], ?_⟩
  rw [wS_wsR, wS_wNw, if_neg (by omega), h.2]
theorem mG2_in {w : sm_W} (hn : w.1 = 155) (hs : wS w 154 = (8, 30)) : (mG2 w).1 = 157 ∧ wS (mG2 w) 154 = (8, 30) := by
  have h := mG1_in hn hs
  unfold mG2
  generalize mG1 w = u at *
  refine ⟨by rw [wsR_n, wNw_n, h.1], ?_⟩
  rw [wS_wsR, wS_wNw, if_neg (by omega), h.2]
theorem mG3_in {w : sm_W} (hn : w.1 = 155) (hs : wS w 154 = (8, 30)) : (mG3 w).1 = 158 ∧ wS (mG3 w) 154 = (8, 30) := by
  have h := mG2_in hn hs
  unfold mG3
  generalize mG2 w = u at *
  refine ⟨by rw [wsR_n, wNw_n, h.1], ?_⟩
  rw [wS_wsR, wS_wNw, if_neg (by omega), h.2]
theorem mG4_in {w : sm_W} (hn : w.1 = 155) (hs : wS w 154 = (8, 30)) : (mG4 w).1 = 159 ∧ wS (mG4 w) 154 = (8, 30) := by
  have h := mG3_in hn hs
  unfold mG4
  generalize mG3 w = u at *
  refine ⟨by rw [wsR_n, wNw_n, h.1], ?_⟩
  rw [wS_wsR, wS_wNw, if_neg (by omega), h.2]
theorem mG5_in {w : sm_W} (hn : w.1 = 155) (hs : wS w 154 = (8, 30)) : (mG5 w).1 = 160 ∧ wS (mG5 w) 154 = (8, 30) := by
  have h := mG4_in hn hs
  unfold mG5
  generalize mG4 w = u at *
  refine ⟨by rw [wsR_n, wNw_n, h.1], ?_⟩
  rw [wS_wsR, wS_wNw, if_neg (by omega), h.2]
theorem mG6_in {w : sm_W} (hn : w.1 = 155) (hs : wS w 154 = (8, 30)) : (mG6 w).1 = 161 ∧ wS (mG6 w) 154 = (8, 30) := by
  have h := mG5_in hn hs
  unfold mG6
  generalize mG5 w = u at *
  refine ⟨by rw [wsR_n, wNw_n, h.1], ?_⟩
  rw [wS_wsR, wS_wNw, if_neg (by omega), h.2]
theorem mG7_in {w : sm_W} (hn : w.1 = 155) (hs : wS w 154 = (8, 30)) : (mG7 w).1 = 162 ∧ wS (mG7 w) 154 = (8, 30) := by
  have h := mG6_in hn hs
  unfold mG7
  generalize mG6 w = u at *
  refine ⟨by rw [wsR_n, wNw_n, h.1], ?_⟩
  rw [wS_wsR, wS_wNw, if_neg (by omega), h.2]
theorem mG8_in {w : sm_W} (hn : w.1 = 155) (hs : wS w 154 = (8, 30)) : (mG8 w).1 = 163 ∧ wS (mG8 w) 154 = (8, 30) := by
  have h := mG7_in hn hs
  unfold mG8
  generalize mG7 w = u at *
  refine ⟨by rw [wsR_n, wNw_n, h.1], ?_⟩
  rw [wS_wsR, wS_wNw, if_neg (by omega), h.2]
theorem mG9_in {w : sm_W} (hn : w.1 = 155) (hs : wS w 154 = (8, 30)) : (mG9 w).1 = 164 ∧ wS (mG9 w) 154 = (8, 30) := by
  have h := mG8_in hn hs
  unfold mG9
  generalize mG8 w = u at *
  refine ⟨by rw [wsR_n, wNw_n, h.1], ?_⟩
  rw [wS_wsR, wS_wNw, if_neg (by omega), h.2]
theorem mG10_in {w : sm_W} (hn : w.1 = 155) (hs : wS w 154 = (8, 30)) : (mG10 w).1 = 165 ∧ wS (mG10 w) 154 = (8, 30) := by
  have h := mG9_in hn hs
  unfold mG10
  generalize mG9 w = u at *
  refine ⟨by rw [wsR_n, wNw_n, h.1], ?_⟩
  rw [wS_wsR, wS_wNw, if_neg (by omega), h.2]
theorem mG11_in {w : sm_W} (hn : w.1 = 155) (hs : wS w 154 = (8, 30)) : (mG11 w).1 = 166 ∧ wS (mG11 w) 154 = (8, 30) := by
  have h := mG10_in hn hs
  unfold mG11
  generalize mG10 w = u at *
  refine ⟨by rw [wsR_n, wNw_n, h.1], ?_⟩
  rw [wS_wsR, wS_wNw, if_neg (by omega), h.2]
theorem mG12_in {w : sm_W} (hn : w.1 = 155) (hs : wS w 154 = (8, 30)) : (mG12 w).1 = 167 ∧ wS (mG12 w) 154 = (8, 30) := by
  have h := mG11_in hn hs
  unfold mG12
  generalize mG11 w = u at *
  refine ⟨by rw [wsR_n, wNw_n, h.1], ?_⟩
  rw [wS_wsR, wS_wNw, if_neg (by omega), h.2]
theorem mG13_in {w : sm_W} (hn : w.1 = 155) (hs : wS w 154 = (8, 30)) : (mG13 w).1 = 168 ∧ wS (mG13 w) 154 = (8, 30) := by
  have h := mG12_in hn hs
  unfold mG13
  generalize mG12 w = u at *
  refine ⟨by rw [wsR_n, wNw_n, h.1], ?_⟩
  rw [wS_wsR, wS_wNw, if_neg (by omega), h.2]
theorem mG14_in {w : sm_W} (hn : w.1 = 155) (hs : wS w 154 = (8, 30)) : (mG14 w).1 = 169 ∧ wS (mG14 w) 154 = (8, 30) := by
  have h := mG13_in hn hs
  unfold mG14
  generalize mG13 w = u at *
  refine ⟨by rw [wsR_n, wNw_n, h.1], ?_⟩
  rw [wS_wsR, wS_wNw, if_neg (by omega), h.2]
theorem mG15_in {w : sm_W} (hn : w.1 = 155) (hs : wS w 154 = (8, 30)) : (mG15 w).1 = 170 ∧ wS (mG15 w) 154 = (8, 30) := by
  have h := mG14_in hn hs
  unfold mG15
  generalize mG14 w = u at *
  refine ⟨by rw [wsR_n, wNw_n, h.1], ?_⟩
  rw [wS_wsR, wS_wNw, if_neg (by omega), h.2]
theorem mG16_in {w : sm_W} (hn : w.1 = 155) (hs : wS w 154 = (8, 30)) : (mG16 w).1 = 171 ∧ wS (mG16 w) 154 = (8, 30) := by
  have h := mG15_in hn hs
  unfold mG16
  generalize mG15 w = u at *
  refine ⟨by rw [wsR_n, wNw_n, h.1], ?_⟩
  rw [wS_wsR, wS_wNw, if_neg (by omega), h.2]
theorem mG17_in {w : sm_W} (hn : w.1 = 155) (hs : wS w 154 = (8, 30)) : (mG17 w).1 = 172 ∧ wS (mG17 w) 154 = (8, 30) := by
  have h := mG16_in hn hs
  unfold mG17
  generalize mG16 w = u at *
  refine ⟨by rw [wsR_n, wNw_n, h.1], ?_⟩
  rw [wS_wsR, wS_wNw, if_neg (by omega), h.2]
theorem mG18_in {w : sm_W} (hn : w.1 = 155) (hs : wS w 154 = (8, 30)) : (mG18 w).1 = 173 ∧ wS (mG18 w) 154 = (8, 30) := by
  have h := mG17_in hn hs
  unfold mG18
  generalize mG17 w = u at *
  refine ⟨by rw [wsR_n, wNw_n, h.1], ?_⟩
  rw [wS_wsR, wS_wNw, if_neg (by omega), h.2]
theorem mG19_in {w : sm_W} (hn : w.1 = 155) (hs : wS w 154 = (8, 30)) : (mG19 w).1 = 174 ∧ wS (mG19 w) 154 = (8, 30) := by
  have h := mG18_in hn hs
  unfold mG19
  generalize mG18 w = u at *
  refine ⟨by rw [wsR_n, wNw_n, h.1], ?_⟩
  rw [wS_wsR, wS_wNw, if_neg (by omega), h.2]
theorem mG20_in {w : sm_W} (hn : w.1 = 155) (hs : wS w 154 = (8, 30)) : (mG20 w).1 = 175 ∧ wS (mG20 w) 154 = (8, 30) := by
  have h := mG19_in hn hs
  unfold mG20
  generalize mG19 w = u at *
  refine ⟨by rw [wsR_n, wNw_n, h.1], ?_⟩
  rw [wS_wsR, wS_wNw, if_neg (by omega), h.2]
theorem mG21_in {w : sm_W} (hn : w.1 = 155) (hs : wS w 154 = (8, 30)) : (mG21 w).1 = 176 ∧ wS (mG21 w) 154 = (8, 30) := by
  have h := mG20_in hn hs
  unfold mG21
  generalize mG20 w = u at *
  refine ⟨by rw [wsR_n, wNw_n, h.1], ?_⟩
  rw [wS_wsR, wS_wNw, if_neg (by omega), h.2]
theorem mG1_at {w : sm_W} (hn : w.1 = 155) : wS (mG1 w) 155 = (9, 57) ∧ wR (mG1 w) 154 0 = some 155 := by
  unfold mG1 mG0
  refine ⟨by rw [wS_wsR, wS_wNw, if_pos hn.symm], by rw [wR_wsR, if_pos ⟨rfl, rfl⟩]⟩
theorem mG2_at {w : sm_W} (hn : w.1 = 155) (hs : wS w 154 = (8, 30)) : wS (mG2 w) 155 = (9, 57) ∧ wR (mG2 w) 154 0 = some 155 := by
  have h := mG1_in hn hs
  have h2 := mG1_at hn
  unfold mG2
  generalize mG1 w = u at *
  refine ⟨?_, ?_⟩
  · rw [wS_wsR, wS_wNw, if_neg (by omega), h2.1]
  · rw [wR_wsR, if_neg (by omega), wR_wNw, if_neg (by omega), h2.2]
theorem mG3_at {w : sm_W} (hn : w.1 = 155) (hs : wS w 154 = (8, 30)) : wS (mG3 w) 155 = (9, 57) ∧ wR (mG3 w) 154 0 = some 155 := by
  have h := mG2_in hn hs
  have h2 := mG2_at hn hs
  unfold mG3
  generalize mG2 w = u at *
  refine ⟨?_, ?_⟩
  · rw [wS_wsR, wS_wNw, if_neg (by omega), h2.1]
  · rw [wR_wsR, if_neg (by omega), wR_wNw, if_neg (by omega), h2.2]
theorem mG4_at {w : sm_W} (hn : w.1 = 155) (hs : wS w 154 = (8, 30)) : wS (mG4 w) 155 = (9, 57) ∧ wR (mG4 w) 154 0 = some 155 := by
  have h := mG3_in hn hs
  have h2 := mG3_at hn hs
  unfold mG4
  generalize mG3 w = u at *
  refine ⟨?_, ?_⟩
  · rw [wS_wsR, wS_wNw, if_neg (by omega), h2.1]
  · rw [wR_wsR, if_neg (by omega), wR_wNw, if_neg (by omega), h2.2]
theorem mG5_at {w : sm_W} (hn : w.1 = 155) (hs : wS w 154 = (8, 30)) : wS (mG5 w) 155 = (9, 57) ∧ wR (mG5 w) 154 0 = some 155 := by
  have h := mG4_in hn hs
  have h2 := mG4_at hn hs
  unfold mG5
  generalize mG4 w = u at *
  refine ⟨?_, ?_⟩
  · rw [wS_wsR, wS_wNw, if_neg (by omega), h2.1]
  · rw [wR_wsR, if_neg (by omega), wR_wNw, if_neg (by omega), h2.2]
theorem mG6_at {w : sm_W} (hn : w.1 = 155) (hs : wS w 154 = (8, 30)) : wS (mG6 w) 155 = (9, 57) ∧ wR (mG6 w) 154 0 = some 155 := by
  have h := mG5_in hn hs
  have h2 := mG5_at hn hs
  unfold mG6
  generalize mG5 w = u at *
  refine ⟨?_, ?_⟩
  · rw [wS_wsR, wS_wNw, if_neg (by omega), h2.1]
  · rw [wR_wsR, if_neg (by omega), wR_wNw, if_neg (by omega), h2.2]
theorem mG7_at {w : sm_W} (hn : w.1 = 155) (hs : wS w 154 = (8, 30)) : wS (mG7 w) 155 = (9, 57) ∧ wR (mG7 w) 154 0 = some 155 := by
  have h := mG6_in hn hs
  have h2 := mG6_at hn hs
  unfold mG7
  generalize mG6 w = u at *
  refine ⟨?_, ?_⟩
  · rw [wS_wsR, wS_wNw, if_neg (by omega), h2.1]
  · rw [wR_wsR, if_neg (by omega), wR_wNw, if_neg (by omega), h2.2]
theorem mG8_at {w : sm_W} (hn : w.1 = 155) (hs : wS w 154 = (8, 30)) : wS (mG8 w) 155 = (9, 57) ∧ wR (mG8 w) 154 0 = some 155 := by
  have h := mG7_in hn hs
  have h2 := mG7_at hn hs
  unfold mG8
  generalize mG7 w = u at *
  refine ⟨?_, ?_⟩
  · rw [wS_wsR, wS_wNw, if_neg (by omega), h2.1]
  · rw [wR_wsR, if_neg (by omega), wR_wNw, if_neg (by omega), h2.2]
theorem mG9_at {w : sm_W} (hn : w.1 = 155) (hs : wS w 154 = (8, 30)) : wS (mG9 w) 155 = (9, 57) ∧ wR (mG9 w) 154 0 = some 155 := by
  have h := mG8_in hn hs
  have h2 := mG8_at hn hs
  unfold mG9
  generalize mG8 w = u at *
  refine ⟨?_, ?_⟩
  · rw [wS_wsR, wS_wNw, if_neg (by omega), h2.1]
  · rw [wR_wsR, if_neg (by omega), wR_wNw, if_neg (by omega), h2.2]
theorem mG10_at {w : sm_W} (hn : w.1 = 155) (hs : wS w 154 = (8, 30)) : wS (mG10 w) 155 = (9, 57) ∧ wR (mG10 w) 154 0 = some 155 := by
  have h := mG9_in hn hs
  have h2 := mG9_at hn hs
  unfold mG10
  generalize mG9 w = u at *
  refine ⟨?_, ?_⟩
  · rw [wS_wsR, wS_wNw, if_neg (by omega), h2.1]
  · rw [wR_wsR, if_neg (by omega), wR_wNw, if_neg (by omega), h2.2]
theorem mG11_at {w : sm_W} (hn : w.1 = 155) (hs : wS w 154 = (8, 30)) : wS (mG11 w) 155 = (9, 57) ∧ wR (mG11 w) 154 0 = some 155 := by
  have h := mG10_in hn hs
  have h2 := mG10_at hn hs
  unfold mG11
  generalize mG10 w = u at *
  refine ⟨?_, ?_⟩
  · rw [wS_wsR, wS_wNw, if_neg (by omega), h2.1]
  · rw [wR_wsR, if_neg (by omega), wR_wNw, if_neg (by omega), h2.2]
theorem mG12_at {w : sm_W} (hn : w.1 = 155) (hs : wS w 154 = (8, 30)) : wS (mG12 w) 155 = (9, 57) ∧ wR (mG12 w) 154 0 = some 155 := by
  have h := mG11_in hn hs
  have h2 := mG11_at hn hs
  unfold mG12
  generalize mG11 w = u at *
  refine ⟨?_, ?_⟩
  · rw [wS_wsR, wS_wNw, if_neg (by omega), h2.1]
  · rw [wR_wsR, if_neg (by omega), wR_wNw, if_neg (by omega), h2.2]
theorem mG13_at {w : sm_W} (hn : w.1 = 155) (hs : wS w 154 = (8, 30)) : wS (mG13 w) 155 = (9, 57) ∧ wR (mG13 w) 154 0 = some 155 := by
  have h := mG12_in hn hs
  have h2 := mG12_at hn hs
  unfold mG13
  generalize mG12 w = u at *
  refine ⟨?_, ?_⟩
  · rw [wS_wsR, wS_wNw, if_neg (by omega), h2.1]
  · rw [wR_wsR, if_neg (by omega), wR_wNw, if_neg (by omega), h2.2]
theorem mG14_at {w : sm_W} (hn : w.1 = 155) (hs : wS w 154 = (8, 30)) : wS (mG14 w) 155 = (9, 57) ∧ wR (mG14 w) 154 0 = some 155 := by
  have h := mG13_in hn hs
  have h2 := mG13_at hn hs
  unfold mG14
  generalize mG13 w = u at *
  refine ⟨?_, ?_⟩
  · rw [wS_wsR, wS_wNw, if_neg (by omega), h2.1]
  · rw [wR_wsR, if_neg (by omega), wR_wNw, if_neg (by omega), h2.2]
theorem mG15_at {w : sm_W} (hn : w.1 = 155) (hs : wS w 154 = (8, 30)) : wS (mG15 w) 155 = (9, 57) ∧ wR (mG15 w) 154 0 = some 155 := by
  have h := mG14_in hn hs
  have h2 := mG14_at hn hs
  unfold mG15
  generalize mG14 w = u at *
  refine ⟨?_, ?_⟩
  · rw [wS_wsR, wS_wNw, if_neg (by omega), h2.1]
  · rw [wR_wsR, if_neg (by omega), wR_wNw, if_neg (by omega), h2.2]
theorem mG16_at {w : sm_W} (hn : w.1 = 155) (hs : wS w 154 = (8, 30)) : wS (mG16 w) 155 = (9, 57) ∧ wR (mG16 w) 154 0 = some 155 := by
  have h := mG15_in hn hs
  have h2 := mG15_at hn hs
  unfold mG16
  generalize mG15 w = u at *
  refine ⟨?_, ?_⟩
  · rw [wS_wsR, wS_wNw, if_neg (by omega), h2.1]
  · rw [wR_wsR, if_neg (by omega), wR_wNw, if_neg (by omega), h2.2]
theorem mG17_at {w : sm_W} (hn : w.1 = 155) (hs : wS w 154 = (8, 30)) : wS (mG17 w) 155 = (9, 57) ∧ wR (mG17 w) 154 0 = some 155 := by
  have h := mG16_in hn hs
  have h2 := mG16_at hn hs
  unfold mG17
  generalize mG16 w = u at *
  refine ⟨?_, ?_⟩
  · rw [wS_wsR, wS_wNw, if_neg (by omega), h2.1]
  · rw [wR_wsR, if_neg (by omega), wR_wNw, if_neg (by omega), h2.2]
theorem mG18_at {w : sm_W} (hn : w.1 = 155) (hs : wS w 154 = (8, 30)) : wS (mG18 w) 155 = (9, 57) ∧ wR (mG18 w) 154 0 = some 155 := by
  have h := mG17_in hn hs
  have h2 := mG17_at hn hs
  unfold mG18
  generalize mG17 w = u at *
  refine ⟨?_, ?_⟩
  · rw [wS_wsR, wS_wNw, if_neg (by omega), h2.1]
  · rw [wR_wsR, if_neg (by omega), wR_wNw, if_neg (by omega), h2.2]
theorem mG19_at {w : sm_W} (hn : w.1 = 155) (hs : wS w 154 = (8, 30)) : wS (mG19 w) 155 = (9, 57) ∧ wR (mG19 w) 154 0 = some 155 := by
  have h := mG18_in hn hs
  have h2 := mG18_at hn hs
  unfold mG19
  generalize mG18 w = u at *
  refine ⟨?_, ?_⟩
  · rw [wS_wsR, wS_wNw, if_neg (by omega), h2.1]
  · rw [wR_wsR, if_neg (by omega), wR_wNw, if_neg (by omega), h2.2]
theorem mG20_at {w : sm_W} (hn : w.1 = 155) (hs : wS w 154 = (8, 30)) : wS (mG20 w) 155 = (9, 57) ∧ wR (mG20 w) 154 0 = some 155 := by
  have h := mG19_in hn hs
  have h2 := mG19_at hn hs
  unfold mG20
  generalize mG19 w = u at *
  refine ⟨?_, ?_⟩
  · rw [wS_wsR, wS_wNw, if_neg (by omega), h2.1]
  · rw [wR_wsR, if_neg (by omega), wR_wNw, if_neg (by omega), h2.2]
theorem mG21_at {w : sm_W} (hn : w.1 = 155) (hs : wS w 154 = (8, 30)) : wS (mG21 w) 155 = (9, 57) ∧ wR (mG21 w) 154 0 = some 155 := by
  have h := mG20_in hn hs
  have h2 := mG20_at hn hs
  unfold mG21
  generalize mG20 w = u at *
  refine ⟨?_, ?_⟩
  · rw [wS_wsR, wS_wNw, if_neg (by omega), h2.1]
  · rw [wR_wsR, if_neg (by omega), wR_wNw, if_neg (by omega), h2.2]
def iA (b v k : Int) (w : sm_W) : sm_W := wsI w 155 (b + k) v
def mCtr1 (w : sm_W) : sm_W := itI (iA 2 2) (mG21 w) 8
def mCtr0 (w : sm_W) : sm_W := itI (iA 10 10) (mCtr1 w) 7
theorem iA_S (b v : Int) (u : sm_W) (n : Int) (hn : 0 ≤ n) : (∀ a, wS (itI (iA b v) u n) a = wS u a) ∧ (∀ a j, wR (itI (iA b v) u n) a j = wR u a j) ∧ (itI (iA b v) u n).1 = u.1 :=
  itI_ind (f := iA b v) (fun _ r => (∀ a, wS r a = wS u a) ∧ (∀ a j, wR r a j = wR u a j) ∧ r.1 = u.1) n ⟨fun _ => rfl, fun _ _ => rfl, rfl⟩ (fun i r _ _ h => ⟨fun a => h.1 a, fun a j => h.2.1 a j, h.2.2⟩) n hn (Int.le_refl _)
def p_X8_init : List sm_V → sm_W → Prop
  | [.inr (.inl a)], w => a = 154 ∧ w.1 = 155 ∧ wS w 154 = (8, 30)
  | _, _ => False
def f_X8_init : sm_F
  | [.inr (.inl a)], w => (none, mCtr0 w)
  | _, w => (none, w)
def tb_X8_init : List (Nat × List sm_O) := [(0, [oA 0, oObj, oA 0, oK 57, oNa 9, oPr 8 30 0, oGo 12]),
  (12, [oA 0, oK 342, oNa 9, oPr 8 30 1, oGo 21]),
  (21, [oA 0, oK 114, oNa 9, oPr 8 30 4, oGo 29]),
  (29, [oA 0, oK 2, oNa 10, oPr 8 30 5, oGo 36]),
  (36, [oA 0, oK 57, oNa 9, oPr 8 30 6, oGo 44]),
  (44, [oA 0, oK 8, oNa 9, oPr 8 30 7, oGo 52]),
  (52, [oA 0, oK 8, oNa 9, oPr 8 30 8, oGo 60]),
  (60, [oA 0, oK 8, oNa 9, oPr 8 30 9, oGo 68]),
  (68, [oA 0, oK 64, oNa 9, oPr 8 30 10, oGo 76]),
  (76, [oA 0, oK 64, oNa 9, oPr 8 30 11, oGo 84]),
  (84, [oA 0, oK 64, oNa 9, oPr 8 30 12, oGo 92]),
  (92, [oA 0, oK 64, oNa 9, oPr 8 30 13, oGo 100]),
  (100, [oA 0, oK 64, oNa 9, oPr 8 30 14, oGo 108]),
  (108, [oA 0, oK 64, oNa 9, oPr 8 30 15, oGo 116]),
  (116, [oA 0, oK 32, oNa 9, oPr 8 30 16, oGo 124]),
  (124, [oA 0, oK 57, oNa 9, oPr 8 30 19, oGo 132]),
  (132, [oA 0, oK 5, oNa 9, oPr 8 30 21, oGo 139]),
  (139, [oA 0, oK 5, oNa 9, oPr 8 30 22, oGo 146]),
  (146, [oA 0, oK 80, oNa 9, oPr 8 30 23, oGo 154]),
  (154, [oA 0, oK 29, oNa 9, oPr 8 30 28, oGo 162]),
  (162, [oA 0, oK 145, oNa 9, oPr 8 30 29, oGo 171]),
  (171, [oK 0, oIs 1, oGo 173]),
  (173, [oI 1, oK 8, oGe 194, oA 0, oGr 8 30 0, oK 2, oI 1, oAdd, oK 2, oIst, oInc 1 1, oGo 173]),
  (194, [oK 0, oIs 1, oGo 196]),
  (196, [oI 1, oK 7, oGe 219, oA 0, oGr 8 30 0, oK 10, oI 1, oAdd, oK 10, oIst, oInc 1 1, oGo 196]),
  (219, [oVr])]
set_option maxRecDepth 100000 in
theorem sb_X8_init_0 (l : Launch) : sm_SndB l RX8 "<init>" cX8_init 2 0 1 0 [oA 0, oObj, oA 0, oK 57, oNa 9, oPr 8 30 0, oGo 12] := sb_cons (sd_aload_n (by decide +kernel : decode cX8_init 0 = .ok (.aload_n 0, 1)) rfl) (sb_cons (sd_obj (by decide) wm_672 wm_20 wm_21 (by decide +kernel : decode cX8_init 1 = .ok (.invokespecial 1, 3))) (sb_cons (sd_aload_n (by decide +kernel : decode cX8_init 4 = .ok (.aload_n 0, 1)) rfl) (sb_cons (sd_bipush (by decide +kernel : decode cX8_init 5 = .ok (.bipush 57, 2)) ⟨by decide, by decide⟩ (by decide)) (sb_cons (sd_newa_i wm_66 (by decide +kernel : decode cX8_init 7 = .ok (.newarray .int, 2))) (sb_cons (sd_putr (k := 0) kl_8 (by decide) rfl (fun _ => ⟨rfl, rfl⟩) (Or.inr ⟨rfl, rfl⟩) wm_673 (by decide +kernel : decode cX8_init 9 = .ok (.putfield 7, 3))) (sb_cons (sd_fall (x := 0)) sb_nil))))))
set_option maxRecDepth 100000 in
theorem sb_X8_init_12 (l : Launch) : sm_SndB l RX8 "<init>" cX8_init 2 0 1 12 [oA 0, oK 342, oNa 9, oPr 8 30 1, oGo 21] := sb_cons (sd_aload_n (by decide +kernel : decode cX8_init 12 = .ok (.aload_n 0, 1)) rfl) (sb_cons (sd_sipush (by decide +kernel : decode cX8_init 13 = .ok (.sipush 342, 3)) ⟨by decide, by decide⟩ (by decide)) (sb_cons (sd_newa_i wm_66 (by decide +kernel : decode cX8_init 16 = .ok (.newarray .int, 2))) (sb_cons (sd_putr (k := 1) kl_8 (by decide) rfl (fun _ => ⟨rfl, rfl⟩) (Or.inr ⟨rfl, rfl⟩) wm_674 (by decide +kernel : decode cX8_init 18 = .ok (.putfield 13, 3))) (sb_cons (sd_fall (x := 0)) sb_nil))))
set_option maxRecDepth 100000 in
theorem sb_X8_init_21 (l : Launch) : sm_SndB l RX8 "<init>" cX8_init 2 0 1 21 [oA 0, oK 114, oNa 9, oPr 8 30 4, oGo 29] := sb_cons (sd_aload_n (by decide +kernel : decode cX8_init 21 = .ok (.aload_n 0, 1)) rfl) (sb_cons (sd_bipush (by decide +kernel : decode cX8_init 22 = .ok (.bipush 114, 2)) ⟨by decide, by decide⟩ (by decide)) (sb_cons (sd_newa_i wm_66 (by decide +kernel : decode cX8_init 24 = .ok (.newarray .int, 2))) (sb_cons (sd_putr (k := 4) kl_8 (by decide) rfl (fun _ => ⟨rfl, rfl⟩) (Or.inr ⟨rfl, rfl⟩) wm_677 (by decide +kernel : decode cX8_init 26 = .ok (.putfield 16, 3))) (sb_cons (sd_fall (x := 0)) sb_nil))))
set_option maxRecDepth 100000 in
theorem sb_X8_init_29 (l : Launch) : sm_SndB l RX8 "<init>" cX8_init 2 0 1 29 [oA 0, oK 2, oNa 10, oPr 8 30 5, oGo 36] := sb_cons (sd_aload_n (by decide +kernel : decode cX8_init 29 = .ok (.aload_n 0, 1)) rfl) (sb_cons (sd_iconst (by decide +kernel : decode cX8_init 30 = .ok (.iconst 2, 1)) ⟨by decide, by decide⟩) (sb_cons (sd_newa_z wm_89 (by decide +kernel : decode cX8_init 31 = .ok (.newarray .boolean, 2))) (sb_cons (sd_putr (k := 5) kl_8 (by decide) rfl (fun _ => ⟨rfl, rfl⟩) (Or.inr ⟨rfl, rfl⟩) wm_678 (by decide +kernel : decode cX8_init 33 = .ok (.putfield 19, 3))) (sb_cons (sd_fall (x := 0)) sb_nil))))
set_option maxRecDepth 100000 in
theorem sb_X8_init_36 (l : Launch) : sm_SndB l RX8 "<init>" cX8_init 2 0 1 36 [oA 0, oK 57, oNa 9, oPr 8 30 6, oGo 44] := sb_cons (sd_aload_n (by decide +kernel : decode cX8_init 36 = .ok (.aload_n 0, 1)) rfl) (sb_cons (sd_bipush (by decide +kernel : decode cX8_init 37 = .ok (.bipush 57, 2)) ⟨by decide, by decide⟩ (by decide)) (sb_cons (sd_newa_i wm_66 (by decide +kernel : decode cX8_init 39 = .ok (.newarray .int, 2))) (sb_cons (sd_putr (k := 6) kl_8 (by decide) rfl (fun _ => ⟨rfl, rfl⟩) (Or.inr ⟨rfl, rfl⟩) wm_679 (by decide +kernel : decode cX8_init 41 = .ok (.putfield 23, 3))) (sb_cons (sd_fall (x := 0)) sb_nil))))
set_option maxRecDepth 100000 in
theorem sb_X8_init_44 (l : Launch) : sm_SndB l RX8 "<init>" cX8_init 2 0 1 44 [oA 0, oK 8, oNa 9, oPr 8 30 7, oGo 52] := sb_cons (sd_aload_n (by decide +kernel : decode cX8_init 44 = .ok (.aload_n 0, 1)) rfl) (sb_cons (sd_bipush (by decide +kernel : decode cX8_init 45 = .ok (.bipush 8, 2)) ⟨by decide, by decide⟩ (by decide)) (sb_cons (sd_newa_i wm_66 (by decide +kernel : decode cX8_init 47 = .ok (.newarray .int, 2))) (sb_cons (sd_putr (k := 7) kl_8 (by decide) rfl (fun _ => ⟨rfl, rfl⟩) (Or.inr ⟨rfl, rfl⟩) wm_680 (by decide +kernel : decode cX8_init 49 = .ok (.putfield 26, 3))) (sb_cons (sd_fall (x := 0)) sb_nil))))
set_option maxRecDepth 100000 in
theorem sb_X8_init_52 (l : Launch) : sm_SndB l RX8 "<init>" cX8_init 2 0 1 52 [oA 0, oK 8, oNa 9, oPr 8 30 8, oGo 60] := sb_cons (sd_aload_n (by decide +kernel : decode cX8_init 52 = .ok (.aload_n 0, 1)) rfl) (sb_cons (sd_bipush (by decide +kernel : decode cX8_init 53 = .ok (.bipush 8, 2)) ⟨by decide, by decide⟩ (by decide)) (sb_cons (sd_newa_i wm_66 (by decide +kernel : decode cX8_init 55 = .ok (.newarray .int, 2))) (sb_cons (sd_putr (k := 8) kl_8 (by decide) rfl (fun _ => ⟨rfl, rfl⟩) (Or.inr ⟨rfl, rfl⟩) wm_681 (by decide +kernel : decode cX8_init 57 = .ok (.putfield 29, 3))) (sb_cons (sd_fall (x := 0)) sb_nil))))
set_option maxRecDepth 100000 in
theorem sb_X8_init_60 (l : Launch) : sm_SndB l RX8 "<init>" cX8_init 2 0 1 60 [oA 0, oK 8, oNa 9, oPr 8 30 9, oGo 68] := sb_cons (sd_aload_n (by decide +kernel : decode cX8_init 60 = .ok (.aload_n 0, 1)) rfl) (sb_cons (sd_bipush (by decide +kernel : decode cX8_init 61 = .ok (.bipush 8, 2)) ⟨by decide, by decide⟩ (by decide)) (sb_cons (sd_newa_i wm_66 (by decide +kernel : decode cX8_init 63 = .ok (.newarray .int, 2))) (sb_cons (sd_putr (k := 9) kl_8 (by decide) rfl (fun _ => ⟨rfl, rfl⟩) (Or.inr ⟨rfl, rfl⟩) wm_682 (by decide +kernel : decode cX8_init 65 = .ok (.putfield 32, 3))) (sb_cons (sd_fall (x := 0)) sb_nil))))
set_option maxRecDepth 100000 in
theorem sb_X8_init_68 (l : Launch) : sm_SndB l RX8 "<init>" cX8_init 2 0 1 68 [oA 0, oK 64, oNa 9, oPr 8 30 10, oGo 76] := sb_cons (sd_aload_n (by decide +kernel : decode cX8_init 68 = .ok (.aload_n 0, 1)) rfl) (sb_cons (sd_bipush (by decide +kernel : decode cX8_init 69 = .ok (.bipush 64, 2)) ⟨by decide, by decide⟩ (by decide)) (sb_cons (sd_newa_i wm_66 (by decide +kernel : decode cX8_init 71 = .ok (.newarray .int, 2))) (sb_cons (sd_putr (k := 10) kl_8 (by decide) rfl (fun _ => ⟨rfl, rfl⟩) (Or.inr ⟨rfl, rfl⟩) wm_683 (by decide +kernel : decode cX8_init 73 = .ok (.putfield 35, 3))) (sb_cons (sd_fall (x := 0)) sb_nil))))
set_option maxRecDepth 100000 in
theorem sb_X8_init_76 (l : Launch) : sm_SndB l RX8 "<init>" cX8_init 2 0 1 76 [oA 0, oK 64, oNa 9, oPr 8 30 11, oGo 84] := sb_cons (sd_aload_n (by decide +kernel : decode cX8_init 76 = .ok (.aload_n 0, 1)) rfl) (sb_cons (sd_bipush (by decide +kernel : decode cX8_init 77 = .ok (.bipush 64, 2)) ⟨by decide, by decide⟩ (by decide)) (sb_cons (sd_newa_i wm_66 (by decide +kernel : decode cX8_init 79 = .ok (.newarray .int, 2))) (sb_cons (sd_putr (k := 11) kl_8 (by decide) rfl (fun _ => ⟨rfl, rfl⟩) (Or.inr ⟨rfl, rfl⟩) wm_684 (by decide +kernel : decode cX8_init 81 = .ok (.putfield 38, 3))) (sb_cons (sd_fall (x := 0)) sb_nil))))
set_option maxRecDepth 100000 in
theorem sb_X8_init_84 (l : Launch) : sm_SndB l RX8 "<init>" cX8_init 2 0 1 84 [oA 0, oK 64, oNa 9, oPr 8 30 12, oGo 92] := sb_cons (sd_aload_n (by decide +kernel : decode cX8_init 84 = .ok (.aload_n 0, 1)) rfl) (sb_cons (sd_bipush (by decide +kernel : decode cX8_init 85 = .ok (.bipush 64, 2)) ⟨by decide, by decide⟩ (by decide)) (sb_cons (sd_newa_i wm_66 (by decide +kernel : decode cX8_init 87 = .ok (.newarray .int, 2))) (sb_cons (sd_putr (k := 12) kl_8 (by decide) rfl (fun _ => ⟨rfl, rfl⟩) (Or.inr ⟨rfl, rfl⟩) wm_685 (by decide +kernel : decode cX8_init 89 = .ok (.putfield 41, 3))) (sb_cons (sd_fall (x := 0)) sb_nil))))
set_option maxRecDepth 100000 in
theorem sb_X8_init_92 (l : Launch) : sm_SndB l RX8 "<init>" cX8_init 2 0 1 92 [oA 0, oK 64, oNa 9, oPr 8 30 13, oGo 100] := sb_cons (sd_aload_n (by decide +kernel : decode cX8_init 92 = .ok (.aload_n 0, 1)) rfl) (sb_cons (sd_bipush (by decide +kernel : decode cX8_init 93 = .ok (.bipush 64, 2)) ⟨by decide, by decide⟩ (by decide)) (sb_cons (sd_newa_i wm_66 (by decide +kernel : decode cX8_init 95 = .ok (.newarray .int, 2))) (sb_cons (sd_putr (k := 13) kl_8 (by decide) rfl (fun _ => ⟨rfl, rfl⟩) (Or.inr ⟨rfl, rfl⟩) wm_686 (by decide +kernel : decode cX8_init 97 = .ok (.putfield 44, 3))) (sb_cons (sd_fall (x := 0)) sb_nil))))
set_option maxRecDepth 100000 in
theorem sb_X8_init_100 (l : Launch) : sm_SndB l RX8 "<init>" cX8_init 2 0 1 100 [oA 0, oK 64, oNa 9, oPr 8 30 14, oGo 108] := sb_cons (sd_aload_n (by decide +kernel : decode cX8_init 100 = .ok (.aload_n 0, 1)) rfl) (sb_cons (sd_bipush (by decide +kernel : decode cX8_init 101 = .ok (.bipush 64, 2)) ⟨by decide, by decide⟩ (by decide)) (sb_cons (sd_newa_i wm_66 (by decide +kernel : decode cX8_init 103 = .ok (.newarray .int, 2))) (sb_cons (sd_putr (k := 14) kl_8 (by decide) rfl (fun _ => ⟨rfl, rfl⟩) (Or.inr ⟨rfl, rfl⟩) wm_687 (by decide +kernel : decode cX8_init 105 = .ok (.putfield 47, 3))) (sb_cons (sd_fall (x := 0)) sb_nil))))
set_option maxRecDepth 100000 in
theorem sb_X8_init_108 (l : Launch) : sm_SndB l RX8 "<init>" cX8_init 2 0 1 108 [oA 0, oK 64, oNa 9, oPr 8 30 15, oGo 116] := sb_cons (sd_aload_n (by decide +kernel : decode cX8_init 108 = .ok (.aload_n 0, 1)) rfl) (sb_cons (sd_bipush (by decide +kernel : decode cX8_init 109 = .ok (.bipush 64, 2)) ⟨by decide, by decide⟩ (by decide)) (sb_cons (sd_newa_i wm_66 (by decide +kernel : decode cX8_init 111 = .ok (.newarray .int, 2))) (sb_cons (sd_putr (k := 15) kl_8 (by decide) rfl (fun _ => ⟨rfl, rfl⟩) (Or.inr ⟨rfl, rfl⟩) wm_688 (by decide +kernel : decode cX8_init 113 = .ok (.putfield 50, 3))) (sb_cons (sd_fall (x := 0)) sb_nil))))
set_option maxRecDepth 100000 in
theorem sb_X8_init_116 (l : Launch) : sm_SndB l RX8 "<init>" cX8_init 2 0 1 116 [oA 0, oK 32, oNa 9, oPr 8 30 16, oGo 124] := sb_cons (sd_aload_n (by decide +kernel : decode cX8_init 116 = .ok (.aload_n 0, 1)) rfl) (sb_cons (sd_bipush (by decide +kernel : decode cX8_init 117 = .ok (.bipush 32, 2)) ⟨by decide, by decide⟩ (by decide)) (sb_cons (sd_newa_i wm_66 (by decide +kernel : decode cX8_init 119 = .ok (.newarray .int, 2))) (sb_cons (sd_putr (k := 16) kl_8 (by decide) rfl (fun _ => ⟨rfl, rfl⟩) (Or.inr ⟨rfl, rfl⟩) wm_689 (by decide +kernel : decode cX8_init 121 = .ok (.putfield 53, 3))) (sb_cons (sd_fall (x := 0)) sb_nil))))
set_option maxRecDepth 100000 in
theorem sb_X8_init_124 (l : Launch) : sm_SndB l RX8 "<init>" cX8_init 2 0 1 124 [oA 0, oK 57, oNa 9, oPr 8 30 19, oGo 132] := sb_cons (sd_aload_n (by decide +kernel : decode cX8_init 124 = .ok (.aload_n 0, 1)) rfl) (sb_cons (sd_bipush (by decide +kernel : decode cX8_init 125 = .ok (.bipush 57, 2)) ⟨by decide, by decide⟩ (by decide)) (sb_cons (sd_newa_i wm_66 (by decide +kernel : decode cX8_init 127 = .ok (.newarray .int, 2))) (sb_cons (sd_putr (k := 19) kl_8 (by decide) rfl (fun _ => ⟨rfl, rfl⟩) (Or.inr ⟨rfl, rfl⟩) wm_692 (by decide +kernel : decode cX8_init 129 = .ok (.putfield 56, 3))) (sb_cons (sd_fall (x := 0)) sb_nil))))
set_option maxRecDepth 100000 in
theorem sb_X8_init_132 (l : Launch) : sm_SndB l RX8 "<init>" cX8_init 2 0 1 132 [oA 0, oK 5, oNa 9, oPr 8 30 21, oGo 139] := sb_cons (sd_aload_n (by decide +kernel : decode cX8_init 132 = .ok (.aload_n 0, 1)) rfl) (sb_cons (sd_iconst (by decide +kernel : decode cX8_init 133 = .ok (.iconst 5, 1)) ⟨by decide, by decide⟩) (sb_cons (sd_newa_i wm_66 (by decide +kernel : decode cX8_init 134 = .ok (.newarray .int, 2))) (sb_cons (sd_putr (k := 21) kl_8 (by decide) rfl (fun _ => ⟨rfl, rfl⟩) (Or.inr ⟨rfl, rfl⟩) wm_694 (by decide +kernel : decode cX8_init 136 = .ok (.putfield 59, 3))) (sb_cons (sd_fall (x := 0)) sb_nil))))
set_option maxRecDepth 100000 in
theorem sb_X8_init_139 (l : Launch) : sm_SndB l RX8 "<init>" cX8_init 2 0 1 139 [oA 0, oK 5, oNa 9, oPr 8 30 22, oGo 146] := sb_cons (sd_aload_n (by decide +kernel : decode cX8_init 139 = .ok (.aload_n 0, 1)) rfl) (sb_cons (sd_iconst (by decide +kernel : decode cX8_init 140 = .ok (.iconst 5, 1)) ⟨by decide, by decide⟩) (sb_cons (sd_newa_i wm_66 (by decide +kernel : decode cX8_init 141 = .ok (.newarray .int, 2))) (sb_cons (sd_putr (k := 22) kl_8 (by decide) rfl (fun _ => ⟨rfl, rfl⟩) (Or.inr ⟨rfl, rfl⟩) wm_695 (by decide +kernel : decode cX8_init 143 = .ok (.putfield 62, 3))) (sb_cons (sd_fall (x := 0)) sb_nil))))
set_option maxRecDepth 100000 in
theorem sb_X8_init_146 (l : Launch) : sm_SndB l RX8 "<init>" cX8_init 2 0 1 146 [oA 0, oK 80, oNa 9, oPr 8 30 23, oGo 154] := sb_cons (sd_aload_n (by decide +kernel : decode cX8_init 146 = .ok (.aload_n 0, 1)) rfl) (sb_cons (sd_bipush (by decide +kernel : decode cX8_init 147 = .ok (.bipush 80, 2)) ⟨by decide, by decide⟩ (by decide)) (sb_cons (sd_newa_i wm_66 (by decide +kernel : decode cX8_init 149 = .ok (.newarray .int, 2))) (sb_cons (sd_putr (k := 23) kl_8 (by decide) rfl (fun _ => ⟨rfl, rfl⟩) (Or.inr ⟨rfl, rfl⟩) wm_696 (by decide +kernel : decode cX8_init 151 = .ok (.putfield 65, 3))) (sb_cons (sd_fall (x := 0)) sb_nil))))
set_option maxRecDepth 100000 in
theorem sb_X8_init_154 (l : Launch) : sm_SndB l RX8 "<init>" cX8_init 2 0 1 154 [oA 0, oK 29, oNa 9, oPr 8 30 28, oGo 162] := sb_cons (sd_aload_n (by decide +kernel : decode cX8_init 154 = .ok (.aload_n 0, 1)) rfl) (sb_cons (sd_bipush (by decide +kernel : decode cX8_init 155 = .ok (.bipush 29, 2)) ⟨by decide, by decide⟩ (by decide)) (sb_cons (sd_newa_i wm_66 (by decide +kernel : decode cX8_init 157 = .ok (.newarray .int, 2))) (sb_cons (sd_putr (k := 28) kl_8 (by decide) rfl (fun _ => ⟨rfl, rfl⟩) (Or.inr ⟨rfl, rfl⟩) wm_701 (by decide +kernel : decode cX8_init 159 = .ok (.putfield 68, 3))) (sb_cons (sd_fall (x := 0)) sb_nil))))
set_option maxRecDepth 100000 in
theorem sb_X8_init_162 (l : Launch) : sm_SndB l RX8 "<init>" cX8_init 2 0 1 162 [oA 0, oK 145, oNa 9, oPr 8 30 29, oGo 171] := sb_cons (sd_aload_n (by decide +kernel : decode cX8_init 162 = .ok (.aload_n 0, 1)) rfl) (sb_cons (sd_sipush (by decide +kernel : decode cX8_init 163 = .ok (.sipush 145, 3)) ⟨by decide, by decide⟩ (by decide)) (sb_cons (sd_newa_i wm_66 (by decide +kernel : decode cX8_init 166 = .ok (.newarray .int, 2))) (sb_cons (sd_putr (k := 29) kl_8 (by decide) rfl (fun _ => ⟨rfl, rfl⟩) (Or.inr ⟨rfl, rfl⟩) wm_702 (by decide +kernel : decode cX8_init 168 = .ok (.putfield 71, 3))) (sb_cons (sd_fall (x := 0)) sb_nil))))
set_option maxRecDepth 100000 in
theorem sb_X8_init_171 (l : Launch) : sm_SndB l RX8 "<init>" cX8_init 2 0 1 171 [oK 0, oIs 1, oGo 173] := sb_cons (sd_iconst (by decide +kernel : decode cX8_init 171 = .ok (.iconst 0, 1)) ⟨by decide, by decide⟩) (sb_cons (sd_istore_n (by decide +kernel : decode cX8_init 172 = .ok (.istore_n 1, 1)) rfl) (sb_cons (sd_fall (x := 0)) sb_nil))
set_option maxRecDepth 100000 in
theorem sb_X8_init_173 (l : Launch) : sm_SndB l RX8 "<init>" cX8_init 2 0 1 173 [oI 1, oK 8, oGe 194, oA 0, oGr 8 30 0, oK 2, oI 1, oAdd, oK 2, oIst, oInc 1 1, oGo 173] := sb_cons (sd_iload_n (by decide +kernel : decode cX8_init 173 = .ok (.iload_n 1, 1)) rfl) (sb_cons (sd_bipush (by decide +kernel : decode cX8_init 174 = .ok (.bipush 8, 2)) ⟨by decide, by decide⟩ (by decide)) (sb_cons (sd_ge (by decide +kernel : decode cX8_init 176 = .ok (.if_icmp .ge 18, 3)) (by decide)) (sb_cons (sd_aload_n (by decide +kernel : decode cX8_init 179 = .ok (.aload_n 0, 1)) rfl) (sb_cons (sd_getr (k := 0) kl_8 (by decide) rfl wm_673 (by decide +kernel : decode cX8_init 180 = .ok (.getfield 7, 3))) (sb_cons (sd_iconst (by decide +kernel : decode cX8_init 183 = .ok (.iconst 2, 1)) ⟨by decide, by decide⟩) (sb_cons (sd_iload_n (by decide +kernel : decode cX8_init 184 = .ok (.iload_n 1, 1)) rfl) (sb_cons (sd_iadd (by decide +kernel : decode cX8_init 185 = .ok (.iadd, 1))) (sb_cons (sd_iconst (by decide +kernel : decode cX8_init 186 = .ok (.iconst 2, 1)) ⟨by decide, by decide⟩) (sb_cons (sd_iastore (by decide +kernel : decode cX8_init 187 = .ok (.iastore, 1))) (sb_cons (sd_iinc (by decide +kernel : decode cX8_init 188 = .ok (.iinc 1 1, 3))) (sb_cons (sd_goto (x := 0) (by decide +kernel : decode cX8_init 191 = .ok (.goto (-18), 3)) (by decide)) sb_nil)))))))))))
set_option maxRecDepth 100000 in
theorem sb_X8_init_194 (l : Launch) : sm_SndB l RX8 "<init>" cX8_init 2 0 1 194 [oK 0, oIs 1, oGo 196] := sb_cons (sd_iconst (by decide +kernel : decode cX8_init 194 = .ok (.iconst 0, 1)) ⟨by decide, by decide⟩) (sb_cons (sd_istore_n (by decide +kernel : decode cX8_init 195 = .ok (.istore_n 1, 1)) rfl) (sb_cons (sd_fall (x := 0)) sb_nil))
set_option maxRecDepth 100000 in
theorem sb_X8_init_196 (l : Launch) : sm_SndB l RX8 "<init>" cX8_init 2 0 1 196 [oI 1, oK 7, oGe 219, oA 0, oGr 8 30 0, oK 10, oI 1, oAdd, oK 10, oIst, oInc 1 1, oGo 196] := sb_cons (sd_iload_n (by decide +kernel : decode cX8_init 196 = .ok (.iload_n 1, 1)) rfl) (sb_cons (sd_bipush (by decide +kernel : decode cX8_init 197 = .ok (.bipush 7, 2)) ⟨by decide, by decide⟩ (by decide)) (sb_cons (sd_ge (by decide +kernel : decode cX8_init 199 = .ok (.if_icmp .ge 20, 3)) (by decide)) (sb_cons (sd_aload_n (by decide +kernel : decode cX8_init 202 = .ok (.aload_n 0, 1)) rfl) (sb_cons (sd_getr (k := 0) kl_8 (by decide) rfl wm_673 (by decide +kernel : decode cX8_init 203 = .ok (.getfield 7, 3))) (sb_cons (sd_bipush (by decide +kernel : decode cX8_init 206 = .ok (.bipush 10, 2)) ⟨by decide, by decide⟩ (by decide)) (sb_cons (sd_iload_n (by decide +kernel : decode cX8_init 208 = .ok (.iload_n 1, 1)) rfl) (sb_cons (sd_iadd (by decide +kernel : decode cX8_init 209 = .ok (.iadd, 1))) (sb_cons (sd_bipush (by decide +kernel : decode cX8_init 210 = .ok (.bipush 10, 2)) ⟨by decide, by decide⟩ (by decide)) (sb_cons (sd_iastore (by decide +kernel : decode cX8_init 212 = .ok (.iastore, 1))) (sb_cons (sd_iinc (by decide +kernel : decode cX8_init 213 = .ok (.iinc 1 1, 3))) (sb_cons (sd_goto (x := 0) (by decide +kernel : decode cX8_init 216 = .ok (.goto (-20), 3)) (by decide)) sb_nil)))))))))))
set_option maxRecDepth 100000 in
theorem sb_X8_init_219 (l : Launch) : sm_SndB l RX8 "<init>" cX8_init 2 0 1 219 [oVr] := sb_cons (sd_return (x := 0) rfl (by decide +kernel : decode cX8_init 219 = .ok (.return_, 1))) sb_nil
theorem sn_X8_init (l : Launch) : sm_SndT l RX8 "<init>" cX8_init 2 0 1 tb_X8_init := st_cons (sb_X8_init_0 l) (st_cons (sb_X8_init_12 l) (st_cons (sb_X8_init_21 l) (st_cons (sb_X8_init_29 l) (st_cons (sb_X8_init_36 l) (st_cons (sb_X8_init_44 l) (st_cons (sb_X8_init_52 l) (st_cons (sb_X8_init_60 l) (st_cons (sb_X8_init_68 l) (st_cons (sb_X8_init_76 l) (st_cons (sb_X8_init_84 l) (st_cons (sb_X8_init_92 l) (st_cons (sb_X8_init_100 l) (st_cons (sb_X8_init_108 l) (st_cons (sb_X8_init_116 l) (st_cons (sb_X8_init_124 l) (st_cons (sb_X8_init_132 l) (st_cons (sb_X8_init_139 l) (st_cons (sb_X8_init_146 l) (st_cons (sb_X8_init_154 l) (st_cons (sb_X8_init_162 l) (st_cons (sb_X8_init_171 l) (st_cons (sb_X8_init_173 l) (st_cons (sb_X8_init_194 l) (st_cons (sb_X8_init_196 l) (st_cons (sb_X8_init_219 l) (st_nil))))))))))))))))))))))))))
set_option maxRecDepth 100000 in
set_option maxHeartbeats 4000000 in
theorem ok_X8_init : sm_Ok tb_X8_init 2 21 1333 p_X8_init f_X8_init := by
  intro as w hp ha hw
  match as, hp with
  | [.inr (.inl a)], hp =>
  refine ⟨Nat.le_of_ble_eq_true rfl, fun Z hZ => ?_⟩
  obtain ⟨rfl, hn, hs⟩ := hp
  have i21 := mG21_in hn hs
  have t21 := mG21_at hn hs
  have i0 := mG0_in hn hs
  have i1 := mG1_in hn hs
  have i2 := mG2_in hn hs
  have i3 := mG3_in hn hs
  have i4 := mG4_in hn hs
  have i5 := mG5_in hn hs
  have i6 := mG6_in hn hs
  have i7 := mG7_in hn hs
  have i8 := mG8_in hn hs
  have i9 := mG9_in hn hs
  have i10 := mG10_in hn hs
  have i11 := mG11_in hn hs
  have i12 := mG12_in hn hs
  have i13 := mG13_in hn hs
  have i14 := mG14_in hn hs
  have i15 := mG15_in hn hs
  have i16 := mG16_in hn hs
  have i17 := mG17_in hn hs
  have i18 := mG18_in hn hs
  have i19 := mG19_in hn hs
  have i20 := mG20_in hn hs
  have e1 : mCtr1 w = itI (iA 2 2) (mG21 w) 8 := by unfold mCtr1; rfl
  have e0 : mCtr0 w = itI (iA 10 10) (mCtr1 w) 7 := by unfold mCtr0; rfl
  have sA : ∀ i, 0 ≤ i → wS (itI (iA 2 2) (mG21 w) i) 154 = (8, 30) ∧ wS (itI (iA 2 2) (mG21 w) i) 155 = (9, 57) ∧ wR (itI (iA 2 2) (mG21 w) i) 154 0 = some 155 := fun i i0 => by
    have h := iA_S 2 2 (mG21 w) i i0
    exact ⟨(h.1 _).trans i21.2, (h.1 _).trans t21.1, (h.2.1 _ _).trans t21.2⟩
  have s1 : wS (mCtr1 w) 154 = (8, 30) ∧ wS (mCtr1 w) 155 = (9, 57) ∧ wR (mCtr1 w) 154 0 = some 155 := by rw [e1]; exact sA 8 (by decide)
  have sB : ∀ i, 0 ≤ i → wS (itI (iA 10 10) (mCtr1 w) i) 154 = (8, 30) ∧ wS (itI (iA 10 10) (mCtr1 w) i) 155 = (9, 57) ∧ wR (itI (iA 10 10) (mCtr1 w) i) 154 0 = some 155 := fun i i0 => by
    have h := iA_S 10 10 (mCtr1 w) i i0
    exact ⟨(h.1 _).trans s1.1, (h.1 _).trans s1.2.1, (h.2.1 _ _).trans s1.2.2⟩
  generalize mCtr1 w = M at *
  generalize hE : mCtr0 w = E at *
  have hl2 := sm_loopI Z 196 0 7 (fun i => [some (.inr (.inl 154)), some (.inl i)]) (fun i => itI (iA 10 10) M i) 21 1333 (by decide) (fun i h0 h1 ih => by
    have hu : itI (iA 10 10) M (i + 1) = iA 10 10 i (itI (iA 10 10) M i) := itI_s _ _ h0
    have he : i = 7 → itI (iA 10 10) M i = E := fun e => by rw [e0, e]
    have hb := sB i h0
    rw [hu] at ih
    generalize itI (iA 10 10) M i = u at *
    unfold iA at ih
    refine hZ (fun u => Nat.beq u 196) 14 196 _ _ _ _ _ ?_
    simp only [sm_run, sm_blk, sm_get, sm_ent, sm_ents, sm_wds, sm_wd, sm_nl, sm_pop, sm_back, sm_cases, oK, oLK, oL, oI, oA, oJ, oIs, oAs, oJs, oInc, oAdd, oSub, oMul, oDiv, oRem, oNeg, oAnd, oAndB, oOr, oShl, oI2c, oI2l, oL2i, oLand, oLor, oLshl, oLshr, oLushr, oLcmp, oDup, oDup2, oPop, oGo, oFg, oEq, oNe, oLt, oGe, oGt, oLe, oEq0, oNe0, oLt0, oGe0, oGt0, oLe0, oSw, oGi, oGr, oPi, oPz, oPr, oLen, oIl, oZl, oCl, oRl, oIst, oZst, oCst, oRst, oCopy, oNew, oNa, oNa2, oObj, oCs, oCv, oCi, oIr, oZr, oVr, Nat.beq, List.getElem?_cons_zero, List.getElem?_cons_succ, List.set_cons_zero, List.set_cons_succ, List.length_cons, List.length_nil, List.nil_append, List.cons_append, List.append_nil, List.replicate_succ, List.replicate_zero, Nat.reduceAdd, Nat.reduceSub, Nat.reduceLT, Nat.reduceLeDiff, Nat.reduceBEq, true_and, and_true, Nat.zero_add, Nat.add_zero, Nat.le_refl, Option.some.injEq, exists_eq_left', true_or, or_true, or_false, false_or, reduceCtorEq, Prod.mk.injEq, Sum.inl.injEq, and_self, false_and, and_false, not_true_eq_false, not_false_eq_true, false_implies, true_implies, sm_r, Int.add_zero, Int.zero_add, wI_wsI, wS_wsI, wR_wsI, wI_wCp, wS_wCp, wR_wCp, Nat.reduceEqDiff, reduceIte, sT_iff, sT_iffC, wIf_ne, ne_eq, Bool.false_or, Bool.true_or, Bool.or_false, Bool.or_true, Bool.or_self, Nat.left_eq_add, Nat.add_eq_left, Nat.add_left_inj, oMax, oMin, oAbs, tb_X8_init, p_X8_init, f_X8_init, hE, hb.1, hb.2.1, hb.2.2]
    repeat' (first | exact True.intro | with_reducible assumption | with_reducible refine And.intro ?_ ?_ | intro _)
    all_goals first
      | omega
      | assumption
      | rfl
      | (split <;> omega)
      | (have k9 := ih (by omega)
         (repeat' split at k9) <;> first | exact k9 | omega)
      | (have k9 := ih2 (by omega)
         (repeat' split at k9) <;> first | exact k9 | omega)
      | exact he (by omega)
      | ((with_reducible congr 1) <;> omega)
      | (rw [if_pos (by omega)] at he; exact he)
      | exact hD1 (by omega)
      | exact hD2 (by omega)
      | grind
      | skip
    )
  have hl2 : Z 196 [some (.inr (.inl 154)), some (.inl 0)] [] M 21 1333 := hl2
  have hl1 := sm_loopI Z 173 0 8 (fun i => [some (.inr (.inl 154)), some (.inl i)]) (fun i => itI (iA 2 2) (mG21 w) i) 21 1333 (by decide) (fun i h0 h1 ih => by
    have hu : itI (iA 2 2) (mG21 w) (i + 1) = iA 2 2 i (itI (iA 2 2) (mG21 w) i) := itI_s _ _ h0
    have he : i = 8 → Z 196 [some (.inr (.inl 154)), some (.inl 0)] [] (itI (iA 2 2) (mG21 w) i) 21 1333 := fun e => by rw [e, ← e1]; exact hl2
    have hb := sA i h0
    rw [hu] at ih
    generalize itI (iA 2 2) (mG21 w) i = u at *
    unfold iA at ih
    refine hZ (fun u => Nat.beq u 173 || Nat.beq u 196) 14 173 _ _ _ _ _ ?_
    simp only [sm_run, sm_blk, sm_get, sm_ent, sm_ents, sm_wds, sm_wd, sm_nl, sm_pop, sm_back, sm_cases, oK, oLK, oL, oI, oA, oJ, oIs, oAs, oJs, oInc, oAdd, oSub, oMul, oDiv, oRem, oNeg, oAnd, oAndB, oOr, oShl, oI2c, oI2l, oL2i, oLand, oLor, oLshl, oLshr, oLushr, oLcmp, oDup, oDup2, oPop, oGo, oFg, oEq, oNe, oLt, oGe, oGt, oLe, oEq0, oNe0, oLt0, oGe0, oGt0, oLe0, oSw, oGi, oGr, oPi, oPz, oPr, oLen, oIl, oZl, oCl, oRl, oIst, oZst, oCst, oRst, oCopy, oNew, oNa, oNa2, oObj, oCs, oCv, oCi, oIr, oZr, oVr, Nat.beq, List.getElem?_cons_zero, List.getElem?_cons_succ, List.set_cons_zero, List.set_cons_succ, List.length_cons, List.length_nil, List.nil_append, List.cons_append, List.append_nil, List.replicate_succ, List.replicate_zero, Nat.reduceAdd, Nat.reduceSub, Nat.reduceLT, Nat.reduceLeDiff, Nat.reduceBEq, true_and, and_true, Nat.zero_add, Nat.add_zero, Nat.le_refl, Option.some.injEq, exists_eq_left', true_or, or_true, or_false, false_or, reduceCtorEq, Prod.mk.injEq, Sum.inl.injEq, and_self, false_and, and_false, not_true_eq_false, not_false_eq_true, false_implies, true_implies, sm_r, Int.add_zero, Int.zero_add, wI_wsI, wS_wsI, wR_wsI, wI_wCp, wS_wCp, wR_wCp, Nat.reduceEqDiff, reduceIte, sT_iff, sT_iffC, wIf_ne, ne_eq, Bool.false_or, Bool.true_or, Bool.or_false, Bool.or_true, Bool.or_self, Nat.left_eq_add, Nat.add_eq_left, Nat.add_left_inj, oMax, oMin, oAbs, tb_X8_init, p_X8_init, f_X8_init, hb.1, hb.2.1, hb.2.2]
    repeat' (first | exact True.intro | with_reducible assumption | with_reducible refine And.intro ?_ ?_ | intro _)
    all_goals first
      | omega
      | assumption
      | rfl
      | (split <;> omega)
      | (have k9 := ih (by omega)
         (repeat' split at k9) <;> first | exact k9 | omega)
      | (have k9 := ih2 (by omega)
         (repeat' split at k9) <;> first | exact k9 | omega)
      | exact he (by omega)
      | ((with_reducible congr 1) <;> omega)
      | (rw [if_pos (by omega)] at he; exact he)
      | exact hD1 (by omega)
      | exact hD2 (by omega)
      | grind
      | skip
    )
  have hl1 : Z 173 [some (.inr (.inl 154)), some (.inl 0)] [] (mG21 w) 21 1333 := hl1
  clear hl2 sA sB e0 e1 hE s1
  have z21 : Z 171 [some (.inr (.inl 154)), none] [] (mG21 w) 21 1333 := by
    generalize mG21 w = u at *
    refine hZ (fun u => Nat.beq u 171 || Nat.beq u 173) 14 171 _ _ _ _ _ ?_
    simp only [sm_run, sm_blk, sm_get, sm_ent, sm_ents, sm_wds, sm_wd, sm_nl, sm_pop, sm_back, sm_cases, oK, oLK, oL, oI, oA, oJ, oIs, oAs, oJs, oInc, oAdd, oSub, oMul, oDiv, oRem, oNeg, oAnd, oAndB, oOr, oShl, oI2c, oI2l, oL2i, oLand, oLor, oLshl, oLshr, oLushr, oLcmp, oDup, oDup2, oPop, oGo, oFg, oEq, oNe, oLt, oGe, oGt, oLe, oEq0, oNe0, oLt0, oGe0, oGt0, oLe0, oSw, oGi, oGr, oPi, oPz, oPr, oLen, oIl, oZl, oCl, oRl, oIst, oZst, oCst, oRst, oCopy, oNew, oNa, oNa2, oObj, oCs, oCv, oCi, oIr, oZr, oVr, Nat.beq, List.getElem?_cons_zero, List.getElem?_cons_succ, List.set_cons_zero, List.set_cons_succ, List.length_cons, List.length_nil, List.nil_append, List.cons_append, List.append_nil, List.replicate_succ, List.replicate_zero, Nat.reduceAdd, Nat.reduceSub, Nat.reduceLT, Nat.reduceLeDiff, Nat.reduceBEq, true_and, and_true, Nat.zero_add, Nat.add_zero, Nat.le_refl, Option.some.injEq, exists_eq_left', true_or, or_true, or_false, false_or, reduceCtorEq, Prod.mk.injEq, Sum.inl.injEq, and_self, false_and, and_false, not_true_eq_false, not_false_eq_true, false_implies, true_implies, sm_r, Int.add_zero, Int.zero_add, wI_wsI, wS_wsI, wR_wsI, wI_wCp, wS_wCp, wR_wCp, Nat.reduceEqDiff, reduceIte, sT_iff, sT_iffC, wIf_ne, ne_eq, Bool.false_or, Bool.true_or, Bool.or_false, Bool.or_true, Bool.or_self, Nat.left_eq_add, Nat.add_eq_left, Nat.add_left_inj, oMax, oMin, oAbs, tb_X8_init, p_X8_init, f_X8_init, wS_wsR]
    repeat' (first | exact True.intro | with_reducible assumption | with_reducible refine And.intro ?_ ?_ | intro _)
    all_goals first
      | omega
      | assumption
      | rfl
      | (split <;> omega)
      | (have k9 := ih (by omega)
         (repeat' split at k9) <;> first | exact k9 | omega)
      | (have k9 := ih2 (by omega)
         (repeat' split at k9) <;> first | exact k9 | omega)
      | exact he (by omega)
      | ((with_reducible congr 1) <;> omega)
      | (rw [if_pos (by omega)] at he; exact he)
      | exact hD1 (by omega)
      | exact hD2 (by omega)
      | skip
  have z20 : Z 162 [some (.inr (.inl 154)), none] [] (mG20 w) 20 1188 := by
    unfold mG21 at z21
    generalize mG20 w = u at *
    obtain ⟨u1, uS⟩ := i20
    refine hZ (fun u => Nat.beq u 162 || Nat.beq u 171) 14 162 _ _ _ _ _ ?_
    simp only [sm_run, sm_blk, sm_get, sm_ent, sm_ents, sm_wds, sm_wd, sm_nl, sm_pop, sm_back, sm_cases, oK, oLK, oL, oI, oA, oJ, oIs, oAs, oJs, oInc, oAdd, oSub, oMul, oDiv, oRem, oNeg, oAnd, oAndB, oOr, oShl, oI2c, oI2l, oL2i, oLand, oLor, oLshl, oLshr, oLushr, oLcmp, oDup, oDup2, oPop, oGo, oFg, oEq, oNe, oLt, oGe, oGt, oLe, oEq0, oNe0, oLt0, oGe0, oGt0, oLe0, oSw, oGi, oGr, oPi, oPz, oPr, oLen, oIl, oZl, oCl, oRl, oIst, oZst, oCst, oRst, oCopy, oNew, oNa, oNa2, oObj, oCs, oCv, oCi, oIr, oZr, oVr, Nat.beq, List.getElem?_cons_zero, List.getElem?_cons_succ, List.set_cons_zero, List.set_cons_succ, List.length_cons, List.length_nil, List.nil_append, List.cons_append, List.append_nil, List.replicate_succ, List.replicate_zero, Nat.reduceAdd, Nat.reduceSub, Nat.reduceLT, Nat.reduceLeDiff, Nat.reduceBEq, true_and, and_true, Nat.zero_add, Nat.add_zero, Nat.le_refl, Option.some.injEq, exists_eq_left', true_or, or_true, or_false, false_or, reduceCtorEq, Prod.mk.injEq, Sum.inl.injEq, and_self, false_and, and_false, not_true_eq_false, not_false_eq_true, false_implies, true_implies, sm_r, Int.add_zero, Int.zero_add, wI_wsI, wS_wsI, wR_wsI, wI_wCp, wS_wCp, wR_wCp, Nat.reduceEqDiff, reduceIte, sT_iff, sT_iffC, wIf_ne, ne_eq, Bool.false_or, Bool.true_or, Bool.or_false, Bool.or_true, Bool.or_self, Nat.left_eq_add, Nat.add_eq_left, Nat.add_left_inj, oMax, oMin, oAbs, tb_X8_init, p_X8_init, f_X8_init, u1, uS, wsR_n, wNw_n, wS_wNw, wR_wNw, wS_wsR, wR_wsR, Nat.reduceAdd, Int.reduceToNat, Int.reduceEq, Nat.reduceEqDiff]
    repeat' (first | exact True.intro | with_reducible assumption | with_reducible refine And.intro ?_ ?_ | intro _)
    all_goals first
      | omega
      | assumption
      | rfl
      | (split <;> omega)
      | (have k9 := ih (by omega)
         (repeat' split at k9) <;> first | exact k9 | omega)
      | (have k9 := ih2 (by omega)
         (repeat' split at k9) <;> first | exact k9 | omega)
      | exact he (by omega)
      | ((with_reducible congr 1) <;> omega)
      | (rw [if_pos (by omega)] at he; exact he)
      | exact hD1 (by omega)
      | exact hD2 (by omega)
      | skip
  have z19 : Z 154 [some (.inr (.inl 154)), none] [] (mG19 w) 19 1159 := by
    unfold mG20 at z20
    generalize mG19 w = u at *
    obtain ⟨u1, uS⟩ := i19
    refine hZ (fun u => Nat.beq u 154 || Nat.beq u 162) 14 154 _ _ _ _ _ ?_
    simp only [sm_run, sm_blk, sm_get, sm_ent, sm_ents, sm_wds, sm_wd, sm_nl, sm_pop, sm_back, sm_cases, oK, oLK, oL, oI, oA, oJ, oIs, oAs, oJs, oInc, oAdd, oSub, oMul, oDiv, oRem, oNeg, oAnd, oAndB, oOr, oShl, oI2c, oI2l, oL2i, oLand, oLor, oLshl, oLshr, oLushr, oLcmp, oDup, oDup2, oPop, oGo, oFg, oEq, oNe, oLt, oGe, oGt, oLe, oEq0, oNe0, oLt0, oGe0, oGt0, oLe0, oSw, oGi, oGr, oPi, oPz, oPr, oLen, oIl, oZl, oCl, oRl, oIst, oZst, oCst, oRst, oCopy, oNew, oNa, oNa2, oObj, oCs, oCv, oCi, oIr, oZr, oVr, Nat.beq, List.getElem?_cons_zero, List.getElem?_cons_succ, List.set_cons_zero, List.set_cons_succ, List.length_cons, List.length_nil, List.nil_append, List.cons_append, List.append_nil, List.replicate_succ, List.replicate_zero, Nat.reduceAdd, Nat.reduceSub, Nat.reduceLT, Nat.reduceLeDiff, Nat.reduceBEq, true_and, and_true, Nat.zero_add, Nat.add_zero, Nat.le_refl, Option.some.injEq, exists_eq_left', true_or, or_true, or_false, false_or, reduceCtorEq, Prod.mk.injEq, Sum.inl.injEq, and_self, false_and, and_false, not_true_eq_false, not_false_eq_true, false_implies, true_implies, sm_r, Int.add_zero, Int.zero_add, wI_wsI, wS_wsI, wR_wsI, wI_wCp, wS_wCp, wR_wCp, Nat.reduceEqDiff, reduceIte, sT_iff, sT_iffC, wIf_ne, ne_eq, Bool.false_or, Bool.true_or, Bool.or_false, Bool.or_true, Bool.or_self, Nat.left_eq_add, Nat.add_eq_left, Nat.add_left_inj, oMax, oMin, oAbs, tb_X8_init, p_X8_init, f_X8_init, u1, uS, wsR_n, wNw_n, wS_wNw, wR_wNw, wS_wsR, wR_wsR, Nat.reduceAdd, Int.reduceToNat, Int.reduceEq, Nat.reduceEqDiff]
    repeat' (first | exact True.intro | with_reducible assumption | with_reducible refine And.intro ?_ ?_ | intro _)
    all_goals first
      | omega
      | assumption
      | rfl
      | (split <;> omega)
      | (have k9 := ih (by omega)
         (repeat' split at k9) <;> first | exact k9 | omega)
      | (have k9 := ih2 (by omega)
         (repeat' split at k9) <;> first | exact k9 | omega)
      | exact he (by omega)
      | ((with_reducible congr 1) <;> omega)
      | (rw [if_pos (by omega)] at he; exact he)
      | exact hD1 (by omega)
      | exact hD2 (by omega)
      | skip
  have z18 : Z 146 [some (.inr (.inl 154)), none] [] (mG18 w) 18 1079 := by
    unfold mG19 at z19
    generalize mG18 w = u at *
    obtain ⟨u1, uS⟩ := i18
    refine hZ (fun u => Nat.beq u 146 || Nat.beq u 154) 14 146 _ _ _ _ _ ?_
    simp only [sm_run, sm_blk, sm_get, sm_ent, sm_ents, sm_wds, sm_wd, sm_nl, sm_pop, sm_back, sm_cases, oK, oLK, oL, oI, oA, oJ, oIs, oAs, oJs, oInc, oAdd, oSub, oMul, oDiv, oRem, oNeg, oAnd, oAndB, oOr, oShl, oI2c, oI2l, oL2i, oLand, oLor, oLshl, oLshr, oLushr, oLcmp, oDup, oDup2, oPop, oGo, oFg, oEq, oNe, oLt, oGe, oGt, oLe, oEq0, oNe0, oLt0, oGe0, oGt0, oLe0, oSw, oGi, oGr, oPi, oPz, oPr, oLen, oIl, oZl, oCl, oRl, oIst, oZst, oCst, oRst, oCopy, oNew, oNa, oNa2, oObj, oCs, oCv, oCi, oIr, oZr, oVr, Nat.beq, List.getElem?_cons_zero, List.getElem?_cons_succ, List.set_cons_zero, List.set_cons_succ, List.length_cons, List.length_nil, List.nil_append, List.cons_append, List.append_nil, List.replicate_succ, List.replicate_zero, Nat.reduceAdd, Nat.reduceSub, Nat.reduceLT, Nat.reduceLeDiff, Nat.reduceBEq, true_and, and_true, Nat.zero_add, Nat.add_zero, Nat.le_refl, Option.some.injEq, exists_eq_left', true_or, or_true, or_false, false_or, reduceCtorEq, Prod.mk.injEq, Sum.inl.injEq, and_self, false_and, and_false, not_true_eq_false, not_false_eq_true, false_implies, true_implies, sm_r, Int.add_zero, Int.zero_add, wI_wsI, wS_wsI, wR_wsI, wI_wCp, wS_wCp, wR_wCp, Nat.reduceEqDiff, reduceIte, sT_iff, sT_iffC, wIf_ne, ne_eq, Bool.false_or, Bool.true_or, Bool.or_false, Bool.or_true, Bool.or_self, Nat.left_eq_add, Nat.add_eq_left, Nat.add_left_inj, oMax, oMin, oAbs, tb_X8_init, p_X8_init, f_X8_init, u1, uS, wsR_n, wNw_n, wS_wNw, wR_wNw, wS_wsR, wR_wsR, Nat.reduceAdd, Int.reduceToNat, Int.reduceEq, Nat.reduceEqDiff]
    repeat' (first | exact True.intro | with_reducible assumption | with_reducible refine And.intro ?_ ?_ | intro _)
    all_goals first
      | omega
      | assumption
      | rfl
      | (split <;> omega)
      | (have k9 := ih (by omega)
         (repeat' split at k9) <;> first | exact k9 | omega)
      | (have k9 := ih2 (by omega)
         (repeat' split at k9) <;> first | exact k9 | omega)
      | exact he (by omega)
      | ((with_reducible congr 1) <;> omega)
      | (rw [if_pos (by omega)] at he; exact he)
      | exact hD1 (by omega)
      | exact hD2 (by omega)
      | skip
  have z17 : Z 139 [some (.inr (.inl 154)), none] [] (mG17 w) 17 1074 := by
    unfold mG18 at z18
    generalize mG17 w = u at *
    obtain ⟨u1, uS⟩ := i17
    refine hZ (fun u => Nat.beq u 139 || Nat.beq u 146) 14 139 _ _ _ _ _ ?_
    simp only [sm_run, sm_blk, sm_get, sm_ent, sm_ents, sm_wds, sm_wd, sm_nl, sm_pop, sm_back, sm_cases, oK, oLK, oL, oI, oA, oJ, oIs, oAs, oJs, oInc, oAdd, oSub, oMul, oDiv, oRem, oNeg, oAnd, oAndB, oOr, oShl, oI2c, oI2l, oL2i, oLand, oLor, oLshl, oLshr, oLushr, oLcmp, oDup, oDup2, oPop, oGo, oFg, oEq, oNe, oLt, oGe, oGt, oLe, oEq0, oNe0, oLt0, oGe0, oGt0, oLe0, oSw, oGi, oGr, oPi, oPz, oPr, oLen, oIl, oZl, oCl, oRl, oIst, oZst, oCst, oRst, oCopy, oNew, oNa, oNa2, oObj, oCs, oCv, oCi, oIr, oZr, oVr, Nat.beq, List.getElem?_cons_zero, List.getElem?_cons_succ, List.set_cons_zero, List.set_cons_succ, List.length_cons, List.length_nil, List.nil_append, List.cons_append, List.append_nil, List.replicate_succ, List.replicate_zero, Nat.reduceAdd, Nat.reduceSub, Nat.reduceLT, Nat.reduceLeDiff, Nat.reduceBEq, true_and, and_true, Nat.zero_add, Nat.add_zero, Nat.le_refl, Option.some.injEq, exists_eq_left', true_or, or_true, or_false, false_or, reduceCtorEq, Prod.mk.injEq, Sum.inl.injEq, and_self, false_and, and_false, not_true_eq_false, not_false_eq_true, false_implies, true_implies, sm_r, Int.add_zero, Int.zero_add, wI_wsI, wS_wsI, wR_wsI, wI_wCp, wS_wCp, wR_wCp, Nat.reduceEqDiff, reduceIte, sT_iff, sT_iffC, wIf_ne, ne_eq, Bool.false_or, Bool.true_or, Bool.or_false, Bool.or_true, Bool.or_self, Nat.left_eq_add, Nat.add_eq_left, Nat.add_left_inj, oMax, oMin, oAbs, tb_X8_init, p_X8_init, f_X8_init, u1, uS, wsR_n, wNw_n, wS_wNw, wR_wNw, wS_wsR, wR_wsR, Nat.reduceAdd, Int.reduceToNat, Int.reduceEq, Nat.reduceEqDiff]
    repeat' (first | exact True.intro | with_reducible assumption | with_reducible refine And.intro ?_ ?_ | intro _)
    all_goals first
      | omega
      | assumption
      | rfl
      | (split <;> omega)
      | (have k9 := ih (by omega)
         (repeat' split at k9) <;> first | exact k9 | omega)
      | (have k9 := ih2 (by omega)
         (repeat' split at k9) <;> first | exact k9 | omega)
      | exact he (by omega)
      | ((with_reducible congr 1) <;> omega)
      | (rw [if_pos (by omega)] at he; exact he)
      | exact hD1 (by omega)
      | exact hD2 (by omega)
      | skip
  have z16 : Z 132 [some (.inr (.inl 154)), none] [] (mG16 w) 16 1069 := by
    unfold mG17 at z17
    generalize mG16 w = u at *
    obtain ⟨u1, uS⟩ := i16
    refine hZ (fun u => Nat.beq u 132 || Nat.beq u 139) 14 132 _ _ _ _ _ ?_
    simp only [sm_run, sm_blk, sm_get, sm_ent, sm_ents, sm_wds, sm_wd, sm_nl, sm_pop, sm_back, sm_cases, oK, oLK, oL, oI, oA, oJ, oIs, oAs, oJs, oInc, oAdd, oSub, oMul, oDiv, oRem, oNeg, oAnd, oAndB, oOr, oShl, oI2c, oI2l, oL2i, oLand, oLor, oLshl, oLshr, oLushr, oLcmp, oDup, oDup2, oPop, oGo, oFg, oEq, oNe, oLt, oGe, oGt, oLe, oEq0, oNe0, oLt0, oGe0, oGt0, oLe0, oSw, oGi, oGr, oPi, oPz, oPr, oLen, oIl, oZl, oCl, oRl, oIst, oZst, oCst, oRst, oCopy, oNew, oNa, oNa2, oObj, oCs, oCv, oCi, oIr, oZr, oVr, Nat.beq, List.getElem?_cons_zero, List.getElem?_cons_succ, List.set_cons_zero, List.set_cons_succ, List.length_cons, List.length_nil, List.nil_append, List.cons_append, List.append_nil, List.replicate_succ, List.replicate_zero, Nat.reduceAdd, Nat.reduceSub, Nat.reduceLT, Nat.reduceLeDiff, Nat.reduceBEq, true_and, and_true, Nat.zero_add, Nat.add_zero, Nat.le_refl, Option.some.injEq, exists_eq_left', true_or, or_true, or_false, false_or, reduceCtorEq, Prod.mk.injEq, Sum.inl.injEq, and_self, false_and, and_false, not_true_eq_false, not_false_eq_true, false_implies, true_implies, sm_r, Int.add_zero, Int.zero_add, wI_wsI, wS_wsI, wR_wsI, wI_wCp, wS_wCp, wR_wCp, Nat.reduceEqDiff, reduceIte, sT_iff, sT_iffC, wIf_ne, ne_eq, Bool.false_or, Bool.true_or, Bool.or_false, Bool.or_true, Bool.or_self, Nat.left_eq_add, Nat.add_eq_left, Nat.add_left_inj, oMax, oMin, oAbs, tb_X8_init, p_X8_init, f_X8_init, u1, uS, wsR_n, wNw_n, wS_wNw, wR_wNw, wS_wsR, wR_wsR, Nat.reduceAdd, Int.reduceToNat, Int.reduceEq, Nat.reduceEqDiff]
    repeat' (first | exact True.intro | with_reducible assumption | with_reducible refine And.intro ?_ ?_ | intro _)
    all_goals first
      | omega
      | assumption
      | rfl
      | (split <;> omega)
      | (have k9 := ih (by omega)
         (repeat' split at k9) <;> first | exact k9 | omega)
      | (have k9 := ih2 (by omega)
         (repeat' split at k9) <;> first | exact k9 | omega)
      | exact he (by omega)
      | ((with_reducible congr 1) <;> omega)
      | (rw [if_pos (by omega)] at he; exact he)
      | exact hD1 (by omega)
      | exact hD2 (by omega)
      | skip
  have z15 : Z 124 [some (.inr (.inl 154)), none] [] (mG15 w) 15 1012 := by
    unfold mG16 at z16
    generalize mG15 w = u at *
    obtain ⟨u1, uS⟩ := i15
    refine hZ (fun u => Nat.beq u 124 || Nat.beq u 132) 14 124 _ _ _ _ _ ?_
    simp only [sm_run, sm_blk, sm_get, sm_ent, sm_ents, sm_wds, sm_wd, sm_nl, sm_pop, sm_back, sm_cases, oK, oLK, oL, oI, oA, oJ, oIs, oAs, oJs, oInc, oAdd, oSub, oMul, oDiv, oRem, oNeg, oAnd, oAndB, oOr, oShl, oI2c, oI2l, oL2i, oLand, oLor, oLshl, oLshr, oLushr, oLcmp, oDup, oDup2, oPop, oGo, oFg, oEq, oNe, oLt, oGe, oGt, oLe, oEq0, oNe0, oLt0, oGe0, oGt0, oLe0, oSw, oGi, oGr, oPi, oPz, oPr, oLen, oIl, oZl, oCl, oRl, oIst, oZst, oCst, oRst, oCopy, oNew, oNa, oNa2, oObj, oCs, oCv, oCi, oIr, oZr, oVr, Nat.beq, List.getElem?_cons_zero, List.getElem?_cons_succ, List.set_cons_zero, List.set_cons_succ, List.length_cons, List.length_nil, List.nil_append, List.cons_append, List.append_nil, List.replicate_succ, List.replicate_zero, Nat.reduceAdd, Nat.reduceSub, Nat.reduceLT, Nat.reduceLeDiff, Nat.reduceBEq, true_and, and_true, Nat.zero_add, Nat.add_zero, Nat.le_refl, Option.some.injEq, exists_eq_left', true_or, or_true, or_false, false_or, reduceCtorEq, Prod.mk.injEq, Sum.inl.injEq, and_self, false_and, and_false, not_true_eq_false, not_false_eq_true, false_implies, true_implies, sm_r, Int.add_zero, Int.zero_add, wI_wsI, wS_wsI, wR_wsI, wI_wCp, wS_wCp, wR_wCp, Nat.reduceEqDiff, reduceIte, sT_iff, sT_iffC, wIf_ne, ne_eq, Bool.false_or, Bool.true_or, Bool.or_false, Bool.or_true, Bool.or_self, Nat.left_eq_add, Nat.add_eq_left, Nat.add_left_inj, oMax, oMin, oAbs, tb_X8_init, p_X8_init, f_X8_init, u1, uS, wsR_n, wNw_n, wS_wNw, wR_wNw, wS_wsR, wR_wsR, Nat.reduceAdd, Int.reduceToNat, Int.reduceEq, Nat.reduceEqDiff]
    repeat' (first | exact True.intro | with_reducible assumption | with_reducible refine And.intro ?_ ?_ | intro _)
    all_goals first
      | omega
      | assumption
      | rfl
      | (split <;> omega)
      | (have k9 := ih (by omega)
         (repeat' split at k9) <;> first | exact k9 | omega)
      | (have k9 := ih2 (by omega)
         (repeat' split at k9) <;> first | exact k9 | omega)
      | exact he (by omega)
      | ((with_reducible congr 1) <;> omega)
      | (rw [if_pos (by omega)] at he; exact he)
      | exact hD1 (by omega)
      | exact hD2 (by omega)
      | skip
  have z14 : Z 116 [some (.inr (.inl 154)), none] [] (mG14 w) 14 980 := by
    unfold mG15 at z15
    generalize mG14 w = u at *
    obtain ⟨u1, uS⟩ := i14
    refine hZ (fun u => Nat.beq u 116 || Nat.beq u 124) 14 116 _ _ _ _ _ ?_
    simp only [sm_run, sm_blk, sm_get, sm_ent, sm_ents, sm_wds, sm_wd, sm_nl, sm_pop, sm_back, sm_cases, oK, oLK, oL, oI, oA, oJ, oIs, oAs, oJs, oInc, oAdd, oSub, oMul, oDiv, oRem, oNeg, oAnd, oAndB, oOr, oShl, oI2c, oI2l, oL2i, oLand, oLor, oLshl, oLshr, oLushr, oLcmp, oDup, oDup2, oPop, oGo, oFg, oEq, oNe, oLt, oGe, oGt, oLe, oEq0, oNe0, oLt0, oGe0, oGt0, oLe0, oSw, oGi, oGr, oPi, oPz, oPr, oLen, oIl, oZl, oCl, oRl, oIst, oZst, oCst, oRst, oCopy, oNew, oNa, oNa2, oObj, oCs, oCv, oCi, oIr, oZr, oVr, Nat.beq, List.getElem?_cons_zero, List.getElem?_cons_succ, List.set_cons_zero, List.set_cons_succ, List.length_cons, List.length_nil, List.nil_append, List.cons_append, List.append_nil, List.replicate_succ, List.replicate_zero, Nat.reduceAdd, Nat.reduceSub, Nat.reduceLT, Nat.reduceLeDiff, Nat.reduceBEq, true_and, and_true, Nat.zero_add, Nat.add_zero, Nat.le_refl, Option.some.injEq, exists_eq_left', true_or, or_true, or_false, false_or, reduceCtorEq, Prod.mk.injEq, Sum.inl.injEq, and_self, false_and, and_false, not_true_eq_false, not_false_eq_true, false_implies, true_implies, sm_r, Int.add_zero, Int.zero_add, wI_wsI, wS_wsI, wR_wsI, wI_wCp, wS_wCp, wR_wCp, Nat.reduceEqDiff, reduceIte, sT_iff, sT_iffC, wIf_ne, ne_eq, Bool.false_or, Bool.true_or, Bool.or_false, Bool.or_true, Bool.or_self, Nat.left_eq_add, Nat.add_eq_left, Nat.add_left_inj, oMax, oMin, oAbs, tb_X8_init, p_X8_init, f_X8_init, u1, uS, wsR_n, wNw_n, wS_wNw, wR_wNw, wS_wsR, wR_wsR, Nat.reduceAdd, Int.reduceToNat, Int.reduceEq, Nat.reduceEqDiff]
    repeat' (first | exact True.intro | with_reducible assumption | with_reducible refine And.intro ?_ ?_ | intro _)
    all_goals first
      | omega
      | assumption
      | rfl
      | (split <;> omega)
      | (have k9 := ih (by omega)
         (repeat' split at k9) <;> first | exact k9 | omega)
      | (have k9 := ih2 (by omega)
         (repeat' split at k9) <;> first | exact k9 | omega)
      | exact he (by omega)
      | ((with_reducible congr 1) <;> omega)
      | (rw [if_pos (by omega)] at he; exact he)
      | exact hD1 (by omega)
      | exact hD2 (by omega)
      | skip
  have z13 : Z 108 [some (.inr (.inl 154)), none] [] (mG13 w) 13 916 := by
    unfold mG14 at z14
    generalize mG13 w = u at *
    obtain ⟨u1, uS⟩ := i13
    refine hZ (fun u => Nat.beq u 108 || Nat.beq u 116) 14 108 _ _ _ _ _ ?_
    simp only [sm_run, sm_blk, sm_get, sm_ent, sm_ents, sm_wds, sm_wd, sm_nl, sm_pop, sm_back, sm_cases, oK, oLK, oL, oI, oA, oJ, oIs, oAs, oJs, oInc, oAdd, oSub, oMul, oDiv, oRem, oNeg, oAnd, oAndB, oOr, oShl, oI2c, oI2l, oL2i, oLand, oLor, oLshl, oLshr, oLushr, oLcmp, oDup, oDup2, oPop, oGo, oFg, oEq, oNe, oLt, oGe, oGt, oLe, oEq0, oNe0, oLt0, oGe0, oGt0, oLe0, oSw, oGi, oGr, oPi, oPz, oPr, oLen, oIl, oZl, oCl, oRl, oIst, oZst, oCst, oRst, oCopy, oNew, oNa, oNa2, oObj, oCs, oCv, oCi, oIr, oZr, oVr, Nat.beq, List.getElem?_cons_zero, List.getElem?_cons_succ, List.set_cons_zero, List.set_cons_succ, List.length_cons, List.length_nil, List.nil_append, List.cons_append, List.append_nil, List.replicate_succ, List.replicate_zero, Nat.reduceAdd, Nat.reduceSub, Nat.reduceLT, Nat.reduceLeDiff, Nat.reduceBEq, true_and, and_true, Nat.zero_add, Nat.add_zero, Nat.le_refl, Option.some.injEq, exists_eq_left', true_or, or_true, or_false, false_or, reduceCtorEq, Prod.mk.injEq, Sum.inl.injEq, and_self, false_and, and_false, not_true_eq_false, not_false_eq_true, false_implies, true_implies, sm_r, Int.add_zero, Int.zero_add, wI_wsI, wS_wsI, wR_wsI, wI_wCp, wS_wCp, wR_wCp, Nat.reduceEqDiff, reduceIte, sT_iff, sT_iffC, wIf_ne, ne_eq, Bool.false_or, Bool.true_or, Bool.or_false, Bool.or_true, Bool.or_self, Nat.left_eq_add, Nat.add_eq_left, Nat.add_left_inj, oMax, oMin, oAbs, tb_X8_init, p_X8_init, f_X8_init, u1, uS, wsR_n, wNw_n, wS_wNw, wR_wNw, wS_wsR, wR_wsR, Nat.reduceAdd, Int.reduceToNat, Int.reduceEq, Nat.reduceEqDiff]
    repeat' (first | exact True.intro | with_reducible assumption | with_reducible refine And.intro ?_ ?_ | intro _)
    all_goals first
      | omega
      | assumption
      | rfl
      | (split <;> omega)
      | (have k9 := ih (by omega)
         (repeat' split at k9) <;> first | exact k9 | omega)
      | (have k9 := ih2 (by omega)
         (repeat' split at k9) <;> first | exact k9 | omega)
      | exact he (by omega)
      | ((with_reducible congr 1) <;> omega)
      | (rw [if_pos (by omega)] at he; exact he)
      | exact hD1 (by omega)
      | exact hD2 (by omega)
      | skip
  have z12 : Z 100 [some (.inr (.inl 154)), none] [] (mG12 w) 12 852 := by
    unfold mG13 at z13
    generalize mG12 w = u at *
    obtain ⟨u1, uS⟩ := i12
    refine hZ (fun u => Nat.beq u 100 || Nat.beq u 108) 14 100 _ _ _ _ _ ?_
    simp only [sm_run, sm_blk, sm_get, sm_ent, sm_ents, sm_wds, sm_wd, sm_nl, sm_pop, sm_back, sm_cases, oK, oLK, oL, oI, oA, oJ, oIs, oAs, oJs, oInc, oAdd, oSub, oMul, oDiv, oRem, oNeg, oAnd, oAndB, oOr, oShl, oI2c, oI2l, oL2i, oLand, oLor, oLshl, oLshr, oLushr, oLcmp, oDup, oDup2, oPop, oGo, oFg, oEq, oNe, oLt, oGe, oGt, oLe, oEq0, oNe0, oLt0, oGe0, oGt0, oLe0, oSw, oGi, oGr, oPi, oPz, oPr, oLen, oIl, oZl, oCl, oRl, oIst, oZst, oCst, oRst, oCopy, oNew, oNa, oNa2, oObj, oCs, oCv, oCi, oIr, oZr, oVr, Nat.beq, List.getElem?_cons_zero, List.getElem?_cons_succ, List.set_cons_zero, List.set_cons_succ, List.length_cons, List.length_nil, List.nil_append, List.cons_append, List.append_nil, List.replicate_succ, List.replicate_zero, Nat.reduceAdd, Nat.reduceSub, Nat.reduceLT, Nat.reduceLeDiff, Nat.reduceBEq, true_and, and_true, Nat.zero_add, Nat.add_zero, Nat.le_refl, Option.some.injEq, exists_eq_left', true_or, or_true, or_false, false_or, reduceCtorEq, Prod.mk.injEq, Sum.inl.injEq, and_self, false_and, and_false, not_true_eq_false, not_false_eq_true, false_implies, true_implies, sm_r, Int.add_zero, Int.zero_add, wI_wsI, wS_wsI, wR_wsI, wI_wCp, wS_wCp, wR_wCp, Nat.reduceEqDiff, reduceIte, sT_iff, sT_iffC, wIf_ne, ne_eq, Bool.false_or, Bool.true_or, Bool.or_false, Bool.or_true, Bool.or_self, Nat.left_eq_add, Nat.add_eq_left, Nat.add_left_inj, oMax, oMin, oAbs, tb_X8_init, p_X8_init, f_X8_init, u1, uS, wsR_n, wNw_n, wS_wNw, wR_wNw, wS_wsR, wR_wsR, Nat.reduceAdd, Int.reduceToNat, Int.reduceEq, Nat.reduceEqDiff]
    repeat' (first | exact True.intro | with_reducible assumption | with_reducible refine And.intro ?_ ?_ | intro _)
    all_goals first
      | omega
      | assumption
      | rfl
      | (split <;> omega)
      | (have k9 := ih (by omega)
         (repeat' split at k9) <;> first | exact k9 | omega)
      | (have k9 := ih2 (by omega)
         (repeat' split at k9) <;> first | exact k9 | omega)
      | exact he (by omega)
      | ((with_reducible congr 1) <;> omega)
      | (rw [if_pos (by omega)] at he; exact he)
      | exact hD1 (by omega)
      | exact hD2 (by omega)
      | skip
  have z11 : Z 92 [some (.inr (.inl 154)), none] [] (mG11 w) 11 788 := by
    unfold mG12 at z12
    generalize mG11 w = u at *
    obtain ⟨u1, uS⟩ := i11
    refine hZ (fun u => Nat.beq u 92 || Nat.beq u 100) 14 92 _ _ _ _ _ ?_
    simp only [sm_run, sm_blk, sm_get, sm_ent, sm_ents, sm_wds, sm_wd, sm_nl, sm_pop, sm_back, sm_cases, oK, oLK, oL, oI, oA, oJ, oIs, oAs, oJs, oInc, oAdd, oSub, oMul, oDiv, oRem, oNeg, oAnd, oAndB, oOr, oShl, oI2c, oI2l, oL2i, oLand, oLor, oLshl, oLshr, oLushr, oLcmp, oDup, oDup2, oPop, oGo, oFg, oEq, oNe, oLt, oGe, oGt, oLe, oEq0, oNe0, oLt0, oGe0, oGt0, oLe0, oSw, oGi, oGr, oPi, oPz, oPr, oLen, oIl, oZl, oCl, oRl, oIst, oZst, oCst, oRst, oCopy, oNew, oNa, oNa2, oObj, oCs, oCv, oCi, oIr, oZr, oVr, Nat.beq, List.getElem?_cons_zero, List.getElem?_cons_succ, List.set_cons_zero, List.set_cons_succ, List.length_cons, List.length_nil, List.nil_append, List.cons_append, List.append_nil, List.replicate_succ, List.replicate_zero, Nat.reduceAdd, Nat.reduceSub, Nat.reduceLT, Nat.reduceLeDiff, Nat.reduceBEq, true_and, and_true, Nat.zero_add, Nat.add_zero, Nat.le_refl, Option.some.injEq, exists_eq_left', true_or, or_true, or_false, false_or, reduceCtorEq, Prod.mk.injEq, Sum.inl.injEq, and_self, false_and, and_false, not_true_eq_false, not_false_eq_true, false_implies, true_implies, sm_r, Int.add_zero, Int.zero_add, wI_wsI, wS_wsI, wR_wsI, wI_wCp, wS_wCp, wR_wCp, Nat.reduceEqDiff, reduceIte, sT_iff, sT_iffC, wIf_ne, ne_eq, Bool.false_or, Bool.true_or, Bool.or_false, Bool.or_true, Bool.or_self, Nat.left_eq_add, Nat.add_eq_left, Nat.add_left_inj, oMax, oMin, oAbs, tb_X8_init, p_X8_init, f_X8_init, u1, uS, wsR_n, wNw_n, wS_wNw, wR_wNw, wS_wsR, wR_wsR, Nat.reduceAdd, Int.reduceToNat, Int.reduceEq, Nat.reduceEqDiff]
    repeat' (first | exact True.intro | with_reducible assumption | with_reducible refine And.intro ?_ ?_ | intro _)
    all_goals first
      | omega
      | assumption
      | rfl
      | (split <;> omega)
      | (have k9 := ih (by omega)
         (repeat' split at k9) <;> first | exact k9 | omega)
      | (have k9 := ih2 (by omega)
         (repeat' split at k9) <;> first | exact k9 | omega)
      | exact he (by omega)
      | ((with_reducible congr 1) <;> omega)
      | (rw [if_pos (by omega)] at he; exact he)
      | exact hD1 (by omega)
      | exact hD2 (by omega)
      | skip
  have z10 : Z 84 [some (.inr (.inl 154)), none] [] (mG10 w) 10 724 := by
    unfold mG11 at z11
    generalize mG10 w = u at *
    obtain ⟨u1, uS⟩ := i10
    refine hZ (fun u => Nat.beq u 84 || Nat.beq u 92) 14 84 _ _ _ _ _ ?_
    simp only [sm_run, sm_blk, sm_get, sm_ent, sm_ents, sm_wds, sm_wd, sm_nl, sm_pop, sm_back, sm_cases, oK, oLK, oL, oI, oA, oJ, oIs, oAs, oJs, oInc, oAdd, oSub, oMul, oDiv, oRem, oNeg, oAnd, oAndB, oOr, oShl, oI2c, oI2l, oL2i, oLand, oLor, oLshl, oLshr, oLushr, oLcmp, oDup, oDup2, oPop, oGo, oFg, oEq, oNe, oLt, oGe, oGt, oLe, oEq0, oNe0, oLt0, oGe0, oGt0, oLe0, oSw, oGi, oGr, oPi, oPz, oPr, oLen, oIl, oZl, oCl, oRl, oIst, oZst, oCst, oRst, oCopy, oNew, oNa, oNa2, oObj, oCs, oCv, oCi, oIr, oZr, oVr, Nat.beq, List.getElem?_cons_zero, List.getElem?_cons_succ, List.set_cons_zero, List.set_cons_succ, List.length_cons, List.length_nil, List.nil_append, List.cons_append, List.append_nil, List.replicate_succ, List.replicate_zero, Nat.reduceAdd, Nat.reduceSub, Nat.reduceLT, Nat.reduceLeDiff, Nat.reduceBEq, true_and, and_true, Nat.zero_add, Nat.add_zero, Nat.le_refl, Option.some.injEq, exists_eq_left', true_or, or_true, or_false, false_or, reduceCtorEq, Prod.mk.injEq, Sum.inl.injEq, and_self, false_and, and_false, not_true_eq_false, not_false_eq_true, false_implies, true_implies, sm_r, Int.add_zero, Int.zero_add, wI_wsI, wS_wsI, wR_wsI, wI_wCp, wS_wCp, wR_wCp, Nat.reduceEqDiff, reduceIte, sT_iff, sT_iffC, wIf_ne, ne_eq, Bool.false_or, Bool.true_or, Bool.or_false, Bool.or_true, Bool.or_self, Nat.left_eq_add, Nat.add_eq_left, Nat.add_left_inj, oMax, oMin, oAbs, tb_X8_init, p_X8_init, f_X8_init, u1, uS, wsR_n, wNw_n, wS_wNw, wR_wNw, wS_wsR, wR_wsR, Nat.reduceAdd, Int.reduceToNat, Int.reduceEq, Nat.reduceEqDiff]
    repeat' (first | exact True.intro | with_reducible assumption | with_reducible refine And.intro ?_ ?_ | intro _)
    all_goals first
      | omega
      | assumption
      | rfl
      | (split <;> omega)
      | (have k9 := ih (by omega)
         (repeat' split at k9) <;> first | exact k9 | omega)
      | (have k9 := ih2 (by omega)
         (repeat' split at k9) <;> first | exact k9 | omega)
      | exact he (by omega)
      | ((with_reducible congr 1) <;> omega)
      | (rw [if_pos (by omega)] at he; exact he)
      | exact hD1 (by omega)
      | exact hD2 (by omega)
      | skip
  have z9 : Z 76 [some (.inr (.inl 154)), none] [] (mG9 w) 9 660 := by
    unfold mG10 at z10
    generalize mG9 w = u at *
    obtain ⟨u1, uS⟩ := i9
    refine hZ (fun u => Nat.beq u 76 || Nat.beq u 84) 14 76 _ _ _ _ _ ?_
    simp only [sm_run, sm_blk, sm_get, sm_ent, sm_ents, sm_wds, sm_wd, sm_nl, sm_pop, sm_back, sm_cases, oK, oLK, oL, oI, oA, oJ, oIs, oAs, oJs, oInc, oAdd, oSub, oMul, oDiv, oRem, oNeg, oAnd, oAndB, oOr, oShl, oI2c, oI2l, oL2i, oLand, oLor, oLshl, oLshr, oLushr, oLcmp, oDup, oDup2, oPop, oGo, oFg, oEq, oNe, oLt, oGe, oGt, oLe, oEq0, oNe0, oLt0, oGe0, oGt0, oLe0, oSw, oGi, oGr, oPi, oPz, oPr, oLen, oIl, oZl, oCl, oRl, oIst, oZst, oCst, oRst, oCopy, oNew, oNa, oNa2, oObj, oCs, oCv, oCi, oIr, oZr, oVr, Nat.beq, List.getElem?_cons_zero, List.getElem?_cons_succ, List.set_cons_zero, List.set_cons_succ, List.length_cons, List.length_nil, List.nil_append, List.cons_append, List.append_nil, List.replicate_succ, List.replicate_zero, Nat.reduceAdd, Nat.reduceSub, Nat.reduceLT, Nat.reduceLeDiff, Nat.reduceBEq, true_and, and_true, Nat.zero_add, Nat.add_zero, Nat.le_refl, Option.some.injEq, exists_eq_left', true_or, or_true, or_false, false_or, reduceCtorEq, Prod.mk.injEq, Sum.inl.injEq, and_self, false_and, and_false, not_true_eq_false, not_false_eq_true, false_implies, true_implies, sm_r, Int.add_zero, Int.zero_add, wI_wsI, wS_wsI, wR_wsI, wI_wCp, wS_wCp, wR_wCp, Nat.reduceEqDiff, reduceIte, sT_iff, sT_iffC, wIf_ne, ne_eq, Bool.false_or, Bool.true_or, Bool.or_false, Bool.or_true, Bool.or_self, Nat.left_eq_add, Nat.add_eq_left, Nat.add_left_inj, oMax, oMin, oAbs, tb_X8_init, p_X8_init, f_X8_init, u1, uS, wsR_n, wNw_n, wS_wNw, wR_wNw, wS_wsR, wR_wsR, Nat.reduceAdd, Int.reduceToNat, Int.reduceEq, Nat.reduceEqDiff]
    repeat' (first | exact True.intro | with_reducible assumption | with_reducible refine And.intro ?_ ?_ | intro _)
    all_goals first
      | omega
      | assumption
      | rfl
      | (split <;> omega)
      | (have k9 := ih (by omega)
         (repeat' split at k9) <;> first | exact k9 | omega)
      | (have k9 := ih2 (by omega)
         (repeat' split at k9) <;> first | exact k9 | omega)
      | exact he (by omega)
      | ((with_reducible congr 1) <;> omega)
      | (rw [if_pos (by omega)] at he; exact he)
      | exact hD1 (by omega)
      | exact hD2 (by omega)
      | skip
  have z8 : Z 68 [some (.inr (.inl 154)), none] [] (mG8 w) 8 596 := by
    unfold mG9 at z9
    generalize mG8 w = u at *
    obtain ⟨u1, uS⟩ := i8
    refine hZ (fun u => Nat.beq u 68 || Nat.beq u 76) 14 68 _ _ _ _ _ ?_
    simp only [sm_run, sm_blk, sm_get, sm_ent, sm_ents, sm_wds, sm_wd, sm_nl, sm_pop, sm_back, sm_cases, oK, oLK, oL, oI, oA, oJ, oIs, oAs, oJs, oInc, oAdd, oSub, oMul, oDiv, oRem, oNeg, oAnd, oAndB, oOr, oShl, oI2c, oI2l, oL2i, oLand, oLor, oLshl, oLshr, oLushr, oLcmp, oDup, oDup2, oPop, oGo, oFg, oEq, oNe, oLt, oGe, oGt, oLe, oEq0, oNe0, oLt0, oGe0, oGt0, oLe0, oSw, oGi, oGr, oPi, oPz, oPr, oLen, oIl, oZl, oCl, oRl, oIst, oZst, oCst, oRst, oCopy, oNew, oNa, oNa2, oObj, oCs, oCv, oCi, oIr, oZr, oVr, Nat.beq, List.getElem?_cons_zero, List.getElem?_cons_succ, List.set_cons_zero, List.set_cons_succ, List.length_cons, List.length_nil, List.nil_append, List.cons_append, List.append_nil, List.replicate_succ, List.replicate_zero, Nat.reduceAdd, Nat.reduceSub, Nat.reduceLT, Nat.reduceLeDiff, Nat.reduceBEq, true_and, and_true, Nat.zero_add, Nat.add_zero, Nat.le_refl, Option.some.injEq, exists_eq_left', true_or, or_true, or_false, false_or, reduceCtorEq, Prod.mk.injEq, Sum.inl.injEq, and_self, false_and, and_false, not_true_eq_false, not_false_eq_true, false_implies, true_implies, sm_r, Int.add_zero, Int.zero_add, wI_wsI, wS_wsI, wR_wsI, wI_wCp, wS_wCp, wR_wCp, Nat.reduceEqDiff, reduceIte, sT_iff, sT_iffC, wIf_ne, ne_eq, Bool.false_or, Bool.true_or, Bool.or_false, Bool.or_true, Bool.or_self, Nat.left_eq_add, Nat.add_eq_left, Nat.add_left_inj, oMax, oMin, oAbs, tb_X8_init, p_X8_init, f_X8_init, u1, uS, wsR_n, wNw_n, wS_wNw, wR_wNw, wS_wsR, wR_wsR, Nat.reduceAdd, Int.reduceToNat, Int.reduceEq, Nat.reduceEqDiff]
    repeat' (first | exact True.intro | with_reducible assumption | with_reducible refine And.intro ?_ ?_ | intro _)
    all_goals first
      | omega
      | assumption
      | rfl
      | (split <;> omega)
      | (have k9 := ih (by omega)
         (repeat' split at k9) <;> first | exact k9 | omega)
      | (have k9 := ih2 (by omega)
         (repeat' split at k9) <;> first | exact k9 | omega)
      | exact he (by omega)
      | ((with_reducible congr 1) <;> omega)
      | (rw [if_pos (by omega)] at he; exact he)
      | exact hD1 (by omega)
      | exact hD2 (by omega)
      | skip
  have z7 : Z 60 [some (.inr (.inl 154)), none] [] (mG7 w) 7 588 := by
    unfold mG8 at z8
    generalize mG7 w = u at *
    obtain ⟨u1, uS⟩ := i7
    refine hZ (fun u => Nat.beq u 60 || Nat.beq u 68) 14 60 _ _ _ _ _ ?_
    simp only [sm_run, sm_blk, sm_get, sm_ent, sm_ents, sm_wds, sm_wd, sm_nl, sm_pop, sm_back, sm_cases, oK, oLK, oL, oI, oA, oJ, oIs, oAs, oJs, oInc, oAdd, oSub, oMul, oDiv, oRem, oNeg, oAnd, oAndB, oOr, oShl, oI2c, oI2l, oL2i, oLand, oLor, oLshl, oLshr, oLushr, oLcmp, oDup, oDup2, oPop, oGo, oFg, oEq, oNe, oLt, oGe, oGt, oLe, oEq0, oNe0, oLt0, oGe0, oGt0, oLe0, oSw, oGi, oGr, oPi, oPz, oPr, oLen, oIl, oZl, oCl, oRl, oIst, oZst, oCst, oRst, oCopy, oNew, oNa, oNa2, oObj, oCs, oCv, oCi, oIr, oZr, oVr, Nat.beq, List.getElem?_cons_zero, List.getElem?_cons_succ, List.set_cons_zero, List.set_cons_succ, List.length_cons, List.length_nil, List.nil_append, List.cons_append, List.append_nil, List.replicate_succ, List.replicate_zero, Nat.reduceAdd, Nat.reduceSub, Nat.reduceLT, Nat.reduceLeDiff, Nat.reduceBEq, true_and, and_true, Nat.zero_add, Nat.add_zero, Nat.le_refl, Option.some.injEq, exists_eq_left', true_or, or_true, or_false, false_or, reduceCtorEq, Prod.mk.injEq, Sum.inl.injEq, and_self, false_and, and_false, not_true_eq_false, not_false_eq_true, false_implies, true_implies, sm_r, Int.add_zero, Int.zero_add, wI_wsI, wS_wsI, wR_wsI, wI_wCp, wS_wCp, wR_wCp, Nat.reduceEqDiff, reduceIte, sT_iff, sT_iffC, wIf_ne, ne_eq, Bool.false_or, Bool.true_or, Bool.or_false, Bool.or_true, Bool.or_self, Nat.left_eq_add, Nat.add_eq_left, Nat.add_left_inj, oMax, oMin, oAbs, tb_X8_init, p_X8_init, f_X8_init, u1, uS, wsR_n, wNw_n, wS_wNw, wR_wNw, wS_wsR, wR_wsR, Nat.reduceAdd, Int.reduceToNat, Int.reduceEq, Nat.reduceEqDiff]
    repeat' (first | exact True.intro | with_reducible assumption | with_reducible refine And.intro ?_ ?_ | intro _)
    all_goals first
      | omega
      | assumption
      | rfl
      | (split <;> omega)
      | (have k9 := ih (by omega)
         (repeat' split at k9) <;> first | exact k9 | omega)
      | (have k9 := ih2 (by omega)
         (repeat' split at k9) <;> first | exact k9 | omega)
      | exact he (by omega)
      | ((with_reducible congr 1) <;> omega)
      | (rw [if_pos (by omega)] at he; exact he)
      | exact hD1 (by omega)
      | exact hD2 (by omega)
      | skip
  have z6 : Z 52 [some (.inr (.inl 154)), none] [] (mG6 w) 6 580 := by
    unfold mG7 at z7
    generalize mG6 w = u at *
    obtain ⟨u1, uS⟩ := i6
    refine hZ (fun u => Nat.beq u 52 || Nat.beq u 60) 14 52 _ _ _ _ _ ?_
    simp only [sm_run, sm_blk, sm_get, sm_ent, sm_ents, sm_wds, sm_wd, sm_nl, sm_pop, sm_back, sm_cases, oK, oLK, oL, oI, oA, oJ, oIs, oAs, oJs, oInc, oAdd, oSub, oMul, oDiv, oRem, oNeg, oAnd, oAndB, oOr, oShl, oI2c, oI2l, oL2i, oLand, oLor, oLshl, oLshr, oLushr, oLcmp, oDup, oDup2, oPop, oGo, oFg, oEq, oNe, oLt, oGe, oGt, oLe, oEq0, oNe0, oLt0, oGe0, oGt0, oLe0, oSw, oGi, oGr, oPi, oPz, oPr, oLen, oIl, oZl, oCl, oRl, oIst, oZst, oCst, oRst, oCopy, oNew, oNa, oNa2, oObj, oCs, oCv, oCi, oIr, oZr, oVr, Nat.beq, List.getElem?_cons_zero, List.getElem?_cons_succ, List.set_cons_zero, List.set_cons_succ, List.length_cons, List.length_nil, List.nil_append, List.cons_append, List.append_nil, List.replicate_succ, List.replicate_zero, Nat.reduceAdd, Nat.reduceSub, Nat.reduceLT, Nat.reduceLeDiff, Nat.reduceBEq, true_and, and_true, Nat.zero_add, Nat.add_zero, Nat.le_refl, Option.some.injEq, exists_eq_left', true_or, or_true, or_false, false_or, reduceCtorEq, Prod.mk.injEq, Sum.inl.injEq, and_self, false_and, and_false, not_true_eq_false, not_false_eq_true, false_implies, true_implies, sm_r, Int.add_zero, Int.zero_add, wI_wsI, wS_wsI, wR_wsI, wI_wCp, wS_wCp, wR_wCp, Nat.reduceEqDiff, reduceIte, sT_iff, sT_iffC, wIf_ne, ne_eq, Bool.false_or, Bool.true_or, Bool.or_false, Bool.or_true, Bool.or_self, Nat.left_eq_add, Nat.add_eq_left, Nat.add_left_inj, oMax, oMin, oAbs, tb_X8_init, p_X8_init, f_X8_init, u1, uS, wsR_n, wNw_n, wS_wNw, wR_wNw, wS_wsR, wR_wsR, Nat.reduceAdd, Int.reduceToNat, Int.reduceEq, Nat.reduceEqDiff]
    repeat' (first | exact True.intro | with_reducible assumption | with_reducible refine And.intro ?_ ?_ | intro _)
    all_goals first
      | omega
      | assumption
      | rfl
      | (split <;> omega)
      | (have k9 := ih (by omega)
         (repeat' split at k9) <;> first | exact k9 | omega)
      | (have k9 := ih2 (by omega)
         (repeat' split at k9) <;> first | exact k9 | omega)
      | exact he (by omega)
      | ((with_reducible congr 1) <;> omega)
      | (rw [if_pos (by omega)] at he; exact he)
      | exact hD1 (by omega)
      | exact hD2 (by omega)
      | skip
  have z5 : Z 44 [some (.inr (.inl 154)), none] [] (mG5 w) 5 572 := by
    unfold mG6 at z6
    generalize mG5 w = u at *
    obtain ⟨u1, uS⟩ := i5
    refine hZ (fun u => Nat.beq u 44 || Nat.beq u 52) 14 44 _ _ _ _ _ ?_
    simp only [sm_run, sm_blk, sm_get, sm_ent, sm_ents, sm_wds, sm_wd, sm_nl, sm_pop, sm_back, sm_cases, oK, oLK, oL, oI, oA, oJ, oIs, oAs, oJs, oInc, oAdd, oSub, oMul, oDiv, oRem, oNeg, oAnd, oAndB, oOr, oShl, oI2c, oI2l, oL2i, oLand, oLor, oLshl, oLshr, oLushr, oLcmp, oDup, oDup2, oPop, oGo, oFg, oEq, oNe, oLt, oGe, oGt, oLe, oEq0, oNe0, oLt0, oGe0, oGt0, oLe0, oSw, oGi, oGr, oPi, oPz, oPr, oLen, oIl, oZl, oCl, oRl, oIst, oZst, oCst, oRst, oCopy, oNew, oNa, oNa2, oObj, oCs, oCv, oCi, oIr, oZr, oVr, Nat.beq, List.getElem?_cons_zero, List.getElem?_cons_succ, List.set_cons_zero, List.set_cons_succ, List.length_cons, List.length_nil, List.nil_append, List.cons_append, List.append_nil, List.replicate_succ, List.replicate_zero, Nat.reduceAdd, Nat.reduceSub, Nat.reduceLT, Nat.reduceLeDiff, Nat.reduceBEq, true_and, and_true, Nat.zero_add, Nat.add_zero, Nat.le_refl, Option.some.injEq, exists_eq_left', true_or, or_true, or_false, false_or, reduceCtorEq, Prod.mk.injEq, Sum.inl.injEq, and_self, false_and, and_false, not_true_eq_false, not_false_eq_true, false_implies, true_implies, sm_r, Int.add_zero, Int.zero_add, wI_wsI, wS_wsI, wR_wsI, wI_wCp, wS_wCp, wR_wCp, Nat.reduceEqDiff, reduceIte, sT_iff, sT_iffC, wIf_ne, ne_eq, Bool.false_or, Bool.true_or, Bool.or_false, Bool.or_true, Bool.or_self, Nat.left_eq_add, Nat.add_eq_left, Nat.add_left_inj, oMax, oMin, oAbs, tb_X8_init, p_X8_init, f_X8_init, u1, uS, wsR_n, wNw_n, wS_wNw, wR_wNw, wS_wsR, wR_wsR, Nat.reduceAdd, Int.reduceToNat, Int.reduceEq, Nat.reduceEqDiff]
    repeat' (first | exact True.intro | with_reducible assumption | with_reducible refine And.intro ?_ ?_ | intro _)
    all_goals first
      | omega
      | assumption
      | rfl
      | (split <;> omega)
      | (have k9 := ih (by omega)
         (repeat' split at k9) <;> first | exact k9 | omega)
      | (have k9 := ih2 (by omega)
         (repeat' split at k9) <;> first | exact k9 | omega)
      | exact he (by omega)
      | ((with_reducible congr 1) <;> omega)
      | (rw [if_pos (by omega)] at he; exact he)
      | exact hD1 (by omega)
      | exact hD2 (by omega)
      | skip
  have z4 : Z 36 [some (.inr (.inl 154)), none] [] (mG4 w) 4 515 := by
    unfold mG5 at z5
    generalize mG4 w = u at *
    obtain ⟨u1, uS⟩ := i4
    refine hZ (fun u => Nat.beq u 36 || Nat.beq u 44) 14 36 _ _ _ _ _ ?_
    simp only [sm_run, sm_blk, sm_get, sm_ent, sm_ents, sm_wds, sm_wd, sm_nl, sm_pop, sm_back, sm_cases, oK, oLK, oL, oI, oA, oJ, oIs, oAs, oJs, oInc, oAdd, oSub, oMul, oDiv, oRem, oNeg, oAnd, oAndB, oOr, oShl, oI2c, oI2l, oL2i, oLand, oLor, oLshl, oLshr, oLushr, oLcmp, oDup, oDup2, oPop, oGo, oFg, oEq, oNe, oLt, oGe, oGt, oLe, oEq0, oNe0, oLt0, oGe0, oGt0, oLe0, oSw, oGi, oGr, oPi, oPz, oPr, oLen, oIl, oZl, oCl, oRl, oIst, oZst, oCst, oRst, oCopy, oNew, oNa, oNa2, oObj, oCs, oCv, oCi, oIr, oZr, oVr, Nat.beq, List.getElem?_cons_zero, List.getElem?_cons_succ, List.set_cons_zero, List.set_cons_succ, List.length_cons, List.length_nil, List.nil_append, List.cons_append, List.append_nil, List.replicate_succ, List.replicate_zero, Nat.reduceAdd, Nat.reduceSub, Nat.reduceLT, Nat.reduceLeDiff, Nat.reduceBEq, true_and, and_true, Nat.zero_add, Nat.add_zero, Nat.le_refl, Option.some.injEq, exists_eq_left', true_or, or_true, or_false, false_or, reduceCtorEq, Prod.mk.injEq, Sum.inl.injEq, and_self, false_and, and_false, not_true_eq_false, not_false_eq_true, false_implies, true_implies, sm_r, Int.add_zero, Int.zero_add, wI_wsI, wS_wsI, wR_wsI, wI_wCp, wS_wCp, wR_wCp, Nat.reduceEqDiff, reduceIte, sT_iff, sT_iffC, wIf_ne, ne_eq, Bool.false_or, Bool.true_or, Bool.or_false, Bool.or_true, Bool.or_self, Nat.left_eq_add, Nat.add_eq_left, Nat.add_left_inj, oMax, oMin, oAbs, tb_X8_init, p_X8_init, f_X8_init, u1, uS, wsR_n, wNw_n, wS_wNw, wR_wNw, wS_wsR, wR_wsR, Nat.reduceAdd, Int.reduceToNat, Int.reduceEq, Nat.reduceEqDiff]
    repeat' (first | exact True.intro | with_reducible assumption | with_reducible refine And.intro ?_ ?_ | intro _)
    all_goals first
      | omega
      | assumption
      | rfl
      | (split <;> omega)
      | (have k9 := ih (by omega)
         (repeat' split at k9) <;> first | exact k9 | omega)
      | (have k9 := ih2 (by omega)
         (repeat' split at k9) <;> first | exact k9 | omega)
      | exact he (by omega)
      | ((with_reducible congr 1) <;> omega)
      | (rw [if_pos (by omega)] at he; exact he)
      | exact hD1 (by omega)
      | exact hD2 (by omega)
      | skip
  have z3 : Z 29 [some (.inr (.inl 154)), none] [] (mG3 w) 3 513 := by
    unfold mG4 at z4
    generalize mG3 w = u at *
    obtain ⟨u1, uS⟩ := i3
    refine hZ (fun u => Nat.beq u 29 || Nat.beq u 36) 14 29 _ _ _ _ _ ?_
    simp only [sm_run, sm_blk, sm_get, sm_ent, sm_ents, sm_wds, sm_wd, sm_nl, sm_pop, sm_back, sm_cases, oK, oLK, oL, oI, oA, oJ, oIs, oAs, oJs, oInc, oAdd, oSub, oMul, oDiv, oRem, oNeg, oAnd, oAndB, oOr, oShl, oI2c, oI2l, oL2i, oLand, oLor, oLshl, oLshr, oLushr, oLcmp, oDup, oDup2, oPop, oGo, oFg, oEq, oNe, oLt, oGe, oGt, oLe, oEq0, oNe0, oLt0, oGe0, oGt0, oLe0, oSw, oGi, oGr, oPi, oPz, oPr, oLen, oIl, oZl, oCl, oRl, oIst, oZst, oCst, oRst, oCopy, oNew, oNa, oNa2, oObj, oCs, oCv, oCi, oIr, oZr, oVr, Nat.beq, List.getElem?_cons_zero, List.getElem?_cons_succ, List.set_cons_zero, List.set_cons_succ, List.length_cons, List.length_nil, List.nil_append, List.cons_append, List.append_nil, List.replicate_succ, List.replicate_zero, Nat.reduceAdd, Nat.reduceSub, Nat.reduceLT, Nat.reduceLeDiff, Nat.reduceBEq, true_and, and_true, Nat.zero_add, Nat.add_zero, Nat.le_refl, Option.some.injEq, exists_eq_left', true_or, or_true, or_false, false_or, reduceCtorEq, Prod.mk.injEq, Sum.inl.injEq, and_self, false_and, and_false, not_true_eq_false, not_false_eq_true, false_implies, true_implies, sm_r, Int.add_zero, Int.zero_add, wI_wsI, wS_wsI, wR_wsI, wI_wCp, wS_wCp, wR_wCp, Nat.reduceEqDiff, reduceIte, sT_iff, sT_iffC, wIf_ne, ne_eq, Bool.false_or, Bool.true_or, Bool.or_false, Bool.or_true, Bool.or_self, Nat.left_eq_add, Nat.add_eq_left, Nat.add_left_inj, oMax, oMin, oAbs, tb_X8_init, p_X8_init, f_X8_init, u1, uS, wsR_n, wNw_n, wS_wNw, wR_wNw, wS_wsR, wR_wsR, Nat.reduceAdd, Int.reduceToNat, Int.reduceEq, Nat.reduceEqDiff]
    repeat' (first | exact True.intro | with_reducible assumption | with_reducible refine And.intro ?_ ?_ | intro _)
    all_goals first
      | omega
      | assumption
      | rfl
      | (split <;> omega)
      | (have k9 := ih (by omega)
         (repeat' split at k9) <;> first | exact k9 | omega)
      | (have k9 := ih2 (by omega)
         (repeat' split at k9) <;> first | exact k9 | omega)
      | exact he (by omega)
      | ((with_reducible congr 1) <;> omega)
      | (rw [if_pos (by omega)] at he; exact he)
      | exact hD1 (by omega)
      | exact hD2 (by omega)
      | skip
  have z2 : Z 21 [some (.inr (.inl 154)), none] [] (mG2 w) 2 399 := by
    unfold mG3 at z3
    generalize mG2 w = u at *
    obtain ⟨u1, uS⟩ := i2
    refine hZ (fun u => Nat.beq u 21 || Nat.beq u 29) 14 21 _ _ _ _ _ ?_
    simp only [sm_run, sm_blk, sm_get, sm_ent, sm_ents, sm_wds, sm_wd, sm_nl, sm_pop, sm_back, sm_cases, oK, oLK, oL, oI, oA, oJ, oIs, oAs, oJs, oInc, oAdd, oSub, oMul, oDiv, oRem, oNeg, oAnd, oAndB, oOr, oShl, oI2c, oI2l, oL2i, oLand, oLor, oLshl, oLshr, oLushr, oLcmp, oDup, oDup2, oPop, oGo, oFg, oEq, oNe, oLt, oGe, oGt, oLe, oEq0, oNe0, oLt0, oGe0, oGt0, oLe0, oSw, oGi, oGr, oPi, oPz, oPr, oLen, oIl, oZl, oCl, oRl, oIst, oZst, oCst, oRst, oCopy, oNew, oNa, oNa2, oObj, oCs, oCv, oCi, oIr, oZr, oVr, Nat.beq, List.getElem?_cons_zero, List.getElem?_cons_succ, List.set_cons_zero, List.set_cons_succ, List.length_cons, List.length_nil, List.nil_append, List.cons_append, List.append_nil, List.replicate_succ, List.replicate_zero, Nat.reduceAdd, Nat.reduceSub, Nat.reduceLT, Nat.reduceLeDiff, Nat.reduceBEq, true_and, and_true, Nat.zero_add, Nat.add_zero, Nat.le_refl, Option.some.injEq, exists_eq_left', true_or, or_true, or_false, false_or, reduceCtorEq, Prod.mk.injEq, Sum.inl.injEq, and_self, false_and, and_false, not_true_eq_false, not_false_eq_true, false_implies, true_implies, sm_r, Int.add_zero, Int.zero_add, wI_wsI, wS_wsI, wR_wsI, wI_wCp, wS_wCp, wR_wCp, Nat.reduceEqDiff, reduceIte, sT_iff, sT_iffC, wIf_ne, ne_eq, Bool.false_or, Bool.true_or, Bool.or_false, Bool.or_true, Bool.or_self, Nat.left_eq_add, Nat.add_eq_left, Nat.add_left_inj, oMax, oMin, oAbs, tb_X8_init, p_X8_init, f_X8_init, u1, uS, wsR_n, wNw_n, wS_wNw, wR_wNw, wS_wsR, wR_wsR, Nat.reduceAdd, Int.reduceToNat, Int.reduceEq, Nat.reduceEqDiff]
    repeat' (first | exact True.intro | with_reducible assumption | with_reducible refine And.intro ?_ ?_ | intro _)
    all_goals first
      | omega
      | assumption
      | rfl
      | (split <;> omega)
      | (have k9 := ih (by omega)
         (repeat' split at k9) <;> first | exact k9 | omega)
      | (have k9 := ih2 (by omega)
         (repeat' split at k9) <;> first | exact k9 | omega)
      | exact he (by omega)
      | ((with_reducible congr 1) <;> omega)
      | (rw [if_pos (by omega)] at he; exact he)
      | exact hD1 (by omega)
      | exact hD2 (by omega)
      | skip
  have z1 : Z 12 [some (.inr (.inl 154)), none] [] (mG1 w) 1 57 := by
    unfold mG2 at z2
    generalize mG1 w = u at *
    obtain ⟨u1, uS⟩ := i1
    refine hZ (fun u => Nat.beq u 12 || Nat.beq u 21) 14 12 _ _ _ _ _ ?_
    simp only [sm_run, sm_blk, sm_get, sm_ent, sm_ents, sm_wds, sm_wd, sm_nl, sm_pop, sm_back, sm_cases, oK, oLK, oL, oI, oA, oJ, oIs, oAs, oJs, oInc, oAdd, oSub, oMul, oDiv, oRem, oNeg, oAnd, oAndB, oOr, oShl, oI2c, oI2l, oL2i, oLand, oLor, oLshl, oLshr, oLushr, oLcmp, oDup, oDup2, oPop, oGo, oFg, oEq, oNe, oLt, oGe, oGt, oLe, oEq0, oNe0, oLt0, oGe0, oGt0, oLe0, oSw, oGi, oGr, oPi, oPz, oPr, oLen, oIl, oZl, oCl, oRl, oIst, oZst, oCst, oRst, oCopy, oNew, oNa, oNa2, oObj, oCs, oCv, oCi, oIr, oZr, oVr, Nat.beq, List.getElem?_cons_zero, List.getElem?_cons_succ, List.set_cons_zero, List.set_cons_succ, List.length_cons, List.length_nil, List.nil_append, List.cons_append, List.append_nil, List.replicate_succ, List.replicate_zero, Nat.reduceAdd, Nat.reduceSub, Nat.reduceLT, Nat.reduceLeDiff, Nat.reduceBEq, true_and, and_true, Nat.zero_add, Nat.add_zero, Nat.le_refl, Option.some.injEq, exists_eq_left', true_or, or_true, or_false, false_or, reduceCtorEq, Prod.mk.injEq, Sum.inl.injEq, and_self, false_and, and_false, not_true_eq_false, not_false_eq_true, false_implies, true_implies, sm_r, Int.add_zero, Int.zero_add, wI_wsI, wS_wsI, wR_wsI, wI_wCp, wS_wCp, wR_wCp, Nat.reduceEqDiff, reduceIte, sT_iff, sT_iffC, wIf_ne, ne_eq, Bool.false_or, Bool.true_or, Bool.or_false, Bool.or_true, Bool.or_self, Nat.left_eq_add, Nat.add_eq_left, Nat.add_left_inj, oMax, oMin, oAbs, tb_X8_init, p_X8_init, f_X8_init, u1, uS, wsR_n, wNw_n, wS_wNw, wR_wNw, wS_wsR, wR_wsR, Nat.reduceAdd, Int.reduceToNat, Int.reduceEq, Nat.reduceEqDiff]
    repeat' (first | exact True.intro | with_reducible assumption | with_reducible refine And.intro ?_ ?_ | intro _)
    all_goals first
      | omega
      | assumption
      | rfl
      | (split <;> omega)
      | (have k9 := ih (by omega)
         (repeat' split at k9) <;> first | exact k9 | omega)
      | (have k9 := ih2 (by omega)
         (repeat' split at k9) <;> first | exact k9 | omega)
      | exact he (by omega)
      | ((with_reducible congr 1) <;> omega)
      | (rw [if_pos (by omega)] at he; exact he)
      | exact hD1 (by omega)
      | exact hD2 (by omega)
      | skip
  unfold mG1 mG0 at z1
  refine hZ (fun u => Nat.beq u 0 || Nat.beq u 12) 14 0 _ _ _ _ _ ?_
  simp only [sm_run, sm_blk, sm_get, sm_ent, sm_ents, sm_wds, sm_wd, sm_nl, sm_pop, sm_back, sm_cases, oK, oLK, oL, oI, oA, oJ, oIs, oAs, oJs, oInc, oAdd, oSub, oMul, oDiv, oRem, oNeg, oAnd, oAndB, oOr, oShl, oI2c, oI2l, oL2i, oLand, oLor, oLshl, oLshr, oLushr, oLcmp, oDup, oDup2, oPop, oGo, oFg, oEq, oNe, oLt, oGe, oGt, oLe, oEq0, oNe0, oLt0, oGe0, oGt0, oLe0, oSw, oGi, oGr, oPi, oPz, oPr, oLen, oIl, oZl, oCl, oRl, oIst, oZst, oCst, oRst, oCopy, oNew, oNa, oNa2, oObj, oCs, oCv, oCi, oIr, oZr, oVr, Nat.beq, List.getElem?_cons_zero, List.getElem?_cons_succ, List.set_cons_zero, List.set_cons_succ, List.length_cons, List.length_nil, List.nil_append, List.cons_append, List.append_nil, List.replicate_succ, List.replicate_zero, Nat.reduceAdd, Nat.reduceSub, Nat.reduceLT, Nat.reduceLeDiff, Nat.reduceBEq, true_and, and_true, Nat.zero_add, Nat.add_zero, Nat.le_refl, Option.some.injEq, exists_eq_left', true_or, or_true, or_false, false_or, reduceCtorEq, Prod.mk.injEq, Sum.inl.injEq, and_self, false_and, and_false, not_true_eq_false, not_false_eq_true, false_implies, true_implies, sm_r, Int.add_zero, Int.zero_add, wI_wsI, wS_wsI, wR_wsI, wI_wCp, wS_wCp, wR_wCp, Nat.reduceEqDiff, reduceIte, sT_iff, sT_iffC, wIf_ne, ne_eq, Bool.false_or, Bool.true_or, Bool.or_false, Bool.or_true, Bool.or_self, Nat.left_eq_add, Nat.add_eq_left, Nat.add_left_inj, oMax, oMin, oAbs, tb_X8_init, p_X8_init, f_X8_init, hn, hs, wsR_n, wNw_n, wS_wNw, wR_wNw, wS_wsR, wR_wsR, Nat.reduceAdd, Int.reduceToNat, Int.reduceEq, Nat.reduceEqDiff]
  repeat' (first | exact True.intro | with_reducible assumption | with_reducible refine And.intro ?_ ?_ | intro _)
  all_goals first
    | omega
    | assumption
    | rfl
    | (split <;> omega)
    | (have k9 := ih (by omega)
       (repeat' split at k9) <;> first | exact k9 | omega)
    | (have k9 := ih2 (by omega)
       (repeat' split at k9) <;> first | exact k9 | omega)
    | exact he (by omega)
    | ((with_reducible congr 1) <;> omega)
    | (rw [if_pos (by omega)] at he; exact he)
    | exact hD1 (by omega)
    | exact hD2 (by omega)
    | skip

theorem met_X8_init (l : Launch) : sm_Met l yX8_init cX8_init 2 none 1 21 1333 p_X8_init f_X8_init := sm_met 0 (Or.inl ⟨rfl, rfl⟩) (by decide +kernel) (sn_X8_init l) ok_X8_init