/-! THE WORLD BEHIND BOTH CONSTRUCTORS: what each object is, and where the references go (but those in the history's row, 87) -/
def sm_shl : List (Nat × Nat) := [(7, 12), (0, 11), (2, 9), (9, 8), (9, 7), (9, 8), (9, 8), (9, 8), (9, 8), (9, 8), (13, 8), (9, 8), (9, 8), (9, 8), (9, 8), (9, 8), (9, 8), (9, 8), (9, 8), (13, 8), (9, 8), (9, 8), (9, 8), (9, 8), (9, 8), (9, 8), (9, 8), (9, 8), (9, 8), (10, 8), (9, 8), (9, 8), (10, 7), (9, 8), (0, 11), (2, 9), (9, 8), (9, 7), (9, 8), (9, 8), (9, 8), (9, 8), (9, 8), (13, 8), (9, 8), (9, 8), (9, 8), (9, 8), (9, 8), (9, 8), (9, 8), (9, 8), (13, 8), (9, 8), (9, 8), (9, 8), (9, 8), (9, 8), (9, 8), (9, 8), (9, 8), (9, 8), (10, 8), (9, 8), (9, 8), (10, 7), (9, 8), (2, 9), (9, 8), (9, 7), (9, 8), (9, 8), (9, 8), (9, 8), (9, 8), (6, 2), (9, 4), (9, 8), (3, 2), (9, 64), (4, 3), (9, 5), (9, 5), (5, 5), (11, 80), (9, 5), (1, 2), (12, 6), (2, 9), (9, 8), (9, 7), (9, 8), (9, 8), (9, 8), (9, 8), (9, 8), (2, 9), (9, 8), (9, 7), (9, 8), (9, 8), (9, 8), (9, 8), (9, 8), (2, 9), (9, 8), (9, 7), (9, 8), (9, 8), (9, 8), (9, 8), (9, 8), (2, 9), (9, 8), (9, 7), (9, 8), (9, 8), (9, 8), (9, 8), (9, 8), (2, 9), (9, 8), (9, 7), (9, 8), (9, 8), (9, 8), (9, 8), (9, 8), (2, 9), (9, 8), (9, 7), (9, 8), (9, 8), (9, 8), (9, 8), (9, 8), (12, 2), (10, 2), (2, 9), (9, 8), (9, 7), (9, 8), (9, 8), (9, 8), (9, 8), (9, 8), (2, 9), (9, 8), (9, 7), (9, 8), (9, 8), (9, 8), (9, 8), (9, 8), (8, 30), (9, 57), (9, 342), (9, 114), (10, 2), (9, 57), (9, 8), (9, 8), (9, 8), (9, 64), (9, 64), (9, 64), (9, 64), (9, 64), (9, 64), (9, 32), (9, 57), (9, 5), (9, 5), (9, 80), (9, 29), (9, 145)]
def sm_rfl : List (Nat × Int × Nat) := [(0, 0, 1), (0, 1, 2), (0, 2, 34), (0, 3, 35), (0, 4, 67), (0, 5, 75), (0, 6, 78), (0, 7, 80), (0, 8, 83), (0, 9, 86), (0, 10, 136), (0, 11, 137), (1, 0, 2), (1, 1, 10), (1, 2, 19), (1, 5, 28), (1, 6, 29), (1, 7, 30), (1, 8, 31), (1, 9, 32), (1, 10, 33), (2, 0, 3), (2, 1, 4), (2, 2, 5), (2, 3, 6), (2, 4, 7), (2, 5, 8), (2, 6, 9), (10, 0, 11), (10, 1, 12), (10, 2, 13), (10, 3, 14), (10, 4, 15), (10, 5, 16), (10, 6, 17), (10, 7, 18), (19, 0, 20), (19, 1, 21), (19, 2, 22), (19, 3, 23), (19, 4, 24), (19, 5, 25), (19, 6, 26), (19, 7, 27), (34, 0, 35), (34, 1, 43), (34, 2, 52), (34, 5, 61), (34, 6, 62), (34, 7, 63), (34, 8, 64), (34, 9, 65), (34, 10, 66), (35, 0, 36), (35, 1, 37), (35, 2, 38), (35, 3, 39), (35, 4, 40), (35, 5, 41), (35, 6, 42), (43, 0, 44), (43, 1, 45), (43, 2, 46), (43, 3, 47), (43, 4, 48), (43, 5, 49), (43, 6, 50), (43, 7, 51), (52, 0, 53), (52, 1, 54), (52, 2, 55), (52, 3, 56), (52, 4, 57), (52, 5, 58), (52, 6, 59), (52, 7, 60), (67, 0, 68), (67, 1, 69), (67, 2, 70), (67, 3, 71), (67, 4, 72), (67, 5, 73), (67, 6, 74), (75, 0, 76), (75, 1, 77), (78, 0, 79), (80, 0, 81), (80, 2, 82), (83, 1, 84), (83, 4, 85), (86, 1, 87), (88, 0, 89), (88, 1, 90), (88, 2, 91), (88, 3, 92), (88, 4, 93), (88, 5, 94), (88, 6, 95), (96, 0, 97), (96, 1, 98), (96, 2, 99), (96, 3, 100), (96, 4, 101), (96, 5, 102), (96, 6, 103), (104, 0, 105), (104, 1, 106), (104, 2, 107), (104, 3, 108), (104, 4, 109), (104, 5, 110), (104, 6, 111), (112, 0, 113), (112, 1, 114), (112, 2, 115), (112, 3, 116), (112, 4, 117), (112, 5, 118), (112, 6, 119), (120, 0, 121), (120, 1, 122), (120, 2, 123), (120, 3, 124), (120, 4, 125), (120, 5, 126), (120, 6, 127), (128, 0, 129), (128, 1, 130), (128, 2, 131), (128, 3, 132), (128, 4, 133), (128, 5, 134), (128, 6, 135), (136, 0, 138), (136, 1, 146), (138, 0, 139), (138, 1, 140), (138, 2, 141), (138, 3, 142), (138, 4, 143), (138, 5, 144), (138, 6, 145), (146, 0, 147), (146, 1, 148), (146, 2, 149), (146, 3, 150), (146, 4, 151), (146, 5, 152), (146, 6, 153), (154, 0, 155), (154, 1, 156), (154, 4, 157), (154, 5, 158), (154, 6, 159), (154, 7, 160), (154, 8, 161), (154, 9, 162), (154, 10, 163), (154, 11, 164), (154, 12, 165), (154, 13, 166), (154, 14, 167), (154, 15, 168), (154, 16, 169), (154, 19, 170), (154, 21, 171), (154, 22, 172), (154, 23, 173), (154, 28, 174), (154, 29, 175)]
def sm_isL (x : Nat) : Prop := x ∈ [2, 35, 67, 88, 96, 104, 112, 120, 128, 138, 146]
def sm_isD (x : Nat) : Prop := x = 1 ∨ x = 34
/-- the shapes, and the references that never change; the history's row holds lines -/
def sT (w : sm_W) : Prop := (∀ a p, sm_shl[a]? = some p → wS w a = p) ∧ (∀ q ∈ sm_rfl, wR w q.1 q.2.1 = some q.2.2) ∧ ∀ i : Int, 0 ≤ i → i < 6 → ∃ x, wR w 87 i = some x ∧ x ∈ [88, 96, 104, 112, 120, 128]
theorem sT_wsI {w : sm_W} {a : Nat} {i v : Int} (h : sT w) : sT (wsI w a i v) := h
theorem sT_wCp {w : sm_W} {a b : Nat} {n : Int} (h : sT w) : sT (wCp w a b n) := h
theorem sS_0 {w : sm_W} (h : sT w) : wS w 0 = (7, 12) := h.1 0 _ rfl
theorem sS_75 {w : sm_W} (h : sT w) : wS w 75 = (6, 2) := h.1 75 _ rfl
theorem sS_76 {w : sm_W} (h : sT w) : wS w 76 = (9, 4) := h.1 76 _ rfl
theorem sS_77 {w : sm_W} (h : sT w) : wS w 77 = (9, 8) := h.1 77 _ rfl
theorem sS_78 {w : sm_W} (h : sT w) : wS w 78 = (3, 2) := h.1 78 _ rfl
theorem sS_79 {w : sm_W} (h : sT w) : wS w 79 = (9, 64) := h.1 79 _ rfl
theorem sS_80 {w : sm_W} (h : sT w) : wS w 80 = (4, 3) := h.1 80 _ rfl
theorem sS_81 {w : sm_W} (h : sT w) : wS w 81 = (9, 5) := h.1 81 _ rfl
theorem sS_82 {w : sm_W} (h : sT w) : wS w 82 = (9, 5) := h.1 82 _ rfl
theorem sS_83 {w : sm_W} (h : sT w) : wS w 83 = (5, 5) := h.1 83 _ rfl
theorem sS_84 {w : sm_W} (h : sT w) : wS w 84 = (11, 80) := h.1 84 _ rfl
theorem sS_85 {w : sm_W} (h : sT w) : wS w 85 = (9, 5) := h.1 85 _ rfl
theorem sS_86 {w : sm_W} (h : sT w) : wS w 86 = (1, 2) := h.1 86 _ rfl
theorem sS_87 {w : sm_W} (h : sT w) : wS w 87 = (12, 6) := h.1 87 _ rfl
theorem sS_136 {w : sm_W} (h : sT w) : wS w 136 = (12, 2) := h.1 136 _ rfl
theorem sS_137 {w : sm_W} (h : sT w) : wS w 137 = (10, 2) := h.1 137 _ rfl
theorem sS_154 {w : sm_W} (h : sT w) : wS w 154 = (8, 30) := h.1 154 _ rfl
theorem sS_155 {w : sm_W} (h : sT w) : wS w 155 = (9, 57) := h.1 155 _ rfl
theorem sS_156 {w : sm_W} (h : sT w) : wS w 156 = (9, 342) := h.1 156 _ rfl
theorem sS_157 {w : sm_W} (h : sT w) : wS w 157 = (9, 114) := h.1 157 _ rfl
theorem sS_158 {w : sm_W} (h : sT w) : wS w 158 = (10, 2) := h.1 158 _ rfl
theorem sS_159 {w : sm_W} (h : sT w) : wS w 159 = (9, 57) := h.1 159 _ rfl
theorem sS_160 {w : sm_W} (h : sT w) : wS w 160 = (9, 8) := h.1 160 _ rfl
theorem sS_161 {w : sm_W} (h : sT w) : wS w 161 = (9, 8) := h.1 161 _ rfl
theorem sS_162 {w : sm_W} (h : sT w) : wS w 162 = (9, 8) := h.1 162 _ rfl
theorem sS_163 {w : sm_W} (h : sT w) : wS w 163 = (9, 64) := h.1 163 _ rfl
theorem sS_164 {w : sm_W} (h : sT w) : wS w 164 = (9, 64) := h.1 164 _ rfl
theorem sS_165 {w : sm_W} (h : sT w) : wS w 165 = (9, 64) := h.1 165 _ rfl
theorem sS_166 {w : sm_W} (h : sT w) : wS w 166 = (9, 64) := h.1 166 _ rfl
theorem sS_167 {w : sm_W} (h : sT w) : wS w 167 = (9, 64) := h.1 167 _ rfl
theorem sS_168 {w : sm_W} (h : sT w) : wS w 168 = (9, 64) := h.1 168 _ rfl
theorem sS_169 {w : sm_W} (h : sT w) : wS w 169 = (9, 32) := h.1 169 _ rfl
theorem sS_170 {w : sm_W} (h : sT w) : wS w 170 = (9, 57) := h.1 170 _ rfl
theorem sS_171 {w : sm_W} (h : sT w) : wS w 171 = (9, 5) := h.1 171 _ rfl
theorem sS_172 {w : sm_W} (h : sT w) : wS w 172 = (9, 5) := h.1 172 _ rfl
theorem sS_173 {w : sm_W} (h : sT w) : wS w 173 = (9, 80) := h.1 173 _ rfl
theorem sS_174 {w : sm_W} (h : sT w) : wS w 174 = (9, 29) := h.1 174 _ rfl
theorem sS_175 {w : sm_W} (h : sT w) : wS w 175 = (9, 145) := h.1 175 _ rfl
theorem sR_0_0 {w : sm_W} (h : sT w) : wR w 0 0 = some 1 := h.2.1 (0, 0, 1) (List.mem_of_getElem? (i := 0) rfl)
theorem sR_0_1 {w : sm_W} (h : sT w) : wR w 0 1 = some 2 := h.2.1 (0, 1, 2) (List.mem_of_getElem? (i := 1) rfl)
theorem sR_0_2 {w : sm_W} (h : sT w) : wR w 0 2 = some 34 := h.2.1 (0, 2, 34) (List.mem_of_getElem? (i := 2) rfl)
theorem sR_0_3 {w : sm_W} (h : sT w) : wR w 0 3 = some 35 := h.2.1 (0, 3, 35) (List.mem_of_getElem? (i := 3) rfl)
theorem sR_0_4 {w : sm_W} (h : sT w) : wR w 0 4 = some 67 := h.2.1 (0, 4, 67) (List.mem_of_getElem? (i := 4) rfl)
theorem sR_0_5 {w : sm_W} (h : sT w) : wR w 0 5 = some 75 := h.2.1 (0, 5, 75) (List.mem_of_getElem? (i := 5) rfl)
theorem sR_0_6 {w : sm_W} (h : sT w) : wR w 0 6 = some 78 := h.2.1 (0, 6, 78) (List.mem_of_getElem? (i := 6) rfl)
theorem sR_0_7 {w : sm_W} (h : sT w) : wR w 0 7 = some 80 := h.2.1 (0, 7, 80) (List.mem_of_getElem? (i := 7) rfl)
theorem sR_0_8 {w : sm_W} (h : sT w) : wR w 0 8 = some 83 := h.2.1 (0, 8, 83) (List.mem_of_getElem? (i := 8) rfl)
theorem sR_0_9 {w : sm_W} (h : sT w) : wR w 0 9 = some 86 := h.2.1 (0, 9, 86) (List.mem_of_getElem? (i := 9) rfl)
theorem sR_0_10 {w : sm_W} (h : sT w) : wR w 0 10 = some 136 := h.2.1 (0, 10, 136) (List.mem_of_getElem? (i := 10) rfl)
theorem sR_0_11 {w : sm_W} (h : sT w) : wR w 0 11 = some 137 := h.2.1 (0, 11, 137) (List.mem_of_getElem? (i := 11) rfl)
theorem sR_75_0 {w : sm_W} (h : sT w) : wR w 75 0 = some 76 := h.2.1 (75, 0, 76) (List.mem_of_getElem? (i := 83) rfl)
theorem sR_75_1 {w : sm_W} (h : sT w) : wR w 75 1 = some 77 := h.2.1 (75, 1, 77) (List.mem_of_getElem? (i := 84) rfl)
theorem sR_78_0 {w : sm_W} (h : sT w) : wR w 78 0 = some 79 := h.2.1 (78, 0, 79) (List.mem_of_getElem? (i := 85) rfl)
theorem sR_80_0 {w : sm_W} (h : sT w) : wR w 80 0 = some 81 := h.2.1 (80, 0, 81) (List.mem_of_getElem? (i := 86) rfl)
theorem sR_80_2 {w : sm_W} (h : sT w) : wR w 80 2 = some 82 := h.2.1 (80, 2, 82) (List.mem_of_getElem? (i := 87) rfl)
theorem sR_83_1 {w : sm_W} (h : sT w) : wR w 83 1 = some 84 := h.2.1 (83, 1, 84) (List.mem_of_getElem? (i := 88) rfl)
theorem sR_83_4 {w : sm_W} (h : sT w) : wR w 83 4 = some 85 := h.2.1 (83, 4, 85) (List.mem_of_getElem? (i := 89) rfl)
theorem sR_86_1 {w : sm_W} (h : sT w) : wR w 86 1 = some 87 := h.2.1 (86, 1, 87) (List.mem_of_getElem? (i := 90) rfl)
theorem sR_136_0 {w : sm_W} (h : sT w) : wR w 136 0 = some 138 := h.2.1 (136, 0, 138) (List.mem_of_getElem? (i := 133) rfl)
theorem sR_136_1 {w : sm_W} (h : sT w) : wR w 136 1 = some 146 := h.2.1 (136, 1, 146) (List.mem_of_getElem? (i := 134) rfl)
theorem sR_154_0 {w : sm_W} (h : sT w) : wR w 154 0 = some 155 := h.2.1 (154, 0, 155) (List.mem_of_getElem? (i := 149) rfl)
theorem sR_154_1 {w : sm_W} (h : sT w) : wR w 154 1 = some 156 := h.2.1 (154, 1, 156) (List.mem_of_getElem? (i := 150) rfl)
theorem sR_154_4 {w : sm_W} (h : sT w) : wR w 154 4 = some 157 := h.2.1 (154, 4, 157) (List.mem_of_getElem? (i := 151) rfl)
theorem sR_154_5 {w : sm_W} (h : sT w) : wR w 154 5 = some 158 := h.2.1 (154, 5, 158) (List.mem_of_getElem? (i := 152) rfl)
theorem sR_154_6 {w : sm_W} (h : sT w) : wR w 154 6 = some 159 := h.2.1 (154, 6, 159) (List.mem_of_getElem? (i := 153) rfl)
theorem sR_154_7 {w : sm_W} (h : sT w) : wR w 154 7 = some 160 := h.2.1 (154, 7, 160) (List.mem_of_getElem? (i := 154) rfl)
theorem sR_154_8 {w : sm_W} (h : sT w) : wR w 154 8 = some 161 := h.2.1 (154, 8, 161) (List.mem_of_getElem? (i := 155) rfl)
theorem sR_154_9 {w : sm_W} (h : sT w) : wR w 154 9 = some 162 := h.2.1 (154, 9, 162) (List.mem_of_getElem? (i := 156) rfl)
theorem sR_154_10 {w : sm_W} (h : sT w) : wR w 154 10 = some 163 := h.2.1 (154, 10, 163) (List.mem_of_getElem? (i := 157) rfl)
theorem sR_154_11 {w : sm_W} (h : sT w) : wR w 154 11 = some 164 := h.2.1 (154, 11, 164) (List.mem_of_getElem? (i := 158) rfl)
theorem sR_154_12 {w : sm_W} (h : sT w) : wR w 154 12 = some 165 := h.2.1 (154, 12, 165) (List.mem_of_getElem? (i := 159) rfl)
theorem sR_154_13 {w : sm_W} (h : sT w) : wR w 154 13 = some 166 := h.2.1 (154, 13, 166) (List.mem_of_getElem? (i := 160) rfl)
theorem sR_154_14 {w : sm_W} (h : sT w) : wR w 154 14 = some 167 := h.2.1 (154, 14, 167) (List.mem_of_getElem? (i := 161) rfl)
theorem sR_154_15 {w : sm_W} (h : sT w) : wR w 154 15 = some 168 := h.2.1 (154, 15, 168) (List.mem_of_getElem? (i := 162) rfl)
theorem sR_154_16 {w : sm_W} (h : sT w) : wR w 154 16 = some 169 := h.2.1 (154, 16, 169) (List.mem_of_getElem? (i := 163) rfl)
theorem sR_154_19 {w : sm_W} (h : sT w) : wR w 154 19 = some 170 := h.2.1 (154, 19, 170) (List.mem_of_getElem? (i := 164) rfl)
theorem sR_154_21 {w : sm_W} (h : sT w) : wR w 154 21 = some 171 := h.2.1 (154, 21, 171) (List.mem_of_getElem? (i := 165) rfl)
theorem sR_154_22 {w : sm_W} (h : sT w) : wR w 154 22 = some 172 := h.2.1 (154, 22, 172) (List.mem_of_getElem? (i := 166) rfl)
theorem sR_154_23 {w : sm_W} (h : sT w) : wR w 154 23 = some 173 := h.2.1 (154, 23, 173) (List.mem_of_getElem? (i := 167) rfl)
theorem sR_154_28 {w : sm_W} (h : sT w) : wR w 154 28 = some 174 := h.2.1 (154, 28, 174) (List.mem_of_getElem? (i := 168) rfl)
theorem sR_154_29 {w : sm_W} (h : sT w) : wR w 154 29 = some 175 := h.2.1 (154, 29, 175) (List.mem_of_getElem? (i := 169) rfl)
theorem lS {w : sm_W} (h : sT w) {x : Nat} (hx : sm_isL x) : wS w x = (2, 9) ∧ wS w (x + 1) = (9, 8) ∧ wS w (x + 2) = (9, 7) ∧ wS w (x + 3) = (9, 8) ∧ wS w (x + 4) = (9, 8) ∧ wS w (x + 5) = (9, 8) ∧ wS w (x + 6) = (9, 8) ∧ wS w (x + 7) = (9, 8) ∧ wR w x 0 = some (x + 1) ∧ wR w x 1 = some (x + 2) ∧ wR w x 2 = some (x + 3) ∧ wR w x 3 = some (x + 4) ∧ wR w x 4 = some (x + 5) ∧ wR w x 5 = some (x + 6) ∧ wR w x 6 = some (x + 7) := by
  unfold sm_isL at hx
  simp only [List.mem_cons, List.not_mem_nil, or_false] at hx
  rcases hx with rfl | rfl | rfl | rfl | rfl | rfl | rfl | rfl | rfl | rfl | rfl
  · exact ⟨h.1 2 _ rfl, h.1 3 _ rfl, h.1 4 _ rfl, h.1 5 _ rfl, h.1 6 _ rfl, h.1 7 _ rfl, h.1 8 _ rfl, h.1 9 _ rfl, h.2.1 (2, 0, 3) (List.mem_of_getElem? (i := 21) rfl), h.2.1 (2, 1, 4) (List.mem_of_getElem? (i := 22) rfl), h.2.1 (2, 2, 5) (List.mem_of_getElem? (i := 23) rfl), h.2.1 (2, 3, 6) (List.mem_of_getElem? (i := 24) rfl), h.2.1 (2, 4, 7) (List.mem_of_getElem? (i := 25) rfl), h.2.1 (2, 5, 8) (List.mem_of_getElem? (i := 26) rfl), h.2.1 (2, 6, 9) (List.mem_of_getElem? (i := 27) rfl)⟩
  · exact ⟨h.1 35 _ rfl, h.1 36 _ rfl, h.1 37 _ rfl, h.1 38 _ rfl, h.1 39 _ rfl, h.1 40 _ rfl, h.1 41 _ rfl, h.1 42 _ rfl, h.2.1 (35, 0, 36) (List.mem_of_getElem? (i := 53) rfl), h.2.1 (35, 1, 37) (List.mem_of_getElem? (i := 54) rfl), h.2.1 (35, 2, 38) (List.mem_of_getElem? (i := 55) rfl), h.2.1 (35, 3, 39) (List.mem_of_getElem? (i := 56) rfl), h.2.1 (35, 4, 40) (List.mem_of_getElem? (i := 57) rfl), h.2.1 (35, 5, 41) (List.mem_of_getElem? (i := 58) rfl), h.2.1 (35, 6, 42) (List.mem_of_getElem? (i := 59) rfl)⟩
  · exact ⟨h.1 67 _ rfl, h.1 68 _ rfl, h.1 69 _ rfl, h.1 70 _ rfl, h.1 71 _ rfl, h.1 72 _ rfl, h.1 73 _ rfl, h.1 74 _ rfl, h.2.1 (67, 0, 68) (List.mem_of_getElem? (i := 76) rfl), h.2.1 (67, 1, 69) (List.mem_of_getElem? (i := 77) rfl), h.2.1 (67, 2, 70) (List.mem_of_getElem? (i := 78) rfl), h.2.1 (67, 3, 71) (List.mem_of_getElem? (i := 79) rfl), h.2.1 (67, 4, 72) (List.mem_of_getElem? (i := 80) rfl), h.2.1 (67, 5, 73) (List.mem_of_getElem? (i := 81) rfl), h.2.1 (67, 6, 74) (List.mem_of_getElem? (i := 82) rfl)⟩
  · exact ⟨h.1 88 _ rfl, h.1 89 _ rfl, h.1 90 _ rfl, h.1 91 _ rfl, h.1 92 _ rfl, h.1 93 _ rfl, h.1 94 _ rfl, h.1 95 _ rfl, h.2.1 (88, 0, 89) (List.mem_of_getElem? (i := 91) rfl), h.2.1 (88, 1, 90) (List.mem_of_getElem? (i := 92) rfl), h.2.1 (88, 2, 91) (List.mem_of_getElem? (i := 93) rfl), h.2.1 (88, 3, 92) (List.mem_of_getElem? (i := 94) rfl), h.2.1 (88, 4, 93) (List.mem_of_getElem? (i := 95) rfl), h.2.1 (88, 5, 94) (List.mem_of_getElem? (i := 96) rfl), h.2.1 (88, 6, 95) (List.mem_of_getElem? (i := 97) rfl)⟩
  · exact ⟨h.1 96 _ rfl, h.1 97 _ rfl, h.1 98 _ rfl, h.1 99 _ rfl, h.1 100 _ rfl, h.1 101 _ rfl, h.1 102 _ rfl, h.1 103 _ rfl, h.2.1 (96, 0, 97) (List.mem_of_getElem? (i := 98) rfl), h.2.1 (96, 1, 98) (List.mem_of_getElem? (i := 99) rfl), h.2.1 (96, 2, 99) (List.mem_of_getElem? (i := 100) rfl), h.2.1 (96, 3, 100) (List.mem_of_getElem? (i := 101) rfl), h.2.1 (96, 4, 101) (List.mem_of_getElem? (i := 102) rfl), h.2.1 (96, 5, 102) (List.mem_of_getElem? (i := 103) rfl), h.2.1 (96, 6, 103) (List.mem_of_getElem? (i := 104) rfl)⟩
  · exact ⟨h.1 104 _ rfl, h.1 105 _ rfl, h.1 106 _ rfl, h.1 107 _ rfl, h.1 108 _ rfl, h.1 109 _ rfl, h.1 110 _ rfl, h.1 111 _ rfl, h.2.1 (104, 0, 105) (List.mem_of_getElem? (i := 105) rfl), h.2.1 (104, 1, 106) (List.mem_of_getElem? (i := 106) rfl), h.2.1 (104, 2, 107) (List.mem_of_getElem? (i := 107) rfl), h.2.1 (104, 3, 108) (List.mem_of_getElem? (i := 108) rfl), h.2.1 (104, 4, 109) (List.mem_of_getElem? (i := 109) rfl), h.2.1 (104, 5, 110) (List.mem_of_getElem? (i := 110) rfl), h.2.1 (104, 6, 111) (List.mem_of_getElem? (i := 111) rfl)⟩
  · exact ⟨h.1 112 _ rfl, h.1 113 _ rfl, h.1 114 _ rfl, h.1 115 _ rfl, h.1 116 _ rfl, h.1 117 _ rfl, h.1 118 _ rfl, h.1 119 _ rfl, h.2.1 (112, 0, 113) (List.mem_of_getElem? (i := 112) rfl), h.2.1 (112, 1, 114) (List.mem_of_getElem? (i := 113) rfl), h.2.1 (112, 2, 115) (List.mem_of_getElem? (i := 114) rfl), h.2.1 (112, 3, 116) (List.mem_of_getElem? (i := 115) rfl), h.2.1 (112, 4, 117) (List.mem_of_getElem? (i := 116) rfl), h.2.1 (112, 5, 118) (List.mem_of_getElem? (i := 117) rfl), h.2.1 (112, 6, 119) (List.mem_of_getElem? (i := 118) rfl)⟩
  · exact ⟨h.1 120 _ rfl, h.1 121 _ rfl, h.1 122 _ rfl, h.1 123 _ rfl, h.1 124 _ rfl, h.1 125 _ rfl, h.1 126 _ rfl, h.1 127 _ rfl, h.2.1 (120, 0, 121) (List.mem_of_getElem? (i := 119) rfl), h.2.1 (120, 1, 122) (List.mem_of_getElem? (i := 120) rfl), h.2.1 (120, 2, 123) (List.mem_of_getElem? (i := 121) rfl), h.2.1 (120, 3, 124) (List.mem_of_getElem? (i := 122) rfl), h.2.1 (120, 4, 125) (List.mem_of_getElem? (i := 123) rfl), h.2.1 (120, 5, 126) (List.mem_of_getElem? (i := 124) rfl), h.2.1 (120, 6, 127) (List.mem_of_getElem? (i := 125) rfl)⟩
  · exact ⟨h.1 128 _ rfl, h.1 129 _ rfl, h.1 130 _ rfl, h.1 131 _ rfl, h.1 132 _ rfl, h.1 133 _ rfl, h.1 134 _ rfl, h.1 135 _ rfl, h.2.1 (128, 0, 129) (List.mem_of_getElem? (i := 126) rfl), h.2.1 (128, 1, 130) (List.mem_of_getElem? (i := 127) rfl), h.2.1 (128, 2, 131) (List.mem_of_getElem? (i := 128) rfl), h.2.1 (128, 3, 132) (List.mem_of_getElem? (i := 129) rfl), h.2.1 (128, 4, 133) (List.mem_of_getElem? (i := 130) rfl), h.2.1 (128, 5, 134) (List.mem_of_getElem? (i := 131) rfl), h.2.1 (128, 6, 135) (List.mem_of_getElem? (i := 132) rfl)⟩
  · exact ⟨h.1 138 _ rfl, h.1 139 _ rfl, h.1 140 _ rfl, h.1 141 _ rfl, h.1 142 _ rfl, h.1 143 _ rfl, h.1 144 _ rfl, h.1 145 _ rfl, h.2.1 (138, 0, 139) (List.mem_of_getElem? (i := 135) rfl), h.2.1 (138, 1, 140) (List.mem_of_getElem? (i := 136) rfl), h.2.1 (138, 2, 141) (List.mem_of_getElem? (i := 137) rfl), h.2.1 (138, 3, 142) (List.mem_of_getElem? (i := 138) rfl), h.2.1 (138, 4, 143) (List.mem_of_getElem? (i := 139) rfl), h.2.1 (138, 5, 144) (List.mem_of_getElem? (i := 140) rfl), h.2.1 (138, 6, 145) (List.mem_of_getElem? (i := 141) rfl)⟩
  · exact ⟨h.1 146 _ rfl, h.1 147 _ rfl, h.1 148 _ rfl, h.1 149 _ rfl, h.1 150 _ rfl, h.1 151 _ rfl, h.1 152 _ rfl, h.1 153 _ rfl, h.2.1 (146, 0, 147) (List.mem_of_getElem? (i := 142) rfl), h.2.1 (146, 1, 148) (List.mem_of_getElem? (i := 143) rfl), h.2.1 (146, 2, 149) (List.mem_of_getElem? (i := 144) rfl), h.2.1 (146, 3, 150) (List.mem_of_getElem? (i := 145) rfl), h.2.1 (146, 4, 151) (List.mem_of_getElem? (i := 146) rfl), h.2.1 (146, 5, 152) (List.mem_of_getElem? (i := 147) rfl), h.2.1 (146, 6, 153) (List.mem_of_getElem? (i := 148) rfl)⟩
theorem dS {w : sm_W} (h : sT w) {x : Nat} (hx : sm_isD x) : wS w x = (0, 11) ∧ wS w (x + 9) = (13, 8) ∧ wS w (x + 18) = (13, 8) ∧ wS w (x + 27) = (9, 8) ∧ wS w (x + 28) = (10, 8) ∧ wS w (x + 29) = (9, 8) ∧ wS w (x + 30) = (9, 8) ∧ wS w (x + 31) = (10, 7) ∧ wS w (x + 32) = (9, 8) ∧ wR w x 0 = some (x + 1) ∧ wR w x 1 = some (x + 9) ∧ wR w x 2 = some (x + 18) ∧ wR w x 5 = some (x + 27) ∧ wR w x 6 = some (x + 28) ∧ wR w x 7 = some (x + 29) ∧ wR w x 8 = some (x + 30) ∧ wR w x 9 = some (x + 31) ∧ wR w x 10 = some (x + 32) := by
  rcases hx with rfl | rfl
  · exact ⟨h.1 1 _ rfl, h.1 10 _ rfl, h.1 19 _ rfl, h.1 28 _ rfl, h.1 29 _ rfl, h.1 30 _ rfl, h.1 31 _ rfl, h.1 32 _ rfl, h.1 33 _ rfl, h.2.1 (1, 0, 2) (List.mem_of_getElem? (i := 12) rfl), h.2.1 (1, 1, 10) (List.mem_of_getElem? (i := 13) rfl), h.2.1 (1, 2, 19) (List.mem_of_getElem? (i := 14) rfl), h.2.1 (1, 5, 28) (List.mem_of_getElem? (i := 15) rfl), h.2.1 (1, 6, 29) (List.mem_of_getElem? (i := 16) rfl), h.2.1 (1, 7, 30) (List.mem_of_getElem? (i := 17) rfl), h.2.1 (1, 8, 31) (List.mem_of_getElem? (i := 18) rfl), h.2.1 (1, 9, 32) (List.mem_of_getElem? (i := 19) rfl), h.2.1 (1, 10, 33) (List.mem_of_getElem? (i := 20) rfl)⟩
  · exact ⟨h.1 34 _ rfl, h.1 43 _ rfl, h.1 52 _ rfl, h.1 61 _ rfl, h.1 62 _ rfl, h.1 63 _ rfl, h.1 64 _ rfl, h.1 65 _ rfl, h.1 66 _ rfl, h.2.1 (34, 0, 35) (List.mem_of_getElem? (i := 44) rfl), h.2.1 (34, 1, 43) (List.mem_of_getElem? (i := 45) rfl), h.2.1 (34, 2, 52) (List.mem_of_getElem? (i := 46) rfl), h.2.1 (34, 5, 61) (List.mem_of_getElem? (i := 47) rfl), h.2.1 (34, 6, 62) (List.mem_of_getElem? (i := 48) rfl), h.2.1 (34, 7, 63) (List.mem_of_getElem? (i := 49) rfl), h.2.1 (34, 8, 64) (List.mem_of_getElem? (i := 50) rfl), h.2.1 (34, 9, 65) (List.mem_of_getElem? (i := 51) rfl), h.2.1 (34, 10, 66) (List.mem_of_getElem? (i := 52) rfl)⟩
theorem dL {x : Nat} (hx : sm_isD x) : sm_isL (x + 1) := by
  rcases hx with rfl | rfl <;> simp [sm_isL]
theorem dRows {w : sm_W} (h : sT w) {x : Nat} (hx : sm_isD x) (i : Int) (h0 : 0 ≤ i) (h1 : i < 8) : wR w (x + 9) i = some (x + 10 + i.toNat) ∧ wR w (x + 18) i = some (x + 19 + i.toNat) ∧ wS w (x + 10 + i.toNat) = (9, 8) ∧ wS w (x + 19 + i.toNat) = (9, 8) := by
  have hi : i = 0 ∨ i = 1 ∨ i = 2 ∨ i = 3 ∨ i = 4 ∨ i = 5 ∨ i = 6 ∨ i = 7 := by omega
  rcases hx with rfl | rfl <;> rcases hi with rfl | rfl | rfl | rfl | rfl | rfl | rfl | rfl
  · exact ⟨h.2.1 (10, 0, 11) (List.mem_of_getElem? (i := 28) rfl), h.2.1 (19, 0, 20) (List.mem_of_getElem? (i := 36) rfl), h.1 11 _ rfl, h.1 20 _ rfl⟩
  · exact ⟨h.2.1 (10, 1, 12) (List.mem_of_getElem? (i := 29) rfl), h.2.1 (19, 1, 21) (List.mem_of_getElem? (i := 37) rfl), h.1 12 _ rfl, h.1 21 _ rfl⟩
  · exact ⟨h.2.1 (10, 2, 13) (List.mem_of_getElem? (i := 30) rfl), h.2.1 (19, 2, 22) (List.mem_of_getElem? (i := 38) rfl), h.1 13 _ rfl, h.1 22 _ rfl⟩
  · exact ⟨h.2.1 (10, 3, 14) (List.mem_of_getElem? (i := 31) rfl), h.2.1 (19, 3, 23) (List.mem_of_getElem? (i := 39) rfl), h.1 14 _ rfl, h.1 23 _ rfl⟩
  · exact ⟨h.2.1 (10, 4, 15) (List.mem_of_getElem? (i := 32) rfl), h.2.1 (19, 4, 24) (List.mem_of_getElem? (i := 40) rfl), h.1 15 _ rfl, h.1 24 _ rfl⟩
  · exact ⟨h.2.1 (10, 5, 16) (List.mem_of_getElem? (i := 33) rfl), h.2.1 (19, 5, 25) (List.mem_of_getElem? (i := 41) rfl), h.1 16 _ rfl, h.1 25 _ rfl⟩
  · exact ⟨h.2.1 (10, 6, 17) (List.mem_of_getElem? (i := 34) rfl), h.2.1 (19, 6, 26) (List.mem_of_getElem? (i := 42) rfl), h.1 17 _ rfl, h.1 26 _ rfl⟩
  · exact ⟨h.2.1 (10, 7, 18) (List.mem_of_getElem? (i := 35) rfl), h.2.1 (19, 7, 27) (List.mem_of_getElem? (i := 43) rfl), h.1 18 _ rfl, h.1 27 _ rfl⟩
  · exact ⟨h.2.1 (43, 0, 44) (List.mem_of_getElem? (i := 60) rfl), h.2.1 (52, 0, 53) (List.mem_of_getElem? (i := 68) rfl), h.1 44 _ rfl, h.1 53 _ rfl⟩
  · exact ⟨h.2.1 (43, 1, 45) (List.mem_of_getElem? (i := 61) rfl), h.2.1 (52, 1, 54) (List.mem_of_getElem? (i := 69) rfl), h.1 45 _ rfl, h.1 54 _ rfl⟩
  · exact ⟨h.2.1 (43, 2, 46) (List.mem_of_getElem? (i := 62) rfl), h.2.1 (52, 2, 55) (List.mem_of_getElem? (i := 70) rfl), h.1 46 _ rfl, h.1 55 _ rfl⟩
  · exact ⟨h.2.1 (43, 3, 47) (List.mem_of_getElem? (i := 63) rfl), h.2.1 (52, 3, 56) (List.mem_of_getElem? (i := 71) rfl), h.1 47 _ rfl, h.1 56 _ rfl⟩
  · exact ⟨h.2.1 (43, 4, 48) (List.mem_of_getElem? (i := 64) rfl), h.2.1 (52, 4, 57) (List.mem_of_getElem? (i := 72) rfl), h.1 48 _ rfl, h.1 57 _ rfl⟩
  · exact ⟨h.2.1 (43, 5, 49) (List.mem_of_getElem? (i := 65) rfl), h.2.1 (52, 5, 58) (List.mem_of_getElem? (i := 73) rfl), h.1 49 _ rfl, h.1 58 _ rfl⟩
  · exact ⟨h.2.1 (43, 6, 50) (List.mem_of_getElem? (i := 66) rfl), h.2.1 (52, 6, 59) (List.mem_of_getElem? (i := 74) rfl), h.1 50 _ rfl, h.1 59 _ rfl⟩
  · exact ⟨h.2.1 (43, 7, 51) (List.mem_of_getElem? (i := 67) rfl), h.2.1 (52, 7, 60) (List.mem_of_getElem? (i := 75) rfl), h.1 51 _ rfl, h.1 60 _ rfl⟩
