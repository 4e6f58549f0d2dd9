/-! the classes, by the tables -/
theorem kl_in_0 : ∀ w ∈ u_ws RX0 TX0 11, w ∈ lw_tbl := by
  have h : u_ws RX0 TX0 11 = ([106, 108, 110, 112, 114, 116, 118, 120, 122, 124, 126] : List Nat).filterMap (fun i => tables_1[i]?) := by decide +kernel
  intro w hw
  rw [h] at hw
  obtain ⟨i, -, hi⟩ := List.mem_filterMap.mp hw
  exact List.mem_append_right _ (List.mem_of_getElem? hi)
theorem kl_gd_0 : ∀ w ∈ u_ws RX0 TX0 11, goodWord w = true := by
  have h : (u_ws RX0 TX0 11).all goodWord = true := by decide +kernel
  exact List.all_eq_true.mp h
theorem kl_0 : sm_Cl 0 RX0 TX0 11 := ⟨rfl, by decide, fun w h => sm_in (kl_in_0 w h) (kl_gd_0 w h), fun k hk => tyX0_ok k hk, nmX0, by decide +kernel, by decide +kernel⟩
theorem kl_in_1 : ∀ w ∈ u_ws RX1 TX1 2, w ∈ lw_tbl := by
  have h : u_ws RX1 TX1 2 = ([213, 215] : List Nat).filterMap (fun i => tables_1[i]?) := by decide +kernel
  intro w hw
  rw [h] at hw
  obtain ⟨i, -, hi⟩ := List.mem_filterMap.mp hw
  exact List.mem_append_right _ (List.mem_of_getElem? hi)
theorem kl_gd_1 : ∀ w ∈ u_ws RX1 TX1 2, goodWord w = true := by
  have h : (u_ws RX1 TX1 2).all goodWord = true := by decide +kernel
  exact List.all_eq_true.mp h
theorem kl_1 : sm_Cl 1 RX1 TX1 2 := ⟨rfl, by decide, fun w h => sm_in (kl_in_1 w h) (kl_gd_1 w h), fun k hk => tyX1_ok k hk, nmX1, by decide +kernel, by decide +kernel⟩
theorem kl_in_2 : ∀ w ∈ u_ws RX2 TX2 9, w ∈ lw_tbl := by
  have h : u_ws RX2 TX2 9 = ([63, 65, 67, 69, 71, 73, 75, 77, 79] : List Nat).filterMap (fun i => tables_1[i]?) := by decide +kernel
  intro w hw
  rw [h] at hw
  obtain ⟨i, -, hi⟩ := List.mem_filterMap.mp hw
  exact List.mem_append_right _ (List.mem_of_getElem? hi)
theorem kl_gd_2 : ∀ w ∈ u_ws RX2 TX2 9, goodWord w = true := by
  have h : (u_ws RX2 TX2 9).all goodWord = true := by decide +kernel
  exact List.all_eq_true.mp h
theorem kl_2 : sm_Cl 2 RX2 TX2 9 := ⟨rfl, by decide, fun w h => sm_in (kl_in_2 w h) (kl_gd_2 w h), fun k hk => tyX2_ok k hk, nmX2, by decide +kernel, by decide +kernel⟩
theorem kl_in_3 : ∀ w ∈ u_ws RX3 TX3 2, w ∈ lw_tbl := by
  have h : u_ws RX3 TX3 2 = ([154, 156] : List Nat).filterMap (fun i => tables_1[i]?) := by decide +kernel
  intro w hw
  rw [h] at hw
  obtain ⟨i, -, hi⟩ := List.mem_filterMap.mp hw
  exact List.mem_append_right _ (List.mem_of_getElem? hi)
theorem kl_gd_3 : ∀ w ∈ u_ws RX3 TX3 2, goodWord w = true := by
  have h : (u_ws RX3 TX3 2).all goodWord = true := by decide +kernel
  exact List.all_eq_true.mp h
theorem kl_3 : sm_Cl 3 RX3 TX3 2 := ⟨rfl, by decide, fun w h => sm_in (kl_in_3 w h) (kl_gd_3 w h), fun k hk => tyX3_ok k hk, nmX3, by decide +kernel, by decide +kernel⟩
theorem kl_in_4 : ∀ w ∈ u_ws RX4 TX4 3, w ∈ lw_tbl := by
  have h : u_ws RX4 TX4 3 = ([170, 172, 174] : List Nat).filterMap (fun i => tables_1[i]?) := by decide +kernel
  intro w hw
  rw [h] at hw
  obtain ⟨i, -, hi⟩ := List.mem_filterMap.mp hw
  exact List.mem_append_right _ (List.mem_of_getElem? hi)
theorem kl_gd_4 : ∀ w ∈ u_ws RX4 TX4 3, goodWord w = true := by
  have h : (u_ws RX4 TX4 3).all goodWord = true := by decide +kernel
  exact List.all_eq_true.mp h
theorem kl_4 : sm_Cl 4 RX4 TX4 3 := ⟨rfl, by decide, fun w h => sm_in (kl_in_4 w h) (kl_gd_4 w h), fun k hk => tyX4_ok k hk, nmX4, by decide +kernel, by decide +kernel⟩
theorem kl_in_5 : ∀ w ∈ u_ws RX5 TX5 5, w ∈ lw_tbl := by
  have h : u_ws RX5 TX5 5 = ([189, 191, 193, 195, 197] : List Nat).filterMap (fun i => tables_1[i]?) := by decide +kernel
  intro w hw
  rw [h] at hw
  obtain ⟨i, -, hi⟩ := List.mem_filterMap.mp hw
  exact List.mem_append_right _ (List.mem_of_getElem? hi)
theorem kl_gd_5 : ∀ w ∈ u_ws RX5 TX5 5, goodWord w = true := by
  have h : (u_ws RX5 TX5 5).all goodWord = true := by decide +kernel
  exact List.all_eq_true.mp h
theorem kl_5 : sm_Cl 5 RX5 TX5 5 := ⟨rfl, by decide, fun w h => sm_in (kl_in_5 w h) (kl_gd_5 w h), fun k hk => tyX5_ok k hk, nmX5, by decide +kernel, by decide +kernel⟩
theorem kl_in_6 : ∀ w ∈ u_ws RX6 TX6 2, w ∈ lw_tbl := by
  have h : u_ws RX6 TX6 2 = ([140, 142] : List Nat).filterMap (fun i => tables_1[i]?) := by decide +kernel
  intro w hw
  rw [h] at hw
  obtain ⟨i, -, hi⟩ := List.mem_filterMap.mp hw
  exact List.mem_append_right _ (List.mem_of_getElem? hi)
theorem kl_gd_6 : ∀ w ∈ u_ws RX6 TX6 2, goodWord w = true := by
  have h : (u_ws RX6 TX6 2).all goodWord = true := by decide +kernel
  exact List.all_eq_true.mp h
theorem kl_6 : sm_Cl 6 RX6 TX6 2 := ⟨rfl, by decide, fun w h => sm_in (kl_in_6 w h) (kl_gd_6 w h), fun k hk => tyX6_ok k hk, nmX6, by decide +kernel, by decide +kernel⟩
theorem kl_in_7 : ∀ w ∈ u_ws RX7 TX7 12, w ∈ lw_tbl := by
  have h : u_ws RX7 TX7 12 = ([230, 232, 234, 236, 238, 240, 242, 244, 246, 248, 250, 252] : List Nat).filterMap (fun i => tables_1[i]?) := by decide +kernel
  intro w hw
  rw [h] at hw
  obtain ⟨i, -, hi⟩ := List.mem_filterMap.mp hw
  exact List.mem_append_right _ (List.mem_of_getElem? hi)
theorem kl_gd_7 : ∀ w ∈ u_ws RX7 TX7 12, goodWord w = true := by
  have h : (u_ws RX7 TX7 12).all goodWord = true := by decide +kernel
  exact List.all_eq_true.mp h
theorem kl_7 : sm_Cl 7 RX7 TX7 12 := ⟨rfl, by decide, fun w h => sm_in (kl_in_7 w h) (kl_gd_7 w h), fun k hk => tyX7_ok k hk, nmX7, by decide +kernel, by decide +kernel⟩
theorem kl_in_8 : ∀ w ∈ u_ws RX8 TX8 30, w ∈ lw_tbl := by
  have h : u_ws RX8 TX8 30 = ([725, 727, 729, 731, 733, 735, 737, 739, 741, 743, 745, 747, 749, 751, 753, 755, 757, 759, 761, 763, 765, 767, 769, 771, 773, 775, 777, 779, 781, 783] : List Nat).filterMap (fun i => tables_1[i]?) := by decide +kernel
  intro w hw
  rw [h] at hw
  obtain ⟨i, -, hi⟩ := List.mem_filterMap.mp hw
  exact List.mem_append_right _ (List.mem_of_getElem? hi)
theorem kl_gd_8 : ∀ w ∈ u_ws RX8 TX8 30, goodWord w = true := by
  have h : (u_ws RX8 TX8 30).all goodWord = true := by decide +kernel
  exact List.all_eq_true.mp h
theorem kl_8 : sm_Cl 8 RX8 TX8 30 := ⟨rfl, by decide, fun w h => sm_in (kl_in_8 w h) (kl_gd_8 w h), fun k hk => tyX8_ok k hk, nmX8, by decide +kernel, by decide +kernel⟩
