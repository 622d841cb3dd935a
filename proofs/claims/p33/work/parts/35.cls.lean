theorem kf0 : kAll (u_ws RX0 TX0 4) ((tFs[0]?).getD []) = true := by decide +kernel
theorem kd0 : kDf ((tDf[0]?).getD []) = true ∧ ((tDf[0]?).getD []).length = 4 ∧ ∀ j, j < 4 → defaultValue (tyX0 j) = vp_V (kDv ((tDf[0]?).getD [])) j := by decide +kernel
theorem kf1 : kAll (u_ws RX1 TX1 5) ((tFs[1]?).getD []) = true := by decide +kernel
theorem kd1 : kDf ((tDf[1]?).getD []) = true ∧ ((tDf[1]?).getD []).length = 5 ∧ ∀ j, j < 5 → defaultValue (tyX1 j) = vp_V (kDv ((tDf[1]?).getD [])) j := by decide +kernel
theorem kf2 : kAll (u_ws RX2 TX2 7) ((tFs[2]?).getD []) = true := by decide +kernel
theorem kd2 : kDf ((tDf[2]?).getD []) = true ∧ ((tDf[2]?).getD []).length = 7 ∧ ∀ j, j < 7 → defaultValue (tyX2 j) = vp_V (kDv ((tDf[2]?).getD [])) j := by decide +kernel
theorem kf3 : kAll (u_ws RX3 TX3 16) ((tFs[3]?).getD []) = true := by decide +kernel
theorem kd3 : kDf ((tDf[3]?).getD []) = true ∧ ((tDf[3]?).getD []).length = 16 ∧ ∀ j, j < 16 → defaultValue (tyX3 j) = vp_V (kDv ((tDf[3]?).getD [])) j := by decide +kernel
theorem kf4 : kAll (u_ws RX4 TX4 6) ((tFs[4]?).getD []) = true := by decide +kernel
theorem kd4 : kDf ((tDf[4]?).getD []) = true ∧ ((tDf[4]?).getD []).length = 6 ∧ ∀ j, j < 6 → defaultValue (tyX4 j) = vp_V (kDv ((tDf[4]?).getD [])) j := by decide +kernel
theorem kf5 : kAll (u_ws RX5 TX5 6) ((tFs[5]?).getD []) = true := by decide +kernel
theorem kd5 : kDf ((tDf[5]?).getD []) = true ∧ ((tDf[5]?).getD []).length = 6 ∧ ∀ j, j < 6 → defaultValue (tyX5 j) = vp_V (kDv ((tDf[5]?).getD [])) j := by decide +kernel
theorem kf6 : kAll (u_ws RX6 TX6 5) ((tFs[6]?).getD []) = true := by decide +kernel
theorem kd6 : kDf ((tDf[6]?).getD []) = true ∧ ((tDf[6]?).getD []).length = 5 ∧ ∀ j, j < 5 → defaultValue (tyX6 j) = vp_V (kDv ((tDf[6]?).getD [])) j := by decide +kernel
theorem kf7 : kAll (u_ws RX7 TX7 9) ((tFs[7]?).getD []) = true := by decide +kernel
theorem kd7 : kDf ((tDf[7]?).getD []) = true ∧ ((tDf[7]?).getD []).length = 9 ∧ ∀ j, j < 9 → defaultValue (tyX7 j) = vp_V (kDv ((tDf[7]?).getD [])) j := by decide +kernel
theorem kf8 : kAll (u_ws RX8 TX8 6) ((tFs[8]?).getD []) = true := by decide +kernel
theorem kd8 : kDf ((tDf[8]?).getD []) = true ∧ ((tDf[8]?).getD []).length = 6 ∧ ∀ j, j < 6 → defaultValue (tyX8 j) = vp_V (kDv ((tDf[8]?).getD [])) j := by decide +kernel
theorem kf9 : kAll (u_ws RX9 TX9 4) ((tFs[9]?).getD []) = true := by decide +kernel
theorem kd9 : kDf ((tDf[9]?).getD []) = true ∧ ((tDf[9]?).getD []).length = 4 ∧ ∀ j, j < 4 → defaultValue (tyX9 j) = vp_V (kDv ((tDf[9]?).getD [])) j := by decide +kernel
theorem kf10 : kAll (u_ws RX10 TX10 6) ((tFs[10]?).getD []) = true := by decide +kernel
theorem kd10 : kDf ((tDf[10]?).getD []) = true ∧ ((tDf[10]?).getD []).length = 6 ∧ ∀ j, j < 6 → defaultValue (tyX10 j) = vp_V (kDv ((tDf[10]?).getD [])) j := by decide +kernel
theorem kf11 : kAll (u_ws RX11 TX11 13) ((tFs[11]?).getD []) = true := by decide +kernel
theorem kd11 : kDf ((tDf[11]?).getD []) = true ∧ ((tDf[11]?).getD []).length = 13 ∧ ∀ j, j < 13 → defaultValue (tyX11 j) = vp_V (kDv ((tDf[11]?).getD [])) j := by decide +kernel
theorem kf12 : kAll (u_ws RX12 TX12 69) ((tFs[12]?).getD []) = true := by decide +kernel
theorem kd12 : kDf ((tDf[12]?).getD []) = true ∧ ((tDf[12]?).getD []).length = 69 ∧ ∀ j, j < 69 → defaultValue (tyX12 j) = vp_V (kDv ((tDf[12]?).getD [])) j := by decide +kernel
theorem tKl : eKl tCl lw_g tDf := by
  intro ci C T N h
  match ci, h with
  | 0, h => cases h; exact ⟨kAll_ok kf0, tyX0, tyX0_ok, nmX0, fun fs hfs => by cases hfs; exact ⟨kd0.2.1, _, kDf_ok kd0.1, kd0.2.2⟩⟩
  | 1, h => cases h; exact ⟨kAll_ok kf1, tyX1, tyX1_ok, nmX1, fun fs hfs => by cases hfs; exact ⟨kd1.2.1, _, kDf_ok kd1.1, kd1.2.2⟩⟩
  | 2, h => cases h; exact ⟨kAll_ok kf2, tyX2, tyX2_ok, nmX2, fun fs hfs => by cases hfs; exact ⟨kd2.2.1, _, kDf_ok kd2.1, kd2.2.2⟩⟩
  | 3, h => cases h; exact ⟨kAll_ok kf3, tyX3, tyX3_ok, nmX3, fun fs hfs => by cases hfs; exact ⟨kd3.2.1, _, kDf_ok kd3.1, kd3.2.2⟩⟩
  | 4, h => cases h; exact ⟨kAll_ok kf4, tyX4, tyX4_ok, nmX4, fun fs hfs => by cases hfs; exact ⟨kd4.2.1, _, kDf_ok kd4.1, kd4.2.2⟩⟩
  | 5, h => cases h; exact ⟨kAll_ok kf5, tyX5, tyX5_ok, nmX5, fun fs hfs => by cases hfs; exact ⟨kd5.2.1, _, kDf_ok kd5.1, kd5.2.2⟩⟩
  | 6, h => cases h; exact ⟨kAll_ok kf6, tyX6, tyX6_ok, nmX6, fun fs hfs => by cases hfs; exact ⟨kd6.2.1, _, kDf_ok kd6.1, kd6.2.2⟩⟩
  | 7, h => cases h; exact ⟨kAll_ok kf7, tyX7, tyX7_ok, nmX7, fun fs hfs => by cases hfs; exact ⟨kd7.2.1, _, kDf_ok kd7.1, kd7.2.2⟩⟩
  | 8, h => cases h; exact ⟨kAll_ok kf8, tyX8, tyX8_ok, nmX8, fun fs hfs => by cases hfs; exact ⟨kd8.2.1, _, kDf_ok kd8.1, kd8.2.2⟩⟩
  | 9, h => cases h; exact ⟨kAll_ok kf9, tyX9, tyX9_ok, nmX9, fun fs hfs => by cases hfs; exact ⟨kd9.2.1, _, kDf_ok kd9.1, kd9.2.2⟩⟩
  | 10, h => cases h; exact ⟨kAll_ok kf10, tyX10, tyX10_ok, nmX10, fun fs hfs => by cases hfs; exact ⟨kd10.2.1, _, kDf_ok kd10.1, kd10.2.2⟩⟩
  | 11, h => cases h; exact ⟨kAll_ok kf11, tyX11, tyX11_ok, nmX11, fun fs hfs => by cases hfs; exact ⟨kd11.2.1, _, kDf_ok kd11.1, kd11.2.2⟩⟩
  | 12, h => cases h; exact ⟨kAll_ok kf12, tyX12, tyX12_ok, nmX12, fun fs hfs => by cases hfs; exact ⟨kd12.2.1, _, kDf_ok kd12.1, kd12.2.2⟩⟩
  | k + 13, h => simp [tCl] at h
