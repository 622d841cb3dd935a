theorem tc26_0 : tC26_0.all (kEn tY26.1 tY26.2.1) = true := by decide +kernel
theorem tc26_1 : tC26_1.all (kEn tY26.1 tY26.2.1) = true := by decide +kernel
theorem tc26_2 : tC26_2.all (kEn tY26.1 tY26.2.1) = true := by decide +kernel
theorem tm26 : kM tM26 tY26 ((tWs[26]?).getD (0, 0, 0, 0)) = true := by decide +kernel
set_option maxRecDepth 20000 in
theorem tw26 : kW ((tWs[26]?).getD (0, 0, 0, 0)).1 = some (.code tY26.1 tY26.2.1 tM26.2.1 tY26.2.2) := rfl
theorem tk26 : eMok tCl lw_g tNs tMs tYs tM26 tY26 := kM_ok (q := (tWs[26]?).getD (0, 0, 0, 0)) (show ∀ ch ∈ tC26, _ from List.forall_mem_cons.mpr ⟨tc26_0, List.forall_mem_cons.mpr ⟨tc26_1, List.forall_mem_cons.mpr ⟨tc26_2, fun _ h => absurd h List.not_mem_nil⟩⟩⟩) tw26 tm26
theorem tc27_0 : tC27_0.all (kEn tY27.1 tY27.2.1) = true := by decide +kernel
theorem tc27_1 : tC27_1.all (kEn tY27.1 tY27.2.1) = true := by decide +kernel
theorem tc27_2 : tC27_2.all (kEn tY27.1 tY27.2.1) = true := by decide +kernel
theorem tc27_3 : tC27_3.all (kEn tY27.1 tY27.2.1) = true := by decide +kernel
theorem tm27 : kM tM27 tY27 ((tWs[27]?).getD (0, 0, 0, 0)) = true := by decide +kernel
set_option maxRecDepth 20000 in
theorem tw27 : kW ((tWs[27]?).getD (0, 0, 0, 0)).1 = some (.code tY27.1 tY27.2.1 tM27.2.1 tY27.2.2) := rfl
theorem tk27 : eMok tCl lw_g tNs tMs tYs tM27 tY27 := kM_ok (q := (tWs[27]?).getD (0, 0, 0, 0)) (show ∀ ch ∈ tC27, _ from List.forall_mem_cons.mpr ⟨tc27_0, List.forall_mem_cons.mpr ⟨tc27_1, List.forall_mem_cons.mpr ⟨tc27_2, List.forall_mem_cons.mpr ⟨tc27_3, fun _ h => absurd h List.not_mem_nil⟩⟩⟩⟩) tw27 tm27
theorem tc28_0 : tC28_0.all (kEn tY28.1 tY28.2.1) = true := by decide +kernel
theorem tc28_1 : tC28_1.all (kEn tY28.1 tY28.2.1) = true := by decide +kernel
theorem tc28_2 : tC28_2.all (kEn tY28.1 tY28.2.1) = true := by decide +kernel
theorem tc28_3 : tC28_3.all (kEn tY28.1 tY28.2.1) = true := by decide +kernel
theorem tm28 : kM tM28 tY28 ((tWs[28]?).getD (0, 0, 0, 0)) = true := by decide +kernel
set_option maxRecDepth 20000 in
theorem tw28 : kW ((tWs[28]?).getD (0, 0, 0, 0)).1 = some (.code tY28.1 tY28.2.1 tM28.2.1 tY28.2.2) := rfl
theorem tk28 : eMok tCl lw_g tNs tMs tYs tM28 tY28 := kM_ok (q := (tWs[28]?).getD (0, 0, 0, 0)) (show ∀ ch ∈ tC28, _ from List.forall_mem_cons.mpr ⟨tc28_0, List.forall_mem_cons.mpr ⟨tc28_1, List.forall_mem_cons.mpr ⟨tc28_2, List.forall_mem_cons.mpr ⟨tc28_3, fun _ h => absurd h List.not_mem_nil⟩⟩⟩⟩) tw28 tm28
theorem tc29_0 : tC29_0.all (kEn tY29.1 tY29.2.1) = true := by decide +kernel
theorem tc29_1 : tC29_1.all (kEn tY29.1 tY29.2.1) = true := by decide +kernel
theorem tc29_2 : tC29_2.all (kEn tY29.1 tY29.2.1) = true := by decide +kernel
theorem tc29_3 : tC29_3.all (kEn tY29.1 tY29.2.1) = true := by decide +kernel
theorem tc29_4 : tC29_4.all (kEn tY29.1 tY29.2.1) = true := by decide +kernel
theorem tc29_5 : tC29_5.all (kEn tY29.1 tY29.2.1) = true := by decide +kernel
theorem tm29 : kM tM29 tY29 ((tWs[29]?).getD (0, 0, 0, 0)) = true := by decide +kernel
set_option maxRecDepth 20000 in
theorem tw29 : kW ((tWs[29]?).getD (0, 0, 0, 0)).1 = some (.code tY29.1 tY29.2.1 tM29.2.1 tY29.2.2) := rfl
theorem tk29 : eMok tCl lw_g tNs tMs tYs tM29 tY29 := kM_ok (q := (tWs[29]?).getD (0, 0, 0, 0)) (show ∀ ch ∈ tC29, _ from List.forall_mem_cons.mpr ⟨tc29_0, List.forall_mem_cons.mpr ⟨tc29_1, List.forall_mem_cons.mpr ⟨tc29_2, List.forall_mem_cons.mpr ⟨tc29_3, List.forall_mem_cons.mpr ⟨tc29_4, List.forall_mem_cons.mpr ⟨tc29_5, fun _ h => absurd h List.not_mem_nil⟩⟩⟩⟩⟩⟩) tw29 tm29
theorem tc30_0 : tC30_0.all (kEn tY30.1 tY30.2.1) = true := by decide +kernel
theorem tc30_1 : tC30_1.all (kEn tY30.1 tY30.2.1) = true := by decide +kernel
theorem tm30 : kM tM30 tY30 ((tWs[30]?).getD (0, 0, 0, 0)) = true := by decide +kernel
set_option maxRecDepth 20000 in
theorem tw30 : kW ((tWs[30]?).getD (0, 0, 0, 0)).1 = some (.code tY30.1 tY30.2.1 tM30.2.1 tY30.2.2) := rfl
theorem tk30 : eMok tCl lw_g tNs tMs tYs tM30 tY30 := kM_ok (q := (tWs[30]?).getD (0, 0, 0, 0)) (show ∀ ch ∈ tC30, _ from List.forall_mem_cons.mpr ⟨tc30_0, List.forall_mem_cons.mpr ⟨tc30_1, fun _ h => absurd h List.not_mem_nil⟩⟩) tw30 tm30
theorem tc31_0 : tC31_0.all (kEn tY31.1 tY31.2.1) = true := by decide +kernel
theorem tm31 : kM tM31 tY31 ((tWs[31]?).getD (0, 0, 0, 0)) = true := by decide +kernel
set_option maxRecDepth 20000 in
theorem tw31 : kW ((tWs[31]?).getD (0, 0, 0, 0)).1 = some (.code tY31.1 tY31.2.1 tM31.2.1 tY31.2.2) := rfl
theorem tk31 : eMok tCl lw_g tNs tMs tYs tM31 tY31 := kM_ok (q := (tWs[31]?).getD (0, 0, 0, 0)) (show ∀ ch ∈ tC31, _ from List.forall_mem_cons.mpr ⟨tc31_0, fun _ h => absurd h List.not_mem_nil⟩) tw31 tm31
theorem tc32_0 : tC32_0.all (kEn tY32.1 tY32.2.1) = true := by decide +kernel
theorem tc32_1 : tC32_1.all (kEn tY32.1 tY32.2.1) = true := by decide +kernel
theorem tc32_2 : tC32_2.all (kEn tY32.1 tY32.2.1) = true := by decide +kernel
theorem tm32 : kM tM32 tY32 ((tWs[32]?).getD (0, 0, 0, 0)) = true := by decide +kernel
set_option maxRecDepth 20000 in
theorem tw32 : kW ((tWs[32]?).getD (0, 0, 0, 0)).1 = some (.code tY32.1 tY32.2.1 tM32.2.1 tY32.2.2) := rfl
theorem tk32 : eMok tCl lw_g tNs tMs tYs tM32 tY32 := kM_ok (q := (tWs[32]?).getD (0, 0, 0, 0)) (show ∀ ch ∈ tC32, _ from List.forall_mem_cons.mpr ⟨tc32_0, List.forall_mem_cons.mpr ⟨tc32_1, List.forall_mem_cons.mpr ⟨tc32_2, fun _ h => absurd h List.not_mem_nil⟩⟩⟩) tw32 tm32
theorem tc33_0 : tC33_0.all (kEn tY33.1 tY33.2.1) = true := by decide +kernel
theorem tc33_1 : tC33_1.all (kEn tY33.1 tY33.2.1) = true := by decide +kernel
theorem tc33_2 : tC33_2.all (kEn tY33.1 tY33.2.1) = true := by decide +kernel
theorem tc33_3 : tC33_3.all (kEn tY33.1 tY33.2.1) = true := by decide +kernel
theorem tc33_4 : tC33_4.all (kEn tY33.1 tY33.2.1) = true := by decide +kernel
theorem tc33_5 : tC33_5.all (kEn tY33.1 tY33.2.1) = true := by decide +kernel
theorem tc33_6 : tC33_6.all (kEn tY33.1 tY33.2.1) = true := by decide +kernel
theorem tc33_7 : tC33_7.all (kEn tY33.1 tY33.2.1) = true := by decide +kernel
theorem tc33_8 : tC33_8.all (kEn tY33.1 tY33.2.1) = true := by decide +kernel
theorem tm33 : kM tM33 tY33 ((tWs[33]?).getD (0, 0, 0, 0)) = true := by decide +kernel
set_option maxRecDepth 20000 in
theorem tw33 : kW ((tWs[33]?).getD (0, 0, 0, 0)).1 = some (.code tY33.1 tY33.2.1 tM33.2.1 tY33.2.2) := rfl
theorem tk33 : eMok tCl lw_g tNs tMs tYs tM33 tY33 := kM_ok (q := (tWs[33]?).getD (0, 0, 0, 0)) (show ∀ ch ∈ tC33, _ from List.forall_mem_cons.mpr ⟨tc33_0, List.forall_mem_cons.mpr ⟨tc33_1, List.forall_mem_cons.mpr ⟨tc33_2, List.forall_mem_cons.mpr ⟨tc33_3, List.forall_mem_cons.mpr ⟨tc33_4, List.forall_mem_cons.mpr ⟨tc33_5, List.forall_mem_cons.mpr ⟨tc33_6, List.forall_mem_cons.mpr ⟨tc33_7, List.forall_mem_cons.mpr ⟨tc33_8, fun _ h => absurd h List.not_mem_nil⟩⟩⟩⟩⟩⟩⟩⟩⟩) tw33 tm33
theorem tc34_0 : tC34_0.all (kEn tY34.1 tY34.2.1) = true := by decide +kernel
theorem tc34_1 : tC34_1.all (kEn tY34.1 tY34.2.1) = true := by decide +kernel
theorem tc34_2 : tC34_2.all (kEn tY34.1 tY34.2.1) = true := by decide +kernel
theorem tm34 : kM tM34 tY34 ((tWs[34]?).getD (0, 0, 0, 0)) = true := by decide +kernel
set_option maxRecDepth 20000 in
theorem tw34 : kW ((tWs[34]?).getD (0, 0, 0, 0)).1 = some (.code tY34.1 tY34.2.1 tM34.2.1 tY34.2.2) := rfl
theorem tk34 : eMok tCl lw_g tNs tMs tYs tM34 tY34 := kM_ok (q := (tWs[34]?).getD (0, 0, 0, 0)) (show ∀ ch ∈ tC34, _ from List.forall_mem_cons.mpr ⟨tc34_0, List.forall_mem_cons.mpr ⟨tc34_1, List.forall_mem_cons.mpr ⟨tc34_2, fun _ h => absurd h List.not_mem_nil⟩⟩⟩) tw34 tm34
theorem tc35_0 : tC35_0.all (kEn tY35.1 tY35.2.1) = true := by decide +kernel
theorem tc35_1 : tC35_1.all (kEn tY35.1 tY35.2.1) = true := by decide +kernel
theorem tc35_2 : tC35_2.all (kEn tY35.1 tY35.2.1) = true := by decide +kernel
theorem tc35_3 : tC35_3.all (kEn tY35.1 tY35.2.1) = true := by decide +kernel
theorem tc35_4 : tC35_4.all (kEn tY35.1 tY35.2.1) = true := by decide +kernel
theorem tc35_5 : tC35_5.all (kEn tY35.1 tY35.2.1) = true := by decide +kernel
theorem tm35 : kM tM35 tY35 ((tWs[35]?).getD (0, 0, 0, 0)) = true := by decide +kernel
set_option maxRecDepth 20000 in
theorem tw35 : kW ((tWs[35]?).getD (0, 0, 0, 0)).1 = some (.code tY35.1 tY35.2.1 tM35.2.1 tY35.2.2) := rfl
theorem tk35 : eMok tCl lw_g tNs tMs tYs tM35 tY35 := kM_ok (q := (tWs[35]?).getD (0, 0, 0, 0)) (show ∀ ch ∈ tC35, _ from List.forall_mem_cons.mpr ⟨tc35_0, List.forall_mem_cons.mpr ⟨tc35_1, List.forall_mem_cons.mpr ⟨tc35_2, List.forall_mem_cons.mpr ⟨tc35_3, List.forall_mem_cons.mpr ⟨tc35_4, List.forall_mem_cons.mpr ⟨tc35_5, fun _ h => absurd h List.not_mem_nil⟩⟩⟩⟩⟩⟩) tw35 tm35
theorem tc36_0 : tC36_0.all (kEn tY36.1 tY36.2.1) = true := by decide +kernel
theorem tm36 : kM tM36 tY36 ((tWs[36]?).getD (0, 0, 0, 0)) = true := by decide +kernel
set_option maxRecDepth 20000 in
theorem tw36 : kW ((tWs[36]?).getD (0, 0, 0, 0)).1 = some (.code tY36.1 tY36.2.1 tM36.2.1 tY36.2.2) := rfl
theorem tk36 : eMok tCl lw_g tNs tMs tYs tM36 tY36 := kM_ok (q := (tWs[36]?).getD (0, 0, 0, 0)) (show ∀ ch ∈ tC36, _ from List.forall_mem_cons.mpr ⟨tc36_0, fun _ h => absurd h List.not_mem_nil⟩) tw36 tm36
theorem tc37_0 : tC37_0.all (kEn tY37.1 tY37.2.1) = true := by decide +kernel
theorem tm37 : kM tM37 tY37 ((tWs[37]?).getD (0, 0, 0, 0)) = true := by decide +kernel
set_option maxRecDepth 20000 in
theorem tw37 : kW ((tWs[37]?).getD (0, 0, 0, 0)).1 = some (.code tY37.1 tY37.2.1 tM37.2.1 tY37.2.2) := rfl
theorem tk37 : eMok tCl lw_g tNs tMs tYs tM37 tY37 := kM_ok (q := (tWs[37]?).getD (0, 0, 0, 0)) (show ∀ ch ∈ tC37, _ from List.forall_mem_cons.mpr ⟨tc37_0, fun _ h => absurd h List.not_mem_nil⟩) tw37 tm37
theorem tc38_0 : tC38_0.all (kEn tY38.1 tY38.2.1) = true := by decide +kernel
theorem tm38 : kM tM38 tY38 ((tWs[38]?).getD (0, 0, 0, 0)) = true := by decide +kernel
set_option maxRecDepth 20000 in
theorem tw38 : kW ((tWs[38]?).getD (0, 0, 0, 0)).1 = some (.code tY38.1 tY38.2.1 tM38.2.1 tY38.2.2) := rfl
theorem tk38 : eMok tCl lw_g tNs tMs tYs tM38 tY38 := kM_ok (q := (tWs[38]?).getD (0, 0, 0, 0)) (show ∀ ch ∈ tC38, _ from List.forall_mem_cons.mpr ⟨tc38_0, fun _ h => absurd h List.not_mem_nil⟩) tw38 tm38
theorem tc39_0 : tC39_0.all (kEn tY39.1 tY39.2.1) = true := by decide +kernel
theorem tm39 : kM tM39 tY39 ((tWs[39]?).getD (0, 0, 0, 0)) = true := by decide +kernel
set_option maxRecDepth 20000 in
theorem tw39 : kW ((tWs[39]?).getD (0, 0, 0, 0)).1 = some (.code tY39.1 tY39.2.1 tM39.2.1 tY39.2.2) := rfl
theorem tk39 : eMok tCl lw_g tNs tMs tYs tM39 tY39 := kM_ok (q := (tWs[39]?).getD (0, 0, 0, 0)) (show ∀ ch ∈ tC39, _ from List.forall_mem_cons.mpr ⟨tc39_0, fun _ h => absurd h List.not_mem_nil⟩) tw39 tm39
theorem tc40_0 : tC40_0.all (kEn tY40.1 tY40.2.1) = true := by decide +kernel
theorem tm40 : kM tM40 tY40 ((tWs[40]?).getD (0, 0, 0, 0)) = true := by decide +kernel
set_option maxRecDepth 20000 in
theorem tw40 : kW ((tWs[40]?).getD (0, 0, 0, 0)).1 = some (.code tY40.1 tY40.2.1 tM40.2.1 tY40.2.2) := rfl
theorem tk40 : eMok tCl lw_g tNs tMs tYs tM40 tY40 := kM_ok (q := (tWs[40]?).getD (0, 0, 0, 0)) (show ∀ ch ∈ tC40, _ from List.forall_mem_cons.mpr ⟨tc40_0, fun _ h => absurd h List.not_mem_nil⟩) tw40 tm40
theorem tc41_0 : tC41_0.all (kEn tY41.1 tY41.2.1) = true := by decide +kernel
theorem tm41 : kM tM41 tY41 ((tWs[41]?).getD (0, 0, 0, 0)) = true := by decide +kernel
set_option maxRecDepth 20000 in
theorem tw41 : kW ((tWs[41]?).getD (0, 0, 0, 0)).1 = some (.code tY41.1 tY41.2.1 tM41.2.1 tY41.2.2) := rfl
theorem tk41 : eMok tCl lw_g tNs tMs tYs tM41 tY41 := kM_ok (q := (tWs[41]?).getD (0, 0, 0, 0)) (show ∀ ch ∈ tC41, _ from List.forall_mem_cons.mpr ⟨tc41_0, fun _ h => absurd h List.not_mem_nil⟩) tw41 tm41
theorem tc42_0 : tC42_0.all (kEn tY42.1 tY42.2.1) = true := by decide +kernel
theorem tc42_1 : tC42_1.all (kEn tY42.1 tY42.2.1) = true := by decide +kernel
theorem tc42_2 : tC42_2.all (kEn tY42.1 tY42.2.1) = true := by decide +kernel
theorem tc42_3 : tC42_3.all (kEn tY42.1 tY42.2.1) = true := by decide +kernel
theorem tm42 : kM tM42 tY42 ((tWs[42]?).getD (0, 0, 0, 0)) = true := by decide +kernel
set_option maxRecDepth 20000 in
theorem tw42 : kW ((tWs[42]?).getD (0, 0, 0, 0)).1 = some (.code tY42.1 tY42.2.1 tM42.2.1 tY42.2.2) := rfl
theorem tk42 : eMok tCl lw_g tNs tMs tYs tM42 tY42 := kM_ok (q := (tWs[42]?).getD (0, 0, 0, 0)) (show ∀ ch ∈ tC42, _ from List.forall_mem_cons.mpr ⟨tc42_0, List.forall_mem_cons.mpr ⟨tc42_1, List.forall_mem_cons.mpr ⟨tc42_2, List.forall_mem_cons.mpr ⟨tc42_3, fun _ h => absurd h List.not_mem_nil⟩⟩⟩⟩) tw42 tm42
theorem tc43_0 : tC43_0.all (kEn tY43.1 tY43.2.1) = true := by decide +kernel
theorem tm43 : kM tM43 tY43 ((tWs[43]?).getD (0, 0, 0, 0)) = true := by decide +kernel
set_option maxRecDepth 20000 in
theorem tw43 : kW ((tWs[43]?).getD (0, 0, 0, 0)).1 = some (.code tY43.1 tY43.2.1 tM43.2.1 tY43.2.2) := rfl
theorem tk43 : eMok tCl lw_g tNs tMs tYs tM43 tY43 := kM_ok (q := (tWs[43]?).getD (0, 0, 0, 0)) (show ∀ ch ∈ tC43, _ from List.forall_mem_cons.mpr ⟨tc43_0, fun _ h => absurd h List.not_mem_nil⟩) tw43 tm43
theorem tc44_0 : tC44_0.all (kEn tY44.1 tY44.2.1) = true := by decide +kernel
theorem tc44_1 : tC44_1.all (kEn tY44.1 tY44.2.1) = true := by decide +kernel
theorem tm44 : kM tM44 tY44 ((tWs[44]?).getD (0, 0, 0, 0)) = true := by decide +kernel
set_option maxRecDepth 20000 in
theorem tw44 : kW ((tWs[44]?).getD (0, 0, 0, 0)).1 = some (.code tY44.1 tY44.2.1 tM44.2.1 tY44.2.2) := rfl
theorem tk44 : eMok tCl lw_g tNs tMs tYs tM44 tY44 := kM_ok (q := (tWs[44]?).getD (0, 0, 0, 0)) (show ∀ ch ∈ tC44, _ from List.forall_mem_cons.mpr ⟨tc44_0, List.forall_mem_cons.mpr ⟨tc44_1, fun _ h => absurd h List.not_mem_nil⟩⟩) tw44 tm44
theorem tc45_0 : tC45_0.all (kEn tY45.1 tY45.2.1) = true := by decide +kernel
theorem tm45 : kM tM45 tY45 ((tWs[45]?).getD (0, 0, 0, 0)) = true := by decide +kernel
set_option maxRecDepth 20000 in
theorem tw45 : kW ((tWs[45]?).getD (0, 0, 0, 0)).1 = some (.code tY45.1 tY45.2.1 tM45.2.1 tY45.2.2) := rfl
theorem tk45 : eMok tCl lw_g tNs tMs tYs tM45 tY45 := kM_ok (q := (tWs[45]?).getD (0, 0, 0, 0)) (show ∀ ch ∈ tC45, _ from List.forall_mem_cons.mpr ⟨tc45_0, fun _ h => absurd h List.not_mem_nil⟩) tw45 tm45
theorem tc46_0 : tC46_0.all (kEn tY46.1 tY46.2.1) = true := by decide +kernel
theorem tc46_1 : tC46_1.all (kEn tY46.1 tY46.2.1) = true := by decide +kernel
theorem tm46 : kM tM46 tY46 ((tWs[46]?).getD (0, 0, 0, 0)) = true := by decide +kernel
set_option maxRecDepth 20000 in
theorem tw46 : kW ((tWs[46]?).getD (0, 0, 0, 0)).1 = some (.code tY46.1 tY46.2.1 tM46.2.1 tY46.2.2) := rfl
theorem tk46 : eMok tCl lw_g tNs tMs tYs tM46 tY46 := kM_ok (q := (tWs[46]?).getD (0, 0, 0, 0)) (show ∀ ch ∈ tC46, _ from List.forall_mem_cons.mpr ⟨tc46_0, List.forall_mem_cons.mpr ⟨tc46_1, fun _ h => absurd h List.not_mem_nil⟩⟩) tw46 tm46
theorem tc47_0 : tC47_0.all (kEn tY47.1 tY47.2.1) = true := by decide +kernel
theorem tm47 : kM tM47 tY47 ((tWs[47]?).getD (0, 0, 0, 0)) = true := by decide +kernel
set_option maxRecDepth 20000 in
theorem tw47 : kW ((tWs[47]?).getD (0, 0, 0, 0)).1 = some (.code tY47.1 tY47.2.1 tM47.2.1 tY47.2.2) := rfl
theorem tk47 : eMok tCl lw_g tNs tMs tYs tM47 tY47 := kM_ok (q := (tWs[47]?).getD (0, 0, 0, 0)) (show ∀ ch ∈ tC47, _ from List.forall_mem_cons.mpr ⟨tc47_0, fun _ h => absurd h List.not_mem_nil⟩) tw47 tm47
theorem tc48_0 : tC48_0.all (kEn tY48.1 tY48.2.1) = true := by decide +kernel
theorem tc48_1 : tC48_1.all (kEn tY48.1 tY48.2.1) = true := by decide +kernel
theorem tm48 : kM tM48 tY48 ((tWs[48]?).getD (0, 0, 0, 0)) = true := by decide +kernel
set_option maxRecDepth 20000 in
theorem tw48 : kW ((tWs[48]?).getD (0, 0, 0, 0)).1 = some (.code tY48.1 tY48.2.1 tM48.2.1 tY48.2.2) := rfl
theorem tk48 : eMok tCl lw_g tNs tMs tYs tM48 tY48 := kM_ok (q := (tWs[48]?).getD (0, 0, 0, 0)) (show ∀ ch ∈ tC48, _ from List.forall_mem_cons.mpr ⟨tc48_0, List.forall_mem_cons.mpr ⟨tc48_1, fun _ h => absurd h List.not_mem_nil⟩⟩) tw48 tm48
theorem tc49_0 : tC49_0.all (kEn tY49.1 tY49.2.1) = true := by decide +kernel
theorem tc49_1 : tC49_1.all (kEn tY49.1 tY49.2.1) = true := by decide +kernel
theorem tm49 : kM tM49 tY49 ((tWs[49]?).getD (0, 0, 0, 0)) = true := by decide +kernel
set_option maxRecDepth 20000 in
theorem tw49 : kW ((tWs[49]?).getD (0, 0, 0, 0)).1 = some (.code tY49.1 tY49.2.1 tM49.2.1 tY49.2.2) := rfl
theorem tk49 : eMok tCl lw_g tNs tMs tYs tM49 tY49 := kM_ok (q := (tWs[49]?).getD (0, 0, 0, 0)) (show ∀ ch ∈ tC49, _ from List.forall_mem_cons.mpr ⟨tc49_0, List.forall_mem_cons.mpr ⟨tc49_1, fun _ h => absurd h List.not_mem_nil⟩⟩) tw49 tm49
theorem tc50_0 : tC50_0.all (kEn tY50.1 tY50.2.1) = true := by decide +kernel
theorem tc50_1 : tC50_1.all (kEn tY50.1 tY50.2.1) = true := by decide +kernel
theorem tc50_2 : tC50_2.all (kEn tY50.1 tY50.2.1) = true := by decide +kernel
theorem tc50_3 : tC50_3.all (kEn tY50.1 tY50.2.1) = true := by decide +kernel
theorem tc50_4 : tC50_4.all (kEn tY50.1 tY50.2.1) = true := by decide +kernel
theorem tc50_5 : tC50_5.all (kEn tY50.1 tY50.2.1) = true := by decide +kernel
theorem tc50_6 : tC50_6.all (kEn tY50.1 tY50.2.1) = true := by decide +kernel
theorem tc50_7 : tC50_7.all (kEn tY50.1 tY50.2.1) = true := by decide +kernel
theorem tc50_8 : tC50_8.all (kEn tY50.1 tY50.2.1) = true := by decide +kernel
theorem tm50 : kM tM50 tY50 ((tWs[50]?).getD (0, 0, 0, 0)) = true := by decide +kernel
set_option maxRecDepth 20000 in
theorem tw50 : kW ((tWs[50]?).getD (0, 0, 0, 0)).1 = some (.code tY50.1 tY50.2.1 tM50.2.1 tY50.2.2) := rfl
theorem tk50 : eMok tCl lw_g tNs tMs tYs tM50 tY50 := kM_ok (q := (tWs[50]?).getD (0, 0, 0, 0)) (show ∀ ch ∈ tC50, _ from List.forall_mem_cons.mpr ⟨tc50_0, List.forall_mem_cons.mpr ⟨tc50_1, List.forall_mem_cons.mpr ⟨tc50_2, List.forall_mem_cons.mpr ⟨tc50_3, List.forall_mem_cons.mpr ⟨tc50_4, List.forall_mem_cons.mpr ⟨tc50_5, List.forall_mem_cons.mpr ⟨tc50_6, List.forall_mem_cons.mpr ⟨tc50_7, List.forall_mem_cons.mpr ⟨tc50_8, fun _ h => absurd h List.not_mem_nil⟩⟩⟩⟩⟩⟩⟩⟩⟩) tw50 tm50
theorem tc51_0 : tC51_0.all (kEn tY51.1 tY51.2.1) = true := by decide +kernel
theorem tm51 : kM tM51 tY51 ((tWs[51]?).getD (0, 0, 0, 0)) = true := by decide +kernel
set_option maxRecDepth 20000 in
theorem tw51 : kW ((tWs[51]?).getD (0, 0, 0, 0)).1 = some (.code tY51.1 tY51.2.1 tM51.2.1 tY51.2.2) := rfl
theorem tk51 : eMok tCl lw_g tNs tMs tYs tM51 tY51 := kM_ok (q := (tWs[51]?).getD (0, 0, 0, 0)) (show ∀ ch ∈ tC51, _ from List.forall_mem_cons.mpr ⟨tc51_0, fun _ h => absurd h List.not_mem_nil⟩) tw51 tm51
theorem tc52_0 : tC52_0.all (kEn tY52.1 tY52.2.1) = true := by decide +kernel
theorem tc52_1 : tC52_1.all (kEn tY52.1 tY52.2.1) = true := by decide +kernel
theorem tm52 : kM tM52 tY52 ((tWs[52]?).getD (0, 0, 0, 0)) = true := by decide +kernel
set_option maxRecDepth 20000 in
theorem tw52 : kW ((tWs[52]?).getD (0, 0, 0, 0)).1 = some (.code tY52.1 tY52.2.1 tM52.2.1 tY52.2.2) := rfl
theorem tk52 : eMok tCl lw_g tNs tMs tYs tM52 tY52 := kM_ok (q := (tWs[52]?).getD (0, 0, 0, 0)) (show ∀ ch ∈ tC52, _ from List.forall_mem_cons.mpr ⟨tc52_0, List.forall_mem_cons.mpr ⟨tc52_1, fun _ h => absurd h List.not_mem_nil⟩⟩) tw52 tm52
theorem tc53_0 : tC53_0.all (kEn tY53.1 tY53.2.1) = true := by decide +kernel
theorem tm53 : kM tM53 tY53 ((tWs[53]?).getD (0, 0, 0, 0)) = true := by decide +kernel
set_option maxRecDepth 20000 in
theorem tw53 : kW ((tWs[53]?).getD (0, 0, 0, 0)).1 = some (.code tY53.1 tY53.2.1 tM53.2.1 tY53.2.2) := rfl
theorem tk53 : eMok tCl lw_g tNs tMs tYs tM53 tY53 := kM_ok (q := (tWs[53]?).getD (0, 0, 0, 0)) (show ∀ ch ∈ tC53, _ from List.forall_mem_cons.mpr ⟨tc53_0, fun _ h => absurd h List.not_mem_nil⟩) tw53 tm53
theorem tc54_0 : tC54_0.all (kEn tY54.1 tY54.2.1) = true := by decide +kernel
theorem tm54 : kM tM54 tY54 ((tWs[54]?).getD (0, 0, 0, 0)) = true := by decide +kernel
set_option maxRecDepth 20000 in
theorem tw54 : kW ((tWs[54]?).getD (0, 0, 0, 0)).1 = some (.code tY54.1 tY54.2.1 tM54.2.1 tY54.2.2) := rfl
theorem tk54 : eMok tCl lw_g tNs tMs tYs tM54 tY54 := kM_ok (q := (tWs[54]?).getD (0, 0, 0, 0)) (show ∀ ch ∈ tC54, _ from List.forall_mem_cons.mpr ⟨tc54_0, fun _ h => absurd h List.not_mem_nil⟩) tw54 tm54
theorem tc55_0 : tC55_0.all (kEn tY55.1 tY55.2.1) = true := by decide +kernel
theorem tc55_1 : tC55_1.all (kEn tY55.1 tY55.2.1) = true := by decide +kernel
theorem tc55_2 : tC55_2.all (kEn tY55.1 tY55.2.1) = true := by decide +kernel
theorem tm55 : kM tM55 tY55 ((tWs[55]?).getD (0, 0, 0, 0)) = true := by decide +kernel
set_option maxRecDepth 20000 in
theorem tw55 : kW ((tWs[55]?).getD (0, 0, 0, 0)).1 = some (.code tY55.1 tY55.2.1 tM55.2.1 tY55.2.2) := rfl
theorem tk55 : eMok tCl lw_g tNs tMs tYs tM55 tY55 := kM_ok (q := (tWs[55]?).getD (0, 0, 0, 0)) (show ∀ ch ∈ tC55, _ from List.forall_mem_cons.mpr ⟨tc55_0, List.forall_mem_cons.mpr ⟨tc55_1, List.forall_mem_cons.mpr ⟨tc55_2, fun _ h => absurd h List.not_mem_nil⟩⟩⟩) tw55 tm55
