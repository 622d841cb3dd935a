theorem tc39_0 : tC39_0.all (kEn tY39.1 tY39.2.1) = true := by decide +kernel
theorem tm39 : kM tM39 tY39 ((tWs[39]?).getD (0, 0, 0, 0)) = true := by decide +kernel
set_option maxRecDepth 20000 in
theorem tw39 : kW ((tWs[39]?).getD (0, 0, 0, 0)).1 = some (.code tY39.1 tY39.2.1 tM39.2.1 tY39.2.2) := rfl
theorem tk39 : eMok tCl lw_g tNs tMs tYs tM39 tY39 := kM_ok (q := (tWs[39]?).getD (0, 0, 0, 0)) (show ∀ ch ∈ tC39, _ from List.forall_mem_cons.mpr ⟨tc39_0, fun _ h => absurd h List.not_mem_nil⟩) tw39 tm39
theorem tc40_0 : tC40_0.all (kEn tY40.1 tY40.2.1) = true := by decide +kernel
theorem tc40_1 : tC40_1.all (kEn tY40.1 tY40.2.1) = true := by decide +kernel
theorem tm40 : kM tM40 tY40 ((tWs[40]?).getD (0, 0, 0, 0)) = true := by decide +kernel
set_option maxRecDepth 20000 in
theorem tw40 : kW ((tWs[40]?).getD (0, 0, 0, 0)).1 = some (.code tY40.1 tY40.2.1 tM40.2.1 tY40.2.2) := rfl
theorem tk40 : eMok tCl lw_g tNs tMs tYs tM40 tY40 := kM_ok (q := (tWs[40]?).getD (0, 0, 0, 0)) (show ∀ ch ∈ tC40, _ from List.forall_mem_cons.mpr ⟨tc40_0, List.forall_mem_cons.mpr ⟨tc40_1, fun _ h => absurd h List.not_mem_nil⟩⟩) tw40 tm40
theorem tc41_0 : tC41_0.all (kEn tY41.1 tY41.2.1) = true := by decide +kernel
theorem tm41 : kM tM41 tY41 ((tWs[41]?).getD (0, 0, 0, 0)) = true := by decide +kernel
set_option maxRecDepth 20000 in
theorem tw41 : kW ((tWs[41]?).getD (0, 0, 0, 0)).1 = some (.code tY41.1 tY41.2.1 tM41.2.1 tY41.2.2) := rfl
theorem tk41 : eMok tCl lw_g tNs tMs tYs tM41 tY41 := kM_ok (q := (tWs[41]?).getD (0, 0, 0, 0)) (show ∀ ch ∈ tC41, _ from List.forall_mem_cons.mpr ⟨tc41_0, fun _ h => absurd h List.not_mem_nil⟩) tw41 tm41
theorem tc42_0 : tC42_0.all (kEn tY42.1 tY42.2.1) = true := by decide +kernel
theorem tc42_1 : tC42_1.all (kEn tY42.1 tY42.2.1) = true := by decide +kernel
theorem tm42 : kM tM42 tY42 ((tWs[42]?).getD (0, 0, 0, 0)) = true := by decide +kernel
set_option maxRecDepth 20000 in
theorem tw42 : kW ((tWs[42]?).getD (0, 0, 0, 0)).1 = some (.code tY42.1 tY42.2.1 tM42.2.1 tY42.2.2) := rfl
theorem tk42 : eMok tCl lw_g tNs tMs tYs tM42 tY42 := kM_ok (q := (tWs[42]?).getD (0, 0, 0, 0)) (show ∀ ch ∈ tC42, _ from List.forall_mem_cons.mpr ⟨tc42_0, List.forall_mem_cons.mpr ⟨tc42_1, fun _ h => absurd h List.not_mem_nil⟩⟩) tw42 tm42
theorem tc43_0 : tC43_0.all (kEn tY43.1 tY43.2.1) = true := by decide +kernel
theorem tm43 : kM tM43 tY43 ((tWs[43]?).getD (0, 0, 0, 0)) = true := by decide +kernel
set_option maxRecDepth 20000 in
theorem tw43 : kW ((tWs[43]?).getD (0, 0, 0, 0)).1 = some (.code tY43.1 tY43.2.1 tM43.2.1 tY43.2.2) := rfl
theorem tk43 : eMok tCl lw_g tNs tMs tYs tM43 tY43 := kM_ok (q := (tWs[43]?).getD (0, 0, 0, 0)) (show ∀ ch ∈ tC43, _ from List.forall_mem_cons.mpr ⟨tc43_0, fun _ h => absurd h List.not_mem_nil⟩) tw43 tm43
theorem tc44_0 : tC44_0.all (kEn tY44.1 tY44.2.1) = true := by decide +kernel
theorem tm44 : kM tM44 tY44 ((tWs[44]?).getD (0, 0, 0, 0)) = true := by decide +kernel
set_option maxRecDepth 20000 in
theorem tw44 : kW ((tWs[44]?).getD (0, 0, 0, 0)).1 = some (.code tY44.1 tY44.2.1 tM44.2.1 tY44.2.2) := rfl
theorem tk44 : eMok tCl lw_g tNs tMs tYs tM44 tY44 := kM_ok (q := (tWs[44]?).getD (0, 0, 0, 0)) (show ∀ ch ∈ tC44, _ from List.forall_mem_cons.mpr ⟨tc44_0, fun _ h => absurd h List.not_mem_nil⟩) tw44 tm44
theorem tc45_0 : tC45_0.all (kEn tY45.1 tY45.2.1) = true := by decide +kernel
theorem tm45 : kM tM45 tY45 ((tWs[45]?).getD (0, 0, 0, 0)) = true := by decide +kernel
set_option maxRecDepth 20000 in
theorem tw45 : kW ((tWs[45]?).getD (0, 0, 0, 0)).1 = some (.code tY45.1 tY45.2.1 tM45.2.1 tY45.2.2) := rfl
theorem tk45 : eMok tCl lw_g tNs tMs tYs tM45 tY45 := kM_ok (q := (tWs[45]?).getD (0, 0, 0, 0)) (show ∀ ch ∈ tC45, _ from List.forall_mem_cons.mpr ⟨tc45_0, fun _ h => absurd h List.not_mem_nil⟩) tw45 tm45
theorem tc46_0 : tC46_0.all (kEn tY46.1 tY46.2.1) = true := by decide +kernel
theorem tm46 : kM tM46 tY46 ((tWs[46]?).getD (0, 0, 0, 0)) = true := by decide +kernel
set_option maxRecDepth 20000 in
theorem tw46 : kW ((tWs[46]?).getD (0, 0, 0, 0)).1 = some (.code tY46.1 tY46.2.1 tM46.2.1 tY46.2.2) := rfl
theorem tk46 : eMok tCl lw_g tNs tMs tYs tM46 tY46 := kM_ok (q := (tWs[46]?).getD (0, 0, 0, 0)) (show ∀ ch ∈ tC46, _ from List.forall_mem_cons.mpr ⟨tc46_0, fun _ h => absurd h List.not_mem_nil⟩) tw46 tm46
theorem tc47_0 : tC47_0.all (kEn tY47.1 tY47.2.1) = true := by decide +kernel
theorem tm47 : kM tM47 tY47 ((tWs[47]?).getD (0, 0, 0, 0)) = true := by decide +kernel
set_option maxRecDepth 20000 in
theorem tw47 : kW ((tWs[47]?).getD (0, 0, 0, 0)).1 = some (.code tY47.1 tY47.2.1 tM47.2.1 tY47.2.2) := rfl
theorem tk47 : eMok tCl lw_g tNs tMs tYs tM47 tY47 := kM_ok (q := (tWs[47]?).getD (0, 0, 0, 0)) (show ∀ ch ∈ tC47, _ from List.forall_mem_cons.mpr ⟨tc47_0, fun _ h => absurd h List.not_mem_nil⟩) tw47 tm47
theorem tc48_0 : tC48_0.all (kEn tY48.1 tY48.2.1) = true := by decide +kernel
theorem tc48_1 : tC48_1.all (kEn tY48.1 tY48.2.1) = true := by decide +kernel
theorem tm48 : kM tM48 tY48 ((tWs[48]?).getD (0, 0, 0, 0)) = true := by decide +kernel
set_option maxRecDepth 20000 in
theorem tw48 : kW ((tWs[48]?).getD (0, 0, 0, 0)).1 = some (.code tY48.1 tY48.2.1 tM48.2.1 tY48.2.2) := rfl
theorem tk48 : eMok tCl lw_g tNs tMs tYs tM48 tY48 := kM_ok (q := (tWs[48]?).getD (0, 0, 0, 0)) (show ∀ ch ∈ tC48, _ from List.forall_mem_cons.mpr ⟨tc48_0, List.forall_mem_cons.mpr ⟨tc48_1, fun _ h => absurd h List.not_mem_nil⟩⟩) tw48 tm48
theorem tc49_0 : tC49_0.all (kEn tY49.1 tY49.2.1) = true := by decide +kernel
theorem tc49_1 : tC49_1.all (kEn tY49.1 tY49.2.1) = true := by decide +kernel
theorem tm49 : kM tM49 tY49 ((tWs[49]?).getD (0, 0, 0, 0)) = true := by decide +kernel
set_option maxRecDepth 20000 in
theorem tw49 : kW ((tWs[49]?).getD (0, 0, 0, 0)).1 = some (.code tY49.1 tY49.2.1 tM49.2.1 tY49.2.2) := rfl
theorem tk49 : eMok tCl lw_g tNs tMs tYs tM49 tY49 := kM_ok (q := (tWs[49]?).getD (0, 0, 0, 0)) (show ∀ ch ∈ tC49, _ from List.forall_mem_cons.mpr ⟨tc49_0, List.forall_mem_cons.mpr ⟨tc49_1, fun _ h => absurd h List.not_mem_nil⟩⟩) tw49 tm49
theorem tc50_0 : tC50_0.all (kEn tY50.1 tY50.2.1) = true := by decide +kernel
theorem tc50_1 : tC50_1.all (kEn tY50.1 tY50.2.1) = true := by decide +kernel
theorem tc50_2 : tC50_2.all (kEn tY50.1 tY50.2.1) = true := by decide +kernel
theorem tc50_3 : tC50_3.all (kEn tY50.1 tY50.2.1) = true := by decide +kernel
theorem tm50 : kM tM50 tY50 ((tWs[50]?).getD (0, 0, 0, 0)) = true := by decide +kernel
set_option maxRecDepth 20000 in
theorem tw50 : kW ((tWs[50]?).getD (0, 0, 0, 0)).1 = some (.code tY50.1 tY50.2.1 tM50.2.1 tY50.2.2) := rfl
theorem tk50 : eMok tCl lw_g tNs tMs tYs tM50 tY50 := kM_ok (q := (tWs[50]?).getD (0, 0, 0, 0)) (show ∀ ch ∈ tC50, _ from List.forall_mem_cons.mpr ⟨tc50_0, List.forall_mem_cons.mpr ⟨tc50_1, List.forall_mem_cons.mpr ⟨tc50_2, List.forall_mem_cons.mpr ⟨tc50_3, fun _ h => absurd h List.not_mem_nil⟩⟩⟩⟩) tw50 tm50
theorem tc51_0 : tC51_0.all (kEn tY51.1 tY51.2.1) = true := by decide +kernel
theorem tm51 : kM tM51 tY51 ((tWs[51]?).getD (0, 0, 0, 0)) = true := by decide +kernel
set_option maxRecDepth 20000 in
theorem tw51 : kW ((tWs[51]?).getD (0, 0, 0, 0)).1 = some (.code tY51.1 tY51.2.1 tM51.2.1 tY51.2.2) := rfl
theorem tk51 : eMok tCl lw_g tNs tMs tYs tM51 tY51 := kM_ok (q := (tWs[51]?).getD (0, 0, 0, 0)) (show ∀ ch ∈ tC51, _ from List.forall_mem_cons.mpr ⟨tc51_0, fun _ h => absurd h List.not_mem_nil⟩) tw51 tm51
theorem tc52_0 : tC52_0.all (kEn tY52.1 tY52.2.1) = true := by decide +kernel
theorem tc52_1 : tC52_1.all (kEn tY52.1 tY52.2.1) = true := by decide +kernel
theorem tc52_2 : tC52_2.all (kEn tY52.1 tY52.2.1) = true := by decide +kernel
theorem tc52_3 : tC52_3.all (kEn tY52.1 tY52.2.1) = true := by decide +kernel
theorem tm52 : kM tM52 tY52 ((tWs[52]?).getD (0, 0, 0, 0)) = true := by decide +kernel
set_option maxRecDepth 20000 in
theorem tw52 : kW ((tWs[52]?).getD (0, 0, 0, 0)).1 = some (.code tY52.1 tY52.2.1 tM52.2.1 tY52.2.2) := rfl
theorem tk52 : eMok tCl lw_g tNs tMs tYs tM52 tY52 := kM_ok (q := (tWs[52]?).getD (0, 0, 0, 0)) (show ∀ ch ∈ tC52, _ from List.forall_mem_cons.mpr ⟨tc52_0, List.forall_mem_cons.mpr ⟨tc52_1, List.forall_mem_cons.mpr ⟨tc52_2, List.forall_mem_cons.mpr ⟨tc52_3, fun _ h => absurd h List.not_mem_nil⟩⟩⟩⟩) tw52 tm52
theorem tc53_0 : tC53_0.all (kEn tY53.1 tY53.2.1) = true := by decide +kernel
theorem tc53_1 : tC53_1.all (kEn tY53.1 tY53.2.1) = true := by decide +kernel
theorem tm53 : kM tM53 tY53 ((tWs[53]?).getD (0, 0, 0, 0)) = true := by decide +kernel
set_option maxRecDepth 20000 in
theorem tw53 : kW ((tWs[53]?).getD (0, 0, 0, 0)).1 = some (.code tY53.1 tY53.2.1 tM53.2.1 tY53.2.2) := rfl
theorem tk53 : eMok tCl lw_g tNs tMs tYs tM53 tY53 := kM_ok (q := (tWs[53]?).getD (0, 0, 0, 0)) (show ∀ ch ∈ tC53, _ from List.forall_mem_cons.mpr ⟨tc53_0, List.forall_mem_cons.mpr ⟨tc53_1, fun _ h => absurd h List.not_mem_nil⟩⟩) tw53 tm53
theorem tc54_0 : tC54_0.all (kEn tY54.1 tY54.2.1) = true := by decide +kernel
theorem tm54 : kM tM54 tY54 ((tWs[54]?).getD (0, 0, 0, 0)) = true := by decide +kernel
set_option maxRecDepth 20000 in
theorem tw54 : kW ((tWs[54]?).getD (0, 0, 0, 0)).1 = some (.code tY54.1 tY54.2.1 tM54.2.1 tY54.2.2) := rfl
theorem tk54 : eMok tCl lw_g tNs tMs tYs tM54 tY54 := kM_ok (q := (tWs[54]?).getD (0, 0, 0, 0)) (show ∀ ch ∈ tC54, _ from List.forall_mem_cons.mpr ⟨tc54_0, fun _ h => absurd h List.not_mem_nil⟩) tw54 tm54
theorem tc55_0 : tC55_0.all (kEn tY55.1 tY55.2.1) = true := by decide +kernel
theorem tm55 : kM tM55 tY55 ((tWs[55]?).getD (0, 0, 0, 0)) = true := by decide +kernel
set_option maxRecDepth 20000 in
theorem tw55 : kW ((tWs[55]?).getD (0, 0, 0, 0)).1 = some (.code tY55.1 tY55.2.1 tM55.2.1 tY55.2.2) := rfl
theorem tk55 : eMok tCl lw_g tNs tMs tYs tM55 tY55 := kM_ok (q := (tWs[55]?).getD (0, 0, 0, 0)) (show ∀ ch ∈ tC55, _ from List.forall_mem_cons.mpr ⟨tc55_0, fun _ h => absurd h List.not_mem_nil⟩) tw55 tm55
theorem tc56_0 : tC56_0.all (kEn tY56.1 tY56.2.1) = true := by decide +kernel
theorem tm56 : kM tM56 tY56 ((tWs[56]?).getD (0, 0, 0, 0)) = true := by decide +kernel
set_option maxRecDepth 20000 in
theorem tw56 : kW ((tWs[56]?).getD (0, 0, 0, 0)).1 = some (.code tY56.1 tY56.2.1 tM56.2.1 tY56.2.2) := rfl
theorem tk56 : eMok tCl lw_g tNs tMs tYs tM56 tY56 := kM_ok (q := (tWs[56]?).getD (0, 0, 0, 0)) (show ∀ ch ∈ tC56, _ from List.forall_mem_cons.mpr ⟨tc56_0, fun _ h => absurd h List.not_mem_nil⟩) tw56 tm56
theorem tc57_0 : tC57_0.all (kEn tY57.1 tY57.2.1) = true := by decide +kernel
theorem tm57 : kM tM57 tY57 ((tWs[57]?).getD (0, 0, 0, 0)) = true := by decide +kernel
set_option maxRecDepth 20000 in
theorem tw57 : kW ((tWs[57]?).getD (0, 0, 0, 0)).1 = some (.code tY57.1 tY57.2.1 tM57.2.1 tY57.2.2) := rfl
theorem tk57 : eMok tCl lw_g tNs tMs tYs tM57 tY57 := kM_ok (q := (tWs[57]?).getD (0, 0, 0, 0)) (show ∀ ch ∈ tC57, _ from List.forall_mem_cons.mpr ⟨tc57_0, fun _ h => absurd h List.not_mem_nil⟩) tw57 tm57
theorem tc58_0 : tC58_0.all (kEn tY58.1 tY58.2.1) = true := by decide +kernel
theorem tc58_1 : tC58_1.all (kEn tY58.1 tY58.2.1) = true := by decide +kernel
theorem tc58_2 : tC58_2.all (kEn tY58.1 tY58.2.1) = true := by decide +kernel
theorem tm58 : kM tM58 tY58 ((tWs[58]?).getD (0, 0, 0, 0)) = true := by decide +kernel
set_option maxRecDepth 20000 in
theorem tw58 : kW ((tWs[58]?).getD (0, 0, 0, 0)).1 = some (.code tY58.1 tY58.2.1 tM58.2.1 tY58.2.2) := rfl
theorem tk58 : eMok tCl lw_g tNs tMs tYs tM58 tY58 := kM_ok (q := (tWs[58]?).getD (0, 0, 0, 0)) (show ∀ ch ∈ tC58, _ from List.forall_mem_cons.mpr ⟨tc58_0, List.forall_mem_cons.mpr ⟨tc58_1, List.forall_mem_cons.mpr ⟨tc58_2, fun _ h => absurd h List.not_mem_nil⟩⟩⟩) tw58 tm58
theorem tc59_0 : tC59_0.all (kEn tY59.1 tY59.2.1) = true := by decide +kernel
theorem tc59_1 : tC59_1.all (kEn tY59.1 tY59.2.1) = true := by decide +kernel
theorem tc59_2 : tC59_2.all (kEn tY59.1 tY59.2.1) = true := by decide +kernel
theorem tc59_3 : tC59_3.all (kEn tY59.1 tY59.2.1) = true := by decide +kernel
theorem tm59 : kM tM59 tY59 ((tWs[59]?).getD (0, 0, 0, 0)) = true := by decide +kernel
set_option maxRecDepth 20000 in
theorem tw59 : kW ((tWs[59]?).getD (0, 0, 0, 0)).1 = some (.code tY59.1 tY59.2.1 tM59.2.1 tY59.2.2) := rfl
theorem tk59 : eMok tCl lw_g tNs tMs tYs tM59 tY59 := kM_ok (q := (tWs[59]?).getD (0, 0, 0, 0)) (show ∀ ch ∈ tC59, _ from List.forall_mem_cons.mpr ⟨tc59_0, List.forall_mem_cons.mpr ⟨tc59_1, List.forall_mem_cons.mpr ⟨tc59_2, List.forall_mem_cons.mpr ⟨tc59_3, fun _ h => absurd h List.not_mem_nil⟩⟩⟩⟩) tw59 tm59
theorem tc60_0 : tC60_0.all (kEn tY60.1 tY60.2.1) = true := by decide +kernel
theorem tm60 : kM tM60 tY60 ((tWs[60]?).getD (0, 0, 0, 0)) = true := by decide +kernel
set_option maxRecDepth 20000 in
theorem tw60 : kW ((tWs[60]?).getD (0, 0, 0, 0)).1 = some (.code tY60.1 tY60.2.1 tM60.2.1 tY60.2.2) := rfl
theorem tk60 : eMok tCl lw_g tNs tMs tYs tM60 tY60 := kM_ok (q := (tWs[60]?).getD (0, 0, 0, 0)) (show ∀ ch ∈ tC60, _ from List.forall_mem_cons.mpr ⟨tc60_0, fun _ h => absurd h List.not_mem_nil⟩) tw60 tm60
theorem tc61_0 : tC61_0.all (kEn tY61.1 tY61.2.1) = true := by decide +kernel
theorem tc61_1 : tC61_1.all (kEn tY61.1 tY61.2.1) = true := by decide +kernel
theorem tc61_2 : tC61_2.all (kEn tY61.1 tY61.2.1) = true := by decide +kernel
theorem tm61 : kM tM61 tY61 ((tWs[61]?).getD (0, 0, 0, 0)) = true := by decide +kernel
set_option maxRecDepth 20000 in
theorem tw61 : kW ((tWs[61]?).getD (0, 0, 0, 0)).1 = some (.code tY61.1 tY61.2.1 tM61.2.1 tY61.2.2) := rfl
theorem tk61 : eMok tCl lw_g tNs tMs tYs tM61 tY61 := kM_ok (q := (tWs[61]?).getD (0, 0, 0, 0)) (show ∀ ch ∈ tC61, _ from List.forall_mem_cons.mpr ⟨tc61_0, List.forall_mem_cons.mpr ⟨tc61_1, List.forall_mem_cons.mpr ⟨tc61_2, fun _ h => absurd h List.not_mem_nil⟩⟩⟩) tw61 tm61
theorem tc62_0 : tC62_0.all (kEn tY62.1 tY62.2.1) = true := by decide +kernel
theorem tm62 : kM tM62 tY62 ((tWs[62]?).getD (0, 0, 0, 0)) = true := by decide +kernel
set_option maxRecDepth 20000 in
theorem tw62 : kW ((tWs[62]?).getD (0, 0, 0, 0)).1 = some (.code tY62.1 tY62.2.1 tM62.2.1 tY62.2.2) := rfl
theorem tk62 : eMok tCl lw_g tNs tMs tYs tM62 tY62 := kM_ok (q := (tWs[62]?).getD (0, 0, 0, 0)) (show ∀ ch ∈ tC62, _ from List.forall_mem_cons.mpr ⟨tc62_0, fun _ h => absurd h List.not_mem_nil⟩) tw62 tm62
theorem tc63_0 : tC63_0.all (kEn tY63.1 tY63.2.1) = true := by decide +kernel
theorem tc63_1 : tC63_1.all (kEn tY63.1 tY63.2.1) = true := by decide +kernel
theorem tc63_2 : tC63_2.all (kEn tY63.1 tY63.2.1) = true := by decide +kernel
theorem tm63 : kM tM63 tY63 ((tWs[63]?).getD (0, 0, 0, 0)) = true := by decide +kernel
set_option maxRecDepth 20000 in
theorem tw63 : kW ((tWs[63]?).getD (0, 0, 0, 0)).1 = some (.code tY63.1 tY63.2.1 tM63.2.1 tY63.2.2) := rfl
theorem tk63 : eMok tCl lw_g tNs tMs tYs tM63 tY63 := kM_ok (q := (tWs[63]?).getD (0, 0, 0, 0)) (show ∀ ch ∈ tC63, _ from List.forall_mem_cons.mpr ⟨tc63_0, List.forall_mem_cons.mpr ⟨tc63_1, List.forall_mem_cons.mpr ⟨tc63_2, fun _ h => absurd h List.not_mem_nil⟩⟩⟩) tw63 tm63
theorem tc64_0 : tC64_0.all (kEn tY64.1 tY64.2.1) = true := by decide +kernel
theorem tm64 : kM tM64 tY64 ((tWs[64]?).getD (0, 0, 0, 0)) = true := by decide +kernel
set_option maxRecDepth 20000 in
theorem tw64 : kW ((tWs[64]?).getD (0, 0, 0, 0)).1 = some (.code tY64.1 tY64.2.1 tM64.2.1 tY64.2.2) := rfl
theorem tk64 : eMok tCl lw_g tNs tMs tYs tM64 tY64 := kM_ok (q := (tWs[64]?).getD (0, 0, 0, 0)) (show ∀ ch ∈ tC64, _ from List.forall_mem_cons.mpr ⟨tc64_0, fun _ h => absurd h List.not_mem_nil⟩) tw64 tm64
theorem tc65_0 : tC65_0.all (kEn tY65.1 tY65.2.1) = true := by decide +kernel
theorem tm65 : kM tM65 tY65 ((tWs[65]?).getD (0, 0, 0, 0)) = true := by decide +kernel
set_option maxRecDepth 20000 in
theorem tw65 : kW ((tWs[65]?).getD (0, 0, 0, 0)).1 = some (.code tY65.1 tY65.2.1 tM65.2.1 tY65.2.2) := rfl
theorem tk65 : eMok tCl lw_g tNs tMs tYs tM65 tY65 := kM_ok (q := (tWs[65]?).getD (0, 0, 0, 0)) (show ∀ ch ∈ tC65, _ from List.forall_mem_cons.mpr ⟨tc65_0, fun _ h => absurd h List.not_mem_nil⟩) tw65 tm65
theorem tc66_0 : tC66_0.all (kEn tY66.1 tY66.2.1) = true := by decide +kernel
theorem tc66_1 : tC66_1.all (kEn tY66.1 tY66.2.1) = true := by decide +kernel
theorem tc66_2 : tC66_2.all (kEn tY66.1 tY66.2.1) = true := by decide +kernel
theorem tc66_3 : tC66_3.all (kEn tY66.1 tY66.2.1) = true := by decide +kernel
theorem tm66 : kM tM66 tY66 ((tWs[66]?).getD (0, 0, 0, 0)) = true := by decide +kernel
set_option maxRecDepth 20000 in
theorem tw66 : kW ((tWs[66]?).getD (0, 0, 0, 0)).1 = some (.code tY66.1 tY66.2.1 tM66.2.1 tY66.2.2) := rfl
theorem tk66 : eMok tCl lw_g tNs tMs tYs tM66 tY66 := kM_ok (q := (tWs[66]?).getD (0, 0, 0, 0)) (show ∀ ch ∈ tC66, _ from List.forall_mem_cons.mpr ⟨tc66_0, List.forall_mem_cons.mpr ⟨tc66_1, List.forall_mem_cons.mpr ⟨tc66_2, List.forall_mem_cons.mpr ⟨tc66_3, fun _ h => absurd h List.not_mem_nil⟩⟩⟩⟩) tw66 tm66
theorem tc67_0 : tC67_0.all (kEn tY67.1 tY67.2.1) = true := by decide +kernel
theorem tc67_1 : tC67_1.all (kEn tY67.1 tY67.2.1) = true := by decide +kernel
theorem tm67 : kM tM67 tY67 ((tWs[67]?).getD (0, 0, 0, 0)) = true := by decide +kernel
set_option maxRecDepth 20000 in
theorem tw67 : kW ((tWs[67]?).getD (0, 0, 0, 0)).1 = some (.code tY67.1 tY67.2.1 tM67.2.1 tY67.2.2) := rfl
theorem tk67 : eMok tCl lw_g tNs tMs tYs tM67 tY67 := kM_ok (q := (tWs[67]?).getD (0, 0, 0, 0)) (show ∀ ch ∈ tC67, _ from List.forall_mem_cons.mpr ⟨tc67_0, List.forall_mem_cons.mpr ⟨tc67_1, fun _ h => absurd h List.not_mem_nil⟩⟩) tw67 tm67
theorem tc68_0 : tC68_0.all (kEn tY68.1 tY68.2.1) = true := by decide +kernel
theorem tc68_1 : tC68_1.all (kEn tY68.1 tY68.2.1) = true := by decide +kernel
theorem tc68_2 : tC68_2.all (kEn tY68.1 tY68.2.1) = true := by decide +kernel
theorem tc68_3 : tC68_3.all (kEn tY68.1 tY68.2.1) = true := by decide +kernel
theorem tc68_4 : tC68_4.all (kEn tY68.1 tY68.2.1) = true := by decide +kernel
theorem tm68 : kM tM68 tY68 ((tWs[68]?).getD (0, 0, 0, 0)) = true := by decide +kernel
set_option maxRecDepth 20000 in
theorem tw68 : kW ((tWs[68]?).getD (0, 0, 0, 0)).1 = some (.code tY68.1 tY68.2.1 tM68.2.1 tY68.2.2) := rfl
theorem tk68 : eMok tCl lw_g tNs tMs tYs tM68 tY68 := kM_ok (q := (tWs[68]?).getD (0, 0, 0, 0)) (show ∀ ch ∈ tC68, _ from List.forall_mem_cons.mpr ⟨tc68_0, List.forall_mem_cons.mpr ⟨tc68_1, List.forall_mem_cons.mpr ⟨tc68_2, List.forall_mem_cons.mpr ⟨tc68_3, List.forall_mem_cons.mpr ⟨tc68_4, fun _ h => absurd h List.not_mem_nil⟩⟩⟩⟩⟩) tw68 tm68
theorem tc69_0 : tC69_0.all (kEn tY69.1 tY69.2.1) = true := by decide +kernel
theorem tc69_1 : tC69_1.all (kEn tY69.1 tY69.2.1) = true := by decide +kernel
theorem tm69 : kM tM69 tY69 ((tWs[69]?).getD (0, 0, 0, 0)) = true := by decide +kernel
set_option maxRecDepth 20000 in
theorem tw69 : kW ((tWs[69]?).getD (0, 0, 0, 0)).1 = some (.code tY69.1 tY69.2.1 tM69.2.1 tY69.2.2) := rfl
theorem tk69 : eMok tCl lw_g tNs tMs tYs tM69 tY69 := kM_ok (q := (tWs[69]?).getD (0, 0, 0, 0)) (show ∀ ch ∈ tC69, _ from List.forall_mem_cons.mpr ⟨tc69_0, List.forall_mem_cons.mpr ⟨tc69_1, fun _ h => absurd h List.not_mem_nil⟩⟩) tw69 tm69
theorem tc70_0 : tC70_0.all (kEn tY70.1 tY70.2.1) = true := by decide +kernel
theorem tm70 : kM tM70 tY70 ((tWs[70]?).getD (0, 0, 0, 0)) = true := by decide +kernel
set_option maxRecDepth 20000 in
theorem tw70 : kW ((tWs[70]?).getD (0, 0, 0, 0)).1 = some (.code tY70.1 tY70.2.1 tM70.2.1 tY70.2.2) := rfl
theorem tk70 : eMok tCl lw_g tNs tMs tYs tM70 tY70 := kM_ok (q := (tWs[70]?).getD (0, 0, 0, 0)) (show ∀ ch ∈ tC70, _ from List.forall_mem_cons.mpr ⟨tc70_0, fun _ h => absurd h List.not_mem_nil⟩) tw70 tm70
theorem tc71_0 : tC71_0.all (kEn tY71.1 tY71.2.1) = true := by decide +kernel
theorem tc71_1 : tC71_1.all (kEn tY71.1 tY71.2.1) = true := by decide +kernel
theorem tc71_2 : tC71_2.all (kEn tY71.1 tY71.2.1) = true := by decide +kernel
theorem tc71_3 : tC71_3.all (kEn tY71.1 tY71.2.1) = true := by decide +kernel
theorem tc71_4 : tC71_4.all (kEn tY71.1 tY71.2.1) = true := by decide +kernel
theorem tc71_5 : tC71_5.all (kEn tY71.1 tY71.2.1) = true := by decide +kernel
theorem tc71_6 : tC71_6.all (kEn tY71.1 tY71.2.1) = true := by decide +kernel
theorem tc71_7 : tC71_7.all (kEn tY71.1 tY71.2.1) = true := by decide +kernel
theorem tc71_8 : tC71_8.all (kEn tY71.1 tY71.2.1) = true := by decide +kernel
theorem tc71_9 : tC71_9.all (kEn tY71.1 tY71.2.1) = true := by decide +kernel
theorem tm71 : kM tM71 tY71 ((tWs[71]?).getD (0, 0, 0, 0)) = true := by decide +kernel
set_option maxRecDepth 20000 in
theorem tw71 : kW ((tWs[71]?).getD (0, 0, 0, 0)).1 = some (.code tY71.1 tY71.2.1 tM71.2.1 tY71.2.2) := rfl
theorem tk71 : eMok tCl lw_g tNs tMs tYs tM71 tY71 := kM_ok (q := (tWs[71]?).getD (0, 0, 0, 0)) (show ∀ ch ∈ tC71, _ from List.forall_mem_cons.mpr ⟨tc71_0, List.forall_mem_cons.mpr ⟨tc71_1, List.forall_mem_cons.mpr ⟨tc71_2, List.forall_mem_cons.mpr ⟨tc71_3, List.forall_mem_cons.mpr ⟨tc71_4, List.forall_mem_cons.mpr ⟨tc71_5, List.forall_mem_cons.mpr ⟨tc71_6, List.forall_mem_cons.mpr ⟨tc71_7, List.forall_mem_cons.mpr ⟨tc71_8, List.forall_mem_cons.mpr ⟨tc71_9, fun _ h => absurd h List.not_mem_nil⟩⟩⟩⟩⟩⟩⟩⟩⟩⟩) tw71 tm71
theorem tc72_0 : tC72_0.all (kEn tY72.1 tY72.2.1) = true := by decide +kernel
theorem tc72_1 : tC72_1.all (kEn tY72.1 tY72.2.1) = true := by decide +kernel
theorem tm72 : kM tM72 tY72 ((tWs[72]?).getD (0, 0, 0, 0)) = true := by decide +kernel
set_option maxRecDepth 20000 in
theorem tw72 : kW ((tWs[72]?).getD (0, 0, 0, 0)).1 = some (.code tY72.1 tY72.2.1 tM72.2.1 tY72.2.2) := rfl
theorem tk72 : eMok tCl lw_g tNs tMs tYs tM72 tY72 := kM_ok (q := (tWs[72]?).getD (0, 0, 0, 0)) (show ∀ ch ∈ tC72, _ from List.forall_mem_cons.mpr ⟨tc72_0, List.forall_mem_cons.mpr ⟨tc72_1, fun _ h => absurd h List.not_mem_nil⟩⟩) tw72 tm72
theorem tc73_0 : tC73_0.all (kEn tY73.1 tY73.2.1) = true := by decide +kernel
theorem tm73 : kM tM73 tY73 ((tWs[73]?).getD (0, 0, 0, 0)) = true := by decide +kernel
set_option maxRecDepth 20000 in
theorem tw73 : kW ((tWs[73]?).getD (0, 0, 0, 0)).1 = some (.code tY73.1 tY73.2.1 tM73.2.1 tY73.2.2) := rfl
theorem tk73 : eMok tCl lw_g tNs tMs tYs tM73 tY73 := kM_ok (q := (tWs[73]?).getD (0, 0, 0, 0)) (show ∀ ch ∈ tC73, _ from List.forall_mem_cons.mpr ⟨tc73_0, fun _ h => absurd h List.not_mem_nil⟩) tw73 tm73
theorem tc74_0 : tC74_0.all (kEn tY74.1 tY74.2.1) = true := by decide +kernel
theorem tm74 : kM tM74 tY74 ((tWs[74]?).getD (0, 0, 0, 0)) = true := by decide +kernel
set_option maxRecDepth 20000 in
theorem tw74 : kW ((tWs[74]?).getD (0, 0, 0, 0)).1 = some (.code tY74.1 tY74.2.1 tM74.2.1 tY74.2.2) := rfl
theorem tk74 : eMok tCl lw_g tNs tMs tYs tM74 tY74 := kM_ok (q := (tWs[74]?).getD (0, 0, 0, 0)) (show ∀ ch ∈ tC74, _ from List.forall_mem_cons.mpr ⟨tc74_0, fun _ h => absurd h List.not_mem_nil⟩) tw74 tm74
theorem tc75_0 : tC75_0.all (kEn tY75.1 tY75.2.1) = true := by decide +kernel
theorem tm75 : kM tM75 tY75 ((tWs[75]?).getD (0, 0, 0, 0)) = true := by decide +kernel
set_option maxRecDepth 20000 in
theorem tw75 : kW ((tWs[75]?).getD (0, 0, 0, 0)).1 = some (.code tY75.1 tY75.2.1 tM75.2.1 tY75.2.2) := rfl
theorem tk75 : eMok tCl lw_g tNs tMs tYs tM75 tY75 := kM_ok (q := (tWs[75]?).getD (0, 0, 0, 0)) (show ∀ ch ∈ tC75, _ from List.forall_mem_cons.mpr ⟨tc75_0, fun _ h => absurd h List.not_mem_nil⟩) tw75 tm75
theorem tc76_0 : tC76_0.all (kEn tY76.1 tY76.2.1) = true := by decide +kernel
theorem tc76_1 : tC76_1.all (kEn tY76.1 tY76.2.1) = true := by decide +kernel
theorem tc76_2 : tC76_2.all (kEn tY76.1 tY76.2.1) = true := by decide +kernel
theorem tc76_3 : tC76_3.all (kEn tY76.1 tY76.2.1) = true := by decide +kernel
theorem tm76 : kM tM76 tY76 ((tWs[76]?).getD (0, 0, 0, 0)) = true := by decide +kernel
set_option maxRecDepth 20000 in
theorem tw76 : kW ((tWs[76]?).getD (0, 0, 0, 0)).1 = some (.code tY76.1 tY76.2.1 tM76.2.1 tY76.2.2) := rfl
theorem tk76 : eMok tCl lw_g tNs tMs tYs tM76 tY76 := kM_ok (q := (tWs[76]?).getD (0, 0, 0, 0)) (show ∀ ch ∈ tC76, _ from List.forall_mem_cons.mpr ⟨tc76_0, List.forall_mem_cons.mpr ⟨tc76_1, List.forall_mem_cons.mpr ⟨tc76_2, List.forall_mem_cons.mpr ⟨tc76_3, fun _ h => absurd h List.not_mem_nil⟩⟩⟩⟩) tw76 tm76
theorem tc77_0 : tC77_0.all (kEn tY77.1 tY77.2.1) = true := by decide +kernel
theorem tc77_1 : tC77_1.all (kEn tY77.1 tY77.2.1) = true := by decide +kernel
theorem tc77_2 : tC77_2.all (kEn tY77.1 tY77.2.1) = true := by decide +kernel
theorem tc77_3 : tC77_3.all (kEn tY77.1 tY77.2.1) = true := by decide +kernel
theorem tc77_4 : tC77_4.all (kEn tY77.1 tY77.2.1) = true := by decide +kernel
theorem tm77 : kM tM77 tY77 ((tWs[77]?).getD (0, 0, 0, 0)) = true := by decide +kernel
set_option maxRecDepth 20000 in
theorem tw77 : kW ((tWs[77]?).getD (0, 0, 0, 0)).1 = some (.code tY77.1 tY77.2.1 tM77.2.1 tY77.2.2) := rfl
theorem tk77 : eMok tCl lw_g tNs tMs tYs tM77 tY77 := kM_ok (q := (tWs[77]?).getD (0, 0, 0, 0)) (show ∀ ch ∈ tC77, _ from List.forall_mem_cons.mpr ⟨tc77_0, List.forall_mem_cons.mpr ⟨tc77_1, List.forall_mem_cons.mpr ⟨tc77_2, List.forall_mem_cons.mpr ⟨tc77_3, List.forall_mem_cons.mpr ⟨tc77_4, fun _ h => absurd h List.not_mem_nil⟩⟩⟩⟩⟩) tw77 tm77
theorem tc78_0 : tC78_0.all (kEn tY78.1 tY78.2.1) = true := by decide +kernel
theorem tc78_1 : tC78_1.all (kEn tY78.1 tY78.2.1) = true := by decide +kernel
theorem tc78_2 : tC78_2.all (kEn tY78.1 tY78.2.1) = true := by decide +kernel
theorem tc78_3 : tC78_3.all (kEn tY78.1 tY78.2.1) = true := by decide +kernel
theorem tm78 : kM tM78 tY78 ((tWs[78]?).getD (0, 0, 0, 0)) = true := by decide +kernel
set_option maxRecDepth 20000 in
theorem tw78 : kW ((tWs[78]?).getD (0, 0, 0, 0)).1 = some (.code tY78.1 tY78.2.1 tM78.2.1 tY78.2.2) := rfl
theorem tk78 : eMok tCl lw_g tNs tMs tYs tM78 tY78 := kM_ok (q := (tWs[78]?).getD (0, 0, 0, 0)) (show ∀ ch ∈ tC78, _ from List.forall_mem_cons.mpr ⟨tc78_0, List.forall_mem_cons.mpr ⟨tc78_1, List.forall_mem_cons.mpr ⟨tc78_2, List.forall_mem_cons.mpr ⟨tc78_3, fun _ h => absurd h List.not_mem_nil⟩⟩⟩⟩) tw78 tm78
