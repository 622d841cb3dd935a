theorem tc56_0 : tC56_0.all (kEn tY56.1 tY56.2.1) = true := by decide +kernel
theorem tm56 : kM tM56 tY56 ((tWs[56]?).getD (0, 0, 0, 0)) = true := by decide +kernel
set_option maxRecDepth 20000 in
theorem tw56 : kW ((tWs[56]?).getD (0, 0, 0, 0)).1 = some (.code tY56.1 tY56.2.1 tM56.2.1 tY56.2.2) := rfl
theorem tk56 : eMok tCl lw_g tNs tMs tYs tM56 tY56 := kM_ok (q := (tWs[56]?).getD (0, 0, 0, 0)) (show ∀ ch ∈ tC56, _ from List.forall_mem_cons.mpr ⟨tc56_0, fun _ h => absurd h List.not_mem_nil⟩) tw56 tm56
theorem tc57_0 : tC57_0.all (kEn tY57.1 tY57.2.1) = true := by decide +kernel
theorem tc57_1 : tC57_1.all (kEn tY57.1 tY57.2.1) = true := by decide +kernel
theorem tc57_2 : tC57_2.all (kEn tY57.1 tY57.2.1) = true := by decide +kernel
theorem tm57 : kM tM57 tY57 ((tWs[57]?).getD (0, 0, 0, 0)) = true := by decide +kernel
set_option maxRecDepth 20000 in
theorem tw57 : kW ((tWs[57]?).getD (0, 0, 0, 0)).1 = some (.code tY57.1 tY57.2.1 tM57.2.1 tY57.2.2) := rfl
theorem tk57 : eMok tCl lw_g tNs tMs tYs tM57 tY57 := kM_ok (q := (tWs[57]?).getD (0, 0, 0, 0)) (show ∀ ch ∈ tC57, _ from List.forall_mem_cons.mpr ⟨tc57_0, List.forall_mem_cons.mpr ⟨tc57_1, List.forall_mem_cons.mpr ⟨tc57_2, fun _ h => absurd h List.not_mem_nil⟩⟩⟩) tw57 tm57
theorem tc58_0 : tC58_0.all (kEn tY58.1 tY58.2.1) = true := by decide +kernel
theorem tc58_1 : tC58_1.all (kEn tY58.1 tY58.2.1) = true := by decide +kernel
theorem tm58 : kM tM58 tY58 ((tWs[58]?).getD (0, 0, 0, 0)) = true := by decide +kernel
set_option maxRecDepth 20000 in
theorem tw58 : kW ((tWs[58]?).getD (0, 0, 0, 0)).1 = some (.code tY58.1 tY58.2.1 tM58.2.1 tY58.2.2) := rfl
theorem tk58 : eMok tCl lw_g tNs tMs tYs tM58 tY58 := kM_ok (q := (tWs[58]?).getD (0, 0, 0, 0)) (show ∀ ch ∈ tC58, _ from List.forall_mem_cons.mpr ⟨tc58_0, List.forall_mem_cons.mpr ⟨tc58_1, fun _ h => absurd h List.not_mem_nil⟩⟩) tw58 tm58
theorem tc59_0 : tC59_0.all (kEn tY59.1 tY59.2.1) = true := by decide +kernel
theorem tc59_1 : tC59_1.all (kEn tY59.1 tY59.2.1) = true := by decide +kernel
theorem tc59_2 : tC59_2.all (kEn tY59.1 tY59.2.1) = true := by decide +kernel
theorem tc59_3 : tC59_3.all (kEn tY59.1 tY59.2.1) = true := by decide +kernel
theorem tc59_4 : tC59_4.all (kEn tY59.1 tY59.2.1) = true := by decide +kernel
theorem tc59_5 : tC59_5.all (kEn tY59.1 tY59.2.1) = true := by decide +kernel
theorem tm59 : kM tM59 tY59 ((tWs[59]?).getD (0, 0, 0, 0)) = true := by decide +kernel
set_option maxRecDepth 20000 in
theorem tw59 : kW ((tWs[59]?).getD (0, 0, 0, 0)).1 = some (.code tY59.1 tY59.2.1 tM59.2.1 tY59.2.2) := rfl
theorem tk59 : eMok tCl lw_g tNs tMs tYs tM59 tY59 := kM_ok (q := (tWs[59]?).getD (0, 0, 0, 0)) (show ∀ ch ∈ tC59, _ from List.forall_mem_cons.mpr ⟨tc59_0, List.forall_mem_cons.mpr ⟨tc59_1, List.forall_mem_cons.mpr ⟨tc59_2, List.forall_mem_cons.mpr ⟨tc59_3, List.forall_mem_cons.mpr ⟨tc59_4, List.forall_mem_cons.mpr ⟨tc59_5, fun _ h => absurd h List.not_mem_nil⟩⟩⟩⟩⟩⟩) tw59 tm59
theorem tc60_0 : tC60_0.all (kEn tY60.1 tY60.2.1) = true := by decide +kernel
theorem tc60_1 : tC60_1.all (kEn tY60.1 tY60.2.1) = true := by decide +kernel
theorem tc60_2 : tC60_2.all (kEn tY60.1 tY60.2.1) = true := by decide +kernel
theorem tc60_3 : tC60_3.all (kEn tY60.1 tY60.2.1) = true := by decide +kernel
theorem tm60 : kM tM60 tY60 ((tWs[60]?).getD (0, 0, 0, 0)) = true := by decide +kernel
set_option maxRecDepth 20000 in
theorem tw60 : kW ((tWs[60]?).getD (0, 0, 0, 0)).1 = some (.code tY60.1 tY60.2.1 tM60.2.1 tY60.2.2) := rfl
theorem tk60 : eMok tCl lw_g tNs tMs tYs tM60 tY60 := kM_ok (q := (tWs[60]?).getD (0, 0, 0, 0)) (show ∀ ch ∈ tC60, _ from List.forall_mem_cons.mpr ⟨tc60_0, List.forall_mem_cons.mpr ⟨tc60_1, List.forall_mem_cons.mpr ⟨tc60_2, List.forall_mem_cons.mpr ⟨tc60_3, fun _ h => absurd h List.not_mem_nil⟩⟩⟩⟩) tw60 tm60
theorem tc61_0 : tC61_0.all (kEn tY61.1 tY61.2.1) = true := by decide +kernel
theorem tc61_1 : tC61_1.all (kEn tY61.1 tY61.2.1) = true := by decide +kernel
theorem tm61 : kM tM61 tY61 ((tWs[61]?).getD (0, 0, 0, 0)) = true := by decide +kernel
set_option maxRecDepth 20000 in
theorem tw61 : kW ((tWs[61]?).getD (0, 0, 0, 0)).1 = some (.code tY61.1 tY61.2.1 tM61.2.1 tY61.2.2) := rfl
theorem tk61 : eMok tCl lw_g tNs tMs tYs tM61 tY61 := kM_ok (q := (tWs[61]?).getD (0, 0, 0, 0)) (show ∀ ch ∈ tC61, _ from List.forall_mem_cons.mpr ⟨tc61_0, List.forall_mem_cons.mpr ⟨tc61_1, fun _ h => absurd h List.not_mem_nil⟩⟩) tw61 tm61
theorem tc62_0 : tC62_0.all (kEn tY62.1 tY62.2.1) = true := by decide +kernel
theorem tc62_1 : tC62_1.all (kEn tY62.1 tY62.2.1) = true := by decide +kernel
theorem tc62_2 : tC62_2.all (kEn tY62.1 tY62.2.1) = true := by decide +kernel
theorem tm62 : kM tM62 tY62 ((tWs[62]?).getD (0, 0, 0, 0)) = true := by decide +kernel
set_option maxRecDepth 20000 in
theorem tw62 : kW ((tWs[62]?).getD (0, 0, 0, 0)).1 = some (.code tY62.1 tY62.2.1 tM62.2.1 tY62.2.2) := rfl
theorem tk62 : eMok tCl lw_g tNs tMs tYs tM62 tY62 := kM_ok (q := (tWs[62]?).getD (0, 0, 0, 0)) (show ∀ ch ∈ tC62, _ from List.forall_mem_cons.mpr ⟨tc62_0, List.forall_mem_cons.mpr ⟨tc62_1, List.forall_mem_cons.mpr ⟨tc62_2, fun _ h => absurd h List.not_mem_nil⟩⟩⟩) tw62 tm62
theorem tc63_0 : tC63_0.all (kEn tY63.1 tY63.2.1) = true := by decide +kernel
theorem tc63_1 : tC63_1.all (kEn tY63.1 tY63.2.1) = true := by decide +kernel
theorem tm63 : kM tM63 tY63 ((tWs[63]?).getD (0, 0, 0, 0)) = true := by decide +kernel
set_option maxRecDepth 20000 in
theorem tw63 : kW ((tWs[63]?).getD (0, 0, 0, 0)).1 = some (.code tY63.1 tY63.2.1 tM63.2.1 tY63.2.2) := rfl
theorem tk63 : eMok tCl lw_g tNs tMs tYs tM63 tY63 := kM_ok (q := (tWs[63]?).getD (0, 0, 0, 0)) (show ∀ ch ∈ tC63, _ from List.forall_mem_cons.mpr ⟨tc63_0, List.forall_mem_cons.mpr ⟨tc63_1, fun _ h => absurd h List.not_mem_nil⟩⟩) tw63 tm63
theorem tc64_0 : tC64_0.all (kEn tY64.1 tY64.2.1) = true := by decide +kernel
theorem tc64_1 : tC64_1.all (kEn tY64.1 tY64.2.1) = true := by decide +kernel
theorem tm64 : kM tM64 tY64 ((tWs[64]?).getD (0, 0, 0, 0)) = true := by decide +kernel
set_option maxRecDepth 20000 in
theorem tw64 : kW ((tWs[64]?).getD (0, 0, 0, 0)).1 = some (.code tY64.1 tY64.2.1 tM64.2.1 tY64.2.2) := rfl
theorem tk64 : eMok tCl lw_g tNs tMs tYs tM64 tY64 := kM_ok (q := (tWs[64]?).getD (0, 0, 0, 0)) (show ∀ ch ∈ tC64, _ from List.forall_mem_cons.mpr ⟨tc64_0, List.forall_mem_cons.mpr ⟨tc64_1, fun _ h => absurd h List.not_mem_nil⟩⟩) tw64 tm64
theorem tc65_0 : tC65_0.all (kEn tY65.1 tY65.2.1) = true := by decide +kernel
theorem tc65_1 : tC65_1.all (kEn tY65.1 tY65.2.1) = true := by decide +kernel
theorem tm65 : kM tM65 tY65 ((tWs[65]?).getD (0, 0, 0, 0)) = true := by decide +kernel
set_option maxRecDepth 20000 in
theorem tw65 : kW ((tWs[65]?).getD (0, 0, 0, 0)).1 = some (.code tY65.1 tY65.2.1 tM65.2.1 tY65.2.2) := rfl
theorem tk65 : eMok tCl lw_g tNs tMs tYs tM65 tY65 := kM_ok (q := (tWs[65]?).getD (0, 0, 0, 0)) (show ∀ ch ∈ tC65, _ from List.forall_mem_cons.mpr ⟨tc65_0, List.forall_mem_cons.mpr ⟨tc65_1, fun _ h => absurd h List.not_mem_nil⟩⟩) tw65 tm65
theorem tc66_0 : tC66_0.all (kEn tY66.1 tY66.2.1) = true := by decide +kernel
theorem tc66_1 : tC66_1.all (kEn tY66.1 tY66.2.1) = true := by decide +kernel
theorem tm66 : kM tM66 tY66 ((tWs[66]?).getD (0, 0, 0, 0)) = true := by decide +kernel
set_option maxRecDepth 20000 in
theorem tw66 : kW ((tWs[66]?).getD (0, 0, 0, 0)).1 = some (.code tY66.1 tY66.2.1 tM66.2.1 tY66.2.2) := rfl
theorem tk66 : eMok tCl lw_g tNs tMs tYs tM66 tY66 := kM_ok (q := (tWs[66]?).getD (0, 0, 0, 0)) (show ∀ ch ∈ tC66, _ from List.forall_mem_cons.mpr ⟨tc66_0, List.forall_mem_cons.mpr ⟨tc66_1, fun _ h => absurd h List.not_mem_nil⟩⟩) tw66 tm66
theorem tc67_0 : tC67_0.all (kEn tY67.1 tY67.2.1) = true := by decide +kernel
theorem tc67_1 : tC67_1.all (kEn tY67.1 tY67.2.1) = true := by decide +kernel
theorem tc67_2 : tC67_2.all (kEn tY67.1 tY67.2.1) = true := by decide +kernel
theorem tc67_3 : tC67_3.all (kEn tY67.1 tY67.2.1) = true := by decide +kernel
theorem tc67_4 : tC67_4.all (kEn tY67.1 tY67.2.1) = true := by decide +kernel
theorem tc67_5 : tC67_5.all (kEn tY67.1 tY67.2.1) = true := by decide +kernel
theorem tc67_6 : tC67_6.all (kEn tY67.1 tY67.2.1) = true := by decide +kernel
theorem tc67_7 : tC67_7.all (kEn tY67.1 tY67.2.1) = true := by decide +kernel
theorem tc67_8 : tC67_8.all (kEn tY67.1 tY67.2.1) = true := by decide +kernel
theorem tm67 : kM tM67 tY67 ((tWs[67]?).getD (0, 0, 0, 0)) = true := by decide +kernel
set_option maxRecDepth 20000 in
theorem tw67 : kW ((tWs[67]?).getD (0, 0, 0, 0)).1 = some (.code tY67.1 tY67.2.1 tM67.2.1 tY67.2.2) := rfl
theorem tk67 : eMok tCl lw_g tNs tMs tYs tM67 tY67 := kM_ok (q := (tWs[67]?).getD (0, 0, 0, 0)) (show ∀ ch ∈ tC67, _ from List.forall_mem_cons.mpr ⟨tc67_0, List.forall_mem_cons.mpr ⟨tc67_1, List.forall_mem_cons.mpr ⟨tc67_2, List.forall_mem_cons.mpr ⟨tc67_3, List.forall_mem_cons.mpr ⟨tc67_4, List.forall_mem_cons.mpr ⟨tc67_5, List.forall_mem_cons.mpr ⟨tc67_6, List.forall_mem_cons.mpr ⟨tc67_7, List.forall_mem_cons.mpr ⟨tc67_8, fun _ h => absurd h List.not_mem_nil⟩⟩⟩⟩⟩⟩⟩⟩⟩) tw67 tm67
theorem tc68_0 : tC68_0.all (kEn tY68.1 tY68.2.1) = true := by decide +kernel
theorem tm68 : kM tM68 tY68 ((tWs[68]?).getD (0, 0, 0, 0)) = true := by decide +kernel
set_option maxRecDepth 20000 in
theorem tw68 : kW ((tWs[68]?).getD (0, 0, 0, 0)).1 = some (.code tY68.1 tY68.2.1 tM68.2.1 tY68.2.2) := rfl
theorem tk68 : eMok tCl lw_g tNs tMs tYs tM68 tY68 := kM_ok (q := (tWs[68]?).getD (0, 0, 0, 0)) (show ∀ ch ∈ tC68, _ from List.forall_mem_cons.mpr ⟨tc68_0, fun _ h => absurd h List.not_mem_nil⟩) tw68 tm68
theorem tc69_0 : tC69_0.all (kEn tY69.1 tY69.2.1) = true := by decide +kernel
theorem tc69_1 : tC69_1.all (kEn tY69.1 tY69.2.1) = true := by decide +kernel
theorem tc69_2 : tC69_2.all (kEn tY69.1 tY69.2.1) = true := by decide +kernel
theorem tc69_3 : tC69_3.all (kEn tY69.1 tY69.2.1) = true := by decide +kernel
theorem tm69 : kM tM69 tY69 ((tWs[69]?).getD (0, 0, 0, 0)) = true := by decide +kernel
set_option maxRecDepth 20000 in
theorem tw69 : kW ((tWs[69]?).getD (0, 0, 0, 0)).1 = some (.code tY69.1 tY69.2.1 tM69.2.1 tY69.2.2) := rfl
theorem tk69 : eMok tCl lw_g tNs tMs tYs tM69 tY69 := kM_ok (q := (tWs[69]?).getD (0, 0, 0, 0)) (show ∀ ch ∈ tC69, _ from List.forall_mem_cons.mpr ⟨tc69_0, List.forall_mem_cons.mpr ⟨tc69_1, List.forall_mem_cons.mpr ⟨tc69_2, List.forall_mem_cons.mpr ⟨tc69_3, fun _ h => absurd h List.not_mem_nil⟩⟩⟩⟩) tw69 tm69
theorem tc70_0 : tC70_0.all (kEn tY70.1 tY70.2.1) = true := by decide +kernel
theorem tc70_1 : tC70_1.all (kEn tY70.1 tY70.2.1) = true := by decide +kernel
theorem tm70 : kM tM70 tY70 ((tWs[70]?).getD (0, 0, 0, 0)) = true := by decide +kernel
set_option maxRecDepth 20000 in
theorem tw70 : kW ((tWs[70]?).getD (0, 0, 0, 0)).1 = some (.code tY70.1 tY70.2.1 tM70.2.1 tY70.2.2) := rfl
theorem tk70 : eMok tCl lw_g tNs tMs tYs tM70 tY70 := kM_ok (q := (tWs[70]?).getD (0, 0, 0, 0)) (show ∀ ch ∈ tC70, _ from List.forall_mem_cons.mpr ⟨tc70_0, List.forall_mem_cons.mpr ⟨tc70_1, fun _ h => absurd h List.not_mem_nil⟩⟩) tw70 tm70
theorem tc71_0 : tC71_0.all (kEn tY71.1 tY71.2.1) = true := by decide +kernel
theorem tc71_1 : tC71_1.all (kEn tY71.1 tY71.2.1) = true := by decide +kernel
theorem tc71_2 : tC71_2.all (kEn tY71.1 tY71.2.1) = true := by decide +kernel
theorem tc71_3 : tC71_3.all (kEn tY71.1 tY71.2.1) = true := by decide +kernel
theorem tc71_4 : tC71_4.all (kEn tY71.1 tY71.2.1) = true := by decide +kernel
theorem tc71_5 : tC71_5.all (kEn tY71.1 tY71.2.1) = true := by decide +kernel
theorem tm71 : kM tM71 tY71 ((tWs[71]?).getD (0, 0, 0, 0)) = true := by decide +kernel
set_option maxRecDepth 20000 in
theorem tw71 : kW ((tWs[71]?).getD (0, 0, 0, 0)).1 = some (.code tY71.1 tY71.2.1 tM71.2.1 tY71.2.2) := rfl
theorem tk71 : eMok tCl lw_g tNs tMs tYs tM71 tY71 := kM_ok (q := (tWs[71]?).getD (0, 0, 0, 0)) (show ∀ ch ∈ tC71, _ from List.forall_mem_cons.mpr ⟨tc71_0, List.forall_mem_cons.mpr ⟨tc71_1, List.forall_mem_cons.mpr ⟨tc71_2, List.forall_mem_cons.mpr ⟨tc71_3, List.forall_mem_cons.mpr ⟨tc71_4, List.forall_mem_cons.mpr ⟨tc71_5, fun _ h => absurd h List.not_mem_nil⟩⟩⟩⟩⟩⟩) tw71 tm71
theorem tc72_0 : tC72_0.all (kEn tY72.1 tY72.2.1) = true := by decide +kernel
theorem tc72_1 : tC72_1.all (kEn tY72.1 tY72.2.1) = true := by decide +kernel
theorem tc72_2 : tC72_2.all (kEn tY72.1 tY72.2.1) = true := by decide +kernel
theorem tc72_3 : tC72_3.all (kEn tY72.1 tY72.2.1) = true := by decide +kernel
theorem tm72 : kM tM72 tY72 ((tWs[72]?).getD (0, 0, 0, 0)) = true := by decide +kernel
set_option maxRecDepth 20000 in
theorem tw72 : kW ((tWs[72]?).getD (0, 0, 0, 0)).1 = some (.code tY72.1 tY72.2.1 tM72.2.1 tY72.2.2) := rfl
theorem tk72 : eMok tCl lw_g tNs tMs tYs tM72 tY72 := kM_ok (q := (tWs[72]?).getD (0, 0, 0, 0)) (show ∀ ch ∈ tC72, _ from List.forall_mem_cons.mpr ⟨tc72_0, List.forall_mem_cons.mpr ⟨tc72_1, List.forall_mem_cons.mpr ⟨tc72_2, List.forall_mem_cons.mpr ⟨tc72_3, fun _ h => absurd h List.not_mem_nil⟩⟩⟩⟩) tw72 tm72
theorem tc73_0 : tC73_0.all (kEn tY73.1 tY73.2.1) = true := by decide +kernel
theorem tc73_1 : tC73_1.all (kEn tY73.1 tY73.2.1) = true := by decide +kernel
theorem tc73_2 : tC73_2.all (kEn tY73.1 tY73.2.1) = true := by decide +kernel
theorem tc73_3 : tC73_3.all (kEn tY73.1 tY73.2.1) = true := by decide +kernel
theorem tm73 : kM tM73 tY73 ((tWs[73]?).getD (0, 0, 0, 0)) = true := by decide +kernel
set_option maxRecDepth 20000 in
theorem tw73 : kW ((tWs[73]?).getD (0, 0, 0, 0)).1 = some (.code tY73.1 tY73.2.1 tM73.2.1 tY73.2.2) := rfl
theorem tk73 : eMok tCl lw_g tNs tMs tYs tM73 tY73 := kM_ok (q := (tWs[73]?).getD (0, 0, 0, 0)) (show ∀ ch ∈ tC73, _ from List.forall_mem_cons.mpr ⟨tc73_0, List.forall_mem_cons.mpr ⟨tc73_1, List.forall_mem_cons.mpr ⟨tc73_2, List.forall_mem_cons.mpr ⟨tc73_3, fun _ h => absurd h List.not_mem_nil⟩⟩⟩⟩) tw73 tm73
theorem tc74_0 : tC74_0.all (kEn tY74.1 tY74.2.1) = true := by decide +kernel
theorem tc74_1 : tC74_1.all (kEn tY74.1 tY74.2.1) = true := by decide +kernel
theorem tm74 : kM tM74 tY74 ((tWs[74]?).getD (0, 0, 0, 0)) = true := by decide +kernel
set_option maxRecDepth 20000 in
theorem tw74 : kW ((tWs[74]?).getD (0, 0, 0, 0)).1 = some (.code tY74.1 tY74.2.1 tM74.2.1 tY74.2.2) := rfl
theorem tk74 : eMok tCl lw_g tNs tMs tYs tM74 tY74 := kM_ok (q := (tWs[74]?).getD (0, 0, 0, 0)) (show ∀ ch ∈ tC74, _ from List.forall_mem_cons.mpr ⟨tc74_0, List.forall_mem_cons.mpr ⟨tc74_1, fun _ h => absurd h List.not_mem_nil⟩⟩) tw74 tm74
theorem tc75_0 : tC75_0.all (kEn tY75.1 tY75.2.1) = true := by decide +kernel
theorem tc75_1 : tC75_1.all (kEn tY75.1 tY75.2.1) = true := by decide +kernel
theorem tc75_2 : tC75_2.all (kEn tY75.1 tY75.2.1) = true := by decide +kernel
theorem tc75_3 : tC75_3.all (kEn tY75.1 tY75.2.1) = true := by decide +kernel
theorem tm75 : kM tM75 tY75 ((tWs[75]?).getD (0, 0, 0, 0)) = true := by decide +kernel
set_option maxRecDepth 20000 in
theorem tw75 : kW ((tWs[75]?).getD (0, 0, 0, 0)).1 = some (.code tY75.1 tY75.2.1 tM75.2.1 tY75.2.2) := rfl
theorem tk75 : eMok tCl lw_g tNs tMs tYs tM75 tY75 := kM_ok (q := (tWs[75]?).getD (0, 0, 0, 0)) (show ∀ ch ∈ tC75, _ from List.forall_mem_cons.mpr ⟨tc75_0, List.forall_mem_cons.mpr ⟨tc75_1, List.forall_mem_cons.mpr ⟨tc75_2, List.forall_mem_cons.mpr ⟨tc75_3, fun _ h => absurd h List.not_mem_nil⟩⟩⟩⟩) tw75 tm75
theorem tc76_0 : tC76_0.all (kEn tY76.1 tY76.2.1) = true := by decide +kernel
theorem tc76_1 : tC76_1.all (kEn tY76.1 tY76.2.1) = true := by decide +kernel
theorem tc76_2 : tC76_2.all (kEn tY76.1 tY76.2.1) = true := by decide +kernel
theorem tm76 : kM tM76 tY76 ((tWs[76]?).getD (0, 0, 0, 0)) = true := by decide +kernel
set_option maxRecDepth 20000 in
theorem tw76 : kW ((tWs[76]?).getD (0, 0, 0, 0)).1 = some (.code tY76.1 tY76.2.1 tM76.2.1 tY76.2.2) := rfl
theorem tk76 : eMok tCl lw_g tNs tMs tYs tM76 tY76 := kM_ok (q := (tWs[76]?).getD (0, 0, 0, 0)) (show ∀ ch ∈ tC76, _ from List.forall_mem_cons.mpr ⟨tc76_0, List.forall_mem_cons.mpr ⟨tc76_1, List.forall_mem_cons.mpr ⟨tc76_2, fun _ h => absurd h List.not_mem_nil⟩⟩⟩) tw76 tm76
theorem tc77_0 : tC77_0.all (kEn tY77.1 tY77.2.1) = true := by decide +kernel
theorem tc77_1 : tC77_1.all (kEn tY77.1 tY77.2.1) = true := by decide +kernel
theorem tc77_2 : tC77_2.all (kEn tY77.1 tY77.2.1) = true := by decide +kernel
theorem tm77 : kM tM77 tY77 ((tWs[77]?).getD (0, 0, 0, 0)) = true := by decide +kernel
set_option maxRecDepth 20000 in
theorem tw77 : kW ((tWs[77]?).getD (0, 0, 0, 0)).1 = some (.code tY77.1 tY77.2.1 tM77.2.1 tY77.2.2) := rfl
theorem tk77 : eMok tCl lw_g tNs tMs tYs tM77 tY77 := kM_ok (q := (tWs[77]?).getD (0, 0, 0, 0)) (show ∀ ch ∈ tC77, _ from List.forall_mem_cons.mpr ⟨tc77_0, List.forall_mem_cons.mpr ⟨tc77_1, List.forall_mem_cons.mpr ⟨tc77_2, fun _ h => absurd h List.not_mem_nil⟩⟩⟩) tw77 tm77
theorem tc78_0 : tC78_0.all (kEn tY78.1 tY78.2.1) = true := by decide +kernel
theorem tm78 : kM tM78 tY78 ((tWs[78]?).getD (0, 0, 0, 0)) = true := by decide +kernel
set_option maxRecDepth 20000 in
theorem tw78 : kW ((tWs[78]?).getD (0, 0, 0, 0)).1 = some (.code tY78.1 tY78.2.1 tM78.2.1 tY78.2.2) := rfl
theorem tk78 : eMok tCl lw_g tNs tMs tYs tM78 tY78 := kM_ok (q := (tWs[78]?).getD (0, 0, 0, 0)) (show ∀ ch ∈ tC78, _ from List.forall_mem_cons.mpr ⟨tc78_0, fun _ h => absurd h List.not_mem_nil⟩) tw78 tm78
theorem tc79_0 : tC79_0.all (kEn tY79.1 tY79.2.1) = true := by decide +kernel
theorem tc79_1 : tC79_1.all (kEn tY79.1 tY79.2.1) = true := by decide +kernel
theorem tm79 : kM tM79 tY79 ((tWs[79]?).getD (0, 0, 0, 0)) = true := by decide +kernel
set_option maxRecDepth 20000 in
theorem tw79 : kW ((tWs[79]?).getD (0, 0, 0, 0)).1 = some (.code tY79.1 tY79.2.1 tM79.2.1 tY79.2.2) := rfl
theorem tk79 : eMok tCl lw_g tNs tMs tYs tM79 tY79 := kM_ok (q := (tWs[79]?).getD (0, 0, 0, 0)) (show ∀ ch ∈ tC79, _ from List.forall_mem_cons.mpr ⟨tc79_0, List.forall_mem_cons.mpr ⟨tc79_1, fun _ h => absurd h List.not_mem_nil⟩⟩) tw79 tm79
theorem tc80_0 : tC80_0.all (kEn tY80.1 tY80.2.1) = true := by decide +kernel
theorem tc80_1 : tC80_1.all (kEn tY80.1 tY80.2.1) = true := by decide +kernel
theorem tm80 : kM tM80 tY80 ((tWs[80]?).getD (0, 0, 0, 0)) = true := by decide +kernel
set_option maxRecDepth 20000 in
theorem tw80 : kW ((tWs[80]?).getD (0, 0, 0, 0)).1 = some (.code tY80.1 tY80.2.1 tM80.2.1 tY80.2.2) := rfl
theorem tk80 : eMok tCl lw_g tNs tMs tYs tM80 tY80 := kM_ok (q := (tWs[80]?).getD (0, 0, 0, 0)) (show ∀ ch ∈ tC80, _ from List.forall_mem_cons.mpr ⟨tc80_0, List.forall_mem_cons.mpr ⟨tc80_1, fun _ h => absurd h List.not_mem_nil⟩⟩) tw80 tm80
theorem tc81_0 : tC81_0.all (kEn tY81.1 tY81.2.1) = true := by decide +kernel
theorem tc81_1 : tC81_1.all (kEn tY81.1 tY81.2.1) = true := by decide +kernel
theorem tc81_2 : tC81_2.all (kEn tY81.1 tY81.2.1) = true := by decide +kernel
theorem tm81 : kM tM81 tY81 ((tWs[81]?).getD (0, 0, 0, 0)) = true := by decide +kernel
set_option maxRecDepth 20000 in
theorem tw81 : kW ((tWs[81]?).getD (0, 0, 0, 0)).1 = some (.code tY81.1 tY81.2.1 tM81.2.1 tY81.2.2) := rfl
theorem tk81 : eMok tCl lw_g tNs tMs tYs tM81 tY81 := kM_ok (q := (tWs[81]?).getD (0, 0, 0, 0)) (show ∀ ch ∈ tC81, _ from List.forall_mem_cons.mpr ⟨tc81_0, List.forall_mem_cons.mpr ⟨tc81_1, List.forall_mem_cons.mpr ⟨tc81_2, fun _ h => absurd h List.not_mem_nil⟩⟩⟩) tw81 tm81
theorem tc82_0 : tC82_0.all (kEn tY82.1 tY82.2.1) = true := by decide +kernel
theorem tm82 : kM tM82 tY82 ((tWs[82]?).getD (0, 0, 0, 0)) = true := by decide +kernel
set_option maxRecDepth 20000 in
theorem tw82 : kW ((tWs[82]?).getD (0, 0, 0, 0)).1 = some (.code tY82.1 tY82.2.1 tM82.2.1 tY82.2.2) := rfl
theorem tk82 : eMok tCl lw_g tNs tMs tYs tM82 tY82 := kM_ok (q := (tWs[82]?).getD (0, 0, 0, 0)) (show ∀ ch ∈ tC82, _ from List.forall_mem_cons.mpr ⟨tc82_0, fun _ h => absurd h List.not_mem_nil⟩) tw82 tm82
theorem tc83_0 : tC83_0.all (kEn tY83.1 tY83.2.1) = true := by decide +kernel
theorem tc83_1 : tC83_1.all (kEn tY83.1 tY83.2.1) = true := by decide +kernel
theorem tc83_2 : tC83_2.all (kEn tY83.1 tY83.2.1) = true := by decide +kernel
theorem tc83_3 : tC83_3.all (kEn tY83.1 tY83.2.1) = true := by decide +kernel
theorem tm83 : kM tM83 tY83 ((tWs[83]?).getD (0, 0, 0, 0)) = true := by decide +kernel
set_option maxRecDepth 20000 in
theorem tw83 : kW ((tWs[83]?).getD (0, 0, 0, 0)).1 = some (.code tY83.1 tY83.2.1 tM83.2.1 tY83.2.2) := rfl
theorem tk83 : eMok tCl lw_g tNs tMs tYs tM83 tY83 := kM_ok (q := (tWs[83]?).getD (0, 0, 0, 0)) (show ∀ ch ∈ tC83, _ from List.forall_mem_cons.mpr ⟨tc83_0, List.forall_mem_cons.mpr ⟨tc83_1, List.forall_mem_cons.mpr ⟨tc83_2, List.forall_mem_cons.mpr ⟨tc83_3, fun _ h => absurd h List.not_mem_nil⟩⟩⟩⟩) tw83 tm83
