theorem tc279_0 : tC279_0.all (kEn tY279.1 tY279.2.1) = true := by decide +kernel
theorem tm279 : kM tM279 tY279 ((tWs[279]?).getD (0, 0, 0, 0)) = true := by decide +kernel
set_option maxRecDepth 20000 in
theorem tw279 : kW ((tWs[279]?).getD (0, 0, 0, 0)).1 = some (.code tY279.1 tY279.2.1 tM279.2.1 tY279.2.2) := rfl
theorem tk279 : eMok tCl lw_g tNs tMs tYs tM279 tY279 := kM_ok (q := (tWs[279]?).getD (0, 0, 0, 0)) (show ∀ ch ∈ tC279, _ from List.forall_mem_cons.mpr ⟨tc279_0, fun _ h => absurd h List.not_mem_nil⟩) tw279 tm279
theorem tc280_0 : tC280_0.all (kEn tY280.1 tY280.2.1) = true := by decide +kernel
theorem tm280 : kM tM280 tY280 ((tWs[280]?).getD (0, 0, 0, 0)) = true := by decide +kernel
set_option maxRecDepth 20000 in
theorem tw280 : kW ((tWs[280]?).getD (0, 0, 0, 0)).1 = some (.code tY280.1 tY280.2.1 tM280.2.1 tY280.2.2) := rfl
theorem tk280 : eMok tCl lw_g tNs tMs tYs tM280 tY280 := kM_ok (q := (tWs[280]?).getD (0, 0, 0, 0)) (show ∀ ch ∈ tC280, _ from List.forall_mem_cons.mpr ⟨tc280_0, fun _ h => absurd h List.not_mem_nil⟩) tw280 tm280
theorem tc281_0 : tC281_0.all (kEn tY281.1 tY281.2.1) = true := by decide +kernel
theorem tc281_1 : tC281_1.all (kEn tY281.1 tY281.2.1) = true := by decide +kernel
theorem tc281_2 : tC281_2.all (kEn tY281.1 tY281.2.1) = true := by decide +kernel
theorem tc281_3 : tC281_3.all (kEn tY281.1 tY281.2.1) = true := by decide +kernel
theorem tc281_4 : tC281_4.all (kEn tY281.1 tY281.2.1) = true := by decide +kernel
theorem tc281_5 : tC281_5.all (kEn tY281.1 tY281.2.1) = true := by decide +kernel
theorem tc281_6 : tC281_6.all (kEn tY281.1 tY281.2.1) = true := by decide +kernel
theorem tc281_7 : tC281_7.all (kEn tY281.1 tY281.2.1) = true := by decide +kernel
theorem tm281 : kM tM281 tY281 ((tWs[281]?).getD (0, 0, 0, 0)) = true := by decide +kernel
set_option maxRecDepth 20000 in
theorem tw281 : kW ((tWs[281]?).getD (0, 0, 0, 0)).1 = some (.code tY281.1 tY281.2.1 tM281.2.1 tY281.2.2) := rfl
theorem tk281 : eMok tCl lw_g tNs tMs tYs tM281 tY281 := kM_ok (q := (tWs[281]?).getD (0, 0, 0, 0)) (show ∀ ch ∈ tC281, _ from List.forall_mem_cons.mpr ⟨tc281_0, List.forall_mem_cons.mpr ⟨tc281_1, List.forall_mem_cons.mpr ⟨tc281_2, List.forall_mem_cons.mpr ⟨tc281_3, List.forall_mem_cons.mpr ⟨tc281_4, List.forall_mem_cons.mpr ⟨tc281_5, List.forall_mem_cons.mpr ⟨tc281_6, List.forall_mem_cons.mpr ⟨tc281_7, fun _ h => absurd h List.not_mem_nil⟩⟩⟩⟩⟩⟩⟩⟩) tw281 tm281
theorem tc282_0 : tC282_0.all (kEn tY282.1 tY282.2.1) = true := by decide +kernel
theorem tc282_1 : tC282_1.all (kEn tY282.1 tY282.2.1) = true := by decide +kernel
theorem tm282 : kM tM282 tY282 ((tWs[282]?).getD (0, 0, 0, 0)) = true := by decide +kernel
set_option maxRecDepth 20000 in
theorem tw282 : kW ((tWs[282]?).getD (0, 0, 0, 0)).1 = some (.code tY282.1 tY282.2.1 tM282.2.1 tY282.2.2) := rfl
theorem tk282 : eMok tCl lw_g tNs tMs tYs tM282 tY282 := kM_ok (q := (tWs[282]?).getD (0, 0, 0, 0)) (show ∀ ch ∈ tC282, _ from List.forall_mem_cons.mpr ⟨tc282_0, List.forall_mem_cons.mpr ⟨tc282_1, fun _ h => absurd h List.not_mem_nil⟩⟩) tw282 tm282
theorem tc283_0 : tC283_0.all (kEn tY283.1 tY283.2.1) = true := by decide +kernel
theorem tm283 : kM tM283 tY283 ((tWs[283]?).getD (0, 0, 0, 0)) = true := by decide +kernel
set_option maxRecDepth 20000 in
theorem tw283 : kW ((tWs[283]?).getD (0, 0, 0, 0)).1 = some (.code tY283.1 tY283.2.1 tM283.2.1 tY283.2.2) := rfl
theorem tk283 : eMok tCl lw_g tNs tMs tYs tM283 tY283 := kM_ok (q := (tWs[283]?).getD (0, 0, 0, 0)) (show ∀ ch ∈ tC283, _ from List.forall_mem_cons.mpr ⟨tc283_0, fun _ h => absurd h List.not_mem_nil⟩) tw283 tm283
theorem tc284_0 : tC284_0.all (kEn tY284.1 tY284.2.1) = true := by decide +kernel
theorem tc284_1 : tC284_1.all (kEn tY284.1 tY284.2.1) = true := by decide +kernel
theorem tm284 : kM tM284 tY284 ((tWs[284]?).getD (0, 0, 0, 0)) = true := by decide +kernel
set_option maxRecDepth 20000 in
theorem tw284 : kW ((tWs[284]?).getD (0, 0, 0, 0)).1 = some (.code tY284.1 tY284.2.1 tM284.2.1 tY284.2.2) := rfl
theorem tk284 : eMok tCl lw_g tNs tMs tYs tM284 tY284 := kM_ok (q := (tWs[284]?).getD (0, 0, 0, 0)) (show ∀ ch ∈ tC284, _ from List.forall_mem_cons.mpr ⟨tc284_0, List.forall_mem_cons.mpr ⟨tc284_1, fun _ h => absurd h List.not_mem_nil⟩⟩) tw284 tm284
theorem tc285_0 : tC285_0.all (kEn tY285.1 tY285.2.1) = true := by decide +kernel
theorem tc285_1 : tC285_1.all (kEn tY285.1 tY285.2.1) = true := by decide +kernel
theorem tm285 : kM tM285 tY285 ((tWs[285]?).getD (0, 0, 0, 0)) = true := by decide +kernel
set_option maxRecDepth 20000 in
theorem tw285 : kW ((tWs[285]?).getD (0, 0, 0, 0)).1 = some (.code tY285.1 tY285.2.1 tM285.2.1 tY285.2.2) := rfl
theorem tk285 : eMok tCl lw_g tNs tMs tYs tM285 tY285 := kM_ok (q := (tWs[285]?).getD (0, 0, 0, 0)) (show ∀ ch ∈ tC285, _ from List.forall_mem_cons.mpr ⟨tc285_0, List.forall_mem_cons.mpr ⟨tc285_1, fun _ h => absurd h List.not_mem_nil⟩⟩) tw285 tm285
theorem tc286_0 : tC286_0.all (kEn tY286.1 tY286.2.1) = true := by decide +kernel
theorem tm286 : kM tM286 tY286 ((tWs[286]?).getD (0, 0, 0, 0)) = true := by decide +kernel
set_option maxRecDepth 20000 in
theorem tw286 : kW ((tWs[286]?).getD (0, 0, 0, 0)).1 = some (.code tY286.1 tY286.2.1 tM286.2.1 tY286.2.2) := rfl
theorem tk286 : eMok tCl lw_g tNs tMs tYs tM286 tY286 := kM_ok (q := (tWs[286]?).getD (0, 0, 0, 0)) (show ∀ ch ∈ tC286, _ from List.forall_mem_cons.mpr ⟨tc286_0, fun _ h => absurd h List.not_mem_nil⟩) tw286 tm286
