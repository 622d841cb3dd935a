theorem tc114_0 : tC114_0.all (kEn tY114.1 tY114.2.1) = true := by decide +kernel
theorem tc114_1 : tC114_1.all (kEn tY114.1 tY114.2.1) = true := by decide +kernel
theorem tm114 : kM tM114 tY114 ((tWs[114]?).getD (0, 0, 0, 0)) = true := by decide +kernel
set_option maxRecDepth 20000 in
theorem tw114 : kW ((tWs[114]?).getD (0, 0, 0, 0)).1 = some (.code tY114.1 tY114.2.1 tM114.2.1 tY114.2.2) := rfl
theorem tk114 : eMok tCl lw_g tNs tMs tYs tM114 tY114 := kM_ok (q := (tWs[114]?).getD (0, 0, 0, 0)) (show ∀ ch ∈ tC114, _ from List.forall_mem_cons.mpr ⟨tc114_0, List.forall_mem_cons.mpr ⟨tc114_1, fun _ h => absurd h List.not_mem_nil⟩⟩) tw114 tm114
theorem tc115_0 : tC115_0.all (kEn tY115.1 tY115.2.1) = true := by decide +kernel
theorem tm115 : kM tM115 tY115 ((tWs[115]?).getD (0, 0, 0, 0)) = true := by decide +kernel
set_option maxRecDepth 20000 in
theorem tw115 : kW ((tWs[115]?).getD (0, 0, 0, 0)).1 = some (.code tY115.1 tY115.2.1 tM115.2.1 tY115.2.2) := rfl
theorem tk115 : eMok tCl lw_g tNs tMs tYs tM115 tY115 := kM_ok (q := (tWs[115]?).getD (0, 0, 0, 0)) (show ∀ ch ∈ tC115, _ from List.forall_mem_cons.mpr ⟨tc115_0, fun _ h => absurd h List.not_mem_nil⟩) tw115 tm115
theorem tc116_0 : tC116_0.all (kEn tY116.1 tY116.2.1) = true := by decide +kernel
theorem tm116 : kM tM116 tY116 ((tWs[116]?).getD (0, 0, 0, 0)) = true := by decide +kernel
set_option maxRecDepth 20000 in
theorem tw116 : kW ((tWs[116]?).getD (0, 0, 0, 0)).1 = some (.code tY116.1 tY116.2.1 tM116.2.1 tY116.2.2) := rfl
theorem tk116 : eMok tCl lw_g tNs tMs tYs tM116 tY116 := kM_ok (q := (tWs[116]?).getD (0, 0, 0, 0)) (show ∀ ch ∈ tC116, _ from List.forall_mem_cons.mpr ⟨tc116_0, fun _ h => absurd h List.not_mem_nil⟩) tw116 tm116
theorem tc117_0 : tC117_0.all (kEn tY117.1 tY117.2.1) = true := by decide +kernel
theorem tm117 : kM tM117 tY117 ((tWs[117]?).getD (0, 0, 0, 0)) = true := by decide +kernel
set_option maxRecDepth 20000 in
theorem tw117 : kW ((tWs[117]?).getD (0, 0, 0, 0)).1 = some (.code tY117.1 tY117.2.1 tM117.2.1 tY117.2.2) := rfl
theorem tk117 : eMok tCl lw_g tNs tMs tYs tM117 tY117 := kM_ok (q := (tWs[117]?).getD (0, 0, 0, 0)) (show ∀ ch ∈ tC117, _ from List.forall_mem_cons.mpr ⟨tc117_0, fun _ h => absurd h List.not_mem_nil⟩) tw117 tm117
theorem tc118_0 : tC118_0.all (kEn tY118.1 tY118.2.1) = true := by decide +kernel
theorem tc118_1 : tC118_1.all (kEn tY118.1 tY118.2.1) = true := by decide +kernel
theorem tc118_2 : tC118_2.all (kEn tY118.1 tY118.2.1) = true := by decide +kernel
theorem tc118_3 : tC118_3.all (kEn tY118.1 tY118.2.1) = true := by decide +kernel
theorem tm118 : kM tM118 tY118 ((tWs[118]?).getD (0, 0, 0, 0)) = true := by decide +kernel
set_option maxRecDepth 20000 in
theorem tw118 : kW ((tWs[118]?).getD (0, 0, 0, 0)).1 = some (.code tY118.1 tY118.2.1 tM118.2.1 tY118.2.2) := rfl
theorem tk118 : eMok tCl lw_g tNs tMs tYs tM118 tY118 := kM_ok (q := (tWs[118]?).getD (0, 0, 0, 0)) (show ∀ ch ∈ tC118, _ from List.forall_mem_cons.mpr ⟨tc118_0, List.forall_mem_cons.mpr ⟨tc118_1, List.forall_mem_cons.mpr ⟨tc118_2, List.forall_mem_cons.mpr ⟨tc118_3, fun _ h => absurd h List.not_mem_nil⟩⟩⟩⟩) tw118 tm118
theorem tc119_0 : tC119_0.all (kEn tY119.1 tY119.2.1) = true := by decide +kernel
theorem tc119_1 : tC119_1.all (kEn tY119.1 tY119.2.1) = true := by decide +kernel
theorem tc119_2 : tC119_2.all (kEn tY119.1 tY119.2.1) = true := by decide +kernel
theorem tm119 : kM tM119 tY119 ((tWs[119]?).getD (0, 0, 0, 0)) = true := by decide +kernel
set_option maxRecDepth 20000 in
theorem tw119 : kW ((tWs[119]?).getD (0, 0, 0, 0)).1 = some (.code tY119.1 tY119.2.1 tM119.2.1 tY119.2.2) := rfl
theorem tk119 : eMok tCl lw_g tNs tMs tYs tM119 tY119 := kM_ok (q := (tWs[119]?).getD (0, 0, 0, 0)) (show ∀ ch ∈ tC119, _ from List.forall_mem_cons.mpr ⟨tc119_0, List.forall_mem_cons.mpr ⟨tc119_1, List.forall_mem_cons.mpr ⟨tc119_2, fun _ h => absurd h List.not_mem_nil⟩⟩⟩) tw119 tm119
theorem tc120_0 : tC120_0.all (kEn tY120.1 tY120.2.1) = true := by decide +kernel
theorem tc120_1 : tC120_1.all (kEn tY120.1 tY120.2.1) = true := by decide +kernel
theorem tc120_2 : tC120_2.all (kEn tY120.1 tY120.2.1) = true := by decide +kernel
theorem tc120_3 : tC120_3.all (kEn tY120.1 tY120.2.1) = true := by decide +kernel
theorem tc120_4 : tC120_4.all (kEn tY120.1 tY120.2.1) = true := by decide +kernel
theorem tm120 : kM tM120 tY120 ((tWs[120]?).getD (0, 0, 0, 0)) = true := by decide +kernel
set_option maxRecDepth 20000 in
theorem tw120 : kW ((tWs[120]?).getD (0, 0, 0, 0)).1 = some (.code tY120.1 tY120.2.1 tM120.2.1 tY120.2.2) := rfl
theorem tk120 : eMok tCl lw_g tNs tMs tYs tM120 tY120 := kM_ok (q := (tWs[120]?).getD (0, 0, 0, 0)) (show ∀ ch ∈ tC120, _ from List.forall_mem_cons.mpr ⟨tc120_0, List.forall_mem_cons.mpr ⟨tc120_1, List.forall_mem_cons.mpr ⟨tc120_2, List.forall_mem_cons.mpr ⟨tc120_3, List.forall_mem_cons.mpr ⟨tc120_4, fun _ h => absurd h List.not_mem_nil⟩⟩⟩⟩⟩) tw120 tm120
theorem tc121_0 : tC121_0.all (kEn tY121.1 tY121.2.1) = true := by decide +kernel
theorem tm121 : kM tM121 tY121 ((tWs[121]?).getD (0, 0, 0, 0)) = true := by decide +kernel
set_option maxRecDepth 20000 in
theorem tw121 : kW ((tWs[121]?).getD (0, 0, 0, 0)).1 = some (.code tY121.1 tY121.2.1 tM121.2.1 tY121.2.2) := rfl
theorem tk121 : eMok tCl lw_g tNs tMs tYs tM121 tY121 := kM_ok (q := (tWs[121]?).getD (0, 0, 0, 0)) (show ∀ ch ∈ tC121, _ from List.forall_mem_cons.mpr ⟨tc121_0, fun _ h => absurd h List.not_mem_nil⟩) tw121 tm121
theorem tc122_0 : tC122_0.all (kEn tY122.1 tY122.2.1) = true := by decide +kernel
theorem tm122 : kM tM122 tY122 ((tWs[122]?).getD (0, 0, 0, 0)) = true := by decide +kernel
set_option maxRecDepth 20000 in
theorem tw122 : kW ((tWs[122]?).getD (0, 0, 0, 0)).1 = some (.code tY122.1 tY122.2.1 tM122.2.1 tY122.2.2) := rfl
theorem tk122 : eMok tCl lw_g tNs tMs tYs tM122 tY122 := kM_ok (q := (tWs[122]?).getD (0, 0, 0, 0)) (show ∀ ch ∈ tC122, _ from List.forall_mem_cons.mpr ⟨tc122_0, fun _ h => absurd h List.not_mem_nil⟩) tw122 tm122
theorem tc123_0 : tC123_0.all (kEn tY123.1 tY123.2.1) = true := by decide +kernel
theorem tm123 : kM tM123 tY123 ((tWs[123]?).getD (0, 0, 0, 0)) = true := by decide +kernel
set_option maxRecDepth 20000 in
theorem tw123 : kW ((tWs[123]?).getD (0, 0, 0, 0)).1 = some (.code tY123.1 tY123.2.1 tM123.2.1 tY123.2.2) := rfl
theorem tk123 : eMok tCl lw_g tNs tMs tYs tM123 tY123 := kM_ok (q := (tWs[123]?).getD (0, 0, 0, 0)) (show ∀ ch ∈ tC123, _ from List.forall_mem_cons.mpr ⟨tc123_0, fun _ h => absurd h List.not_mem_nil⟩) tw123 tm123
theorem tc124_0 : tC124_0.all (kEn tY124.1 tY124.2.1) = true := by decide +kernel
theorem tc124_1 : tC124_1.all (kEn tY124.1 tY124.2.1) = true := by decide +kernel
theorem tc124_2 : tC124_2.all (kEn tY124.1 tY124.2.1) = true := by decide +kernel
theorem tc124_3 : tC124_3.all (kEn tY124.1 tY124.2.1) = true := by decide +kernel
theorem tm124 : kM tM124 tY124 ((tWs[124]?).getD (0, 0, 0, 0)) = true := by decide +kernel
set_option maxRecDepth 20000 in
theorem tw124 : kW ((tWs[124]?).getD (0, 0, 0, 0)).1 = some (.code tY124.1 tY124.2.1 tM124.2.1 tY124.2.2) := rfl
theorem tk124 : eMok tCl lw_g tNs tMs tYs tM124 tY124 := kM_ok (q := (tWs[124]?).getD (0, 0, 0, 0)) (show ∀ ch ∈ tC124, _ from List.forall_mem_cons.mpr ⟨tc124_0, List.forall_mem_cons.mpr ⟨tc124_1, List.forall_mem_cons.mpr ⟨tc124_2, List.forall_mem_cons.mpr ⟨tc124_3, fun _ h => absurd h List.not_mem_nil⟩⟩⟩⟩) tw124 tm124
theorem tc125_0 : tC125_0.all (kEn tY125.1 tY125.2.1) = true := by decide +kernel
theorem tm125 : kM tM125 tY125 ((tWs[125]?).getD (0, 0, 0, 0)) = true := by decide +kernel
set_option maxRecDepth 20000 in
theorem tw125 : kW ((tWs[125]?).getD (0, 0, 0, 0)).1 = some (.code tY125.1 tY125.2.1 tM125.2.1 tY125.2.2) := rfl
theorem tk125 : eMok tCl lw_g tNs tMs tYs tM125 tY125 := kM_ok (q := (tWs[125]?).getD (0, 0, 0, 0)) (show ∀ ch ∈ tC125, _ from List.forall_mem_cons.mpr ⟨tc125_0, fun _ h => absurd h List.not_mem_nil⟩) tw125 tm125
theorem tc126_0 : tC126_0.all (kEn tY126.1 tY126.2.1) = true := by decide +kernel
theorem tm126 : kM tM126 tY126 ((tWs[126]?).getD (0, 0, 0, 0)) = true := by decide +kernel
set_option maxRecDepth 20000 in
theorem tw126 : kW ((tWs[126]?).getD (0, 0, 0, 0)).1 = some (.code tY126.1 tY126.2.1 tM126.2.1 tY126.2.2) := rfl
theorem tk126 : eMok tCl lw_g tNs tMs tYs tM126 tY126 := kM_ok (q := (tWs[126]?).getD (0, 0, 0, 0)) (show ∀ ch ∈ tC126, _ from List.forall_mem_cons.mpr ⟨tc126_0, fun _ h => absurd h List.not_mem_nil⟩) tw126 tm126
theorem tc127_0 : tC127_0.all (kEn tY127.1 tY127.2.1) = true := by decide +kernel
theorem tc127_1 : tC127_1.all (kEn tY127.1 tY127.2.1) = true := by decide +kernel
theorem tm127 : kM tM127 tY127 ((tWs[127]?).getD (0, 0, 0, 0)) = true := by decide +kernel
set_option maxRecDepth 20000 in
theorem tw127 : kW ((tWs[127]?).getD (0, 0, 0, 0)).1 = some (.code tY127.1 tY127.2.1 tM127.2.1 tY127.2.2) := rfl
theorem tk127 : eMok tCl lw_g tNs tMs tYs tM127 tY127 := kM_ok (q := (tWs[127]?).getD (0, 0, 0, 0)) (show ∀ ch ∈ tC127, _ from List.forall_mem_cons.mpr ⟨tc127_0, List.forall_mem_cons.mpr ⟨tc127_1, fun _ h => absurd h List.not_mem_nil⟩⟩) tw127 tm127
theorem tc128_0 : tC128_0.all (kEn tY128.1 tY128.2.1) = true := by decide +kernel
theorem tc128_1 : tC128_1.all (kEn tY128.1 tY128.2.1) = true := by decide +kernel
theorem tm128 : kM tM128 tY128 ((tWs[128]?).getD (0, 0, 0, 0)) = true := by decide +kernel
set_option maxRecDepth 20000 in
theorem tw128 : kW ((tWs[128]?).getD (0, 0, 0, 0)).1 = some (.code tY128.1 tY128.2.1 tM128.2.1 tY128.2.2) := rfl
theorem tk128 : eMok tCl lw_g tNs tMs tYs tM128 tY128 := kM_ok (q := (tWs[128]?).getD (0, 0, 0, 0)) (show ∀ ch ∈ tC128, _ from List.forall_mem_cons.mpr ⟨tc128_0, List.forall_mem_cons.mpr ⟨tc128_1, fun _ h => absurd h List.not_mem_nil⟩⟩) tw128 tm128
theorem tc129_0 : tC129_0.all (kEn tY129.1 tY129.2.1) = true := by decide +kernel
theorem tc129_1 : tC129_1.all (kEn tY129.1 tY129.2.1) = true := by decide +kernel
theorem tm129 : kM tM129 tY129 ((tWs[129]?).getD (0, 0, 0, 0)) = true := by decide +kernel
set_option maxRecDepth 20000 in
theorem tw129 : kW ((tWs[129]?).getD (0, 0, 0, 0)).1 = some (.code tY129.1 tY129.2.1 tM129.2.1 tY129.2.2) := rfl
theorem tk129 : eMok tCl lw_g tNs tMs tYs tM129 tY129 := kM_ok (q := (tWs[129]?).getD (0, 0, 0, 0)) (show ∀ ch ∈ tC129, _ from List.forall_mem_cons.mpr ⟨tc129_0, List.forall_mem_cons.mpr ⟨tc129_1, fun _ h => absurd h List.not_mem_nil⟩⟩) tw129 tm129
theorem tc130_0 : tC130_0.all (kEn tY130.1 tY130.2.1) = true := by decide +kernel
theorem tm130 : kM tM130 tY130 ((tWs[130]?).getD (0, 0, 0, 0)) = true := by decide +kernel
set_option maxRecDepth 20000 in
theorem tw130 : kW ((tWs[130]?).getD (0, 0, 0, 0)).1 = some (.code tY130.1 tY130.2.1 tM130.2.1 tY130.2.2) := rfl
theorem tk130 : eMok tCl lw_g tNs tMs tYs tM130 tY130 := kM_ok (q := (tWs[130]?).getD (0, 0, 0, 0)) (show ∀ ch ∈ tC130, _ from List.forall_mem_cons.mpr ⟨tc130_0, fun _ h => absurd h List.not_mem_nil⟩) tw130 tm130
theorem tc131_0 : tC131_0.all (kEn tY131.1 tY131.2.1) = true := by decide +kernel
theorem tm131 : kM tM131 tY131 ((tWs[131]?).getD (0, 0, 0, 0)) = true := by decide +kernel
set_option maxRecDepth 20000 in
theorem tw131 : kW ((tWs[131]?).getD (0, 0, 0, 0)).1 = some (.code tY131.1 tY131.2.1 tM131.2.1 tY131.2.2) := rfl
theorem tk131 : eMok tCl lw_g tNs tMs tYs tM131 tY131 := kM_ok (q := (tWs[131]?).getD (0, 0, 0, 0)) (show ∀ ch ∈ tC131, _ from List.forall_mem_cons.mpr ⟨tc131_0, fun _ h => absurd h List.not_mem_nil⟩) tw131 tm131
theorem tc132_0 : tC132_0.all (kEn tY132.1 tY132.2.1) = true := by decide +kernel
theorem tm132 : kM tM132 tY132 ((tWs[132]?).getD (0, 0, 0, 0)) = true := by decide +kernel
set_option maxRecDepth 20000 in
theorem tw132 : kW ((tWs[132]?).getD (0, 0, 0, 0)).1 = some (.code tY132.1 tY132.2.1 tM132.2.1 tY132.2.2) := rfl
theorem tk132 : eMok tCl lw_g tNs tMs tYs tM132 tY132 := kM_ok (q := (tWs[132]?).getD (0, 0, 0, 0)) (show ∀ ch ∈ tC132, _ from List.forall_mem_cons.mpr ⟨tc132_0, fun _ h => absurd h List.not_mem_nil⟩) tw132 tm132
theorem tc133_0 : tC133_0.all (kEn tY133.1 tY133.2.1) = true := by decide +kernel
theorem tm133 : kM tM133 tY133 ((tWs[133]?).getD (0, 0, 0, 0)) = true := by decide +kernel
set_option maxRecDepth 20000 in
theorem tw133 : kW ((tWs[133]?).getD (0, 0, 0, 0)).1 = some (.code tY133.1 tY133.2.1 tM133.2.1 tY133.2.2) := rfl
theorem tk133 : eMok tCl lw_g tNs tMs tYs tM133 tY133 := kM_ok (q := (tWs[133]?).getD (0, 0, 0, 0)) (show ∀ ch ∈ tC133, _ from List.forall_mem_cons.mpr ⟨tc133_0, fun _ h => absurd h List.not_mem_nil⟩) tw133 tm133
theorem tc134_0 : tC134_0.all (kEn tY134.1 tY134.2.1) = true := by decide +kernel
theorem tm134 : kM tM134 tY134 ((tWs[134]?).getD (0, 0, 0, 0)) = true := by decide +kernel
set_option maxRecDepth 20000 in
theorem tw134 : kW ((tWs[134]?).getD (0, 0, 0, 0)).1 = some (.code tY134.1 tY134.2.1 tM134.2.1 tY134.2.2) := rfl
theorem tk134 : eMok tCl lw_g tNs tMs tYs tM134 tY134 := kM_ok (q := (tWs[134]?).getD (0, 0, 0, 0)) (show ∀ ch ∈ tC134, _ from List.forall_mem_cons.mpr ⟨tc134_0, fun _ h => absurd h List.not_mem_nil⟩) tw134 tm134
theorem tc135_0 : tC135_0.all (kEn tY135.1 tY135.2.1) = true := by decide +kernel
theorem tc135_1 : tC135_1.all (kEn tY135.1 tY135.2.1) = true := by decide +kernel
theorem tm135 : kM tM135 tY135 ((tWs[135]?).getD (0, 0, 0, 0)) = true := by decide +kernel
set_option maxRecDepth 20000 in
theorem tw135 : kW ((tWs[135]?).getD (0, 0, 0, 0)).1 = some (.code tY135.1 tY135.2.1 tM135.2.1 tY135.2.2) := rfl
theorem tk135 : eMok tCl lw_g tNs tMs tYs tM135 tY135 := kM_ok (q := (tWs[135]?).getD (0, 0, 0, 0)) (show ∀ ch ∈ tC135, _ from List.forall_mem_cons.mpr ⟨tc135_0, List.forall_mem_cons.mpr ⟨tc135_1, fun _ h => absurd h List.not_mem_nil⟩⟩) tw135 tm135
theorem tc136_0 : tC136_0.all (kEn tY136.1 tY136.2.1) = true := by decide +kernel
theorem tc136_1 : tC136_1.all (kEn tY136.1 tY136.2.1) = true := by decide +kernel
theorem tc136_2 : tC136_2.all (kEn tY136.1 tY136.2.1) = true := by decide +kernel
theorem tm136 : kM tM136 tY136 ((tWs[136]?).getD (0, 0, 0, 0)) = true := by decide +kernel
set_option maxRecDepth 20000 in
theorem tw136 : kW ((tWs[136]?).getD (0, 0, 0, 0)).1 = some (.code tY136.1 tY136.2.1 tM136.2.1 tY136.2.2) := rfl
theorem tk136 : eMok tCl lw_g tNs tMs tYs tM136 tY136 := kM_ok (q := (tWs[136]?).getD (0, 0, 0, 0)) (show ∀ ch ∈ tC136, _ from List.forall_mem_cons.mpr ⟨tc136_0, List.forall_mem_cons.mpr ⟨tc136_1, List.forall_mem_cons.mpr ⟨tc136_2, fun _ h => absurd h List.not_mem_nil⟩⟩⟩) tw136 tm136
theorem tc137_0 : tC137_0.all (kEn tY137.1 tY137.2.1) = true := by decide +kernel
theorem tc137_1 : tC137_1.all (kEn tY137.1 tY137.2.1) = true := by decide +kernel
theorem tc137_2 : tC137_2.all (kEn tY137.1 tY137.2.1) = true := by decide +kernel
theorem tc137_3 : tC137_3.all (kEn tY137.1 tY137.2.1) = true := by decide +kernel
theorem tm137 : kM tM137 tY137 ((tWs[137]?).getD (0, 0, 0, 0)) = true := by decide +kernel
set_option maxRecDepth 20000 in
theorem tw137 : kW ((tWs[137]?).getD (0, 0, 0, 0)).1 = some (.code tY137.1 tY137.2.1 tM137.2.1 tY137.2.2) := rfl
theorem tk137 : eMok tCl lw_g tNs tMs tYs tM137 tY137 := kM_ok (q := (tWs[137]?).getD (0, 0, 0, 0)) (show ∀ ch ∈ tC137, _ from List.forall_mem_cons.mpr ⟨tc137_0, List.forall_mem_cons.mpr ⟨tc137_1, List.forall_mem_cons.mpr ⟨tc137_2, List.forall_mem_cons.mpr ⟨tc137_3, fun _ h => absurd h List.not_mem_nil⟩⟩⟩⟩) tw137 tm137
theorem tc138_0 : tC138_0.all (kEn tY138.1 tY138.2.1) = true := by decide +kernel
theorem tc138_1 : tC138_1.all (kEn tY138.1 tY138.2.1) = true := by decide +kernel
theorem tm138 : kM tM138 tY138 ((tWs[138]?).getD (0, 0, 0, 0)) = true := by decide +kernel
set_option maxRecDepth 20000 in
theorem tw138 : kW ((tWs[138]?).getD (0, 0, 0, 0)).1 = some (.code tY138.1 tY138.2.1 tM138.2.1 tY138.2.2) := rfl
theorem tk138 : eMok tCl lw_g tNs tMs tYs tM138 tY138 := kM_ok (q := (tWs[138]?).getD (0, 0, 0, 0)) (show ∀ ch ∈ tC138, _ from List.forall_mem_cons.mpr ⟨tc138_0, List.forall_mem_cons.mpr ⟨tc138_1, fun _ h => absurd h List.not_mem_nil⟩⟩) tw138 tm138
theorem tc139_0 : tC139_0.all (kEn tY139.1 tY139.2.1) = true := by decide +kernel
theorem tc139_1 : tC139_1.all (kEn tY139.1 tY139.2.1) = true := by decide +kernel
theorem tc139_2 : tC139_2.all (kEn tY139.1 tY139.2.1) = true := by decide +kernel
theorem tm139 : kM tM139 tY139 ((tWs[139]?).getD (0, 0, 0, 0)) = true := by decide +kernel
set_option maxRecDepth 20000 in
theorem tw139 : kW ((tWs[139]?).getD (0, 0, 0, 0)).1 = some (.code tY139.1 tY139.2.1 tM139.2.1 tY139.2.2) := rfl
theorem tk139 : eMok tCl lw_g tNs tMs tYs tM139 tY139 := kM_ok (q := (tWs[139]?).getD (0, 0, 0, 0)) (show ∀ ch ∈ tC139, _ from List.forall_mem_cons.mpr ⟨tc139_0, List.forall_mem_cons.mpr ⟨tc139_1, List.forall_mem_cons.mpr ⟨tc139_2, fun _ h => absurd h List.not_mem_nil⟩⟩⟩) tw139 tm139
theorem tc140_0 : tC140_0.all (kEn tY140.1 tY140.2.1) = true := by decide +kernel
theorem tm140 : kM tM140 tY140 ((tWs[140]?).getD (0, 0, 0, 0)) = true := by decide +kernel
set_option maxRecDepth 20000 in
theorem tw140 : kW ((tWs[140]?).getD (0, 0, 0, 0)).1 = some (.code tY140.1 tY140.2.1 tM140.2.1 tY140.2.2) := rfl
theorem tk140 : eMok tCl lw_g tNs tMs tYs tM140 tY140 := kM_ok (q := (tWs[140]?).getD (0, 0, 0, 0)) (show ∀ ch ∈ tC140, _ from List.forall_mem_cons.mpr ⟨tc140_0, fun _ h => absurd h List.not_mem_nil⟩) tw140 tm140
theorem tc141_0 : tC141_0.all (kEn tY141.1 tY141.2.1) = true := by decide +kernel
theorem tm141 : kM tM141 tY141 ((tWs[141]?).getD (0, 0, 0, 0)) = true := by decide +kernel
set_option maxRecDepth 20000 in
theorem tw141 : kW ((tWs[141]?).getD (0, 0, 0, 0)).1 = some (.code tY141.1 tY141.2.1 tM141.2.1 tY141.2.2) := rfl
theorem tk141 : eMok tCl lw_g tNs tMs tYs tM141 tY141 := kM_ok (q := (tWs[141]?).getD (0, 0, 0, 0)) (show ∀ ch ∈ tC141, _ from List.forall_mem_cons.mpr ⟨tc141_0, fun _ h => absurd h List.not_mem_nil⟩) tw141 tm141
theorem tc142_0 : tC142_0.all (kEn tY142.1 tY142.2.1) = true := by decide +kernel
theorem tc142_1 : tC142_1.all (kEn tY142.1 tY142.2.1) = true := by decide +kernel
theorem tm142 : kM tM142 tY142 ((tWs[142]?).getD (0, 0, 0, 0)) = true := by decide +kernel
set_option maxRecDepth 20000 in
theorem tw142 : kW ((tWs[142]?).getD (0, 0, 0, 0)).1 = some (.code tY142.1 tY142.2.1 tM142.2.1 tY142.2.2) := rfl
theorem tk142 : eMok tCl lw_g tNs tMs tYs tM142 tY142 := kM_ok (q := (tWs[142]?).getD (0, 0, 0, 0)) (show ∀ ch ∈ tC142, _ from List.forall_mem_cons.mpr ⟨tc142_0, List.forall_mem_cons.mpr ⟨tc142_1, fun _ h => absurd h List.not_mem_nil⟩⟩) tw142 tm142
theorem tc143_0 : tC143_0.all (kEn tY143.1 tY143.2.1) = true := by decide +kernel
theorem tc143_1 : tC143_1.all (kEn tY143.1 tY143.2.1) = true := by decide +kernel
theorem tc143_2 : tC143_2.all (kEn tY143.1 tY143.2.1) = true := by decide +kernel
theorem tc143_3 : tC143_3.all (kEn tY143.1 tY143.2.1) = true := by decide +kernel
theorem tm143 : kM tM143 tY143 ((tWs[143]?).getD (0, 0, 0, 0)) = true := by decide +kernel
set_option maxRecDepth 20000 in
theorem tw143 : kW ((tWs[143]?).getD (0, 0, 0, 0)).1 = some (.code tY143.1 tY143.2.1 tM143.2.1 tY143.2.2) := rfl
theorem tk143 : eMok tCl lw_g tNs tMs tYs tM143 tY143 := kM_ok (q := (tWs[143]?).getD (0, 0, 0, 0)) (show ∀ ch ∈ tC143, _ from List.forall_mem_cons.mpr ⟨tc143_0, List.forall_mem_cons.mpr ⟨tc143_1, List.forall_mem_cons.mpr ⟨tc143_2, List.forall_mem_cons.mpr ⟨tc143_3, fun _ h => absurd h List.not_mem_nil⟩⟩⟩⟩) tw143 tm143
theorem tc144_0 : tC144_0.all (kEn tY144.1 tY144.2.1) = true := by decide +kernel
theorem tc144_1 : tC144_1.all (kEn tY144.1 tY144.2.1) = true := by decide +kernel
theorem tc144_2 : tC144_2.all (kEn tY144.1 tY144.2.1) = true := by decide +kernel
theorem tc144_3 : tC144_3.all (kEn tY144.1 tY144.2.1) = true := by decide +kernel
theorem tc144_4 : tC144_4.all (kEn tY144.1 tY144.2.1) = true := by decide +kernel
theorem tm144 : kM tM144 tY144 ((tWs[144]?).getD (0, 0, 0, 0)) = true := by decide +kernel
set_option maxRecDepth 20000 in
theorem tw144 : kW ((tWs[144]?).getD (0, 0, 0, 0)).1 = some (.code tY144.1 tY144.2.1 tM144.2.1 tY144.2.2) := rfl
theorem tk144 : eMok tCl lw_g tNs tMs tYs tM144 tY144 := kM_ok (q := (tWs[144]?).getD (0, 0, 0, 0)) (show ∀ ch ∈ tC144, _ from List.forall_mem_cons.mpr ⟨tc144_0, List.forall_mem_cons.mpr ⟨tc144_1, List.forall_mem_cons.mpr ⟨tc144_2, List.forall_mem_cons.mpr ⟨tc144_3, List.forall_mem_cons.mpr ⟨tc144_4, fun _ h => absurd h List.not_mem_nil⟩⟩⟩⟩⟩) tw144 tm144
theorem tc145_0 : tC145_0.all (kEn tY145.1 tY145.2.1) = true := by decide +kernel
theorem tc145_1 : tC145_1.all (kEn tY145.1 tY145.2.1) = true := by decide +kernel
theorem tm145 : kM tM145 tY145 ((tWs[145]?).getD (0, 0, 0, 0)) = true := by decide +kernel
set_option maxRecDepth 20000 in
theorem tw145 : kW ((tWs[145]?).getD (0, 0, 0, 0)).1 = some (.code tY145.1 tY145.2.1 tM145.2.1 tY145.2.2) := rfl
theorem tk145 : eMok tCl lw_g tNs tMs tYs tM145 tY145 := kM_ok (q := (tWs[145]?).getD (0, 0, 0, 0)) (show ∀ ch ∈ tC145, _ from List.forall_mem_cons.mpr ⟨tc145_0, List.forall_mem_cons.mpr ⟨tc145_1, fun _ h => absurd h List.not_mem_nil⟩⟩) tw145 tm145
theorem tc146_0 : tC146_0.all (kEn tY146.1 tY146.2.1) = true := by decide +kernel
theorem tc146_1 : tC146_1.all (kEn tY146.1 tY146.2.1) = true := by decide +kernel
theorem tc146_2 : tC146_2.all (kEn tY146.1 tY146.2.1) = true := by decide +kernel
theorem tc146_3 : tC146_3.all (kEn tY146.1 tY146.2.1) = true := by decide +kernel
theorem tm146 : kM tM146 tY146 ((tWs[146]?).getD (0, 0, 0, 0)) = true := by decide +kernel
set_option maxRecDepth 20000 in
theorem tw146 : kW ((tWs[146]?).getD (0, 0, 0, 0)).1 = some (.code tY146.1 tY146.2.1 tM146.2.1 tY146.2.2) := rfl
theorem tk146 : eMok tCl lw_g tNs tMs tYs tM146 tY146 := kM_ok (q := (tWs[146]?).getD (0, 0, 0, 0)) (show ∀ ch ∈ tC146, _ from List.forall_mem_cons.mpr ⟨tc146_0, List.forall_mem_cons.mpr ⟨tc146_1, List.forall_mem_cons.mpr ⟨tc146_2, List.forall_mem_cons.mpr ⟨tc146_3, fun _ h => absurd h List.not_mem_nil⟩⟩⟩⟩) tw146 tm146
theorem tc147_0 : tC147_0.all (kEn tY147.1 tY147.2.1) = true := by decide +kernel
theorem tc147_1 : tC147_1.all (kEn tY147.1 tY147.2.1) = true := by decide +kernel
theorem tm147 : kM tM147 tY147 ((tWs[147]?).getD (0, 0, 0, 0)) = true := by decide +kernel
set_option maxRecDepth 20000 in
theorem tw147 : kW ((tWs[147]?).getD (0, 0, 0, 0)).1 = some (.code tY147.1 tY147.2.1 tM147.2.1 tY147.2.2) := rfl
theorem tk147 : eMok tCl lw_g tNs tMs tYs tM147 tY147 := kM_ok (q := (tWs[147]?).getD (0, 0, 0, 0)) (show ∀ ch ∈ tC147, _ from List.forall_mem_cons.mpr ⟨tc147_0, List.forall_mem_cons.mpr ⟨tc147_1, fun _ h => absurd h List.not_mem_nil⟩⟩) tw147 tm147
theorem tc148_0 : tC148_0.all (kEn tY148.1 tY148.2.1) = true := by decide +kernel
theorem tc148_1 : tC148_1.all (kEn tY148.1 tY148.2.1) = true := by decide +kernel
theorem tc148_2 : tC148_2.all (kEn tY148.1 tY148.2.1) = true := by decide +kernel
theorem tm148 : kM tM148 tY148 ((tWs[148]?).getD (0, 0, 0, 0)) = true := by decide +kernel
set_option maxRecDepth 20000 in
theorem tw148 : kW ((tWs[148]?).getD (0, 0, 0, 0)).1 = some (.code tY148.1 tY148.2.1 tM148.2.1 tY148.2.2) := rfl
theorem tk148 : eMok tCl lw_g tNs tMs tYs tM148 tY148 := kM_ok (q := (tWs[148]?).getD (0, 0, 0, 0)) (show ∀ ch ∈ tC148, _ from List.forall_mem_cons.mpr ⟨tc148_0, List.forall_mem_cons.mpr ⟨tc148_1, List.forall_mem_cons.mpr ⟨tc148_2, fun _ h => absurd h List.not_mem_nil⟩⟩⟩) tw148 tm148
theorem tc149_0 : tC149_0.all (kEn tY149.1 tY149.2.1) = true := by decide +kernel
theorem tc149_1 : tC149_1.all (kEn tY149.1 tY149.2.1) = true := by decide +kernel
theorem tc149_2 : tC149_2.all (kEn tY149.1 tY149.2.1) = true := by decide +kernel
theorem tc149_3 : tC149_3.all (kEn tY149.1 tY149.2.1) = true := by decide +kernel
theorem tm149 : kM tM149 tY149 ((tWs[149]?).getD (0, 0, 0, 0)) = true := by decide +kernel
set_option maxRecDepth 20000 in
theorem tw149 : kW ((tWs[149]?).getD (0, 0, 0, 0)).1 = some (.code tY149.1 tY149.2.1 tM149.2.1 tY149.2.2) := rfl
theorem tk149 : eMok tCl lw_g tNs tMs tYs tM149 tY149 := kM_ok (q := (tWs[149]?).getD (0, 0, 0, 0)) (show ∀ ch ∈ tC149, _ from List.forall_mem_cons.mpr ⟨tc149_0, List.forall_mem_cons.mpr ⟨tc149_1, List.forall_mem_cons.mpr ⟨tc149_2, List.forall_mem_cons.mpr ⟨tc149_3, fun _ h => absurd h List.not_mem_nil⟩⟩⟩⟩) tw149 tm149
theorem tc150_0 : tC150_0.all (kEn tY150.1 tY150.2.1) = true := by decide +kernel
theorem tc150_1 : tC150_1.all (kEn tY150.1 tY150.2.1) = true := by decide +kernel
theorem tm150 : kM tM150 tY150 ((tWs[150]?).getD (0, 0, 0, 0)) = true := by decide +kernel
set_option maxRecDepth 20000 in
theorem tw150 : kW ((tWs[150]?).getD (0, 0, 0, 0)).1 = some (.code tY150.1 tY150.2.1 tM150.2.1 tY150.2.2) := rfl
theorem tk150 : eMok tCl lw_g tNs tMs tYs tM150 tY150 := kM_ok (q := (tWs[150]?).getD (0, 0, 0, 0)) (show ∀ ch ∈ tC150, _ from List.forall_mem_cons.mpr ⟨tc150_0, List.forall_mem_cons.mpr ⟨tc150_1, fun _ h => absurd h List.not_mem_nil⟩⟩) tw150 tm150
theorem tc151_0 : tC151_0.all (kEn tY151.1 tY151.2.1) = true := by decide +kernel
theorem tc151_1 : tC151_1.all (kEn tY151.1 tY151.2.1) = true := by decide +kernel
theorem tm151 : kM tM151 tY151 ((tWs[151]?).getD (0, 0, 0, 0)) = true := by decide +kernel
set_option maxRecDepth 20000 in
theorem tw151 : kW ((tWs[151]?).getD (0, 0, 0, 0)).1 = some (.code tY151.1 tY151.2.1 tM151.2.1 tY151.2.2) := rfl
theorem tk151 : eMok tCl lw_g tNs tMs tYs tM151 tY151 := kM_ok (q := (tWs[151]?).getD (0, 0, 0, 0)) (show ∀ ch ∈ tC151, _ from List.forall_mem_cons.mpr ⟨tc151_0, List.forall_mem_cons.mpr ⟨tc151_1, fun _ h => absurd h List.not_mem_nil⟩⟩) tw151 tm151
theorem tc152_0 : tC152_0.all (kEn tY152.1 tY152.2.1) = true := by decide +kernel
theorem tc152_1 : tC152_1.all (kEn tY152.1 tY152.2.1) = true := by decide +kernel
theorem tm152 : kM tM152 tY152 ((tWs[152]?).getD (0, 0, 0, 0)) = true := by decide +kernel
set_option maxRecDepth 20000 in
theorem tw152 : kW ((tWs[152]?).getD (0, 0, 0, 0)).1 = some (.code tY152.1 tY152.2.1 tM152.2.1 tY152.2.2) := rfl
theorem tk152 : eMok tCl lw_g tNs tMs tYs tM152 tY152 := kM_ok (q := (tWs[152]?).getD (0, 0, 0, 0)) (show ∀ ch ∈ tC152, _ from List.forall_mem_cons.mpr ⟨tc152_0, List.forall_mem_cons.mpr ⟨tc152_1, fun _ h => absurd h List.not_mem_nil⟩⟩) tw152 tm152
theorem tc153_0 : tC153_0.all (kEn tY153.1 tY153.2.1) = true := by decide +kernel
theorem tc153_1 : tC153_1.all (kEn tY153.1 tY153.2.1) = true := by decide +kernel
theorem tm153 : kM tM153 tY153 ((tWs[153]?).getD (0, 0, 0, 0)) = true := by decide +kernel
set_option maxRecDepth 20000 in
theorem tw153 : kW ((tWs[153]?).getD (0, 0, 0, 0)).1 = some (.code tY153.1 tY153.2.1 tM153.2.1 tY153.2.2) := rfl
theorem tk153 : eMok tCl lw_g tNs tMs tYs tM153 tY153 := kM_ok (q := (tWs[153]?).getD (0, 0, 0, 0)) (show ∀ ch ∈ tC153, _ from List.forall_mem_cons.mpr ⟨tc153_0, List.forall_mem_cons.mpr ⟨tc153_1, fun _ h => absurd h List.not_mem_nil⟩⟩) tw153 tm153
theorem tc154_0 : tC154_0.all (kEn tY154.1 tY154.2.1) = true := by decide +kernel
theorem tc154_1 : tC154_1.all (kEn tY154.1 tY154.2.1) = true := by decide +kernel
theorem tc154_2 : tC154_2.all (kEn tY154.1 tY154.2.1) = true := by decide +kernel
theorem tm154 : kM tM154 tY154 ((tWs[154]?).getD (0, 0, 0, 0)) = true := by decide +kernel
set_option maxRecDepth 20000 in
theorem tw154 : kW ((tWs[154]?).getD (0, 0, 0, 0)).1 = some (.code tY154.1 tY154.2.1 tM154.2.1 tY154.2.2) := rfl
theorem tk154 : eMok tCl lw_g tNs tMs tYs tM154 tY154 := kM_ok (q := (tWs[154]?).getD (0, 0, 0, 0)) (show ∀ ch ∈ tC154, _ from List.forall_mem_cons.mpr ⟨tc154_0, List.forall_mem_cons.mpr ⟨tc154_1, List.forall_mem_cons.mpr ⟨tc154_2, fun _ h => absurd h List.not_mem_nil⟩⟩⟩) tw154 tm154
theorem tc155_0 : tC155_0.all (kEn tY155.1 tY155.2.1) = true := by decide +kernel
theorem tc155_1 : tC155_1.all (kEn tY155.1 tY155.2.1) = true := by decide +kernel
theorem tc155_2 : tC155_2.all (kEn tY155.1 tY155.2.1) = true := by decide +kernel
theorem tc155_3 : tC155_3.all (kEn tY155.1 tY155.2.1) = true := by decide +kernel
theorem tc155_4 : tC155_4.all (kEn tY155.1 tY155.2.1) = true := by decide +kernel
theorem tc155_5 : tC155_5.all (kEn tY155.1 tY155.2.1) = true := by decide +kernel
theorem tm155 : kM tM155 tY155 ((tWs[155]?).getD (0, 0, 0, 0)) = true := by decide +kernel
set_option maxRecDepth 20000 in
theorem tw155 : kW ((tWs[155]?).getD (0, 0, 0, 0)).1 = some (.code tY155.1 tY155.2.1 tM155.2.1 tY155.2.2) := rfl
theorem tk155 : eMok tCl lw_g tNs tMs tYs tM155 tY155 := kM_ok (q := (tWs[155]?).getD (0, 0, 0, 0)) (show ∀ ch ∈ tC155, _ from List.forall_mem_cons.mpr ⟨tc155_0, List.forall_mem_cons.mpr ⟨tc155_1, List.forall_mem_cons.mpr ⟨tc155_2, List.forall_mem_cons.mpr ⟨tc155_3, List.forall_mem_cons.mpr ⟨tc155_4, List.forall_mem_cons.mpr ⟨tc155_5, fun _ h => absurd h List.not_mem_nil⟩⟩⟩⟩⟩⟩) tw155 tm155
theorem tc156_0 : tC156_0.all (kEn tY156.1 tY156.2.1) = true := by decide +kernel
theorem tm156 : kM tM156 tY156 ((tWs[156]?).getD (0, 0, 0, 0)) = true := by decide +kernel
set_option maxRecDepth 20000 in
theorem tw156 : kW ((tWs[156]?).getD (0, 0, 0, 0)).1 = some (.code tY156.1 tY156.2.1 tM156.2.1 tY156.2.2) := rfl
theorem tk156 : eMok tCl lw_g tNs tMs tYs tM156 tY156 := kM_ok (q := (tWs[156]?).getD (0, 0, 0, 0)) (show ∀ ch ∈ tC156, _ from List.forall_mem_cons.mpr ⟨tc156_0, fun _ h => absurd h List.not_mem_nil⟩) tw156 tm156
theorem tc157_0 : tC157_0.all (kEn tY157.1 tY157.2.1) = true := by decide +kernel
theorem tc157_1 : tC157_1.all (kEn tY157.1 tY157.2.1) = true := by decide +kernel
theorem tm157 : kM tM157 tY157 ((tWs[157]?).getD (0, 0, 0, 0)) = true := by decide +kernel
set_option maxRecDepth 20000 in
theorem tw157 : kW ((tWs[157]?).getD (0, 0, 0, 0)).1 = some (.code tY157.1 tY157.2.1 tM157.2.1 tY157.2.2) := rfl
theorem tk157 : eMok tCl lw_g tNs tMs tYs tM157 tY157 := kM_ok (q := (tWs[157]?).getD (0, 0, 0, 0)) (show ∀ ch ∈ tC157, _ from List.forall_mem_cons.mpr ⟨tc157_0, List.forall_mem_cons.mpr ⟨tc157_1, fun _ h => absurd h List.not_mem_nil⟩⟩) tw157 tm157
