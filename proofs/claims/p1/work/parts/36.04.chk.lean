theorem tc126_0 : tC126_0.all (kEn tY126.1 tY126.2.1) = true := by decide +kernel
theorem tc126_1 : tC126_1.all (kEn tY126.1 tY126.2.1) = true := by decide +kernel
theorem tc126_2 : tC126_2.all (kEn tY126.1 tY126.2.1) = true := by decide +kernel
theorem tm126 : kM tM126 tY126 ((tWs[126]?).getD (0, 0, 0, 0)) = true := by decide +kernel
set_option maxRecDepth 20000 in
theorem tw126 : kW ((tWs[126]?).getD (0, 0, 0, 0)).1 = some (.code tY126.1 tY126.2.1 tM126.2.1 tY126.2.2) := rfl
theorem tk126 : eMok tCl lw_g tNs tMs tYs tM126 tY126 := kM_ok (q := (tWs[126]?).getD (0, 0, 0, 0)) (show ∀ ch ∈ tC126, _ from List.forall_mem_cons.mpr ⟨tc126_0, List.forall_mem_cons.mpr ⟨tc126_1, List.forall_mem_cons.mpr ⟨tc126_2, fun _ h => absurd h List.not_mem_nil⟩⟩⟩) tw126 tm126
theorem tc127_0 : tC127_0.all (kEn tY127.1 tY127.2.1) = true := by decide +kernel
theorem tm127 : kM tM127 tY127 ((tWs[127]?).getD (0, 0, 0, 0)) = true := by decide +kernel
set_option maxRecDepth 20000 in
theorem tw127 : kW ((tWs[127]?).getD (0, 0, 0, 0)).1 = some (.code tY127.1 tY127.2.1 tM127.2.1 tY127.2.2) := rfl
theorem tk127 : eMok tCl lw_g tNs tMs tYs tM127 tY127 := kM_ok (q := (tWs[127]?).getD (0, 0, 0, 0)) (show ∀ ch ∈ tC127, _ from List.forall_mem_cons.mpr ⟨tc127_0, fun _ h => absurd h List.not_mem_nil⟩) tw127 tm127
theorem tc128_0 : tC128_0.all (kEn tY128.1 tY128.2.1) = true := by decide +kernel
theorem tm128 : kM tM128 tY128 ((tWs[128]?).getD (0, 0, 0, 0)) = true := by decide +kernel
set_option maxRecDepth 20000 in
theorem tw128 : kW ((tWs[128]?).getD (0, 0, 0, 0)).1 = some (.code tY128.1 tY128.2.1 tM128.2.1 tY128.2.2) := rfl
theorem tk128 : eMok tCl lw_g tNs tMs tYs tM128 tY128 := kM_ok (q := (tWs[128]?).getD (0, 0, 0, 0)) (show ∀ ch ∈ tC128, _ from List.forall_mem_cons.mpr ⟨tc128_0, fun _ h => absurd h List.not_mem_nil⟩) tw128 tm128
theorem tc129_0 : tC129_0.all (kEn tY129.1 tY129.2.1) = true := by decide +kernel
theorem tc129_1 : tC129_1.all (kEn tY129.1 tY129.2.1) = true := by decide +kernel
theorem tm129 : kM tM129 tY129 ((tWs[129]?).getD (0, 0, 0, 0)) = true := by decide +kernel
set_option maxRecDepth 20000 in
theorem tw129 : kW ((tWs[129]?).getD (0, 0, 0, 0)).1 = some (.code tY129.1 tY129.2.1 tM129.2.1 tY129.2.2) := rfl
theorem tk129 : eMok tCl lw_g tNs tMs tYs tM129 tY129 := kM_ok (q := (tWs[129]?).getD (0, 0, 0, 0)) (show ∀ ch ∈ tC129, _ from List.forall_mem_cons.mpr ⟨tc129_0, List.forall_mem_cons.mpr ⟨tc129_1, fun _ h => absurd h List.not_mem_nil⟩⟩) tw129 tm129
theorem tc130_0 : tC130_0.all (kEn tY130.1 tY130.2.1) = true := by decide +kernel
theorem tm130 : kM tM130 tY130 ((tWs[130]?).getD (0, 0, 0, 0)) = true := by decide +kernel
set_option maxRecDepth 20000 in
theorem tw130 : kW ((tWs[130]?).getD (0, 0, 0, 0)).1 = some (.code tY130.1 tY130.2.1 tM130.2.1 tY130.2.2) := rfl
theorem tk130 : eMok tCl lw_g tNs tMs tYs tM130 tY130 := kM_ok (q := (tWs[130]?).getD (0, 0, 0, 0)) (show ∀ ch ∈ tC130, _ from List.forall_mem_cons.mpr ⟨tc130_0, fun _ h => absurd h List.not_mem_nil⟩) tw130 tm130
theorem tc131_0 : tC131_0.all (kEn tY131.1 tY131.2.1) = true := by decide +kernel
theorem tm131 : kM tM131 tY131 ((tWs[131]?).getD (0, 0, 0, 0)) = true := by decide +kernel
set_option maxRecDepth 20000 in
theorem tw131 : kW ((tWs[131]?).getD (0, 0, 0, 0)).1 = some (.code tY131.1 tY131.2.1 tM131.2.1 tY131.2.2) := rfl
theorem tk131 : eMok tCl lw_g tNs tMs tYs tM131 tY131 := kM_ok (q := (tWs[131]?).getD (0, 0, 0, 0)) (show ∀ ch ∈ tC131, _ from List.forall_mem_cons.mpr ⟨tc131_0, fun _ h => absurd h List.not_mem_nil⟩) tw131 tm131
theorem tc132_0 : tC132_0.all (kEn tY132.1 tY132.2.1) = true := by decide +kernel
theorem tm132 : kM tM132 tY132 ((tWs[132]?).getD (0, 0, 0, 0)) = true := by decide +kernel
set_option maxRecDepth 20000 in
theorem tw132 : kW ((tWs[132]?).getD (0, 0, 0, 0)).1 = some (.code tY132.1 tY132.2.1 tM132.2.1 tY132.2.2) := rfl
theorem tk132 : eMok tCl lw_g tNs tMs tYs tM132 tY132 := kM_ok (q := (tWs[132]?).getD (0, 0, 0, 0)) (show ∀ ch ∈ tC132, _ from List.forall_mem_cons.mpr ⟨tc132_0, fun _ h => absurd h List.not_mem_nil⟩) tw132 tm132
theorem tc133_0 : tC133_0.all (kEn tY133.1 tY133.2.1) = true := by decide +kernel
theorem tc133_1 : tC133_1.all (kEn tY133.1 tY133.2.1) = true := by decide +kernel
theorem tm133 : kM tM133 tY133 ((tWs[133]?).getD (0, 0, 0, 0)) = true := by decide +kernel
set_option maxRecDepth 20000 in
theorem tw133 : kW ((tWs[133]?).getD (0, 0, 0, 0)).1 = some (.code tY133.1 tY133.2.1 tM133.2.1 tY133.2.2) := rfl
theorem tk133 : eMok tCl lw_g tNs tMs tYs tM133 tY133 := kM_ok (q := (tWs[133]?).getD (0, 0, 0, 0)) (show ∀ ch ∈ tC133, _ from List.forall_mem_cons.mpr ⟨tc133_0, List.forall_mem_cons.mpr ⟨tc133_1, fun _ h => absurd h List.not_mem_nil⟩⟩) tw133 tm133
theorem tc134_0 : tC134_0.all (kEn tY134.1 tY134.2.1) = true := by decide +kernel
theorem tc134_1 : tC134_1.all (kEn tY134.1 tY134.2.1) = true := by decide +kernel
theorem tc134_2 : tC134_2.all (kEn tY134.1 tY134.2.1) = true := by decide +kernel
theorem tm134 : kM tM134 tY134 ((tWs[134]?).getD (0, 0, 0, 0)) = true := by decide +kernel
set_option maxRecDepth 20000 in
theorem tw134 : kW ((tWs[134]?).getD (0, 0, 0, 0)).1 = some (.code tY134.1 tY134.2.1 tM134.2.1 tY134.2.2) := rfl
theorem tk134 : eMok tCl lw_g tNs tMs tYs tM134 tY134 := kM_ok (q := (tWs[134]?).getD (0, 0, 0, 0)) (show ∀ ch ∈ tC134, _ from List.forall_mem_cons.mpr ⟨tc134_0, List.forall_mem_cons.mpr ⟨tc134_1, List.forall_mem_cons.mpr ⟨tc134_2, fun _ h => absurd h List.not_mem_nil⟩⟩⟩) tw134 tm134
theorem tc135_0 : tC135_0.all (kEn tY135.1 tY135.2.1) = true := by decide +kernel
theorem tc135_1 : tC135_1.all (kEn tY135.1 tY135.2.1) = true := by decide +kernel
theorem tm135 : kM tM135 tY135 ((tWs[135]?).getD (0, 0, 0, 0)) = true := by decide +kernel
set_option maxRecDepth 20000 in
theorem tw135 : kW ((tWs[135]?).getD (0, 0, 0, 0)).1 = some (.code tY135.1 tY135.2.1 tM135.2.1 tY135.2.2) := rfl
theorem tk135 : eMok tCl lw_g tNs tMs tYs tM135 tY135 := kM_ok (q := (tWs[135]?).getD (0, 0, 0, 0)) (show ∀ ch ∈ tC135, _ from List.forall_mem_cons.mpr ⟨tc135_0, List.forall_mem_cons.mpr ⟨tc135_1, fun _ h => absurd h List.not_mem_nil⟩⟩) tw135 tm135
theorem tc136_0 : tC136_0.all (kEn tY136.1 tY136.2.1) = true := by decide +kernel
theorem tm136 : kM tM136 tY136 ((tWs[136]?).getD (0, 0, 0, 0)) = true := by decide +kernel
set_option maxRecDepth 20000 in
theorem tw136 : kW ((tWs[136]?).getD (0, 0, 0, 0)).1 = some (.code tY136.1 tY136.2.1 tM136.2.1 tY136.2.2) := rfl
theorem tk136 : eMok tCl lw_g tNs tMs tYs tM136 tY136 := kM_ok (q := (tWs[136]?).getD (0, 0, 0, 0)) (show ∀ ch ∈ tC136, _ from List.forall_mem_cons.mpr ⟨tc136_0, fun _ h => absurd h List.not_mem_nil⟩) tw136 tm136
theorem tc137_0 : tC137_0.all (kEn tY137.1 tY137.2.1) = true := by decide +kernel
theorem tc137_1 : tC137_1.all (kEn tY137.1 tY137.2.1) = true := by decide +kernel
theorem tc137_2 : tC137_2.all (kEn tY137.1 tY137.2.1) = true := by decide +kernel
theorem tc137_3 : tC137_3.all (kEn tY137.1 tY137.2.1) = true := by decide +kernel
theorem tc137_4 : tC137_4.all (kEn tY137.1 tY137.2.1) = true := by decide +kernel
theorem tm137 : kM tM137 tY137 ((tWs[137]?).getD (0, 0, 0, 0)) = true := by decide +kernel
set_option maxRecDepth 20000 in
theorem tw137 : kW ((tWs[137]?).getD (0, 0, 0, 0)).1 = some (.code tY137.1 tY137.2.1 tM137.2.1 tY137.2.2) := rfl
theorem tk137 : eMok tCl lw_g tNs tMs tYs tM137 tY137 := kM_ok (q := (tWs[137]?).getD (0, 0, 0, 0)) (show ∀ ch ∈ tC137, _ from List.forall_mem_cons.mpr ⟨tc137_0, List.forall_mem_cons.mpr ⟨tc137_1, List.forall_mem_cons.mpr ⟨tc137_2, List.forall_mem_cons.mpr ⟨tc137_3, List.forall_mem_cons.mpr ⟨tc137_4, fun _ h => absurd h List.not_mem_nil⟩⟩⟩⟩⟩) tw137 tm137
theorem tc138_0 : tC138_0.all (kEn tY138.1 tY138.2.1) = true := by decide +kernel
theorem tc138_1 : tC138_1.all (kEn tY138.1 tY138.2.1) = true := by decide +kernel
theorem tc138_2 : tC138_2.all (kEn tY138.1 tY138.2.1) = true := by decide +kernel
theorem tc138_3 : tC138_3.all (kEn tY138.1 tY138.2.1) = true := by decide +kernel
theorem tc138_4 : tC138_4.all (kEn tY138.1 tY138.2.1) = true := by decide +kernel
theorem tc138_5 : tC138_5.all (kEn tY138.1 tY138.2.1) = true := by decide +kernel
theorem tm138 : kM tM138 tY138 ((tWs[138]?).getD (0, 0, 0, 0)) = true := by decide +kernel
set_option maxRecDepth 20000 in
theorem tw138 : kW ((tWs[138]?).getD (0, 0, 0, 0)).1 = some (.code tY138.1 tY138.2.1 tM138.2.1 tY138.2.2) := rfl
theorem tk138 : eMok tCl lw_g tNs tMs tYs tM138 tY138 := kM_ok (q := (tWs[138]?).getD (0, 0, 0, 0)) (show ∀ ch ∈ tC138, _ from List.forall_mem_cons.mpr ⟨tc138_0, List.forall_mem_cons.mpr ⟨tc138_1, List.forall_mem_cons.mpr ⟨tc138_2, List.forall_mem_cons.mpr ⟨tc138_3, List.forall_mem_cons.mpr ⟨tc138_4, List.forall_mem_cons.mpr ⟨tc138_5, fun _ h => absurd h List.not_mem_nil⟩⟩⟩⟩⟩⟩) tw138 tm138
theorem tc139_0 : tC139_0.all (kEn tY139.1 tY139.2.1) = true := by decide +kernel
theorem tc139_1 : tC139_1.all (kEn tY139.1 tY139.2.1) = true := by decide +kernel
theorem tm139 : kM tM139 tY139 ((tWs[139]?).getD (0, 0, 0, 0)) = true := by decide +kernel
set_option maxRecDepth 20000 in
theorem tw139 : kW ((tWs[139]?).getD (0, 0, 0, 0)).1 = some (.code tY139.1 tY139.2.1 tM139.2.1 tY139.2.2) := rfl
theorem tk139 : eMok tCl lw_g tNs tMs tYs tM139 tY139 := kM_ok (q := (tWs[139]?).getD (0, 0, 0, 0)) (show ∀ ch ∈ tC139, _ from List.forall_mem_cons.mpr ⟨tc139_0, List.forall_mem_cons.mpr ⟨tc139_1, fun _ h => absurd h List.not_mem_nil⟩⟩) tw139 tm139
theorem tc140_0 : tC140_0.all (kEn tY140.1 tY140.2.1) = true := by decide +kernel
theorem tc140_1 : tC140_1.all (kEn tY140.1 tY140.2.1) = true := by decide +kernel
theorem tm140 : kM tM140 tY140 ((tWs[140]?).getD (0, 0, 0, 0)) = true := by decide +kernel
set_option maxRecDepth 20000 in
theorem tw140 : kW ((tWs[140]?).getD (0, 0, 0, 0)).1 = some (.code tY140.1 tY140.2.1 tM140.2.1 tY140.2.2) := rfl
theorem tk140 : eMok tCl lw_g tNs tMs tYs tM140 tY140 := kM_ok (q := (tWs[140]?).getD (0, 0, 0, 0)) (show ∀ ch ∈ tC140, _ from List.forall_mem_cons.mpr ⟨tc140_0, List.forall_mem_cons.mpr ⟨tc140_1, fun _ h => absurd h List.not_mem_nil⟩⟩) tw140 tm140
theorem tc141_0 : tC141_0.all (kEn tY141.1 tY141.2.1) = true := by decide +kernel
theorem tm141 : kM tM141 tY141 ((tWs[141]?).getD (0, 0, 0, 0)) = true := by decide +kernel
set_option maxRecDepth 20000 in
theorem tw141 : kW ((tWs[141]?).getD (0, 0, 0, 0)).1 = some (.code tY141.1 tY141.2.1 tM141.2.1 tY141.2.2) := rfl
theorem tk141 : eMok tCl lw_g tNs tMs tYs tM141 tY141 := kM_ok (q := (tWs[141]?).getD (0, 0, 0, 0)) (show ∀ ch ∈ tC141, _ from List.forall_mem_cons.mpr ⟨tc141_0, fun _ h => absurd h List.not_mem_nil⟩) tw141 tm141
theorem tc142_0 : tC142_0.all (kEn tY142.1 tY142.2.1) = true := by decide +kernel
theorem tc142_1 : tC142_1.all (kEn tY142.1 tY142.2.1) = true := by decide +kernel
theorem tc142_2 : tC142_2.all (kEn tY142.1 tY142.2.1) = true := by decide +kernel
theorem tc142_3 : tC142_3.all (kEn tY142.1 tY142.2.1) = true := by decide +kernel
theorem tm142 : kM tM142 tY142 ((tWs[142]?).getD (0, 0, 0, 0)) = true := by decide +kernel
set_option maxRecDepth 20000 in
theorem tw142 : kW ((tWs[142]?).getD (0, 0, 0, 0)).1 = some (.code tY142.1 tY142.2.1 tM142.2.1 tY142.2.2) := rfl
theorem tk142 : eMok tCl lw_g tNs tMs tYs tM142 tY142 := kM_ok (q := (tWs[142]?).getD (0, 0, 0, 0)) (show ∀ ch ∈ tC142, _ from List.forall_mem_cons.mpr ⟨tc142_0, List.forall_mem_cons.mpr ⟨tc142_1, List.forall_mem_cons.mpr ⟨tc142_2, List.forall_mem_cons.mpr ⟨tc142_3, fun _ h => absurd h List.not_mem_nil⟩⟩⟩⟩) tw142 tm142
theorem tc143_0 : tC143_0.all (kEn tY143.1 tY143.2.1) = true := by decide +kernel
theorem tm143 : kM tM143 tY143 ((tWs[143]?).getD (0, 0, 0, 0)) = true := by decide +kernel
set_option maxRecDepth 20000 in
theorem tw143 : kW ((tWs[143]?).getD (0, 0, 0, 0)).1 = some (.code tY143.1 tY143.2.1 tM143.2.1 tY143.2.2) := rfl
theorem tk143 : eMok tCl lw_g tNs tMs tYs tM143 tY143 := kM_ok (q := (tWs[143]?).getD (0, 0, 0, 0)) (show ∀ ch ∈ tC143, _ from List.forall_mem_cons.mpr ⟨tc143_0, fun _ h => absurd h List.not_mem_nil⟩) tw143 tm143
theorem tc144_0 : tC144_0.all (kEn tY144.1 tY144.2.1) = true := by decide +kernel
theorem tm144 : kM tM144 tY144 ((tWs[144]?).getD (0, 0, 0, 0)) = true := by decide +kernel
set_option maxRecDepth 20000 in
theorem tw144 : kW ((tWs[144]?).getD (0, 0, 0, 0)).1 = some (.code tY144.1 tY144.2.1 tM144.2.1 tY144.2.2) := rfl
theorem tk144 : eMok tCl lw_g tNs tMs tYs tM144 tY144 := kM_ok (q := (tWs[144]?).getD (0, 0, 0, 0)) (show ∀ ch ∈ tC144, _ from List.forall_mem_cons.mpr ⟨tc144_0, fun _ h => absurd h List.not_mem_nil⟩) tw144 tm144
theorem tc145_0 : tC145_0.all (kEn tY145.1 tY145.2.1) = true := by decide +kernel
theorem tm145 : kM tM145 tY145 ((tWs[145]?).getD (0, 0, 0, 0)) = true := by decide +kernel
set_option maxRecDepth 20000 in
theorem tw145 : kW ((tWs[145]?).getD (0, 0, 0, 0)).1 = some (.code tY145.1 tY145.2.1 tM145.2.1 tY145.2.2) := rfl
theorem tk145 : eMok tCl lw_g tNs tMs tYs tM145 tY145 := kM_ok (q := (tWs[145]?).getD (0, 0, 0, 0)) (show ∀ ch ∈ tC145, _ from List.forall_mem_cons.mpr ⟨tc145_0, fun _ h => absurd h List.not_mem_nil⟩) tw145 tm145
theorem tc146_0 : tC146_0.all (kEn tY146.1 tY146.2.1) = true := by decide +kernel
theorem tm146 : kM tM146 tY146 ((tWs[146]?).getD (0, 0, 0, 0)) = true := by decide +kernel
set_option maxRecDepth 20000 in
theorem tw146 : kW ((tWs[146]?).getD (0, 0, 0, 0)).1 = some (.code tY146.1 tY146.2.1 tM146.2.1 tY146.2.2) := rfl
theorem tk146 : eMok tCl lw_g tNs tMs tYs tM146 tY146 := kM_ok (q := (tWs[146]?).getD (0, 0, 0, 0)) (show ∀ ch ∈ tC146, _ from List.forall_mem_cons.mpr ⟨tc146_0, fun _ h => absurd h List.not_mem_nil⟩) tw146 tm146
theorem tc147_0 : tC147_0.all (kEn tY147.1 tY147.2.1) = true := by decide +kernel
theorem tm147 : kM tM147 tY147 ((tWs[147]?).getD (0, 0, 0, 0)) = true := by decide +kernel
set_option maxRecDepth 20000 in
theorem tw147 : kW ((tWs[147]?).getD (0, 0, 0, 0)).1 = some (.code tY147.1 tY147.2.1 tM147.2.1 tY147.2.2) := rfl
theorem tk147 : eMok tCl lw_g tNs tMs tYs tM147 tY147 := kM_ok (q := (tWs[147]?).getD (0, 0, 0, 0)) (show ∀ ch ∈ tC147, _ from List.forall_mem_cons.mpr ⟨tc147_0, fun _ h => absurd h List.not_mem_nil⟩) tw147 tm147
theorem tc148_0 : tC148_0.all (kEn tY148.1 tY148.2.1) = true := by decide +kernel
theorem tm148 : kM tM148 tY148 ((tWs[148]?).getD (0, 0, 0, 0)) = true := by decide +kernel
set_option maxRecDepth 20000 in
theorem tw148 : kW ((tWs[148]?).getD (0, 0, 0, 0)).1 = some (.code tY148.1 tY148.2.1 tM148.2.1 tY148.2.2) := rfl
theorem tk148 : eMok tCl lw_g tNs tMs tYs tM148 tY148 := kM_ok (q := (tWs[148]?).getD (0, 0, 0, 0)) (show ∀ ch ∈ tC148, _ from List.forall_mem_cons.mpr ⟨tc148_0, fun _ h => absurd h List.not_mem_nil⟩) tw148 tm148
theorem tc149_0 : tC149_0.all (kEn tY149.1 tY149.2.1) = true := by decide +kernel
theorem tm149 : kM tM149 tY149 ((tWs[149]?).getD (0, 0, 0, 0)) = true := by decide +kernel
set_option maxRecDepth 20000 in
theorem tw149 : kW ((tWs[149]?).getD (0, 0, 0, 0)).1 = some (.code tY149.1 tY149.2.1 tM149.2.1 tY149.2.2) := rfl
theorem tk149 : eMok tCl lw_g tNs tMs tYs tM149 tY149 := kM_ok (q := (tWs[149]?).getD (0, 0, 0, 0)) (show ∀ ch ∈ tC149, _ from List.forall_mem_cons.mpr ⟨tc149_0, fun _ h => absurd h List.not_mem_nil⟩) tw149 tm149
theorem tc150_0 : tC150_0.all (kEn tY150.1 tY150.2.1) = true := by decide +kernel
theorem tm150 : kM tM150 tY150 ((tWs[150]?).getD (0, 0, 0, 0)) = true := by decide +kernel
set_option maxRecDepth 20000 in
theorem tw150 : kW ((tWs[150]?).getD (0, 0, 0, 0)).1 = some (.code tY150.1 tY150.2.1 tM150.2.1 tY150.2.2) := rfl
theorem tk150 : eMok tCl lw_g tNs tMs tYs tM150 tY150 := kM_ok (q := (tWs[150]?).getD (0, 0, 0, 0)) (show ∀ ch ∈ tC150, _ from List.forall_mem_cons.mpr ⟨tc150_0, fun _ h => absurd h List.not_mem_nil⟩) tw150 tm150
theorem tc151_0 : tC151_0.all (kEn tY151.1 tY151.2.1) = true := by decide +kernel
theorem tm151 : kM tM151 tY151 ((tWs[151]?).getD (0, 0, 0, 0)) = true := by decide +kernel
set_option maxRecDepth 20000 in
theorem tw151 : kW ((tWs[151]?).getD (0, 0, 0, 0)).1 = some (.code tY151.1 tY151.2.1 tM151.2.1 tY151.2.2) := rfl
theorem tk151 : eMok tCl lw_g tNs tMs tYs tM151 tY151 := kM_ok (q := (tWs[151]?).getD (0, 0, 0, 0)) (show ∀ ch ∈ tC151, _ from List.forall_mem_cons.mpr ⟨tc151_0, fun _ h => absurd h List.not_mem_nil⟩) tw151 tm151
theorem tc152_0 : tC152_0.all (kEn tY152.1 tY152.2.1) = true := by decide +kernel
theorem tm152 : kM tM152 tY152 ((tWs[152]?).getD (0, 0, 0, 0)) = true := by decide +kernel
set_option maxRecDepth 20000 in
theorem tw152 : kW ((tWs[152]?).getD (0, 0, 0, 0)).1 = some (.code tY152.1 tY152.2.1 tM152.2.1 tY152.2.2) := rfl
theorem tk152 : eMok tCl lw_g tNs tMs tYs tM152 tY152 := kM_ok (q := (tWs[152]?).getD (0, 0, 0, 0)) (show ∀ ch ∈ tC152, _ from List.forall_mem_cons.mpr ⟨tc152_0, fun _ h => absurd h List.not_mem_nil⟩) tw152 tm152
theorem tc153_0 : tC153_0.all (kEn tY153.1 tY153.2.1) = true := by decide +kernel
theorem tc153_1 : tC153_1.all (kEn tY153.1 tY153.2.1) = true := by decide +kernel
theorem tm153 : kM tM153 tY153 ((tWs[153]?).getD (0, 0, 0, 0)) = true := by decide +kernel
set_option maxRecDepth 20000 in
theorem tw153 : kW ((tWs[153]?).getD (0, 0, 0, 0)).1 = some (.code tY153.1 tY153.2.1 tM153.2.1 tY153.2.2) := rfl
theorem tk153 : eMok tCl lw_g tNs tMs tYs tM153 tY153 := kM_ok (q := (tWs[153]?).getD (0, 0, 0, 0)) (show ∀ ch ∈ tC153, _ from List.forall_mem_cons.mpr ⟨tc153_0, List.forall_mem_cons.mpr ⟨tc153_1, fun _ h => absurd h List.not_mem_nil⟩⟩) tw153 tm153
theorem tc154_0 : tC154_0.all (kEn tY154.1 tY154.2.1) = true := by decide +kernel
theorem tc154_1 : tC154_1.all (kEn tY154.1 tY154.2.1) = true := by decide +kernel
theorem tm154 : kM tM154 tY154 ((tWs[154]?).getD (0, 0, 0, 0)) = true := by decide +kernel
set_option maxRecDepth 20000 in
theorem tw154 : kW ((tWs[154]?).getD (0, 0, 0, 0)).1 = some (.code tY154.1 tY154.2.1 tM154.2.1 tY154.2.2) := rfl
theorem tk154 : eMok tCl lw_g tNs tMs tYs tM154 tY154 := kM_ok (q := (tWs[154]?).getD (0, 0, 0, 0)) (show ∀ ch ∈ tC154, _ from List.forall_mem_cons.mpr ⟨tc154_0, List.forall_mem_cons.mpr ⟨tc154_1, fun _ h => absurd h List.not_mem_nil⟩⟩) tw154 tm154
theorem tc155_0 : tC155_0.all (kEn tY155.1 tY155.2.1) = true := by decide +kernel
theorem tm155 : kM tM155 tY155 ((tWs[155]?).getD (0, 0, 0, 0)) = true := by decide +kernel
set_option maxRecDepth 20000 in
theorem tw155 : kW ((tWs[155]?).getD (0, 0, 0, 0)).1 = some (.code tY155.1 tY155.2.1 tM155.2.1 tY155.2.2) := rfl
theorem tk155 : eMok tCl lw_g tNs tMs tYs tM155 tY155 := kM_ok (q := (tWs[155]?).getD (0, 0, 0, 0)) (show ∀ ch ∈ tC155, _ from List.forall_mem_cons.mpr ⟨tc155_0, fun _ h => absurd h List.not_mem_nil⟩) tw155 tm155
theorem tc156_0 : tC156_0.all (kEn tY156.1 tY156.2.1) = true := by decide +kernel
theorem tm156 : kM tM156 tY156 ((tWs[156]?).getD (0, 0, 0, 0)) = true := by decide +kernel
set_option maxRecDepth 20000 in
theorem tw156 : kW ((tWs[156]?).getD (0, 0, 0, 0)).1 = some (.code tY156.1 tY156.2.1 tM156.2.1 tY156.2.2) := rfl
theorem tk156 : eMok tCl lw_g tNs tMs tYs tM156 tY156 := kM_ok (q := (tWs[156]?).getD (0, 0, 0, 0)) (show ∀ ch ∈ tC156, _ from List.forall_mem_cons.mpr ⟨tc156_0, fun _ h => absurd h List.not_mem_nil⟩) tw156 tm156
theorem tc157_0 : tC157_0.all (kEn tY157.1 tY157.2.1) = true := by decide +kernel
theorem tm157 : kM tM157 tY157 ((tWs[157]?).getD (0, 0, 0, 0)) = true := by decide +kernel
set_option maxRecDepth 20000 in
theorem tw157 : kW ((tWs[157]?).getD (0, 0, 0, 0)).1 = some (.code tY157.1 tY157.2.1 tM157.2.1 tY157.2.2) := rfl
theorem tk157 : eMok tCl lw_g tNs tMs tYs tM157 tY157 := kM_ok (q := (tWs[157]?).getD (0, 0, 0, 0)) (show ∀ ch ∈ tC157, _ from List.forall_mem_cons.mpr ⟨tc157_0, fun _ h => absurd h List.not_mem_nil⟩) tw157 tm157
theorem tc158_0 : tC158_0.all (kEn tY158.1 tY158.2.1) = true := by decide +kernel
theorem tc158_1 : tC158_1.all (kEn tY158.1 tY158.2.1) = true := by decide +kernel
theorem tm158 : kM tM158 tY158 ((tWs[158]?).getD (0, 0, 0, 0)) = true := by decide +kernel
set_option maxRecDepth 20000 in
theorem tw158 : kW ((tWs[158]?).getD (0, 0, 0, 0)).1 = some (.code tY158.1 tY158.2.1 tM158.2.1 tY158.2.2) := rfl
theorem tk158 : eMok tCl lw_g tNs tMs tYs tM158 tY158 := kM_ok (q := (tWs[158]?).getD (0, 0, 0, 0)) (show ∀ ch ∈ tC158, _ from List.forall_mem_cons.mpr ⟨tc158_0, List.forall_mem_cons.mpr ⟨tc158_1, fun _ h => absurd h List.not_mem_nil⟩⟩) tw158 tm158
theorem tc159_0 : tC159_0.all (kEn tY159.1 tY159.2.1) = true := by decide +kernel
theorem tc159_1 : tC159_1.all (kEn tY159.1 tY159.2.1) = true := by decide +kernel
theorem tm159 : kM tM159 tY159 ((tWs[159]?).getD (0, 0, 0, 0)) = true := by decide +kernel
set_option maxRecDepth 20000 in
theorem tw159 : kW ((tWs[159]?).getD (0, 0, 0, 0)).1 = some (.code tY159.1 tY159.2.1 tM159.2.1 tY159.2.2) := rfl
theorem tk159 : eMok tCl lw_g tNs tMs tYs tM159 tY159 := kM_ok (q := (tWs[159]?).getD (0, 0, 0, 0)) (show ∀ ch ∈ tC159, _ from List.forall_mem_cons.mpr ⟨tc159_0, List.forall_mem_cons.mpr ⟨tc159_1, fun _ h => absurd h List.not_mem_nil⟩⟩) tw159 tm159
theorem tc160_0 : tC160_0.all (kEn tY160.1 tY160.2.1) = true := by decide +kernel
theorem tm160 : kM tM160 tY160 ((tWs[160]?).getD (0, 0, 0, 0)) = true := by decide +kernel
set_option maxRecDepth 20000 in
theorem tw160 : kW ((tWs[160]?).getD (0, 0, 0, 0)).1 = some (.code tY160.1 tY160.2.1 tM160.2.1 tY160.2.2) := rfl
theorem tk160 : eMok tCl lw_g tNs tMs tYs tM160 tY160 := kM_ok (q := (tWs[160]?).getD (0, 0, 0, 0)) (show ∀ ch ∈ tC160, _ from List.forall_mem_cons.mpr ⟨tc160_0, fun _ h => absurd h List.not_mem_nil⟩) tw160 tm160
theorem tc161_0 : tC161_0.all (kEn tY161.1 tY161.2.1) = true := by decide +kernel
theorem tm161 : kM tM161 tY161 ((tWs[161]?).getD (0, 0, 0, 0)) = true := by decide +kernel
set_option maxRecDepth 20000 in
theorem tw161 : kW ((tWs[161]?).getD (0, 0, 0, 0)).1 = some (.code tY161.1 tY161.2.1 tM161.2.1 tY161.2.2) := rfl
theorem tk161 : eMok tCl lw_g tNs tMs tYs tM161 tY161 := kM_ok (q := (tWs[161]?).getD (0, 0, 0, 0)) (show ∀ ch ∈ tC161, _ from List.forall_mem_cons.mpr ⟨tc161_0, fun _ h => absurd h List.not_mem_nil⟩) tw161 tm161
theorem tc162_0 : tC162_0.all (kEn tY162.1 tY162.2.1) = true := by decide +kernel
theorem tm162 : kM tM162 tY162 ((tWs[162]?).getD (0, 0, 0, 0)) = true := by decide +kernel
set_option maxRecDepth 20000 in
theorem tw162 : kW ((tWs[162]?).getD (0, 0, 0, 0)).1 = some (.code tY162.1 tY162.2.1 tM162.2.1 tY162.2.2) := rfl
theorem tk162 : eMok tCl lw_g tNs tMs tYs tM162 tY162 := kM_ok (q := (tWs[162]?).getD (0, 0, 0, 0)) (show ∀ ch ∈ tC162, _ from List.forall_mem_cons.mpr ⟨tc162_0, fun _ h => absurd h List.not_mem_nil⟩) tw162 tm162
theorem tc163_0 : tC163_0.all (kEn tY163.1 tY163.2.1) = true := by decide +kernel
theorem tm163 : kM tM163 tY163 ((tWs[163]?).getD (0, 0, 0, 0)) = true := by decide +kernel
set_option maxRecDepth 20000 in
theorem tw163 : kW ((tWs[163]?).getD (0, 0, 0, 0)).1 = some (.code tY163.1 tY163.2.1 tM163.2.1 tY163.2.2) := rfl
theorem tk163 : eMok tCl lw_g tNs tMs tYs tM163 tY163 := kM_ok (q := (tWs[163]?).getD (0, 0, 0, 0)) (show ∀ ch ∈ tC163, _ from List.forall_mem_cons.mpr ⟨tc163_0, fun _ h => absurd h List.not_mem_nil⟩) tw163 tm163
theorem tc164_0 : tC164_0.all (kEn tY164.1 tY164.2.1) = true := by decide +kernel
theorem tc164_1 : tC164_1.all (kEn tY164.1 tY164.2.1) = true := by decide +kernel
theorem tm164 : kM tM164 tY164 ((tWs[164]?).getD (0, 0, 0, 0)) = true := by decide +kernel
set_option maxRecDepth 20000 in
theorem tw164 : kW ((tWs[164]?).getD (0, 0, 0, 0)).1 = some (.code tY164.1 tY164.2.1 tM164.2.1 tY164.2.2) := rfl
theorem tk164 : eMok tCl lw_g tNs tMs tYs tM164 tY164 := kM_ok (q := (tWs[164]?).getD (0, 0, 0, 0)) (show ∀ ch ∈ tC164, _ from List.forall_mem_cons.mpr ⟨tc164_0, List.forall_mem_cons.mpr ⟨tc164_1, fun _ h => absurd h List.not_mem_nil⟩⟩) tw164 tm164
theorem tc165_0 : tC165_0.all (kEn tY165.1 tY165.2.1) = true := by decide +kernel
theorem tc165_1 : tC165_1.all (kEn tY165.1 tY165.2.1) = true := by decide +kernel
theorem tc165_2 : tC165_2.all (kEn tY165.1 tY165.2.1) = true := by decide +kernel
theorem tm165 : kM tM165 tY165 ((tWs[165]?).getD (0, 0, 0, 0)) = true := by decide +kernel
set_option maxRecDepth 20000 in
theorem tw165 : kW ((tWs[165]?).getD (0, 0, 0, 0)).1 = some (.code tY165.1 tY165.2.1 tM165.2.1 tY165.2.2) := rfl
theorem tk165 : eMok tCl lw_g tNs tMs tYs tM165 tY165 := kM_ok (q := (tWs[165]?).getD (0, 0, 0, 0)) (show ∀ ch ∈ tC165, _ from List.forall_mem_cons.mpr ⟨tc165_0, List.forall_mem_cons.mpr ⟨tc165_1, List.forall_mem_cons.mpr ⟨tc165_2, fun _ h => absurd h List.not_mem_nil⟩⟩⟩) tw165 tm165
theorem tc166_0 : tC166_0.all (kEn tY166.1 tY166.2.1) = true := by decide +kernel
theorem tc166_1 : tC166_1.all (kEn tY166.1 tY166.2.1) = true := by decide +kernel
theorem tc166_2 : tC166_2.all (kEn tY166.1 tY166.2.1) = true := by decide +kernel
theorem tc166_3 : tC166_3.all (kEn tY166.1 tY166.2.1) = true := by decide +kernel
theorem tm166 : kM tM166 tY166 ((tWs[166]?).getD (0, 0, 0, 0)) = true := by decide +kernel
set_option maxRecDepth 20000 in
theorem tw166 : kW ((tWs[166]?).getD (0, 0, 0, 0)).1 = some (.code tY166.1 tY166.2.1 tM166.2.1 tY166.2.2) := rfl
theorem tk166 : eMok tCl lw_g tNs tMs tYs tM166 tY166 := kM_ok (q := (tWs[166]?).getD (0, 0, 0, 0)) (show ∀ ch ∈ tC166, _ from List.forall_mem_cons.mpr ⟨tc166_0, List.forall_mem_cons.mpr ⟨tc166_1, List.forall_mem_cons.mpr ⟨tc166_2, List.forall_mem_cons.mpr ⟨tc166_3, fun _ h => absurd h List.not_mem_nil⟩⟩⟩⟩) tw166 tm166
theorem tc167_0 : tC167_0.all (kEn tY167.1 tY167.2.1) = true := by decide +kernel
theorem tc167_1 : tC167_1.all (kEn tY167.1 tY167.2.1) = true := by decide +kernel
theorem tm167 : kM tM167 tY167 ((tWs[167]?).getD (0, 0, 0, 0)) = true := by decide +kernel
set_option maxRecDepth 20000 in
theorem tw167 : kW ((tWs[167]?).getD (0, 0, 0, 0)).1 = some (.code tY167.1 tY167.2.1 tM167.2.1 tY167.2.2) := rfl
theorem tk167 : eMok tCl lw_g tNs tMs tYs tM167 tY167 := kM_ok (q := (tWs[167]?).getD (0, 0, 0, 0)) (show ∀ ch ∈ tC167, _ from List.forall_mem_cons.mpr ⟨tc167_0, List.forall_mem_cons.mpr ⟨tc167_1, fun _ h => absurd h List.not_mem_nil⟩⟩) tw167 tm167
theorem tc168_0 : tC168_0.all (kEn tY168.1 tY168.2.1) = true := by decide +kernel
theorem tc168_1 : tC168_1.all (kEn tY168.1 tY168.2.1) = true := by decide +kernel
theorem tc168_2 : tC168_2.all (kEn tY168.1 tY168.2.1) = true := by decide +kernel
theorem tm168 : kM tM168 tY168 ((tWs[168]?).getD (0, 0, 0, 0)) = true := by decide +kernel
set_option maxRecDepth 20000 in
theorem tw168 : kW ((tWs[168]?).getD (0, 0, 0, 0)).1 = some (.code tY168.1 tY168.2.1 tM168.2.1 tY168.2.2) := rfl
theorem tk168 : eMok tCl lw_g tNs tMs tYs tM168 tY168 := kM_ok (q := (tWs[168]?).getD (0, 0, 0, 0)) (show ∀ ch ∈ tC168, _ from List.forall_mem_cons.mpr ⟨tc168_0, List.forall_mem_cons.mpr ⟨tc168_1, List.forall_mem_cons.mpr ⟨tc168_2, fun _ h => absurd h List.not_mem_nil⟩⟩⟩) tw168 tm168
theorem tc169_0 : tC169_0.all (kEn tY169.1 tY169.2.1) = true := by decide +kernel
theorem tm169 : kM tM169 tY169 ((tWs[169]?).getD (0, 0, 0, 0)) = true := by decide +kernel
set_option maxRecDepth 20000 in
theorem tw169 : kW ((tWs[169]?).getD (0, 0, 0, 0)).1 = some (.code tY169.1 tY169.2.1 tM169.2.1 tY169.2.2) := rfl
theorem tk169 : eMok tCl lw_g tNs tMs tYs tM169 tY169 := kM_ok (q := (tWs[169]?).getD (0, 0, 0, 0)) (show ∀ ch ∈ tC169, _ from List.forall_mem_cons.mpr ⟨tc169_0, fun _ h => absurd h List.not_mem_nil⟩) tw169 tm169
theorem tc170_0 : tC170_0.all (kEn tY170.1 tY170.2.1) = true := by decide +kernel
theorem tc170_1 : tC170_1.all (kEn tY170.1 tY170.2.1) = true := by decide +kernel
theorem tm170 : kM tM170 tY170 ((tWs[170]?).getD (0, 0, 0, 0)) = true := by decide +kernel
set_option maxRecDepth 20000 in
theorem tw170 : kW ((tWs[170]?).getD (0, 0, 0, 0)).1 = some (.code tY170.1 tY170.2.1 tM170.2.1 tY170.2.2) := rfl
theorem tk170 : eMok tCl lw_g tNs tMs tYs tM170 tY170 := kM_ok (q := (tWs[170]?).getD (0, 0, 0, 0)) (show ∀ ch ∈ tC170, _ from List.forall_mem_cons.mpr ⟨tc170_0, List.forall_mem_cons.mpr ⟨tc170_1, fun _ h => absurd h List.not_mem_nil⟩⟩) tw170 tm170
theorem tc171_0 : tC171_0.all (kEn tY171.1 tY171.2.1) = true := by decide +kernel
theorem tm171 : kM tM171 tY171 ((tWs[171]?).getD (0, 0, 0, 0)) = true := by decide +kernel
set_option maxRecDepth 20000 in
theorem tw171 : kW ((tWs[171]?).getD (0, 0, 0, 0)).1 = some (.code tY171.1 tY171.2.1 tM171.2.1 tY171.2.2) := rfl
theorem tk171 : eMok tCl lw_g tNs tMs tYs tM171 tY171 := kM_ok (q := (tWs[171]?).getD (0, 0, 0, 0)) (show ∀ ch ∈ tC171, _ from List.forall_mem_cons.mpr ⟨tc171_0, fun _ h => absurd h List.not_mem_nil⟩) tw171 tm171
theorem tc172_0 : tC172_0.all (kEn tY172.1 tY172.2.1) = true := by decide +kernel
theorem tm172 : kM tM172 tY172 ((tWs[172]?).getD (0, 0, 0, 0)) = true := by decide +kernel
set_option maxRecDepth 20000 in
theorem tw172 : kW ((tWs[172]?).getD (0, 0, 0, 0)).1 = some (.code tY172.1 tY172.2.1 tM172.2.1 tY172.2.2) := rfl
theorem tk172 : eMok tCl lw_g tNs tMs tYs tM172 tY172 := kM_ok (q := (tWs[172]?).getD (0, 0, 0, 0)) (show ∀ ch ∈ tC172, _ from List.forall_mem_cons.mpr ⟨tc172_0, fun _ h => absurd h List.not_mem_nil⟩) tw172 tm172
theorem tc173_0 : tC173_0.all (kEn tY173.1 tY173.2.1) = true := by decide +kernel
theorem tc173_1 : tC173_1.all (kEn tY173.1 tY173.2.1) = true := by decide +kernel
theorem tm173 : kM tM173 tY173 ((tWs[173]?).getD (0, 0, 0, 0)) = true := by decide +kernel
set_option maxRecDepth 20000 in
theorem tw173 : kW ((tWs[173]?).getD (0, 0, 0, 0)).1 = some (.code tY173.1 tY173.2.1 tM173.2.1 tY173.2.2) := rfl
theorem tk173 : eMok tCl lw_g tNs tMs tYs tM173 tY173 := kM_ok (q := (tWs[173]?).getD (0, 0, 0, 0)) (show ∀ ch ∈ tC173, _ from List.forall_mem_cons.mpr ⟨tc173_0, List.forall_mem_cons.mpr ⟨tc173_1, fun _ h => absurd h List.not_mem_nil⟩⟩) tw173 tm173
theorem tc174_0 : tC174_0.all (kEn tY174.1 tY174.2.1) = true := by decide +kernel
theorem tc174_1 : tC174_1.all (kEn tY174.1 tY174.2.1) = true := by decide +kernel
theorem tm174 : kM tM174 tY174 ((tWs[174]?).getD (0, 0, 0, 0)) = true := by decide +kernel
set_option maxRecDepth 20000 in
theorem tw174 : kW ((tWs[174]?).getD (0, 0, 0, 0)).1 = some (.code tY174.1 tY174.2.1 tM174.2.1 tY174.2.2) := rfl
theorem tk174 : eMok tCl lw_g tNs tMs tYs tM174 tY174 := kM_ok (q := (tWs[174]?).getD (0, 0, 0, 0)) (show ∀ ch ∈ tC174, _ from List.forall_mem_cons.mpr ⟨tc174_0, List.forall_mem_cons.mpr ⟨tc174_1, fun _ h => absurd h List.not_mem_nil⟩⟩) tw174 tm174
theorem tc175_0 : tC175_0.all (kEn tY175.1 tY175.2.1) = true := by decide +kernel
theorem tm175 : kM tM175 tY175 ((tWs[175]?).getD (0, 0, 0, 0)) = true := by decide +kernel
set_option maxRecDepth 20000 in
theorem tw175 : kW ((tWs[175]?).getD (0, 0, 0, 0)).1 = some (.code tY175.1 tY175.2.1 tM175.2.1 tY175.2.2) := rfl
theorem tk175 : eMok tCl lw_g tNs tMs tYs tM175 tY175 := kM_ok (q := (tWs[175]?).getD (0, 0, 0, 0)) (show ∀ ch ∈ tC175, _ from List.forall_mem_cons.mpr ⟨tc175_0, fun _ h => absurd h List.not_mem_nil⟩) tw175 tm175
theorem tc176_0 : tC176_0.all (kEn tY176.1 tY176.2.1) = true := by decide +kernel
theorem tm176 : kM tM176 tY176 ((tWs[176]?).getD (0, 0, 0, 0)) = true := by decide +kernel
set_option maxRecDepth 20000 in
theorem tw176 : kW ((tWs[176]?).getD (0, 0, 0, 0)).1 = some (.code tY176.1 tY176.2.1 tM176.2.1 tY176.2.2) := rfl
theorem tk176 : eMok tCl lw_g tNs tMs tYs tM176 tY176 := kM_ok (q := (tWs[176]?).getD (0, 0, 0, 0)) (show ∀ ch ∈ tC176, _ from List.forall_mem_cons.mpr ⟨tc176_0, fun _ h => absurd h List.not_mem_nil⟩) tw176 tm176
theorem tc177_0 : tC177_0.all (kEn tY177.1 tY177.2.1) = true := by decide +kernel
theorem tc177_1 : tC177_1.all (kEn tY177.1 tY177.2.1) = true := by decide +kernel
theorem tc177_2 : tC177_2.all (kEn tY177.1 tY177.2.1) = true := by decide +kernel
theorem tc177_3 : tC177_3.all (kEn tY177.1 tY177.2.1) = true := by decide +kernel
theorem tc177_4 : tC177_4.all (kEn tY177.1 tY177.2.1) = true := by decide +kernel
theorem tc177_5 : tC177_5.all (kEn tY177.1 tY177.2.1) = true := by decide +kernel
theorem tc177_6 : tC177_6.all (kEn tY177.1 tY177.2.1) = true := by decide +kernel
theorem tc177_7 : tC177_7.all (kEn tY177.1 tY177.2.1) = true := by decide +kernel
theorem tm177 : kM tM177 tY177 ((tWs[177]?).getD (0, 0, 0, 0)) = true := by decide +kernel
set_option maxRecDepth 20000 in
theorem tw177 : kW ((tWs[177]?).getD (0, 0, 0, 0)).1 = some (.code tY177.1 tY177.2.1 tM177.2.1 tY177.2.2) := rfl
theorem tk177 : eMok tCl lw_g tNs tMs tYs tM177 tY177 := kM_ok (q := (tWs[177]?).getD (0, 0, 0, 0)) (show ∀ ch ∈ tC177, _ from List.forall_mem_cons.mpr ⟨tc177_0, List.forall_mem_cons.mpr ⟨tc177_1, List.forall_mem_cons.mpr ⟨tc177_2, List.forall_mem_cons.mpr ⟨tc177_3, List.forall_mem_cons.mpr ⟨tc177_4, List.forall_mem_cons.mpr ⟨tc177_5, List.forall_mem_cons.mpr ⟨tc177_6, List.forall_mem_cons.mpr ⟨tc177_7, fun _ h => absurd h List.not_mem_nil⟩⟩⟩⟩⟩⟩⟩⟩) tw177 tm177
theorem tc178_0 : tC178_0.all (kEn tY178.1 tY178.2.1) = true := by decide +kernel
theorem tc178_1 : tC178_1.all (kEn tY178.1 tY178.2.1) = true := by decide +kernel
theorem tm178 : kM tM178 tY178 ((tWs[178]?).getD (0, 0, 0, 0)) = true := by decide +kernel
set_option maxRecDepth 20000 in
theorem tw178 : kW ((tWs[178]?).getD (0, 0, 0, 0)).1 = some (.code tY178.1 tY178.2.1 tM178.2.1 tY178.2.2) := rfl
theorem tk178 : eMok tCl lw_g tNs tMs tYs tM178 tY178 := kM_ok (q := (tWs[178]?).getD (0, 0, 0, 0)) (show ∀ ch ∈ tC178, _ from List.forall_mem_cons.mpr ⟨tc178_0, List.forall_mem_cons.mpr ⟨tc178_1, fun _ h => absurd h List.not_mem_nil⟩⟩) tw178 tm178
theorem tc179_0 : tC179_0.all (kEn tY179.1 tY179.2.1) = true := by decide +kernel
theorem tm179 : kM tM179 tY179 ((tWs[179]?).getD (0, 0, 0, 0)) = true := by decide +kernel
set_option maxRecDepth 20000 in
theorem tw179 : kW ((tWs[179]?).getD (0, 0, 0, 0)).1 = some (.code tY179.1 tY179.2.1 tM179.2.1 tY179.2.2) := rfl
theorem tk179 : eMok tCl lw_g tNs tMs tYs tM179 tY179 := kM_ok (q := (tWs[179]?).getD (0, 0, 0, 0)) (show ∀ ch ∈ tC179, _ from List.forall_mem_cons.mpr ⟨tc179_0, fun _ h => absurd h List.not_mem_nil⟩) tw179 tm179
theorem tc180_0 : tC180_0.all (kEn tY180.1 tY180.2.1) = true := by decide +kernel
theorem tc180_1 : tC180_1.all (kEn tY180.1 tY180.2.1) = true := by decide +kernel
theorem tm180 : kM tM180 tY180 ((tWs[180]?).getD (0, 0, 0, 0)) = true := by decide +kernel
set_option maxRecDepth 20000 in
theorem tw180 : kW ((tWs[180]?).getD (0, 0, 0, 0)).1 = some (.code tY180.1 tY180.2.1 tM180.2.1 tY180.2.2) := rfl
theorem tk180 : eMok tCl lw_g tNs tMs tYs tM180 tY180 := kM_ok (q := (tWs[180]?).getD (0, 0, 0, 0)) (show ∀ ch ∈ tC180, _ from List.forall_mem_cons.mpr ⟨tc180_0, List.forall_mem_cons.mpr ⟨tc180_1, fun _ h => absurd h List.not_mem_nil⟩⟩) tw180 tm180
