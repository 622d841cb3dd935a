theorem tc158_0 : tC158_0.all (kEn tY158.1 tY158.2.1) = true := by decide +kernel
theorem tm158 : kM tM158 tY158 ((tWs[158]?).getD (0, 0, 0, 0)) = true := by decide +kernel
set_option maxRecDepth 20000 in
theorem tw158 : kW ((tWs[158]?).getD (0, 0, 0, 0)).1 = some (.code tY158.1 tY158.2.1 tM158.2.1 tY158.2.2) := rfl
theorem tk158 : eMok tCl lw_g tNs tMs tYs tM158 tY158 := kM_ok (q := (tWs[158]?).getD (0, 0, 0, 0)) (show ∀ ch ∈ tC158, _ from List.forall_mem_cons.mpr ⟨tc158_0, fun _ h => absurd h List.not_mem_nil⟩) tw158 tm158
theorem tc159_0 : tC159_0.all (kEn tY159.1 tY159.2.1) = true := by decide +kernel
theorem tm159 : kM tM159 tY159 ((tWs[159]?).getD (0, 0, 0, 0)) = true := by decide +kernel
set_option maxRecDepth 20000 in
theorem tw159 : kW ((tWs[159]?).getD (0, 0, 0, 0)).1 = some (.code tY159.1 tY159.2.1 tM159.2.1 tY159.2.2) := rfl
theorem tk159 : eMok tCl lw_g tNs tMs tYs tM159 tY159 := kM_ok (q := (tWs[159]?).getD (0, 0, 0, 0)) (show ∀ ch ∈ tC159, _ from List.forall_mem_cons.mpr ⟨tc159_0, fun _ h => absurd h List.not_mem_nil⟩) tw159 tm159
theorem tc160_0 : tC160_0.all (kEn tY160.1 tY160.2.1) = true := by decide +kernel
theorem tm160 : kM tM160 tY160 ((tWs[160]?).getD (0, 0, 0, 0)) = true := by decide +kernel
set_option maxRecDepth 20000 in
theorem tw160 : kW ((tWs[160]?).getD (0, 0, 0, 0)).1 = some (.code tY160.1 tY160.2.1 tM160.2.1 tY160.2.2) := rfl
theorem tk160 : eMok tCl lw_g tNs tMs tYs tM160 tY160 := kM_ok (q := (tWs[160]?).getD (0, 0, 0, 0)) (show ∀ ch ∈ tC160, _ from List.forall_mem_cons.mpr ⟨tc160_0, fun _ h => absurd h List.not_mem_nil⟩) tw160 tm160
theorem tc161_0 : tC161_0.all (kEn tY161.1 tY161.2.1) = true := by decide +kernel
theorem tc161_1 : tC161_1.all (kEn tY161.1 tY161.2.1) = true := by decide +kernel
theorem tc161_2 : tC161_2.all (kEn tY161.1 tY161.2.1) = true := by decide +kernel
theorem tm161 : kM tM161 tY161 ((tWs[161]?).getD (0, 0, 0, 0)) = true := by decide +kernel
set_option maxRecDepth 20000 in
theorem tw161 : kW ((tWs[161]?).getD (0, 0, 0, 0)).1 = some (.code tY161.1 tY161.2.1 tM161.2.1 tY161.2.2) := rfl
theorem tk161 : eMok tCl lw_g tNs tMs tYs tM161 tY161 := kM_ok (q := (tWs[161]?).getD (0, 0, 0, 0)) (show ∀ ch ∈ tC161, _ from List.forall_mem_cons.mpr ⟨tc161_0, List.forall_mem_cons.mpr ⟨tc161_1, List.forall_mem_cons.mpr ⟨tc161_2, fun _ h => absurd h List.not_mem_nil⟩⟩⟩) tw161 tm161
theorem tc162_0 : tC162_0.all (kEn tY162.1 tY162.2.1) = true := by decide +kernel
theorem tm162 : kM tM162 tY162 ((tWs[162]?).getD (0, 0, 0, 0)) = true := by decide +kernel
set_option maxRecDepth 20000 in
theorem tw162 : kW ((tWs[162]?).getD (0, 0, 0, 0)).1 = some (.code tY162.1 tY162.2.1 tM162.2.1 tY162.2.2) := rfl
theorem tk162 : eMok tCl lw_g tNs tMs tYs tM162 tY162 := kM_ok (q := (tWs[162]?).getD (0, 0, 0, 0)) (show ∀ ch ∈ tC162, _ from List.forall_mem_cons.mpr ⟨tc162_0, fun _ h => absurd h List.not_mem_nil⟩) tw162 tm162
theorem tc163_0 : tC163_0.all (kEn tY163.1 tY163.2.1) = true := by decide +kernel
theorem tc163_1 : tC163_1.all (kEn tY163.1 tY163.2.1) = true := by decide +kernel
theorem tc163_2 : tC163_2.all (kEn tY163.1 tY163.2.1) = true := by decide +kernel
theorem tc163_3 : tC163_3.all (kEn tY163.1 tY163.2.1) = true := by decide +kernel
theorem tc163_4 : tC163_4.all (kEn tY163.1 tY163.2.1) = true := by decide +kernel
theorem tm163 : kM tM163 tY163 ((tWs[163]?).getD (0, 0, 0, 0)) = true := by decide +kernel
set_option maxRecDepth 20000 in
theorem tw163 : kW ((tWs[163]?).getD (0, 0, 0, 0)).1 = some (.code tY163.1 tY163.2.1 tM163.2.1 tY163.2.2) := rfl
theorem tk163 : eMok tCl lw_g tNs tMs tYs tM163 tY163 := kM_ok (q := (tWs[163]?).getD (0, 0, 0, 0)) (show ∀ ch ∈ tC163, _ from List.forall_mem_cons.mpr ⟨tc163_0, List.forall_mem_cons.mpr ⟨tc163_1, List.forall_mem_cons.mpr ⟨tc163_2, List.forall_mem_cons.mpr ⟨tc163_3, List.forall_mem_cons.mpr ⟨tc163_4, fun _ h => absurd h List.not_mem_nil⟩⟩⟩⟩⟩) tw163 tm163
theorem tc164_0 : tC164_0.all (kEn tY164.1 tY164.2.1) = true := by decide +kernel
theorem tm164 : kM tM164 tY164 ((tWs[164]?).getD (0, 0, 0, 0)) = true := by decide +kernel
set_option maxRecDepth 20000 in
theorem tw164 : kW ((tWs[164]?).getD (0, 0, 0, 0)).1 = some (.code tY164.1 tY164.2.1 tM164.2.1 tY164.2.2) := rfl
theorem tk164 : eMok tCl lw_g tNs tMs tYs tM164 tY164 := kM_ok (q := (tWs[164]?).getD (0, 0, 0, 0)) (show ∀ ch ∈ tC164, _ from List.forall_mem_cons.mpr ⟨tc164_0, fun _ h => absurd h List.not_mem_nil⟩) tw164 tm164
theorem tc165_0 : tC165_0.all (kEn tY165.1 tY165.2.1) = true := by decide +kernel
theorem tc165_1 : tC165_1.all (kEn tY165.1 tY165.2.1) = true := by decide +kernel
theorem tc165_2 : tC165_2.all (kEn tY165.1 tY165.2.1) = true := by decide +kernel
theorem tm165 : kM tM165 tY165 ((tWs[165]?).getD (0, 0, 0, 0)) = true := by decide +kernel
set_option maxRecDepth 20000 in
theorem tw165 : kW ((tWs[165]?).getD (0, 0, 0, 0)).1 = some (.code tY165.1 tY165.2.1 tM165.2.1 tY165.2.2) := rfl
theorem tk165 : eMok tCl lw_g tNs tMs tYs tM165 tY165 := kM_ok (q := (tWs[165]?).getD (0, 0, 0, 0)) (show ∀ ch ∈ tC165, _ from List.forall_mem_cons.mpr ⟨tc165_0, List.forall_mem_cons.mpr ⟨tc165_1, List.forall_mem_cons.mpr ⟨tc165_2, fun _ h => absurd h List.not_mem_nil⟩⟩⟩) tw165 tm165
theorem tc166_0 : tC166_0.all (kEn tY166.1 tY166.2.1) = true := by decide +kernel
theorem tc166_1 : tC166_1.all (kEn tY166.1 tY166.2.1) = true := by decide +kernel
theorem tc166_2 : tC166_2.all (kEn tY166.1 tY166.2.1) = true := by decide +kernel
theorem tm166 : kM tM166 tY166 ((tWs[166]?).getD (0, 0, 0, 0)) = true := by decide +kernel
set_option maxRecDepth 20000 in
theorem tw166 : kW ((tWs[166]?).getD (0, 0, 0, 0)).1 = some (.code tY166.1 tY166.2.1 tM166.2.1 tY166.2.2) := rfl
theorem tk166 : eMok tCl lw_g tNs tMs tYs tM166 tY166 := kM_ok (q := (tWs[166]?).getD (0, 0, 0, 0)) (show ∀ ch ∈ tC166, _ from List.forall_mem_cons.mpr ⟨tc166_0, List.forall_mem_cons.mpr ⟨tc166_1, List.forall_mem_cons.mpr ⟨tc166_2, fun _ h => absurd h List.not_mem_nil⟩⟩⟩) tw166 tm166
theorem tc167_0 : tC167_0.all (kEn tY167.1 tY167.2.1) = true := by decide +kernel
theorem tc167_1 : tC167_1.all (kEn tY167.1 tY167.2.1) = true := by decide +kernel
theorem tc167_2 : tC167_2.all (kEn tY167.1 tY167.2.1) = true := by decide +kernel
theorem tc167_3 : tC167_3.all (kEn tY167.1 tY167.2.1) = true := by decide +kernel
theorem tm167 : kM tM167 tY167 ((tWs[167]?).getD (0, 0, 0, 0)) = true := by decide +kernel
set_option maxRecDepth 20000 in
theorem tw167 : kW ((tWs[167]?).getD (0, 0, 0, 0)).1 = some (.code tY167.1 tY167.2.1 tM167.2.1 tY167.2.2) := rfl
theorem tk167 : eMok tCl lw_g tNs tMs tYs tM167 tY167 := kM_ok (q := (tWs[167]?).getD (0, 0, 0, 0)) (show ∀ ch ∈ tC167, _ from List.forall_mem_cons.mpr ⟨tc167_0, List.forall_mem_cons.mpr ⟨tc167_1, List.forall_mem_cons.mpr ⟨tc167_2, List.forall_mem_cons.mpr ⟨tc167_3, fun _ h => absurd h List.not_mem_nil⟩⟩⟩⟩) tw167 tm167
theorem tc168_0 : tC168_0.all (kEn tY168.1 tY168.2.1) = true := by decide +kernel
theorem tc168_1 : tC168_1.all (kEn tY168.1 tY168.2.1) = true := by decide +kernel
theorem tc168_2 : tC168_2.all (kEn tY168.1 tY168.2.1) = true := by decide +kernel
theorem tc168_3 : tC168_3.all (kEn tY168.1 tY168.2.1) = true := by decide +kernel
theorem tm168 : kM tM168 tY168 ((tWs[168]?).getD (0, 0, 0, 0)) = true := by decide +kernel
set_option maxRecDepth 20000 in
theorem tw168 : kW ((tWs[168]?).getD (0, 0, 0, 0)).1 = some (.code tY168.1 tY168.2.1 tM168.2.1 tY168.2.2) := rfl
theorem tk168 : eMok tCl lw_g tNs tMs tYs tM168 tY168 := kM_ok (q := (tWs[168]?).getD (0, 0, 0, 0)) (show ∀ ch ∈ tC168, _ from List.forall_mem_cons.mpr ⟨tc168_0, List.forall_mem_cons.mpr ⟨tc168_1, List.forall_mem_cons.mpr ⟨tc168_2, List.forall_mem_cons.mpr ⟨tc168_3, fun _ h => absurd h List.not_mem_nil⟩⟩⟩⟩) tw168 tm168
theorem tc169_0 : tC169_0.all (kEn tY169.1 tY169.2.1) = true := by decide +kernel
theorem tc169_1 : tC169_1.all (kEn tY169.1 tY169.2.1) = true := by decide +kernel
theorem tm169 : kM tM169 tY169 ((tWs[169]?).getD (0, 0, 0, 0)) = true := by decide +kernel
set_option maxRecDepth 20000 in
theorem tw169 : kW ((tWs[169]?).getD (0, 0, 0, 0)).1 = some (.code tY169.1 tY169.2.1 tM169.2.1 tY169.2.2) := rfl
theorem tk169 : eMok tCl lw_g tNs tMs tYs tM169 tY169 := kM_ok (q := (tWs[169]?).getD (0, 0, 0, 0)) (show ∀ ch ∈ tC169, _ from List.forall_mem_cons.mpr ⟨tc169_0, List.forall_mem_cons.mpr ⟨tc169_1, fun _ h => absurd h List.not_mem_nil⟩⟩) tw169 tm169
theorem tc170_0 : tC170_0.all (kEn tY170.1 tY170.2.1) = true := by decide +kernel
theorem tc170_1 : tC170_1.all (kEn tY170.1 tY170.2.1) = true := by decide +kernel
theorem tc170_2 : tC170_2.all (kEn tY170.1 tY170.2.1) = true := by decide +kernel
theorem tc170_3 : tC170_3.all (kEn tY170.1 tY170.2.1) = true := by decide +kernel
theorem tc170_4 : tC170_4.all (kEn tY170.1 tY170.2.1) = true := by decide +kernel
theorem tc170_5 : tC170_5.all (kEn tY170.1 tY170.2.1) = true := by decide +kernel
theorem tm170 : kM tM170 tY170 ((tWs[170]?).getD (0, 0, 0, 0)) = true := by decide +kernel
set_option maxRecDepth 20000 in
theorem tw170 : kW ((tWs[170]?).getD (0, 0, 0, 0)).1 = some (.code tY170.1 tY170.2.1 tM170.2.1 tY170.2.2) := rfl
theorem tk170 : eMok tCl lw_g tNs tMs tYs tM170 tY170 := kM_ok (q := (tWs[170]?).getD (0, 0, 0, 0)) (show ∀ ch ∈ tC170, _ from List.forall_mem_cons.mpr ⟨tc170_0, List.forall_mem_cons.mpr ⟨tc170_1, List.forall_mem_cons.mpr ⟨tc170_2, List.forall_mem_cons.mpr ⟨tc170_3, List.forall_mem_cons.mpr ⟨tc170_4, List.forall_mem_cons.mpr ⟨tc170_5, fun _ h => absurd h List.not_mem_nil⟩⟩⟩⟩⟩⟩) tw170 tm170
theorem tc171_0 : tC171_0.all (kEn tY171.1 tY171.2.1) = true := by decide +kernel
theorem tc171_1 : tC171_1.all (kEn tY171.1 tY171.2.1) = true := by decide +kernel
theorem tm171 : kM tM171 tY171 ((tWs[171]?).getD (0, 0, 0, 0)) = true := by decide +kernel
set_option maxRecDepth 20000 in
theorem tw171 : kW ((tWs[171]?).getD (0, 0, 0, 0)).1 = some (.code tY171.1 tY171.2.1 tM171.2.1 tY171.2.2) := rfl
theorem tk171 : eMok tCl lw_g tNs tMs tYs tM171 tY171 := kM_ok (q := (tWs[171]?).getD (0, 0, 0, 0)) (show ∀ ch ∈ tC171, _ from List.forall_mem_cons.mpr ⟨tc171_0, List.forall_mem_cons.mpr ⟨tc171_1, fun _ h => absurd h List.not_mem_nil⟩⟩) tw171 tm171
theorem tc172_0 : tC172_0.all (kEn tY172.1 tY172.2.1) = true := by decide +kernel
theorem tm172 : kM tM172 tY172 ((tWs[172]?).getD (0, 0, 0, 0)) = true := by decide +kernel
set_option maxRecDepth 20000 in
theorem tw172 : kW ((tWs[172]?).getD (0, 0, 0, 0)).1 = some (.code tY172.1 tY172.2.1 tM172.2.1 tY172.2.2) := rfl
theorem tk172 : eMok tCl lw_g tNs tMs tYs tM172 tY172 := kM_ok (q := (tWs[172]?).getD (0, 0, 0, 0)) (show ∀ ch ∈ tC172, _ from List.forall_mem_cons.mpr ⟨tc172_0, fun _ h => absurd h List.not_mem_nil⟩) tw172 tm172
theorem tc173_0 : tC173_0.all (kEn tY173.1 tY173.2.1) = true := by decide +kernel
theorem tm173 : kM tM173 tY173 ((tWs[173]?).getD (0, 0, 0, 0)) = true := by decide +kernel
set_option maxRecDepth 20000 in
theorem tw173 : kW ((tWs[173]?).getD (0, 0, 0, 0)).1 = some (.code tY173.1 tY173.2.1 tM173.2.1 tY173.2.2) := rfl
theorem tk173 : eMok tCl lw_g tNs tMs tYs tM173 tY173 := kM_ok (q := (tWs[173]?).getD (0, 0, 0, 0)) (show ∀ ch ∈ tC173, _ from List.forall_mem_cons.mpr ⟨tc173_0, fun _ h => absurd h List.not_mem_nil⟩) tw173 tm173
theorem tc174_0 : tC174_0.all (kEn tY174.1 tY174.2.1) = true := by decide +kernel
theorem tc174_1 : tC174_1.all (kEn tY174.1 tY174.2.1) = true := by decide +kernel
theorem tc174_2 : tC174_2.all (kEn tY174.1 tY174.2.1) = true := by decide +kernel
theorem tm174 : kM tM174 tY174 ((tWs[174]?).getD (0, 0, 0, 0)) = true := by decide +kernel
set_option maxRecDepth 20000 in
theorem tw174 : kW ((tWs[174]?).getD (0, 0, 0, 0)).1 = some (.code tY174.1 tY174.2.1 tM174.2.1 tY174.2.2) := rfl
theorem tk174 : eMok tCl lw_g tNs tMs tYs tM174 tY174 := kM_ok (q := (tWs[174]?).getD (0, 0, 0, 0)) (show ∀ ch ∈ tC174, _ from List.forall_mem_cons.mpr ⟨tc174_0, List.forall_mem_cons.mpr ⟨tc174_1, List.forall_mem_cons.mpr ⟨tc174_2, fun _ h => absurd h List.not_mem_nil⟩⟩⟩) tw174 tm174
theorem tc175_0 : tC175_0.all (kEn tY175.1 tY175.2.1) = true := by decide +kernel
theorem tc175_1 : tC175_1.all (kEn tY175.1 tY175.2.1) = true := by decide +kernel
theorem tm175 : kM tM175 tY175 ((tWs[175]?).getD (0, 0, 0, 0)) = true := by decide +kernel
set_option maxRecDepth 20000 in
theorem tw175 : kW ((tWs[175]?).getD (0, 0, 0, 0)).1 = some (.code tY175.1 tY175.2.1 tM175.2.1 tY175.2.2) := rfl
theorem tk175 : eMok tCl lw_g tNs tMs tYs tM175 tY175 := kM_ok (q := (tWs[175]?).getD (0, 0, 0, 0)) (show ∀ ch ∈ tC175, _ from List.forall_mem_cons.mpr ⟨tc175_0, List.forall_mem_cons.mpr ⟨tc175_1, fun _ h => absurd h List.not_mem_nil⟩⟩) tw175 tm175
theorem tc176_0 : tC176_0.all (kEn tY176.1 tY176.2.1) = true := by decide +kernel
theorem tc176_1 : tC176_1.all (kEn tY176.1 tY176.2.1) = true := by decide +kernel
theorem tc176_2 : tC176_2.all (kEn tY176.1 tY176.2.1) = true := by decide +kernel
theorem tm176 : kM tM176 tY176 ((tWs[176]?).getD (0, 0, 0, 0)) = true := by decide +kernel
set_option maxRecDepth 20000 in
theorem tw176 : kW ((tWs[176]?).getD (0, 0, 0, 0)).1 = some (.code tY176.1 tY176.2.1 tM176.2.1 tY176.2.2) := rfl
theorem tk176 : eMok tCl lw_g tNs tMs tYs tM176 tY176 := kM_ok (q := (tWs[176]?).getD (0, 0, 0, 0)) (show ∀ ch ∈ tC176, _ from List.forall_mem_cons.mpr ⟨tc176_0, List.forall_mem_cons.mpr ⟨tc176_1, List.forall_mem_cons.mpr ⟨tc176_2, fun _ h => absurd h List.not_mem_nil⟩⟩⟩) tw176 tm176
theorem tc177_0 : tC177_0.all (kEn tY177.1 tY177.2.1) = true := by decide +kernel
theorem tc177_1 : tC177_1.all (kEn tY177.1 tY177.2.1) = true := by decide +kernel
theorem tc177_2 : tC177_2.all (kEn tY177.1 tY177.2.1) = true := by decide +kernel
theorem tm177 : kM tM177 tY177 ((tWs[177]?).getD (0, 0, 0, 0)) = true := by decide +kernel
set_option maxRecDepth 20000 in
theorem tw177 : kW ((tWs[177]?).getD (0, 0, 0, 0)).1 = some (.code tY177.1 tY177.2.1 tM177.2.1 tY177.2.2) := rfl
theorem tk177 : eMok tCl lw_g tNs tMs tYs tM177 tY177 := kM_ok (q := (tWs[177]?).getD (0, 0, 0, 0)) (show ∀ ch ∈ tC177, _ from List.forall_mem_cons.mpr ⟨tc177_0, List.forall_mem_cons.mpr ⟨tc177_1, List.forall_mem_cons.mpr ⟨tc177_2, fun _ h => absurd h List.not_mem_nil⟩⟩⟩) tw177 tm177
theorem tc178_0 : tC178_0.all (kEn tY178.1 tY178.2.1) = true := by decide +kernel
theorem tm178 : kM tM178 tY178 ((tWs[178]?).getD (0, 0, 0, 0)) = true := by decide +kernel
set_option maxRecDepth 20000 in
theorem tw178 : kW ((tWs[178]?).getD (0, 0, 0, 0)).1 = some (.code tY178.1 tY178.2.1 tM178.2.1 tY178.2.2) := rfl
theorem tk178 : eMok tCl lw_g tNs tMs tYs tM178 tY178 := kM_ok (q := (tWs[178]?).getD (0, 0, 0, 0)) (show ∀ ch ∈ tC178, _ from List.forall_mem_cons.mpr ⟨tc178_0, fun _ h => absurd h List.not_mem_nil⟩) tw178 tm178
theorem tc179_0 : tC179_0.all (kEn tY179.1 tY179.2.1) = true := by decide +kernel
theorem tc179_1 : tC179_1.all (kEn tY179.1 tY179.2.1) = true := by decide +kernel
theorem tm179 : kM tM179 tY179 ((tWs[179]?).getD (0, 0, 0, 0)) = true := by decide +kernel
set_option maxRecDepth 20000 in
theorem tw179 : kW ((tWs[179]?).getD (0, 0, 0, 0)).1 = some (.code tY179.1 tY179.2.1 tM179.2.1 tY179.2.2) := rfl
theorem tk179 : eMok tCl lw_g tNs tMs tYs tM179 tY179 := kM_ok (q := (tWs[179]?).getD (0, 0, 0, 0)) (show ∀ ch ∈ tC179, _ from List.forall_mem_cons.mpr ⟨tc179_0, List.forall_mem_cons.mpr ⟨tc179_1, fun _ h => absurd h List.not_mem_nil⟩⟩) tw179 tm179
theorem tc180_0 : tC180_0.all (kEn tY180.1 tY180.2.1) = true := by decide +kernel
theorem tc180_1 : tC180_1.all (kEn tY180.1 tY180.2.1) = true := by decide +kernel
theorem tm180 : kM tM180 tY180 ((tWs[180]?).getD (0, 0, 0, 0)) = true := by decide +kernel
set_option maxRecDepth 20000 in
theorem tw180 : kW ((tWs[180]?).getD (0, 0, 0, 0)).1 = some (.code tY180.1 tY180.2.1 tM180.2.1 tY180.2.2) := rfl
theorem tk180 : eMok tCl lw_g tNs tMs tYs tM180 tY180 := kM_ok (q := (tWs[180]?).getD (0, 0, 0, 0)) (show ∀ ch ∈ tC180, _ from List.forall_mem_cons.mpr ⟨tc180_0, List.forall_mem_cons.mpr ⟨tc180_1, fun _ h => absurd h List.not_mem_nil⟩⟩) tw180 tm180
theorem tc181_0 : tC181_0.all (kEn tY181.1 tY181.2.1) = true := by decide +kernel
theorem tc181_1 : tC181_1.all (kEn tY181.1 tY181.2.1) = true := by decide +kernel
theorem tc181_2 : tC181_2.all (kEn tY181.1 tY181.2.1) = true := by decide +kernel
theorem tc181_3 : tC181_3.all (kEn tY181.1 tY181.2.1) = true := by decide +kernel
theorem tm181 : kM tM181 tY181 ((tWs[181]?).getD (0, 0, 0, 0)) = true := by decide +kernel
set_option maxRecDepth 20000 in
theorem tw181 : kW ((tWs[181]?).getD (0, 0, 0, 0)).1 = some (.code tY181.1 tY181.2.1 tM181.2.1 tY181.2.2) := rfl
theorem tk181 : eMok tCl lw_g tNs tMs tYs tM181 tY181 := kM_ok (q := (tWs[181]?).getD (0, 0, 0, 0)) (show ∀ ch ∈ tC181, _ from List.forall_mem_cons.mpr ⟨tc181_0, List.forall_mem_cons.mpr ⟨tc181_1, List.forall_mem_cons.mpr ⟨tc181_2, List.forall_mem_cons.mpr ⟨tc181_3, fun _ h => absurd h List.not_mem_nil⟩⟩⟩⟩) tw181 tm181
theorem tc182_0 : tC182_0.all (kEn tY182.1 tY182.2.1) = true := by decide +kernel
theorem tc182_1 : tC182_1.all (kEn tY182.1 tY182.2.1) = true := by decide +kernel
theorem tc182_2 : tC182_2.all (kEn tY182.1 tY182.2.1) = true := by decide +kernel
theorem tc182_3 : tC182_3.all (kEn tY182.1 tY182.2.1) = true := by decide +kernel
theorem tc182_4 : tC182_4.all (kEn tY182.1 tY182.2.1) = true := by decide +kernel
theorem tc182_5 : tC182_5.all (kEn tY182.1 tY182.2.1) = true := by decide +kernel
theorem tm182 : kM tM182 tY182 ((tWs[182]?).getD (0, 0, 0, 0)) = true := by decide +kernel
set_option maxRecDepth 20000 in
theorem tw182 : kW ((tWs[182]?).getD (0, 0, 0, 0)).1 = some (.code tY182.1 tY182.2.1 tM182.2.1 tY182.2.2) := rfl
theorem tk182 : eMok tCl lw_g tNs tMs tYs tM182 tY182 := kM_ok (q := (tWs[182]?).getD (0, 0, 0, 0)) (show ∀ ch ∈ tC182, _ from List.forall_mem_cons.mpr ⟨tc182_0, List.forall_mem_cons.mpr ⟨tc182_1, List.forall_mem_cons.mpr ⟨tc182_2, List.forall_mem_cons.mpr ⟨tc182_3, List.forall_mem_cons.mpr ⟨tc182_4, List.forall_mem_cons.mpr ⟨tc182_5, fun _ h => absurd h List.not_mem_nil⟩⟩⟩⟩⟩⟩) tw182 tm182
theorem tc183_0 : tC183_0.all (kEn tY183.1 tY183.2.1) = true := by decide +kernel
theorem tc183_1 : tC183_1.all (kEn tY183.1 tY183.2.1) = true := by decide +kernel
theorem tm183 : kM tM183 tY183 ((tWs[183]?).getD (0, 0, 0, 0)) = true := by decide +kernel
set_option maxRecDepth 20000 in
theorem tw183 : kW ((tWs[183]?).getD (0, 0, 0, 0)).1 = some (.code tY183.1 tY183.2.1 tM183.2.1 tY183.2.2) := rfl
theorem tk183 : eMok tCl lw_g tNs tMs tYs tM183 tY183 := kM_ok (q := (tWs[183]?).getD (0, 0, 0, 0)) (show ∀ ch ∈ tC183, _ from List.forall_mem_cons.mpr ⟨tc183_0, List.forall_mem_cons.mpr ⟨tc183_1, fun _ h => absurd h List.not_mem_nil⟩⟩) tw183 tm183
theorem tc184_0 : tC184_0.all (kEn tY184.1 tY184.2.1) = true := by decide +kernel
theorem tc184_1 : tC184_1.all (kEn tY184.1 tY184.2.1) = true := by decide +kernel
theorem tm184 : kM tM184 tY184 ((tWs[184]?).getD (0, 0, 0, 0)) = true := by decide +kernel
set_option maxRecDepth 20000 in
theorem tw184 : kW ((tWs[184]?).getD (0, 0, 0, 0)).1 = some (.code tY184.1 tY184.2.1 tM184.2.1 tY184.2.2) := rfl
theorem tk184 : eMok tCl lw_g tNs tMs tYs tM184 tY184 := kM_ok (q := (tWs[184]?).getD (0, 0, 0, 0)) (show ∀ ch ∈ tC184, _ from List.forall_mem_cons.mpr ⟨tc184_0, List.forall_mem_cons.mpr ⟨tc184_1, fun _ h => absurd h List.not_mem_nil⟩⟩) tw184 tm184
theorem tc185_0 : tC185_0.all (kEn tY185.1 tY185.2.1) = true := by decide +kernel
theorem tc185_1 : tC185_1.all (kEn tY185.1 tY185.2.1) = true := by decide +kernel
theorem tc185_2 : tC185_2.all (kEn tY185.1 tY185.2.1) = true := by decide +kernel
theorem tm185 : kM tM185 tY185 ((tWs[185]?).getD (0, 0, 0, 0)) = true := by decide +kernel
set_option maxRecDepth 20000 in
theorem tw185 : kW ((tWs[185]?).getD (0, 0, 0, 0)).1 = some (.code tY185.1 tY185.2.1 tM185.2.1 tY185.2.2) := rfl
theorem tk185 : eMok tCl lw_g tNs tMs tYs tM185 tY185 := kM_ok (q := (tWs[185]?).getD (0, 0, 0, 0)) (show ∀ ch ∈ tC185, _ from List.forall_mem_cons.mpr ⟨tc185_0, List.forall_mem_cons.mpr ⟨tc185_1, List.forall_mem_cons.mpr ⟨tc185_2, fun _ h => absurd h List.not_mem_nil⟩⟩⟩) tw185 tm185
theorem tc186_0 : tC186_0.all (kEn tY186.1 tY186.2.1) = true := by decide +kernel
theorem tm186 : kM tM186 tY186 ((tWs[186]?).getD (0, 0, 0, 0)) = true := by decide +kernel
set_option maxRecDepth 20000 in
theorem tw186 : kW ((tWs[186]?).getD (0, 0, 0, 0)).1 = some (.code tY186.1 tY186.2.1 tM186.2.1 tY186.2.2) := rfl
theorem tk186 : eMok tCl lw_g tNs tMs tYs tM186 tY186 := kM_ok (q := (tWs[186]?).getD (0, 0, 0, 0)) (show ∀ ch ∈ tC186, _ from List.forall_mem_cons.mpr ⟨tc186_0, fun _ h => absurd h List.not_mem_nil⟩) tw186 tm186
theorem tc187_0 : tC187_0.all (kEn tY187.1 tY187.2.1) = true := by decide +kernel
theorem tc187_1 : tC187_1.all (kEn tY187.1 tY187.2.1) = true := by decide +kernel
theorem tm187 : kM tM187 tY187 ((tWs[187]?).getD (0, 0, 0, 0)) = true := by decide +kernel
set_option maxRecDepth 20000 in
theorem tw187 : kW ((tWs[187]?).getD (0, 0, 0, 0)).1 = some (.code tY187.1 tY187.2.1 tM187.2.1 tY187.2.2) := rfl
theorem tk187 : eMok tCl lw_g tNs tMs tYs tM187 tY187 := kM_ok (q := (tWs[187]?).getD (0, 0, 0, 0)) (show ∀ ch ∈ tC187, _ from List.forall_mem_cons.mpr ⟨tc187_0, List.forall_mem_cons.mpr ⟨tc187_1, fun _ h => absurd h List.not_mem_nil⟩⟩) tw187 tm187
theorem tc188_0 : tC188_0.all (kEn tY188.1 tY188.2.1) = true := by decide +kernel
theorem tm188 : kM tM188 tY188 ((tWs[188]?).getD (0, 0, 0, 0)) = true := by decide +kernel
set_option maxRecDepth 20000 in
theorem tw188 : kW ((tWs[188]?).getD (0, 0, 0, 0)).1 = some (.code tY188.1 tY188.2.1 tM188.2.1 tY188.2.2) := rfl
theorem tk188 : eMok tCl lw_g tNs tMs tYs tM188 tY188 := kM_ok (q := (tWs[188]?).getD (0, 0, 0, 0)) (show ∀ ch ∈ tC188, _ from List.forall_mem_cons.mpr ⟨tc188_0, fun _ h => absurd h List.not_mem_nil⟩) tw188 tm188
theorem tc189_0 : tC189_0.all (kEn tY189.1 tY189.2.1) = true := by decide +kernel
theorem tc189_1 : tC189_1.all (kEn tY189.1 tY189.2.1) = true := by decide +kernel
theorem tc189_2 : tC189_2.all (kEn tY189.1 tY189.2.1) = true := by decide +kernel
theorem tm189 : kM tM189 tY189 ((tWs[189]?).getD (0, 0, 0, 0)) = true := by decide +kernel
set_option maxRecDepth 20000 in
theorem tw189 : kW ((tWs[189]?).getD (0, 0, 0, 0)).1 = some (.code tY189.1 tY189.2.1 tM189.2.1 tY189.2.2) := rfl
theorem tk189 : eMok tCl lw_g tNs tMs tYs tM189 tY189 := kM_ok (q := (tWs[189]?).getD (0, 0, 0, 0)) (show ∀ ch ∈ tC189, _ from List.forall_mem_cons.mpr ⟨tc189_0, List.forall_mem_cons.mpr ⟨tc189_1, List.forall_mem_cons.mpr ⟨tc189_2, fun _ h => absurd h List.not_mem_nil⟩⟩⟩) tw189 tm189
theorem tc190_0 : tC190_0.all (kEn tY190.1 tY190.2.1) = true := by decide +kernel
theorem tc190_1 : tC190_1.all (kEn tY190.1 tY190.2.1) = true := by decide +kernel
theorem tc190_2 : tC190_2.all (kEn tY190.1 tY190.2.1) = true := by decide +kernel
theorem tc190_3 : tC190_3.all (kEn tY190.1 tY190.2.1) = true := by decide +kernel
theorem tm190 : kM tM190 tY190 ((tWs[190]?).getD (0, 0, 0, 0)) = true := by decide +kernel
set_option maxRecDepth 20000 in
theorem tw190 : kW ((tWs[190]?).getD (0, 0, 0, 0)).1 = some (.code tY190.1 tY190.2.1 tM190.2.1 tY190.2.2) := rfl
theorem tk190 : eMok tCl lw_g tNs tMs tYs tM190 tY190 := kM_ok (q := (tWs[190]?).getD (0, 0, 0, 0)) (show ∀ ch ∈ tC190, _ from List.forall_mem_cons.mpr ⟨tc190_0, List.forall_mem_cons.mpr ⟨tc190_1, List.forall_mem_cons.mpr ⟨tc190_2, List.forall_mem_cons.mpr ⟨tc190_3, fun _ h => absurd h List.not_mem_nil⟩⟩⟩⟩) tw190 tm190
theorem tc191_0 : tC191_0.all (kEn tY191.1 tY191.2.1) = true := by decide +kernel
theorem tc191_1 : tC191_1.all (kEn tY191.1 tY191.2.1) = true := by decide +kernel
theorem tc191_2 : tC191_2.all (kEn tY191.1 tY191.2.1) = true := by decide +kernel
theorem tc191_3 : tC191_3.all (kEn tY191.1 tY191.2.1) = true := by decide +kernel
theorem tc191_4 : tC191_4.all (kEn tY191.1 tY191.2.1) = true := by decide +kernel
theorem tm191 : kM tM191 tY191 ((tWs[191]?).getD (0, 0, 0, 0)) = true := by decide +kernel
set_option maxRecDepth 20000 in
theorem tw191 : kW ((tWs[191]?).getD (0, 0, 0, 0)).1 = some (.code tY191.1 tY191.2.1 tM191.2.1 tY191.2.2) := rfl
theorem tk191 : eMok tCl lw_g tNs tMs tYs tM191 tY191 := kM_ok (q := (tWs[191]?).getD (0, 0, 0, 0)) (show ∀ ch ∈ tC191, _ from List.forall_mem_cons.mpr ⟨tc191_0, List.forall_mem_cons.mpr ⟨tc191_1, List.forall_mem_cons.mpr ⟨tc191_2, List.forall_mem_cons.mpr ⟨tc191_3, List.forall_mem_cons.mpr ⟨tc191_4, fun _ h => absurd h List.not_mem_nil⟩⟩⟩⟩⟩) tw191 tm191
theorem tc192_0 : tC192_0.all (kEn tY192.1 tY192.2.1) = true := by decide +kernel
theorem tc192_1 : tC192_1.all (kEn tY192.1 tY192.2.1) = true := by decide +kernel
theorem tc192_2 : tC192_2.all (kEn tY192.1 tY192.2.1) = true := by decide +kernel
theorem tc192_3 : tC192_3.all (kEn tY192.1 tY192.2.1) = true := by decide +kernel
theorem tc192_4 : tC192_4.all (kEn tY192.1 tY192.2.1) = true := by decide +kernel
theorem tc192_5 : tC192_5.all (kEn tY192.1 tY192.2.1) = true := by decide +kernel
theorem tc192_6 : tC192_6.all (kEn tY192.1 tY192.2.1) = true := by decide +kernel
theorem tm192 : kM tM192 tY192 ((tWs[192]?).getD (0, 0, 0, 0)) = true := by decide +kernel
set_option maxRecDepth 20000 in
theorem tw192 : kW ((tWs[192]?).getD (0, 0, 0, 0)).1 = some (.code tY192.1 tY192.2.1 tM192.2.1 tY192.2.2) := rfl
theorem tk192 : eMok tCl lw_g tNs tMs tYs tM192 tY192 := kM_ok (q := (tWs[192]?).getD (0, 0, 0, 0)) (show ∀ ch ∈ tC192, _ from List.forall_mem_cons.mpr ⟨tc192_0, List.forall_mem_cons.mpr ⟨tc192_1, List.forall_mem_cons.mpr ⟨tc192_2, List.forall_mem_cons.mpr ⟨tc192_3, List.forall_mem_cons.mpr ⟨tc192_4, List.forall_mem_cons.mpr ⟨tc192_5, List.forall_mem_cons.mpr ⟨tc192_6, fun _ h => absurd h List.not_mem_nil⟩⟩⟩⟩⟩⟩⟩) tw192 tm192
