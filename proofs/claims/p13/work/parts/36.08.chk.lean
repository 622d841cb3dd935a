theorem tc242_0 : tC242_0.all (kEn tY242.1 tY242.2.1) = true := by decide +kernel
theorem tc242_1 : tC242_1.all (kEn tY242.1 tY242.2.1) = true := by decide +kernel
theorem tc242_2 : tC242_2.all (kEn tY242.1 tY242.2.1) = true := by decide +kernel
theorem tc242_3 : tC242_3.all (kEn tY242.1 tY242.2.1) = true := by decide +kernel
theorem tc242_4 : tC242_4.all (kEn tY242.1 tY242.2.1) = true := by decide +kernel
theorem tc242_5 : tC242_5.all (kEn tY242.1 tY242.2.1) = true := by decide +kernel
theorem tm242 : kM tM242 tY242 ((tWs[242]?).getD (0, 0, 0, 0)) = true := by decide +kernel
set_option maxRecDepth 20000 in
theorem tw242 : kW ((tWs[242]?).getD (0, 0, 0, 0)).1 = some (.code tY242.1 tY242.2.1 tM242.2.1 tY242.2.2) := rfl
theorem tk242 : eMok tCl lw_g tNs tMs tYs tM242 tY242 := kM_ok (q := (tWs[242]?).getD (0, 0, 0, 0)) (show ∀ ch ∈ tC242, _ from List.forall_mem_cons.mpr ⟨tc242_0, List.forall_mem_cons.mpr ⟨tc242_1, List.forall_mem_cons.mpr ⟨tc242_2, List.forall_mem_cons.mpr ⟨tc242_3, List.forall_mem_cons.mpr ⟨tc242_4, List.forall_mem_cons.mpr ⟨tc242_5, fun _ h => absurd h List.not_mem_nil⟩⟩⟩⟩⟩⟩) tw242 tm242
theorem tc243_0 : tC243_0.all (kEn tY243.1 tY243.2.1) = true := by decide +kernel
theorem tc243_1 : tC243_1.all (kEn tY243.1 tY243.2.1) = true := by decide +kernel
theorem tm243 : kM tM243 tY243 ((tWs[243]?).getD (0, 0, 0, 0)) = true := by decide +kernel
set_option maxRecDepth 20000 in
theorem tw243 : kW ((tWs[243]?).getD (0, 0, 0, 0)).1 = some (.code tY243.1 tY243.2.1 tM243.2.1 tY243.2.2) := rfl
theorem tk243 : eMok tCl lw_g tNs tMs tYs tM243 tY243 := kM_ok (q := (tWs[243]?).getD (0, 0, 0, 0)) (show ∀ ch ∈ tC243, _ from List.forall_mem_cons.mpr ⟨tc243_0, List.forall_mem_cons.mpr ⟨tc243_1, fun _ h => absurd h List.not_mem_nil⟩⟩) tw243 tm243
theorem tc244_0 : tC244_0.all (kEn tY244.1 tY244.2.1) = true := by decide +kernel
theorem tc244_1 : tC244_1.all (kEn tY244.1 tY244.2.1) = true := by decide +kernel
theorem tm244 : kM tM244 tY244 ((tWs[244]?).getD (0, 0, 0, 0)) = true := by decide +kernel
set_option maxRecDepth 20000 in
theorem tw244 : kW ((tWs[244]?).getD (0, 0, 0, 0)).1 = some (.code tY244.1 tY244.2.1 tM244.2.1 tY244.2.2) := rfl
theorem tk244 : eMok tCl lw_g tNs tMs tYs tM244 tY244 := kM_ok (q := (tWs[244]?).getD (0, 0, 0, 0)) (show ∀ ch ∈ tC244, _ from List.forall_mem_cons.mpr ⟨tc244_0, List.forall_mem_cons.mpr ⟨tc244_1, fun _ h => absurd h List.not_mem_nil⟩⟩) tw244 tm244
theorem tc245_0 : tC245_0.all (kEn tY245.1 tY245.2.1) = true := by decide +kernel
theorem tm245 : kM tM245 tY245 ((tWs[245]?).getD (0, 0, 0, 0)) = true := by decide +kernel
set_option maxRecDepth 20000 in
theorem tw245 : kW ((tWs[245]?).getD (0, 0, 0, 0)).1 = some (.code tY245.1 tY245.2.1 tM245.2.1 tY245.2.2) := rfl
theorem tk245 : eMok tCl lw_g tNs tMs tYs tM245 tY245 := kM_ok (q := (tWs[245]?).getD (0, 0, 0, 0)) (show ∀ ch ∈ tC245, _ from List.forall_mem_cons.mpr ⟨tc245_0, fun _ h => absurd h List.not_mem_nil⟩) tw245 tm245
theorem tc246_0 : tC246_0.all (kEn tY246.1 tY246.2.1) = true := by decide +kernel
theorem tc246_1 : tC246_1.all (kEn tY246.1 tY246.2.1) = true := by decide +kernel
theorem tc246_2 : tC246_2.all (kEn tY246.1 tY246.2.1) = true := by decide +kernel
theorem tc246_3 : tC246_3.all (kEn tY246.1 tY246.2.1) = true := by decide +kernel
theorem tm246 : kM tM246 tY246 ((tWs[246]?).getD (0, 0, 0, 0)) = true := by decide +kernel
set_option maxRecDepth 20000 in
theorem tw246 : kW ((tWs[246]?).getD (0, 0, 0, 0)).1 = some (.code tY246.1 tY246.2.1 tM246.2.1 tY246.2.2) := rfl
theorem tk246 : eMok tCl lw_g tNs tMs tYs tM246 tY246 := kM_ok (q := (tWs[246]?).getD (0, 0, 0, 0)) (show ∀ ch ∈ tC246, _ from List.forall_mem_cons.mpr ⟨tc246_0, List.forall_mem_cons.mpr ⟨tc246_1, List.forall_mem_cons.mpr ⟨tc246_2, List.forall_mem_cons.mpr ⟨tc246_3, fun _ h => absurd h List.not_mem_nil⟩⟩⟩⟩) tw246 tm246
theorem tc247_0 : tC247_0.all (kEn tY247.1 tY247.2.1) = true := by decide +kernel
theorem tm247 : kM tM247 tY247 ((tWs[247]?).getD (0, 0, 0, 0)) = true := by decide +kernel
set_option maxRecDepth 20000 in
theorem tw247 : kW ((tWs[247]?).getD (0, 0, 0, 0)).1 = some (.code tY247.1 tY247.2.1 tM247.2.1 tY247.2.2) := rfl
theorem tk247 : eMok tCl lw_g tNs tMs tYs tM247 tY247 := kM_ok (q := (tWs[247]?).getD (0, 0, 0, 0)) (show ∀ ch ∈ tC247, _ from List.forall_mem_cons.mpr ⟨tc247_0, fun _ h => absurd h List.not_mem_nil⟩) tw247 tm247
theorem tc248_0 : tC248_0.all (kEn tY248.1 tY248.2.1) = true := by decide +kernel
theorem tm248 : kM tM248 tY248 ((tWs[248]?).getD (0, 0, 0, 0)) = true := by decide +kernel
set_option maxRecDepth 20000 in
theorem tw248 : kW ((tWs[248]?).getD (0, 0, 0, 0)).1 = some (.code tY248.1 tY248.2.1 tM248.2.1 tY248.2.2) := rfl
theorem tk248 : eMok tCl lw_g tNs tMs tYs tM248 tY248 := kM_ok (q := (tWs[248]?).getD (0, 0, 0, 0)) (show ∀ ch ∈ tC248, _ from List.forall_mem_cons.mpr ⟨tc248_0, fun _ h => absurd h List.not_mem_nil⟩) tw248 tm248
theorem tc249_0 : tC249_0.all (kEn tY249.1 tY249.2.1) = true := by decide +kernel
theorem tm249 : kM tM249 tY249 ((tWs[249]?).getD (0, 0, 0, 0)) = true := by decide +kernel
set_option maxRecDepth 20000 in
theorem tw249 : kW ((tWs[249]?).getD (0, 0, 0, 0)).1 = some (.code tY249.1 tY249.2.1 tM249.2.1 tY249.2.2) := rfl
theorem tk249 : eMok tCl lw_g tNs tMs tYs tM249 tY249 := kM_ok (q := (tWs[249]?).getD (0, 0, 0, 0)) (show ∀ ch ∈ tC249, _ from List.forall_mem_cons.mpr ⟨tc249_0, fun _ h => absurd h List.not_mem_nil⟩) tw249 tm249
theorem tc250_0 : tC250_0.all (kEn tY250.1 tY250.2.1) = true := by decide +kernel
theorem tm250 : kM tM250 tY250 ((tWs[250]?).getD (0, 0, 0, 0)) = true := by decide +kernel
set_option maxRecDepth 20000 in
theorem tw250 : kW ((tWs[250]?).getD (0, 0, 0, 0)).1 = some (.code tY250.1 tY250.2.1 tM250.2.1 tY250.2.2) := rfl
theorem tk250 : eMok tCl lw_g tNs tMs tYs tM250 tY250 := kM_ok (q := (tWs[250]?).getD (0, 0, 0, 0)) (show ∀ ch ∈ tC250, _ from List.forall_mem_cons.mpr ⟨tc250_0, fun _ h => absurd h List.not_mem_nil⟩) tw250 tm250
theorem tc251_0 : tC251_0.all (kEn tY251.1 tY251.2.1) = true := by decide +kernel
theorem tc251_1 : tC251_1.all (kEn tY251.1 tY251.2.1) = true := by decide +kernel
theorem tc251_2 : tC251_2.all (kEn tY251.1 tY251.2.1) = true := by decide +kernel
theorem tc251_3 : tC251_3.all (kEn tY251.1 tY251.2.1) = true := by decide +kernel
theorem tc251_4 : tC251_4.all (kEn tY251.1 tY251.2.1) = true := by decide +kernel
theorem tm251 : kM tM251 tY251 ((tWs[251]?).getD (0, 0, 0, 0)) = true := by decide +kernel
set_option maxRecDepth 20000 in
theorem tw251 : kW ((tWs[251]?).getD (0, 0, 0, 0)).1 = some (.code tY251.1 tY251.2.1 tM251.2.1 tY251.2.2) := rfl
theorem tk251 : eMok tCl lw_g tNs tMs tYs tM251 tY251 := kM_ok (q := (tWs[251]?).getD (0, 0, 0, 0)) (show ∀ ch ∈ tC251, _ from List.forall_mem_cons.mpr ⟨tc251_0, List.forall_mem_cons.mpr ⟨tc251_1, List.forall_mem_cons.mpr ⟨tc251_2, List.forall_mem_cons.mpr ⟨tc251_3, List.forall_mem_cons.mpr ⟨tc251_4, fun _ h => absurd h List.not_mem_nil⟩⟩⟩⟩⟩) tw251 tm251
theorem tc252_0 : tC252_0.all (kEn tY252.1 tY252.2.1) = true := by decide +kernel
theorem tc252_1 : tC252_1.all (kEn tY252.1 tY252.2.1) = true := by decide +kernel
theorem tc252_2 : tC252_2.all (kEn tY252.1 tY252.2.1) = true := by decide +kernel
theorem tc252_3 : tC252_3.all (kEn tY252.1 tY252.2.1) = true := by decide +kernel
theorem tc252_4 : tC252_4.all (kEn tY252.1 tY252.2.1) = true := by decide +kernel
theorem tc252_5 : tC252_5.all (kEn tY252.1 tY252.2.1) = true := by decide +kernel
theorem tm252 : kM tM252 tY252 ((tWs[252]?).getD (0, 0, 0, 0)) = true := by decide +kernel
set_option maxRecDepth 20000 in
theorem tw252 : kW ((tWs[252]?).getD (0, 0, 0, 0)).1 = some (.code tY252.1 tY252.2.1 tM252.2.1 tY252.2.2) := rfl
theorem tk252 : eMok tCl lw_g tNs tMs tYs tM252 tY252 := kM_ok (q := (tWs[252]?).getD (0, 0, 0, 0)) (show ∀ ch ∈ tC252, _ from List.forall_mem_cons.mpr ⟨tc252_0, List.forall_mem_cons.mpr ⟨tc252_1, List.forall_mem_cons.mpr ⟨tc252_2, List.forall_mem_cons.mpr ⟨tc252_3, List.forall_mem_cons.mpr ⟨tc252_4, List.forall_mem_cons.mpr ⟨tc252_5, fun _ h => absurd h List.not_mem_nil⟩⟩⟩⟩⟩⟩) tw252 tm252
theorem tc253_0 : tC253_0.all (kEn tY253.1 tY253.2.1) = true := by decide +kernel
theorem tc253_1 : tC253_1.all (kEn tY253.1 tY253.2.1) = true := by decide +kernel
theorem tc253_2 : tC253_2.all (kEn tY253.1 tY253.2.1) = true := by decide +kernel
theorem tc253_3 : tC253_3.all (kEn tY253.1 tY253.2.1) = true := by decide +kernel
theorem tc253_4 : tC253_4.all (kEn tY253.1 tY253.2.1) = true := by decide +kernel
theorem tc253_5 : tC253_5.all (kEn tY253.1 tY253.2.1) = true := by decide +kernel
theorem tm253 : kM tM253 tY253 ((tWs[253]?).getD (0, 0, 0, 0)) = true := by decide +kernel
set_option maxRecDepth 20000 in
theorem tw253 : kW ((tWs[253]?).getD (0, 0, 0, 0)).1 = some (.code tY253.1 tY253.2.1 tM253.2.1 tY253.2.2) := rfl
theorem tk253 : eMok tCl lw_g tNs tMs tYs tM253 tY253 := kM_ok (q := (tWs[253]?).getD (0, 0, 0, 0)) (show ∀ ch ∈ tC253, _ from List.forall_mem_cons.mpr ⟨tc253_0, List.forall_mem_cons.mpr ⟨tc253_1, List.forall_mem_cons.mpr ⟨tc253_2, List.forall_mem_cons.mpr ⟨tc253_3, List.forall_mem_cons.mpr ⟨tc253_4, List.forall_mem_cons.mpr ⟨tc253_5, fun _ h => absurd h List.not_mem_nil⟩⟩⟩⟩⟩⟩) tw253 tm253
theorem tc254_0 : tC254_0.all (kEn tY254.1 tY254.2.1) = true := by decide +kernel
theorem tc254_1 : tC254_1.all (kEn tY254.1 tY254.2.1) = true := by decide +kernel
theorem tm254 : kM tM254 tY254 ((tWs[254]?).getD (0, 0, 0, 0)) = true := by decide +kernel
set_option maxRecDepth 20000 in
theorem tw254 : kW ((tWs[254]?).getD (0, 0, 0, 0)).1 = some (.code tY254.1 tY254.2.1 tM254.2.1 tY254.2.2) := rfl
theorem tk254 : eMok tCl lw_g tNs tMs tYs tM254 tY254 := kM_ok (q := (tWs[254]?).getD (0, 0, 0, 0)) (show ∀ ch ∈ tC254, _ from List.forall_mem_cons.mpr ⟨tc254_0, List.forall_mem_cons.mpr ⟨tc254_1, fun _ h => absurd h List.not_mem_nil⟩⟩) tw254 tm254
theorem tc255_0 : tC255_0.all (kEn tY255.1 tY255.2.1) = true := by decide +kernel
theorem tc255_1 : tC255_1.all (kEn tY255.1 tY255.2.1) = true := by decide +kernel
theorem tc255_2 : tC255_2.all (kEn tY255.1 tY255.2.1) = true := by decide +kernel
theorem tc255_3 : tC255_3.all (kEn tY255.1 tY255.2.1) = true := by decide +kernel
theorem tm255 : kM tM255 tY255 ((tWs[255]?).getD (0, 0, 0, 0)) = true := by decide +kernel
set_option maxRecDepth 20000 in
theorem tw255 : kW ((tWs[255]?).getD (0, 0, 0, 0)).1 = some (.code tY255.1 tY255.2.1 tM255.2.1 tY255.2.2) := rfl
theorem tk255 : eMok tCl lw_g tNs tMs tYs tM255 tY255 := kM_ok (q := (tWs[255]?).getD (0, 0, 0, 0)) (show ∀ ch ∈ tC255, _ from List.forall_mem_cons.mpr ⟨tc255_0, List.forall_mem_cons.mpr ⟨tc255_1, List.forall_mem_cons.mpr ⟨tc255_2, List.forall_mem_cons.mpr ⟨tc255_3, fun _ h => absurd h List.not_mem_nil⟩⟩⟩⟩) tw255 tm255
theorem tc256_0 : tC256_0.all (kEn tY256.1 tY256.2.1) = true := by decide +kernel
theorem tc256_1 : tC256_1.all (kEn tY256.1 tY256.2.1) = true := by decide +kernel
theorem tc256_2 : tC256_2.all (kEn tY256.1 tY256.2.1) = true := by decide +kernel
theorem tc256_3 : tC256_3.all (kEn tY256.1 tY256.2.1) = true := by decide +kernel
theorem tm256 : kM tM256 tY256 ((tWs[256]?).getD (0, 0, 0, 0)) = true := by decide +kernel
set_option maxRecDepth 20000 in
theorem tw256 : kW ((tWs[256]?).getD (0, 0, 0, 0)).1 = some (.code tY256.1 tY256.2.1 tM256.2.1 tY256.2.2) := rfl
theorem tk256 : eMok tCl lw_g tNs tMs tYs tM256 tY256 := kM_ok (q := (tWs[256]?).getD (0, 0, 0, 0)) (show ∀ ch ∈ tC256, _ from List.forall_mem_cons.mpr ⟨tc256_0, List.forall_mem_cons.mpr ⟨tc256_1, List.forall_mem_cons.mpr ⟨tc256_2, List.forall_mem_cons.mpr ⟨tc256_3, fun _ h => absurd h List.not_mem_nil⟩⟩⟩⟩) tw256 tm256
theorem tc257_0 : tC257_0.all (kEn tY257.1 tY257.2.1) = true := by decide +kernel
theorem tc257_1 : tC257_1.all (kEn tY257.1 tY257.2.1) = true := by decide +kernel
theorem tc257_2 : tC257_2.all (kEn tY257.1 tY257.2.1) = true := by decide +kernel
theorem tm257 : kM tM257 tY257 ((tWs[257]?).getD (0, 0, 0, 0)) = true := by decide +kernel
set_option maxRecDepth 20000 in
theorem tw257 : kW ((tWs[257]?).getD (0, 0, 0, 0)).1 = some (.code tY257.1 tY257.2.1 tM257.2.1 tY257.2.2) := rfl
theorem tk257 : eMok tCl lw_g tNs tMs tYs tM257 tY257 := kM_ok (q := (tWs[257]?).getD (0, 0, 0, 0)) (show ∀ ch ∈ tC257, _ from List.forall_mem_cons.mpr ⟨tc257_0, List.forall_mem_cons.mpr ⟨tc257_1, List.forall_mem_cons.mpr ⟨tc257_2, fun _ h => absurd h List.not_mem_nil⟩⟩⟩) tw257 tm257
theorem tc258_0 : tC258_0.all (kEn tY258.1 tY258.2.1) = true := by decide +kernel
theorem tc258_1 : tC258_1.all (kEn tY258.1 tY258.2.1) = true := by decide +kernel
theorem tm258 : kM tM258 tY258 ((tWs[258]?).getD (0, 0, 0, 0)) = true := by decide +kernel
set_option maxRecDepth 20000 in
theorem tw258 : kW ((tWs[258]?).getD (0, 0, 0, 0)).1 = some (.code tY258.1 tY258.2.1 tM258.2.1 tY258.2.2) := rfl
theorem tk258 : eMok tCl lw_g tNs tMs tYs tM258 tY258 := kM_ok (q := (tWs[258]?).getD (0, 0, 0, 0)) (show ∀ ch ∈ tC258, _ from List.forall_mem_cons.mpr ⟨tc258_0, List.forall_mem_cons.mpr ⟨tc258_1, fun _ h => absurd h List.not_mem_nil⟩⟩) tw258 tm258
theorem tc259_0 : tC259_0.all (kEn tY259.1 tY259.2.1) = true := by decide +kernel
theorem tm259 : kM tM259 tY259 ((tWs[259]?).getD (0, 0, 0, 0)) = true := by decide +kernel
set_option maxRecDepth 20000 in
theorem tw259 : kW ((tWs[259]?).getD (0, 0, 0, 0)).1 = some (.code tY259.1 tY259.2.1 tM259.2.1 tY259.2.2) := rfl
theorem tk259 : eMok tCl lw_g tNs tMs tYs tM259 tY259 := kM_ok (q := (tWs[259]?).getD (0, 0, 0, 0)) (show ∀ ch ∈ tC259, _ from List.forall_mem_cons.mpr ⟨tc259_0, fun _ h => absurd h List.not_mem_nil⟩) tw259 tm259
theorem tc260_0 : tC260_0.all (kEn tY260.1 tY260.2.1) = true := by decide +kernel
theorem tc260_1 : tC260_1.all (kEn tY260.1 tY260.2.1) = true := by decide +kernel
theorem tm260 : kM tM260 tY260 ((tWs[260]?).getD (0, 0, 0, 0)) = true := by decide +kernel
set_option maxRecDepth 20000 in
theorem tw260 : kW ((tWs[260]?).getD (0, 0, 0, 0)).1 = some (.code tY260.1 tY260.2.1 tM260.2.1 tY260.2.2) := rfl
theorem tk260 : eMok tCl lw_g tNs tMs tYs tM260 tY260 := kM_ok (q := (tWs[260]?).getD (0, 0, 0, 0)) (show ∀ ch ∈ tC260, _ from List.forall_mem_cons.mpr ⟨tc260_0, List.forall_mem_cons.mpr ⟨tc260_1, fun _ h => absurd h List.not_mem_nil⟩⟩) tw260 tm260
theorem tc261_0 : tC261_0.all (kEn tY261.1 tY261.2.1) = true := by decide +kernel
theorem tc261_1 : tC261_1.all (kEn tY261.1 tY261.2.1) = true := by decide +kernel
theorem tm261 : kM tM261 tY261 ((tWs[261]?).getD (0, 0, 0, 0)) = true := by decide +kernel
set_option maxRecDepth 20000 in
theorem tw261 : kW ((tWs[261]?).getD (0, 0, 0, 0)).1 = some (.code tY261.1 tY261.2.1 tM261.2.1 tY261.2.2) := rfl
theorem tk261 : eMok tCl lw_g tNs tMs tYs tM261 tY261 := kM_ok (q := (tWs[261]?).getD (0, 0, 0, 0)) (show ∀ ch ∈ tC261, _ from List.forall_mem_cons.mpr ⟨tc261_0, List.forall_mem_cons.mpr ⟨tc261_1, fun _ h => absurd h List.not_mem_nil⟩⟩) tw261 tm261
theorem tc262_0 : tC262_0.all (kEn tY262.1 tY262.2.1) = true := by decide +kernel
theorem tc262_1 : tC262_1.all (kEn tY262.1 tY262.2.1) = true := by decide +kernel
theorem tm262 : kM tM262 tY262 ((tWs[262]?).getD (0, 0, 0, 0)) = true := by decide +kernel
set_option maxRecDepth 20000 in
theorem tw262 : kW ((tWs[262]?).getD (0, 0, 0, 0)).1 = some (.code tY262.1 tY262.2.1 tM262.2.1 tY262.2.2) := rfl
theorem tk262 : eMok tCl lw_g tNs tMs tYs tM262 tY262 := kM_ok (q := (tWs[262]?).getD (0, 0, 0, 0)) (show ∀ ch ∈ tC262, _ from List.forall_mem_cons.mpr ⟨tc262_0, List.forall_mem_cons.mpr ⟨tc262_1, fun _ h => absurd h List.not_mem_nil⟩⟩) tw262 tm262
theorem tc263_0 : tC263_0.all (kEn tY263.1 tY263.2.1) = true := by decide +kernel
theorem tc263_1 : tC263_1.all (kEn tY263.1 tY263.2.1) = true := by decide +kernel
theorem tm263 : kM tM263 tY263 ((tWs[263]?).getD (0, 0, 0, 0)) = true := by decide +kernel
set_option maxRecDepth 20000 in
theorem tw263 : kW ((tWs[263]?).getD (0, 0, 0, 0)).1 = some (.code tY263.1 tY263.2.1 tM263.2.1 tY263.2.2) := rfl
theorem tk263 : eMok tCl lw_g tNs tMs tYs tM263 tY263 := kM_ok (q := (tWs[263]?).getD (0, 0, 0, 0)) (show ∀ ch ∈ tC263, _ from List.forall_mem_cons.mpr ⟨tc263_0, List.forall_mem_cons.mpr ⟨tc263_1, fun _ h => absurd h List.not_mem_nil⟩⟩) tw263 tm263
theorem tc264_0 : tC264_0.all (kEn tY264.1 tY264.2.1) = true := by decide +kernel
theorem tm264 : kM tM264 tY264 ((tWs[264]?).getD (0, 0, 0, 0)) = true := by decide +kernel
set_option maxRecDepth 20000 in
theorem tw264 : kW ((tWs[264]?).getD (0, 0, 0, 0)).1 = some (.code tY264.1 tY264.2.1 tM264.2.1 tY264.2.2) := rfl
theorem tk264 : eMok tCl lw_g tNs tMs tYs tM264 tY264 := kM_ok (q := (tWs[264]?).getD (0, 0, 0, 0)) (show ∀ ch ∈ tC264, _ from List.forall_mem_cons.mpr ⟨tc264_0, fun _ h => absurd h List.not_mem_nil⟩) tw264 tm264
theorem tc265_0 : tC265_0.all (kEn tY265.1 tY265.2.1) = true := by decide +kernel
theorem tm265 : kM tM265 tY265 ((tWs[265]?).getD (0, 0, 0, 0)) = true := by decide +kernel
set_option maxRecDepth 20000 in
theorem tw265 : kW ((tWs[265]?).getD (0, 0, 0, 0)).1 = some (.code tY265.1 tY265.2.1 tM265.2.1 tY265.2.2) := rfl
theorem tk265 : eMok tCl lw_g tNs tMs tYs tM265 tY265 := kM_ok (q := (tWs[265]?).getD (0, 0, 0, 0)) (show ∀ ch ∈ tC265, _ from List.forall_mem_cons.mpr ⟨tc265_0, fun _ h => absurd h List.not_mem_nil⟩) tw265 tm265
theorem tc266_0 : tC266_0.all (kEn tY266.1 tY266.2.1) = true := by decide +kernel
theorem tc266_1 : tC266_1.all (kEn tY266.1 tY266.2.1) = true := by decide +kernel
theorem tm266 : kM tM266 tY266 ((tWs[266]?).getD (0, 0, 0, 0)) = true := by decide +kernel
set_option maxRecDepth 20000 in
theorem tw266 : kW ((tWs[266]?).getD (0, 0, 0, 0)).1 = some (.code tY266.1 tY266.2.1 tM266.2.1 tY266.2.2) := rfl
theorem tk266 : eMok tCl lw_g tNs tMs tYs tM266 tY266 := kM_ok (q := (tWs[266]?).getD (0, 0, 0, 0)) (show ∀ ch ∈ tC266, _ from List.forall_mem_cons.mpr ⟨tc266_0, List.forall_mem_cons.mpr ⟨tc266_1, fun _ h => absurd h List.not_mem_nil⟩⟩) tw266 tm266
theorem tc267_0 : tC267_0.all (kEn tY267.1 tY267.2.1) = true := by decide +kernel
theorem tc267_1 : tC267_1.all (kEn tY267.1 tY267.2.1) = true := by decide +kernel
theorem tc267_2 : tC267_2.all (kEn tY267.1 tY267.2.1) = true := by decide +kernel
theorem tm267 : kM tM267 tY267 ((tWs[267]?).getD (0, 0, 0, 0)) = true := by decide +kernel
set_option maxRecDepth 20000 in
theorem tw267 : kW ((tWs[267]?).getD (0, 0, 0, 0)).1 = some (.code tY267.1 tY267.2.1 tM267.2.1 tY267.2.2) := rfl
theorem tk267 : eMok tCl lw_g tNs tMs tYs tM267 tY267 := kM_ok (q := (tWs[267]?).getD (0, 0, 0, 0)) (show ∀ ch ∈ tC267, _ from List.forall_mem_cons.mpr ⟨tc267_0, List.forall_mem_cons.mpr ⟨tc267_1, List.forall_mem_cons.mpr ⟨tc267_2, fun _ h => absurd h List.not_mem_nil⟩⟩⟩) tw267 tm267
theorem tc268_0 : tC268_0.all (kEn tY268.1 tY268.2.1) = true := by decide +kernel
theorem tc268_1 : tC268_1.all (kEn tY268.1 tY268.2.1) = true := by decide +kernel
theorem tm268 : kM tM268 tY268 ((tWs[268]?).getD (0, 0, 0, 0)) = true := by decide +kernel
set_option maxRecDepth 20000 in
theorem tw268 : kW ((tWs[268]?).getD (0, 0, 0, 0)).1 = some (.code tY268.1 tY268.2.1 tM268.2.1 tY268.2.2) := rfl
theorem tk268 : eMok tCl lw_g tNs tMs tYs tM268 tY268 := kM_ok (q := (tWs[268]?).getD (0, 0, 0, 0)) (show ∀ ch ∈ tC268, _ from List.forall_mem_cons.mpr ⟨tc268_0, List.forall_mem_cons.mpr ⟨tc268_1, fun _ h => absurd h List.not_mem_nil⟩⟩) tw268 tm268
theorem tc269_0 : tC269_0.all (kEn tY269.1 tY269.2.1) = true := by decide +kernel
theorem tc269_1 : tC269_1.all (kEn tY269.1 tY269.2.1) = true := by decide +kernel
theorem tc269_2 : tC269_2.all (kEn tY269.1 tY269.2.1) = true := by decide +kernel
theorem tm269 : kM tM269 tY269 ((tWs[269]?).getD (0, 0, 0, 0)) = true := by decide +kernel
set_option maxRecDepth 20000 in
theorem tw269 : kW ((tWs[269]?).getD (0, 0, 0, 0)).1 = some (.code tY269.1 tY269.2.1 tM269.2.1 tY269.2.2) := rfl
theorem tk269 : eMok tCl lw_g tNs tMs tYs tM269 tY269 := kM_ok (q := (tWs[269]?).getD (0, 0, 0, 0)) (show ∀ ch ∈ tC269, _ from List.forall_mem_cons.mpr ⟨tc269_0, List.forall_mem_cons.mpr ⟨tc269_1, List.forall_mem_cons.mpr ⟨tc269_2, fun _ h => absurd h List.not_mem_nil⟩⟩⟩) tw269 tm269
theorem tc270_0 : tC270_0.all (kEn tY270.1 tY270.2.1) = true := by decide +kernel
theorem tc270_1 : tC270_1.all (kEn tY270.1 tY270.2.1) = true := by decide +kernel
theorem tc270_2 : tC270_2.all (kEn tY270.1 tY270.2.1) = true := by decide +kernel
theorem tc270_3 : tC270_3.all (kEn tY270.1 tY270.2.1) = true := by decide +kernel
theorem tc270_4 : tC270_4.all (kEn tY270.1 tY270.2.1) = true := by decide +kernel
theorem tm270 : kM tM270 tY270 ((tWs[270]?).getD (0, 0, 0, 0)) = true := by decide +kernel
set_option maxRecDepth 20000 in
theorem tw270 : kW ((tWs[270]?).getD (0, 0, 0, 0)).1 = some (.code tY270.1 tY270.2.1 tM270.2.1 tY270.2.2) := rfl
theorem tk270 : eMok tCl lw_g tNs tMs tYs tM270 tY270 := kM_ok (q := (tWs[270]?).getD (0, 0, 0, 0)) (show ∀ ch ∈ tC270, _ from List.forall_mem_cons.mpr ⟨tc270_0, List.forall_mem_cons.mpr ⟨tc270_1, List.forall_mem_cons.mpr ⟨tc270_2, List.forall_mem_cons.mpr ⟨tc270_3, List.forall_mem_cons.mpr ⟨tc270_4, fun _ h => absurd h List.not_mem_nil⟩⟩⟩⟩⟩) tw270 tm270
theorem tc271_0 : tC271_0.all (kEn tY271.1 tY271.2.1) = true := by decide +kernel
theorem tc271_1 : tC271_1.all (kEn tY271.1 tY271.2.1) = true := by decide +kernel
theorem tm271 : kM tM271 tY271 ((tWs[271]?).getD (0, 0, 0, 0)) = true := by decide +kernel
set_option maxRecDepth 20000 in
theorem tw271 : kW ((tWs[271]?).getD (0, 0, 0, 0)).1 = some (.code tY271.1 tY271.2.1 tM271.2.1 tY271.2.2) := rfl
theorem tk271 : eMok tCl lw_g tNs tMs tYs tM271 tY271 := kM_ok (q := (tWs[271]?).getD (0, 0, 0, 0)) (show ∀ ch ∈ tC271, _ from List.forall_mem_cons.mpr ⟨tc271_0, List.forall_mem_cons.mpr ⟨tc271_1, fun _ h => absurd h List.not_mem_nil⟩⟩) tw271 tm271
theorem tc272_0 : tC272_0.all (kEn tY272.1 tY272.2.1) = true := by decide +kernel
theorem tc272_1 : tC272_1.all (kEn tY272.1 tY272.2.1) = true := by decide +kernel
theorem tc272_2 : tC272_2.all (kEn tY272.1 tY272.2.1) = true := by decide +kernel
theorem tm272 : kM tM272 tY272 ((tWs[272]?).getD (0, 0, 0, 0)) = true := by decide +kernel
set_option maxRecDepth 20000 in
theorem tw272 : kW ((tWs[272]?).getD (0, 0, 0, 0)).1 = some (.code tY272.1 tY272.2.1 tM272.2.1 tY272.2.2) := rfl
theorem tk272 : eMok tCl lw_g tNs tMs tYs tM272 tY272 := kM_ok (q := (tWs[272]?).getD (0, 0, 0, 0)) (show ∀ ch ∈ tC272, _ from List.forall_mem_cons.mpr ⟨tc272_0, List.forall_mem_cons.mpr ⟨tc272_1, List.forall_mem_cons.mpr ⟨tc272_2, fun _ h => absurd h List.not_mem_nil⟩⟩⟩) tw272 tm272
theorem tc273_0 : tC273_0.all (kEn tY273.1 tY273.2.1) = true := by decide +kernel
theorem tc273_1 : tC273_1.all (kEn tY273.1 tY273.2.1) = true := by decide +kernel
theorem tm273 : kM tM273 tY273 ((tWs[273]?).getD (0, 0, 0, 0)) = true := by decide +kernel
set_option maxRecDepth 20000 in
theorem tw273 : kW ((tWs[273]?).getD (0, 0, 0, 0)).1 = some (.code tY273.1 tY273.2.1 tM273.2.1 tY273.2.2) := rfl
theorem tk273 : eMok tCl lw_g tNs tMs tYs tM273 tY273 := kM_ok (q := (tWs[273]?).getD (0, 0, 0, 0)) (show ∀ ch ∈ tC273, _ from List.forall_mem_cons.mpr ⟨tc273_0, List.forall_mem_cons.mpr ⟨tc273_1, fun _ h => absurd h List.not_mem_nil⟩⟩) tw273 tm273
theorem tc274_0 : tC274_0.all (kEn tY274.1 tY274.2.1) = true := by decide +kernel
theorem tc274_1 : tC274_1.all (kEn tY274.1 tY274.2.1) = true := by decide +kernel
theorem tm274 : kM tM274 tY274 ((tWs[274]?).getD (0, 0, 0, 0)) = true := by decide +kernel
set_option maxRecDepth 20000 in
theorem tw274 : kW ((tWs[274]?).getD (0, 0, 0, 0)).1 = some (.code tY274.1 tY274.2.1 tM274.2.1 tY274.2.2) := rfl
theorem tk274 : eMok tCl lw_g tNs tMs tYs tM274 tY274 := kM_ok (q := (tWs[274]?).getD (0, 0, 0, 0)) (show ∀ ch ∈ tC274, _ from List.forall_mem_cons.mpr ⟨tc274_0, List.forall_mem_cons.mpr ⟨tc274_1, fun _ h => absurd h List.not_mem_nil⟩⟩) tw274 tm274
theorem tc275_0 : tC275_0.all (kEn tY275.1 tY275.2.1) = true := by decide +kernel
theorem tm275 : kM tM275 tY275 ((tWs[275]?).getD (0, 0, 0, 0)) = true := by decide +kernel
set_option maxRecDepth 20000 in
theorem tw275 : kW ((tWs[275]?).getD (0, 0, 0, 0)).1 = some (.code tY275.1 tY275.2.1 tM275.2.1 tY275.2.2) := rfl
theorem tk275 : eMok tCl lw_g tNs tMs tYs tM275 tY275 := kM_ok (q := (tWs[275]?).getD (0, 0, 0, 0)) (show ∀ ch ∈ tC275, _ from List.forall_mem_cons.mpr ⟨tc275_0, fun _ h => absurd h List.not_mem_nil⟩) tw275 tm275
theorem tc276_0 : tC276_0.all (kEn tY276.1 tY276.2.1) = true := by decide +kernel
theorem tm276 : kM tM276 tY276 ((tWs[276]?).getD (0, 0, 0, 0)) = true := by decide +kernel
set_option maxRecDepth 20000 in
theorem tw276 : kW ((tWs[276]?).getD (0, 0, 0, 0)).1 = some (.code tY276.1 tY276.2.1 tM276.2.1 tY276.2.2) := rfl
theorem tk276 : eMok tCl lw_g tNs tMs tYs tM276 tY276 := kM_ok (q := (tWs[276]?).getD (0, 0, 0, 0)) (show ∀ ch ∈ tC276, _ from List.forall_mem_cons.mpr ⟨tc276_0, fun _ h => absurd h List.not_mem_nil⟩) tw276 tm276
theorem tc277_0 : tC277_0.all (kEn tY277.1 tY277.2.1) = true := by decide +kernel
theorem tc277_1 : tC277_1.all (kEn tY277.1 tY277.2.1) = true := by decide +kernel
theorem tm277 : kM tM277 tY277 ((tWs[277]?).getD (0, 0, 0, 0)) = true := by decide +kernel
set_option maxRecDepth 20000 in
theorem tw277 : kW ((tWs[277]?).getD (0, 0, 0, 0)).1 = some (.code tY277.1 tY277.2.1 tM277.2.1 tY277.2.2) := rfl
theorem tk277 : eMok tCl lw_g tNs tMs tYs tM277 tY277 := kM_ok (q := (tWs[277]?).getD (0, 0, 0, 0)) (show ∀ ch ∈ tC277, _ from List.forall_mem_cons.mpr ⟨tc277_0, List.forall_mem_cons.mpr ⟨tc277_1, fun _ h => absurd h List.not_mem_nil⟩⟩) tw277 tm277
theorem tc278_0 : tC278_0.all (kEn tY278.1 tY278.2.1) = true := by decide +kernel
theorem tc278_1 : tC278_1.all (kEn tY278.1 tY278.2.1) = true := by decide +kernel
theorem tm278 : kM tM278 tY278 ((tWs[278]?).getD (0, 0, 0, 0)) = true := by decide +kernel
set_option maxRecDepth 20000 in
theorem tw278 : kW ((tWs[278]?).getD (0, 0, 0, 0)).1 = some (.code tY278.1 tY278.2.1 tM278.2.1 tY278.2.2) := rfl
theorem tk278 : eMok tCl lw_g tNs tMs tYs tM278 tY278 := kM_ok (q := (tWs[278]?).getD (0, 0, 0, 0)) (show ∀ ch ∈ tC278, _ from List.forall_mem_cons.mpr ⟨tc278_0, List.forall_mem_cons.mpr ⟨tc278_1, fun _ h => absurd h List.not_mem_nil⟩⟩) tw278 tm278
