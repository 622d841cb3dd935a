theorem tc193_0 : tC193_0.all (kEn tY193.1 tY193.2.1) = true := by decide +kernel
theorem tc193_1 : tC193_1.all (kEn tY193.1 tY193.2.1) = true := by decide +kernel
theorem tm193 : kM tM193 tY193 ((tWs[193]?).getD (0, 0, 0, 0)) = true := by decide +kernel
set_option maxRecDepth 20000 in
theorem tw193 : kW ((tWs[193]?).getD (0, 0, 0, 0)).1 = some (.code tY193.1 tY193.2.1 tM193.2.1 tY193.2.2) := rfl
theorem tk193 : eMok tCl lw_g tNs tMs tYs tM193 tY193 := kM_ok (q := (tWs[193]?).getD (0, 0, 0, 0)) (show ∀ ch ∈ tC193, _ from List.forall_mem_cons.mpr ⟨tc193_0, List.forall_mem_cons.mpr ⟨tc193_1, fun _ h => absurd h List.not_mem_nil⟩⟩) tw193 tm193
theorem tc194_0 : tC194_0.all (kEn tY194.1 tY194.2.1) = true := by decide +kernel
theorem tm194 : kM tM194 tY194 ((tWs[194]?).getD (0, 0, 0, 0)) = true := by decide +kernel
set_option maxRecDepth 20000 in
theorem tw194 : kW ((tWs[194]?).getD (0, 0, 0, 0)).1 = some (.code tY194.1 tY194.2.1 tM194.2.1 tY194.2.2) := rfl
theorem tk194 : eMok tCl lw_g tNs tMs tYs tM194 tY194 := kM_ok (q := (tWs[194]?).getD (0, 0, 0, 0)) (show ∀ ch ∈ tC194, _ from List.forall_mem_cons.mpr ⟨tc194_0, fun _ h => absurd h List.not_mem_nil⟩) tw194 tm194
theorem tc195_0 : tC195_0.all (kEn tY195.1 tY195.2.1) = true := by decide +kernel
theorem tm195 : kM tM195 tY195 ((tWs[195]?).getD (0, 0, 0, 0)) = true := by decide +kernel
set_option maxRecDepth 20000 in
theorem tw195 : kW ((tWs[195]?).getD (0, 0, 0, 0)).1 = some (.code tY195.1 tY195.2.1 tM195.2.1 tY195.2.2) := rfl
theorem tk195 : eMok tCl lw_g tNs tMs tYs tM195 tY195 := kM_ok (q := (tWs[195]?).getD (0, 0, 0, 0)) (show ∀ ch ∈ tC195, _ from List.forall_mem_cons.mpr ⟨tc195_0, fun _ h => absurd h List.not_mem_nil⟩) tw195 tm195
theorem tc196_0 : tC196_0.all (kEn tY196.1 tY196.2.1) = true := by decide +kernel
theorem tc196_1 : tC196_1.all (kEn tY196.1 tY196.2.1) = true := by decide +kernel
theorem tm196 : kM tM196 tY196 ((tWs[196]?).getD (0, 0, 0, 0)) = true := by decide +kernel
set_option maxRecDepth 20000 in
theorem tw196 : kW ((tWs[196]?).getD (0, 0, 0, 0)).1 = some (.code tY196.1 tY196.2.1 tM196.2.1 tY196.2.2) := rfl
theorem tk196 : eMok tCl lw_g tNs tMs tYs tM196 tY196 := kM_ok (q := (tWs[196]?).getD (0, 0, 0, 0)) (show ∀ ch ∈ tC196, _ from List.forall_mem_cons.mpr ⟨tc196_0, List.forall_mem_cons.mpr ⟨tc196_1, fun _ h => absurd h List.not_mem_nil⟩⟩) tw196 tm196
theorem tc197_0 : tC197_0.all (kEn tY197.1 tY197.2.1) = true := by decide +kernel
theorem tc197_1 : tC197_1.all (kEn tY197.1 tY197.2.1) = true := by decide +kernel
theorem tc197_2 : tC197_2.all (kEn tY197.1 tY197.2.1) = true := by decide +kernel
theorem tm197 : kM tM197 tY197 ((tWs[197]?).getD (0, 0, 0, 0)) = true := by decide +kernel
set_option maxRecDepth 20000 in
theorem tw197 : kW ((tWs[197]?).getD (0, 0, 0, 0)).1 = some (.code tY197.1 tY197.2.1 tM197.2.1 tY197.2.2) := rfl
theorem tk197 : eMok tCl lw_g tNs tMs tYs tM197 tY197 := kM_ok (q := (tWs[197]?).getD (0, 0, 0, 0)) (show ∀ ch ∈ tC197, _ from List.forall_mem_cons.mpr ⟨tc197_0, List.forall_mem_cons.mpr ⟨tc197_1, List.forall_mem_cons.mpr ⟨tc197_2, fun _ h => absurd h List.not_mem_nil⟩⟩⟩) tw197 tm197
theorem tc198_0 : tC198_0.all (kEn tY198.1 tY198.2.1) = true := by decide +kernel
theorem tc198_1 : tC198_1.all (kEn tY198.1 tY198.2.1) = true := by decide +kernel
theorem tm198 : kM tM198 tY198 ((tWs[198]?).getD (0, 0, 0, 0)) = true := by decide +kernel
set_option maxRecDepth 20000 in
theorem tw198 : kW ((tWs[198]?).getD (0, 0, 0, 0)).1 = some (.code tY198.1 tY198.2.1 tM198.2.1 tY198.2.2) := rfl
theorem tk198 : eMok tCl lw_g tNs tMs tYs tM198 tY198 := kM_ok (q := (tWs[198]?).getD (0, 0, 0, 0)) (show ∀ ch ∈ tC198, _ from List.forall_mem_cons.mpr ⟨tc198_0, List.forall_mem_cons.mpr ⟨tc198_1, fun _ h => absurd h List.not_mem_nil⟩⟩) tw198 tm198
theorem tc199_0 : tC199_0.all (kEn tY199.1 tY199.2.1) = true := by decide +kernel
theorem tc199_1 : tC199_1.all (kEn tY199.1 tY199.2.1) = true := by decide +kernel
theorem tm199 : kM tM199 tY199 ((tWs[199]?).getD (0, 0, 0, 0)) = true := by decide +kernel
set_option maxRecDepth 20000 in
theorem tw199 : kW ((tWs[199]?).getD (0, 0, 0, 0)).1 = some (.code tY199.1 tY199.2.1 tM199.2.1 tY199.2.2) := rfl
theorem tk199 : eMok tCl lw_g tNs tMs tYs tM199 tY199 := kM_ok (q := (tWs[199]?).getD (0, 0, 0, 0)) (show ∀ ch ∈ tC199, _ from List.forall_mem_cons.mpr ⟨tc199_0, List.forall_mem_cons.mpr ⟨tc199_1, fun _ h => absurd h List.not_mem_nil⟩⟩) tw199 tm199
theorem tc200_0 : tC200_0.all (kEn tY200.1 tY200.2.1) = true := by decide +kernel
theorem tc200_1 : tC200_1.all (kEn tY200.1 tY200.2.1) = true := by decide +kernel
theorem tm200 : kM tM200 tY200 ((tWs[200]?).getD (0, 0, 0, 0)) = true := by decide +kernel
set_option maxRecDepth 20000 in
theorem tw200 : kW ((tWs[200]?).getD (0, 0, 0, 0)).1 = some (.code tY200.1 tY200.2.1 tM200.2.1 tY200.2.2) := rfl
theorem tk200 : eMok tCl lw_g tNs tMs tYs tM200 tY200 := kM_ok (q := (tWs[200]?).getD (0, 0, 0, 0)) (show ∀ ch ∈ tC200, _ from List.forall_mem_cons.mpr ⟨tc200_0, List.forall_mem_cons.mpr ⟨tc200_1, fun _ h => absurd h List.not_mem_nil⟩⟩) tw200 tm200
theorem tc201_0 : tC201_0.all (kEn tY201.1 tY201.2.1) = true := by decide +kernel
theorem tm201 : kM tM201 tY201 ((tWs[201]?).getD (0, 0, 0, 0)) = true := by decide +kernel
set_option maxRecDepth 20000 in
theorem tw201 : kW ((tWs[201]?).getD (0, 0, 0, 0)).1 = some (.code tY201.1 tY201.2.1 tM201.2.1 tY201.2.2) := rfl
theorem tk201 : eMok tCl lw_g tNs tMs tYs tM201 tY201 := kM_ok (q := (tWs[201]?).getD (0, 0, 0, 0)) (show ∀ ch ∈ tC201, _ from List.forall_mem_cons.mpr ⟨tc201_0, fun _ h => absurd h List.not_mem_nil⟩) tw201 tm201
theorem tc202_0 : tC202_0.all (kEn tY202.1 tY202.2.1) = true := by decide +kernel
theorem tm202 : kM tM202 tY202 ((tWs[202]?).getD (0, 0, 0, 0)) = true := by decide +kernel
set_option maxRecDepth 20000 in
theorem tw202 : kW ((tWs[202]?).getD (0, 0, 0, 0)).1 = some (.code tY202.1 tY202.2.1 tM202.2.1 tY202.2.2) := rfl
theorem tk202 : eMok tCl lw_g tNs tMs tYs tM202 tY202 := kM_ok (q := (tWs[202]?).getD (0, 0, 0, 0)) (show ∀ ch ∈ tC202, _ from List.forall_mem_cons.mpr ⟨tc202_0, fun _ h => absurd h List.not_mem_nil⟩) tw202 tm202
theorem tc203_0 : tC203_0.all (kEn tY203.1 tY203.2.1) = true := by decide +kernel
theorem tc203_1 : tC203_1.all (kEn tY203.1 tY203.2.1) = true := by decide +kernel
theorem tm203 : kM tM203 tY203 ((tWs[203]?).getD (0, 0, 0, 0)) = true := by decide +kernel
set_option maxRecDepth 20000 in
theorem tw203 : kW ((tWs[203]?).getD (0, 0, 0, 0)).1 = some (.code tY203.1 tY203.2.1 tM203.2.1 tY203.2.2) := rfl
theorem tk203 : eMok tCl lw_g tNs tMs tYs tM203 tY203 := kM_ok (q := (tWs[203]?).getD (0, 0, 0, 0)) (show ∀ ch ∈ tC203, _ from List.forall_mem_cons.mpr ⟨tc203_0, List.forall_mem_cons.mpr ⟨tc203_1, fun _ h => absurd h List.not_mem_nil⟩⟩) tw203 tm203
theorem tc204_0 : tC204_0.all (kEn tY204.1 tY204.2.1) = true := by decide +kernel
theorem tc204_1 : tC204_1.all (kEn tY204.1 tY204.2.1) = true := by decide +kernel
theorem tm204 : kM tM204 tY204 ((tWs[204]?).getD (0, 0, 0, 0)) = true := by decide +kernel
set_option maxRecDepth 20000 in
theorem tw204 : kW ((tWs[204]?).getD (0, 0, 0, 0)).1 = some (.code tY204.1 tY204.2.1 tM204.2.1 tY204.2.2) := rfl
theorem tk204 : eMok tCl lw_g tNs tMs tYs tM204 tY204 := kM_ok (q := (tWs[204]?).getD (0, 0, 0, 0)) (show ∀ ch ∈ tC204, _ from List.forall_mem_cons.mpr ⟨tc204_0, List.forall_mem_cons.mpr ⟨tc204_1, fun _ h => absurd h List.not_mem_nil⟩⟩) tw204 tm204
theorem tc205_0 : tC205_0.all (kEn tY205.1 tY205.2.1) = true := by decide +kernel
theorem tc205_1 : tC205_1.all (kEn tY205.1 tY205.2.1) = true := by decide +kernel
theorem tm205 : kM tM205 tY205 ((tWs[205]?).getD (0, 0, 0, 0)) = true := by decide +kernel
set_option maxRecDepth 20000 in
theorem tw205 : kW ((tWs[205]?).getD (0, 0, 0, 0)).1 = some (.code tY205.1 tY205.2.1 tM205.2.1 tY205.2.2) := rfl
theorem tk205 : eMok tCl lw_g tNs tMs tYs tM205 tY205 := kM_ok (q := (tWs[205]?).getD (0, 0, 0, 0)) (show ∀ ch ∈ tC205, _ from List.forall_mem_cons.mpr ⟨tc205_0, List.forall_mem_cons.mpr ⟨tc205_1, fun _ h => absurd h List.not_mem_nil⟩⟩) tw205 tm205
theorem tc206_0 : tC206_0.all (kEn tY206.1 tY206.2.1) = true := by decide +kernel
theorem tc206_1 : tC206_1.all (kEn tY206.1 tY206.2.1) = true := by decide +kernel
theorem tm206 : kM tM206 tY206 ((tWs[206]?).getD (0, 0, 0, 0)) = true := by decide +kernel
set_option maxRecDepth 20000 in
theorem tw206 : kW ((tWs[206]?).getD (0, 0, 0, 0)).1 = some (.code tY206.1 tY206.2.1 tM206.2.1 tY206.2.2) := rfl
theorem tk206 : eMok tCl lw_g tNs tMs tYs tM206 tY206 := kM_ok (q := (tWs[206]?).getD (0, 0, 0, 0)) (show ∀ ch ∈ tC206, _ from List.forall_mem_cons.mpr ⟨tc206_0, List.forall_mem_cons.mpr ⟨tc206_1, fun _ h => absurd h List.not_mem_nil⟩⟩) tw206 tm206
theorem tc207_0 : tC207_0.all (kEn tY207.1 tY207.2.1) = true := by decide +kernel
theorem tc207_1 : tC207_1.all (kEn tY207.1 tY207.2.1) = true := by decide +kernel
theorem tm207 : kM tM207 tY207 ((tWs[207]?).getD (0, 0, 0, 0)) = true := by decide +kernel
set_option maxRecDepth 20000 in
theorem tw207 : kW ((tWs[207]?).getD (0, 0, 0, 0)).1 = some (.code tY207.1 tY207.2.1 tM207.2.1 tY207.2.2) := rfl
theorem tk207 : eMok tCl lw_g tNs tMs tYs tM207 tY207 := kM_ok (q := (tWs[207]?).getD (0, 0, 0, 0)) (show ∀ ch ∈ tC207, _ from List.forall_mem_cons.mpr ⟨tc207_0, List.forall_mem_cons.mpr ⟨tc207_1, fun _ h => absurd h List.not_mem_nil⟩⟩) tw207 tm207
theorem tc208_0 : tC208_0.all (kEn tY208.1 tY208.2.1) = true := by decide +kernel
theorem tc208_1 : tC208_1.all (kEn tY208.1 tY208.2.1) = true := by decide +kernel
theorem tc208_2 : tC208_2.all (kEn tY208.1 tY208.2.1) = true := by decide +kernel
theorem tm208 : kM tM208 tY208 ((tWs[208]?).getD (0, 0, 0, 0)) = true := by decide +kernel
set_option maxRecDepth 20000 in
theorem tw208 : kW ((tWs[208]?).getD (0, 0, 0, 0)).1 = some (.code tY208.1 tY208.2.1 tM208.2.1 tY208.2.2) := rfl
theorem tk208 : eMok tCl lw_g tNs tMs tYs tM208 tY208 := kM_ok (q := (tWs[208]?).getD (0, 0, 0, 0)) (show ∀ ch ∈ tC208, _ from List.forall_mem_cons.mpr ⟨tc208_0, List.forall_mem_cons.mpr ⟨tc208_1, List.forall_mem_cons.mpr ⟨tc208_2, fun _ h => absurd h List.not_mem_nil⟩⟩⟩) tw208 tm208
theorem tc209_0 : tC209_0.all (kEn tY209.1 tY209.2.1) = true := by decide +kernel
theorem tc209_1 : tC209_1.all (kEn tY209.1 tY209.2.1) = true := by decide +kernel
theorem tc209_2 : tC209_2.all (kEn tY209.1 tY209.2.1) = true := by decide +kernel
theorem tm209 : kM tM209 tY209 ((tWs[209]?).getD (0, 0, 0, 0)) = true := by decide +kernel
set_option maxRecDepth 20000 in
theorem tw209 : kW ((tWs[209]?).getD (0, 0, 0, 0)).1 = some (.code tY209.1 tY209.2.1 tM209.2.1 tY209.2.2) := rfl
theorem tk209 : eMok tCl lw_g tNs tMs tYs tM209 tY209 := kM_ok (q := (tWs[209]?).getD (0, 0, 0, 0)) (show ∀ ch ∈ tC209, _ from List.forall_mem_cons.mpr ⟨tc209_0, List.forall_mem_cons.mpr ⟨tc209_1, List.forall_mem_cons.mpr ⟨tc209_2, fun _ h => absurd h List.not_mem_nil⟩⟩⟩) tw209 tm209
theorem tc210_0 : tC210_0.all (kEn tY210.1 tY210.2.1) = true := by decide +kernel
theorem tc210_1 : tC210_1.all (kEn tY210.1 tY210.2.1) = true := by decide +kernel
theorem tc210_2 : tC210_2.all (kEn tY210.1 tY210.2.1) = true := by decide +kernel
theorem tc210_3 : tC210_3.all (kEn tY210.1 tY210.2.1) = true := by decide +kernel
theorem tm210 : kM tM210 tY210 ((tWs[210]?).getD (0, 0, 0, 0)) = true := by decide +kernel
set_option maxRecDepth 20000 in
theorem tw210 : kW ((tWs[210]?).getD (0, 0, 0, 0)).1 = some (.code tY210.1 tY210.2.1 tM210.2.1 tY210.2.2) := rfl
theorem tk210 : eMok tCl lw_g tNs tMs tYs tM210 tY210 := kM_ok (q := (tWs[210]?).getD (0, 0, 0, 0)) (show ∀ ch ∈ tC210, _ from List.forall_mem_cons.mpr ⟨tc210_0, List.forall_mem_cons.mpr ⟨tc210_1, List.forall_mem_cons.mpr ⟨tc210_2, List.forall_mem_cons.mpr ⟨tc210_3, fun _ h => absurd h List.not_mem_nil⟩⟩⟩⟩) tw210 tm210
theorem tc211_0 : tC211_0.all (kEn tY211.1 tY211.2.1) = true := by decide +kernel
theorem tc211_1 : tC211_1.all (kEn tY211.1 tY211.2.1) = true := by decide +kernel
theorem tc211_2 : tC211_2.all (kEn tY211.1 tY211.2.1) = true := by decide +kernel
theorem tc211_3 : tC211_3.all (kEn tY211.1 tY211.2.1) = true := by decide +kernel
theorem tm211 : kM tM211 tY211 ((tWs[211]?).getD (0, 0, 0, 0)) = true := by decide +kernel
set_option maxRecDepth 20000 in
theorem tw211 : kW ((tWs[211]?).getD (0, 0, 0, 0)).1 = some (.code tY211.1 tY211.2.1 tM211.2.1 tY211.2.2) := rfl
theorem tk211 : eMok tCl lw_g tNs tMs tYs tM211 tY211 := kM_ok (q := (tWs[211]?).getD (0, 0, 0, 0)) (show ∀ ch ∈ tC211, _ from List.forall_mem_cons.mpr ⟨tc211_0, List.forall_mem_cons.mpr ⟨tc211_1, List.forall_mem_cons.mpr ⟨tc211_2, List.forall_mem_cons.mpr ⟨tc211_3, fun _ h => absurd h List.not_mem_nil⟩⟩⟩⟩) tw211 tm211
theorem tc212_0 : tC212_0.all (kEn tY212.1 tY212.2.1) = true := by decide +kernel
theorem tm212 : kM tM212 tY212 ((tWs[212]?).getD (0, 0, 0, 0)) = true := by decide +kernel
set_option maxRecDepth 20000 in
theorem tw212 : kW ((tWs[212]?).getD (0, 0, 0, 0)).1 = some (.code tY212.1 tY212.2.1 tM212.2.1 tY212.2.2) := rfl
theorem tk212 : eMok tCl lw_g tNs tMs tYs tM212 tY212 := kM_ok (q := (tWs[212]?).getD (0, 0, 0, 0)) (show ∀ ch ∈ tC212, _ from List.forall_mem_cons.mpr ⟨tc212_0, fun _ h => absurd h List.not_mem_nil⟩) tw212 tm212
theorem tc213_0 : tC213_0.all (kEn tY213.1 tY213.2.1) = true := by decide +kernel
theorem tm213 : kM tM213 tY213 ((tWs[213]?).getD (0, 0, 0, 0)) = true := by decide +kernel
set_option maxRecDepth 20000 in
theorem tw213 : kW ((tWs[213]?).getD (0, 0, 0, 0)).1 = some (.code tY213.1 tY213.2.1 tM213.2.1 tY213.2.2) := rfl
theorem tk213 : eMok tCl lw_g tNs tMs tYs tM213 tY213 := kM_ok (q := (tWs[213]?).getD (0, 0, 0, 0)) (show ∀ ch ∈ tC213, _ from List.forall_mem_cons.mpr ⟨tc213_0, fun _ h => absurd h List.not_mem_nil⟩) tw213 tm213
theorem tc214_0 : tC214_0.all (kEn tY214.1 tY214.2.1) = true := by decide +kernel
theorem tc214_1 : tC214_1.all (kEn tY214.1 tY214.2.1) = true := by decide +kernel
theorem tc214_2 : tC214_2.all (kEn tY214.1 tY214.2.1) = true := by decide +kernel
theorem tc214_3 : tC214_3.all (kEn tY214.1 tY214.2.1) = true := by decide +kernel
theorem tm214 : kM tM214 tY214 ((tWs[214]?).getD (0, 0, 0, 0)) = true := by decide +kernel
set_option maxRecDepth 20000 in
theorem tw214 : kW ((tWs[214]?).getD (0, 0, 0, 0)).1 = some (.code tY214.1 tY214.2.1 tM214.2.1 tY214.2.2) := rfl
theorem tk214 : eMok tCl lw_g tNs tMs tYs tM214 tY214 := kM_ok (q := (tWs[214]?).getD (0, 0, 0, 0)) (show ∀ ch ∈ tC214, _ from List.forall_mem_cons.mpr ⟨tc214_0, List.forall_mem_cons.mpr ⟨tc214_1, List.forall_mem_cons.mpr ⟨tc214_2, List.forall_mem_cons.mpr ⟨tc214_3, fun _ h => absurd h List.not_mem_nil⟩⟩⟩⟩) tw214 tm214
theorem tc215_0 : tC215_0.all (kEn tY215.1 tY215.2.1) = true := by decide +kernel
theorem tc215_1 : tC215_1.all (kEn tY215.1 tY215.2.1) = true := by decide +kernel
theorem tc215_2 : tC215_2.all (kEn tY215.1 tY215.2.1) = true := by decide +kernel
theorem tm215 : kM tM215 tY215 ((tWs[215]?).getD (0, 0, 0, 0)) = true := by decide +kernel
set_option maxRecDepth 20000 in
theorem tw215 : kW ((tWs[215]?).getD (0, 0, 0, 0)).1 = some (.code tY215.1 tY215.2.1 tM215.2.1 tY215.2.2) := rfl
theorem tk215 : eMok tCl lw_g tNs tMs tYs tM215 tY215 := kM_ok (q := (tWs[215]?).getD (0, 0, 0, 0)) (show ∀ ch ∈ tC215, _ from List.forall_mem_cons.mpr ⟨tc215_0, List.forall_mem_cons.mpr ⟨tc215_1, List.forall_mem_cons.mpr ⟨tc215_2, fun _ h => absurd h List.not_mem_nil⟩⟩⟩) tw215 tm215
theorem tc216_0 : tC216_0.all (kEn tY216.1 tY216.2.1) = true := by decide +kernel
theorem tm216 : kM tM216 tY216 ((tWs[216]?).getD (0, 0, 0, 0)) = true := by decide +kernel
set_option maxRecDepth 20000 in
theorem tw216 : kW ((tWs[216]?).getD (0, 0, 0, 0)).1 = some (.code tY216.1 tY216.2.1 tM216.2.1 tY216.2.2) := rfl
theorem tk216 : eMok tCl lw_g tNs tMs tYs tM216 tY216 := kM_ok (q := (tWs[216]?).getD (0, 0, 0, 0)) (show ∀ ch ∈ tC216, _ from List.forall_mem_cons.mpr ⟨tc216_0, fun _ h => absurd h List.not_mem_nil⟩) tw216 tm216
theorem tc217_0 : tC217_0.all (kEn tY217.1 tY217.2.1) = true := by decide +kernel
theorem tm217 : kM tM217 tY217 ((tWs[217]?).getD (0, 0, 0, 0)) = true := by decide +kernel
set_option maxRecDepth 20000 in
theorem tw217 : kW ((tWs[217]?).getD (0, 0, 0, 0)).1 = some (.code tY217.1 tY217.2.1 tM217.2.1 tY217.2.2) := rfl
theorem tk217 : eMok tCl lw_g tNs tMs tYs tM217 tY217 := kM_ok (q := (tWs[217]?).getD (0, 0, 0, 0)) (show ∀ ch ∈ tC217, _ from List.forall_mem_cons.mpr ⟨tc217_0, fun _ h => absurd h List.not_mem_nil⟩) tw217 tm217
theorem tc218_0 : tC218_0.all (kEn tY218.1 tY218.2.1) = true := by decide +kernel
theorem tm218 : kM tM218 tY218 ((tWs[218]?).getD (0, 0, 0, 0)) = true := by decide +kernel
set_option maxRecDepth 20000 in
theorem tw218 : kW ((tWs[218]?).getD (0, 0, 0, 0)).1 = some (.code tY218.1 tY218.2.1 tM218.2.1 tY218.2.2) := rfl
theorem tk218 : eMok tCl lw_g tNs tMs tYs tM218 tY218 := kM_ok (q := (tWs[218]?).getD (0, 0, 0, 0)) (show ∀ ch ∈ tC218, _ from List.forall_mem_cons.mpr ⟨tc218_0, fun _ h => absurd h List.not_mem_nil⟩) tw218 tm218
theorem tc219_0 : tC219_0.all (kEn tY219.1 tY219.2.1) = true := by decide +kernel
theorem tm219 : kM tM219 tY219 ((tWs[219]?).getD (0, 0, 0, 0)) = true := by decide +kernel
set_option maxRecDepth 20000 in
theorem tw219 : kW ((tWs[219]?).getD (0, 0, 0, 0)).1 = some (.code tY219.1 tY219.2.1 tM219.2.1 tY219.2.2) := rfl
theorem tk219 : eMok tCl lw_g tNs tMs tYs tM219 tY219 := kM_ok (q := (tWs[219]?).getD (0, 0, 0, 0)) (show ∀ ch ∈ tC219, _ from List.forall_mem_cons.mpr ⟨tc219_0, fun _ h => absurd h List.not_mem_nil⟩) tw219 tm219
theorem tc220_0 : tC220_0.all (kEn tY220.1 tY220.2.1) = true := by decide +kernel
theorem tm220 : kM tM220 tY220 ((tWs[220]?).getD (0, 0, 0, 0)) = true := by decide +kernel
set_option maxRecDepth 20000 in
theorem tw220 : kW ((tWs[220]?).getD (0, 0, 0, 0)).1 = some (.code tY220.1 tY220.2.1 tM220.2.1 tY220.2.2) := rfl
theorem tk220 : eMok tCl lw_g tNs tMs tYs tM220 tY220 := kM_ok (q := (tWs[220]?).getD (0, 0, 0, 0)) (show ∀ ch ∈ tC220, _ from List.forall_mem_cons.mpr ⟨tc220_0, fun _ h => absurd h List.not_mem_nil⟩) tw220 tm220
theorem tc221_0 : tC221_0.all (kEn tY221.1 tY221.2.1) = true := by decide +kernel
theorem tc221_1 : tC221_1.all (kEn tY221.1 tY221.2.1) = true := by decide +kernel
theorem tm221 : kM tM221 tY221 ((tWs[221]?).getD (0, 0, 0, 0)) = true := by decide +kernel
set_option maxRecDepth 20000 in
theorem tw221 : kW ((tWs[221]?).getD (0, 0, 0, 0)).1 = some (.code tY221.1 tY221.2.1 tM221.2.1 tY221.2.2) := rfl
theorem tk221 : eMok tCl lw_g tNs tMs tYs tM221 tY221 := kM_ok (q := (tWs[221]?).getD (0, 0, 0, 0)) (show ∀ ch ∈ tC221, _ from List.forall_mem_cons.mpr ⟨tc221_0, List.forall_mem_cons.mpr ⟨tc221_1, fun _ h => absurd h List.not_mem_nil⟩⟩) tw221 tm221
theorem tc222_0 : tC222_0.all (kEn tY222.1 tY222.2.1) = true := by decide +kernel
theorem tm222 : kM tM222 tY222 ((tWs[222]?).getD (0, 0, 0, 0)) = true := by decide +kernel
set_option maxRecDepth 20000 in
theorem tw222 : kW ((tWs[222]?).getD (0, 0, 0, 0)).1 = some (.code tY222.1 tY222.2.1 tM222.2.1 tY222.2.2) := rfl
theorem tk222 : eMok tCl lw_g tNs tMs tYs tM222 tY222 := kM_ok (q := (tWs[222]?).getD (0, 0, 0, 0)) (show ∀ ch ∈ tC222, _ from List.forall_mem_cons.mpr ⟨tc222_0, fun _ h => absurd h List.not_mem_nil⟩) tw222 tm222
theorem tc223_0 : tC223_0.all (kEn tY223.1 tY223.2.1) = true := by decide +kernel
theorem tm223 : kM tM223 tY223 ((tWs[223]?).getD (0, 0, 0, 0)) = true := by decide +kernel
set_option maxRecDepth 20000 in
theorem tw223 : kW ((tWs[223]?).getD (0, 0, 0, 0)).1 = some (.code tY223.1 tY223.2.1 tM223.2.1 tY223.2.2) := rfl
theorem tk223 : eMok tCl lw_g tNs tMs tYs tM223 tY223 := kM_ok (q := (tWs[223]?).getD (0, 0, 0, 0)) (show ∀ ch ∈ tC223, _ from List.forall_mem_cons.mpr ⟨tc223_0, fun _ h => absurd h List.not_mem_nil⟩) tw223 tm223
theorem tc224_0 : tC224_0.all (kEn tY224.1 tY224.2.1) = true := by decide +kernel
theorem tc224_1 : tC224_1.all (kEn tY224.1 tY224.2.1) = true := by decide +kernel
theorem tm224 : kM tM224 tY224 ((tWs[224]?).getD (0, 0, 0, 0)) = true := by decide +kernel
set_option maxRecDepth 20000 in
theorem tw224 : kW ((tWs[224]?).getD (0, 0, 0, 0)).1 = some (.code tY224.1 tY224.2.1 tM224.2.1 tY224.2.2) := rfl
theorem tk224 : eMok tCl lw_g tNs tMs tYs tM224 tY224 := kM_ok (q := (tWs[224]?).getD (0, 0, 0, 0)) (show ∀ ch ∈ tC224, _ from List.forall_mem_cons.mpr ⟨tc224_0, List.forall_mem_cons.mpr ⟨tc224_1, fun _ h => absurd h List.not_mem_nil⟩⟩) tw224 tm224
theorem tc225_0 : tC225_0.all (kEn tY225.1 tY225.2.1) = true := by decide +kernel
theorem tc225_1 : tC225_1.all (kEn tY225.1 tY225.2.1) = true := by decide +kernel
theorem tc225_2 : tC225_2.all (kEn tY225.1 tY225.2.1) = true := by decide +kernel
theorem tm225 : kM tM225 tY225 ((tWs[225]?).getD (0, 0, 0, 0)) = true := by decide +kernel
set_option maxRecDepth 20000 in
theorem tw225 : kW ((tWs[225]?).getD (0, 0, 0, 0)).1 = some (.code tY225.1 tY225.2.1 tM225.2.1 tY225.2.2) := rfl
theorem tk225 : eMok tCl lw_g tNs tMs tYs tM225 tY225 := kM_ok (q := (tWs[225]?).getD (0, 0, 0, 0)) (show ∀ ch ∈ tC225, _ from List.forall_mem_cons.mpr ⟨tc225_0, List.forall_mem_cons.mpr ⟨tc225_1, List.forall_mem_cons.mpr ⟨tc225_2, fun _ h => absurd h List.not_mem_nil⟩⟩⟩) tw225 tm225
theorem tc226_0 : tC226_0.all (kEn tY226.1 tY226.2.1) = true := by decide +kernel
theorem tc226_1 : tC226_1.all (kEn tY226.1 tY226.2.1) = true := by decide +kernel
theorem tc226_2 : tC226_2.all (kEn tY226.1 tY226.2.1) = true := by decide +kernel
theorem tc226_3 : tC226_3.all (kEn tY226.1 tY226.2.1) = true := by decide +kernel
theorem tm226 : kM tM226 tY226 ((tWs[226]?).getD (0, 0, 0, 0)) = true := by decide +kernel
set_option maxRecDepth 20000 in
theorem tw226 : kW ((tWs[226]?).getD (0, 0, 0, 0)).1 = some (.code tY226.1 tY226.2.1 tM226.2.1 tY226.2.2) := rfl
theorem tk226 : eMok tCl lw_g tNs tMs tYs tM226 tY226 := kM_ok (q := (tWs[226]?).getD (0, 0, 0, 0)) (show ∀ ch ∈ tC226, _ from List.forall_mem_cons.mpr ⟨tc226_0, List.forall_mem_cons.mpr ⟨tc226_1, List.forall_mem_cons.mpr ⟨tc226_2, List.forall_mem_cons.mpr ⟨tc226_3, fun _ h => absurd h List.not_mem_nil⟩⟩⟩⟩) tw226 tm226
theorem tc227_0 : tC227_0.all (kEn tY227.1 tY227.2.1) = true := by decide +kernel
theorem tc227_1 : tC227_1.all (kEn tY227.1 tY227.2.1) = true := by decide +kernel
theorem tc227_2 : tC227_2.all (kEn tY227.1 tY227.2.1) = true := by decide +kernel
theorem tm227 : kM tM227 tY227 ((tWs[227]?).getD (0, 0, 0, 0)) = true := by decide +kernel
set_option maxRecDepth 20000 in
theorem tw227 : kW ((tWs[227]?).getD (0, 0, 0, 0)).1 = some (.code tY227.1 tY227.2.1 tM227.2.1 tY227.2.2) := rfl
theorem tk227 : eMok tCl lw_g tNs tMs tYs tM227 tY227 := kM_ok (q := (tWs[227]?).getD (0, 0, 0, 0)) (show ∀ ch ∈ tC227, _ from List.forall_mem_cons.mpr ⟨tc227_0, List.forall_mem_cons.mpr ⟨tc227_1, List.forall_mem_cons.mpr ⟨tc227_2, fun _ h => absurd h List.not_mem_nil⟩⟩⟩) tw227 tm227
theorem tc228_0 : tC228_0.all (kEn tY228.1 tY228.2.1) = true := by decide +kernel
theorem tm228 : kM tM228 tY228 ((tWs[228]?).getD (0, 0, 0, 0)) = true := by decide +kernel
set_option maxRecDepth 20000 in
theorem tw228 : kW ((tWs[228]?).getD (0, 0, 0, 0)).1 = some (.code tY228.1 tY228.2.1 tM228.2.1 tY228.2.2) := rfl
theorem tk228 : eMok tCl lw_g tNs tMs tYs tM228 tY228 := kM_ok (q := (tWs[228]?).getD (0, 0, 0, 0)) (show ∀ ch ∈ tC228, _ from List.forall_mem_cons.mpr ⟨tc228_0, fun _ h => absurd h List.not_mem_nil⟩) tw228 tm228
theorem tc229_0 : tC229_0.all (kEn tY229.1 tY229.2.1) = true := by decide +kernel
theorem tc229_1 : tC229_1.all (kEn tY229.1 tY229.2.1) = true := by decide +kernel
theorem tc229_2 : tC229_2.all (kEn tY229.1 tY229.2.1) = true := by decide +kernel
theorem tm229 : kM tM229 tY229 ((tWs[229]?).getD (0, 0, 0, 0)) = true := by decide +kernel
set_option maxRecDepth 20000 in
theorem tw229 : kW ((tWs[229]?).getD (0, 0, 0, 0)).1 = some (.code tY229.1 tY229.2.1 tM229.2.1 tY229.2.2) := rfl
theorem tk229 : eMok tCl lw_g tNs tMs tYs tM229 tY229 := kM_ok (q := (tWs[229]?).getD (0, 0, 0, 0)) (show ∀ ch ∈ tC229, _ from List.forall_mem_cons.mpr ⟨tc229_0, List.forall_mem_cons.mpr ⟨tc229_1, List.forall_mem_cons.mpr ⟨tc229_2, fun _ h => absurd h List.not_mem_nil⟩⟩⟩) tw229 tm229
theorem tc230_0 : tC230_0.all (kEn tY230.1 tY230.2.1) = true := by decide +kernel
theorem tm230 : kM tM230 tY230 ((tWs[230]?).getD (0, 0, 0, 0)) = true := by decide +kernel
set_option maxRecDepth 20000 in
theorem tw230 : kW ((tWs[230]?).getD (0, 0, 0, 0)).1 = some (.code tY230.1 tY230.2.1 tM230.2.1 tY230.2.2) := rfl
theorem tk230 : eMok tCl lw_g tNs tMs tYs tM230 tY230 := kM_ok (q := (tWs[230]?).getD (0, 0, 0, 0)) (show ∀ ch ∈ tC230, _ from List.forall_mem_cons.mpr ⟨tc230_0, fun _ h => absurd h List.not_mem_nil⟩) tw230 tm230
theorem tc231_0 : tC231_0.all (kEn tY231.1 tY231.2.1) = true := by decide +kernel
theorem tm231 : kM tM231 tY231 ((tWs[231]?).getD (0, 0, 0, 0)) = true := by decide +kernel
set_option maxRecDepth 20000 in
theorem tw231 : kW ((tWs[231]?).getD (0, 0, 0, 0)).1 = some (.code tY231.1 tY231.2.1 tM231.2.1 tY231.2.2) := rfl
theorem tk231 : eMok tCl lw_g tNs tMs tYs tM231 tY231 := kM_ok (q := (tWs[231]?).getD (0, 0, 0, 0)) (show ∀ ch ∈ tC231, _ from List.forall_mem_cons.mpr ⟨tc231_0, fun _ h => absurd h List.not_mem_nil⟩) tw231 tm231
theorem tc232_0 : tC232_0.all (kEn tY232.1 tY232.2.1) = true := by decide +kernel
theorem tc232_1 : tC232_1.all (kEn tY232.1 tY232.2.1) = true := by decide +kernel
theorem tm232 : kM tM232 tY232 ((tWs[232]?).getD (0, 0, 0, 0)) = true := by decide +kernel
set_option maxRecDepth 20000 in
theorem tw232 : kW ((tWs[232]?).getD (0, 0, 0, 0)).1 = some (.code tY232.1 tY232.2.1 tM232.2.1 tY232.2.2) := rfl
theorem tk232 : eMok tCl lw_g tNs tMs tYs tM232 tY232 := kM_ok (q := (tWs[232]?).getD (0, 0, 0, 0)) (show ∀ ch ∈ tC232, _ from List.forall_mem_cons.mpr ⟨tc232_0, List.forall_mem_cons.mpr ⟨tc232_1, fun _ h => absurd h List.not_mem_nil⟩⟩) tw232 tm232
theorem tc233_0 : tC233_0.all (kEn tY233.1 tY233.2.1) = true := by decide +kernel
theorem tc233_1 : tC233_1.all (kEn tY233.1 tY233.2.1) = true := by decide +kernel
theorem tm233 : kM tM233 tY233 ((tWs[233]?).getD (0, 0, 0, 0)) = true := by decide +kernel
set_option maxRecDepth 20000 in
theorem tw233 : kW ((tWs[233]?).getD (0, 0, 0, 0)).1 = some (.code tY233.1 tY233.2.1 tM233.2.1 tY233.2.2) := rfl
theorem tk233 : eMok tCl lw_g tNs tMs tYs tM233 tY233 := kM_ok (q := (tWs[233]?).getD (0, 0, 0, 0)) (show ∀ ch ∈ tC233, _ from List.forall_mem_cons.mpr ⟨tc233_0, List.forall_mem_cons.mpr ⟨tc233_1, fun _ h => absurd h List.not_mem_nil⟩⟩) tw233 tm233
theorem tc234_0 : tC234_0.all (kEn tY234.1 tY234.2.1) = true := by decide +kernel
theorem tc234_1 : tC234_1.all (kEn tY234.1 tY234.2.1) = true := by decide +kernel
theorem tm234 : kM tM234 tY234 ((tWs[234]?).getD (0, 0, 0, 0)) = true := by decide +kernel
set_option maxRecDepth 20000 in
theorem tw234 : kW ((tWs[234]?).getD (0, 0, 0, 0)).1 = some (.code tY234.1 tY234.2.1 tM234.2.1 tY234.2.2) := rfl
theorem tk234 : eMok tCl lw_g tNs tMs tYs tM234 tY234 := kM_ok (q := (tWs[234]?).getD (0, 0, 0, 0)) (show ∀ ch ∈ tC234, _ from List.forall_mem_cons.mpr ⟨tc234_0, List.forall_mem_cons.mpr ⟨tc234_1, fun _ h => absurd h List.not_mem_nil⟩⟩) tw234 tm234
theorem tc235_0 : tC235_0.all (kEn tY235.1 tY235.2.1) = true := by decide +kernel
theorem tc235_1 : tC235_1.all (kEn tY235.1 tY235.2.1) = true := by decide +kernel
theorem tc235_2 : tC235_2.all (kEn tY235.1 tY235.2.1) = true := by decide +kernel
theorem tm235 : kM tM235 tY235 ((tWs[235]?).getD (0, 0, 0, 0)) = true := by decide +kernel
set_option maxRecDepth 20000 in
theorem tw235 : kW ((tWs[235]?).getD (0, 0, 0, 0)).1 = some (.code tY235.1 tY235.2.1 tM235.2.1 tY235.2.2) := rfl
theorem tk235 : eMok tCl lw_g tNs tMs tYs tM235 tY235 := kM_ok (q := (tWs[235]?).getD (0, 0, 0, 0)) (show ∀ ch ∈ tC235, _ from List.forall_mem_cons.mpr ⟨tc235_0, List.forall_mem_cons.mpr ⟨tc235_1, List.forall_mem_cons.mpr ⟨tc235_2, fun _ h => absurd h List.not_mem_nil⟩⟩⟩) tw235 tm235
theorem tc236_0 : tC236_0.all (kEn tY236.1 tY236.2.1) = true := by decide +kernel
theorem tc236_1 : tC236_1.all (kEn tY236.1 tY236.2.1) = true := by decide +kernel
theorem tc236_2 : tC236_2.all (kEn tY236.1 tY236.2.1) = true := by decide +kernel
theorem tm236 : kM tM236 tY236 ((tWs[236]?).getD (0, 0, 0, 0)) = true := by decide +kernel
set_option maxRecDepth 20000 in
theorem tw236 : kW ((tWs[236]?).getD (0, 0, 0, 0)).1 = some (.code tY236.1 tY236.2.1 tM236.2.1 tY236.2.2) := rfl
theorem tk236 : eMok tCl lw_g tNs tMs tYs tM236 tY236 := kM_ok (q := (tWs[236]?).getD (0, 0, 0, 0)) (show ∀ ch ∈ tC236, _ from List.forall_mem_cons.mpr ⟨tc236_0, List.forall_mem_cons.mpr ⟨tc236_1, List.forall_mem_cons.mpr ⟨tc236_2, fun _ h => absurd h List.not_mem_nil⟩⟩⟩) tw236 tm236
theorem tc237_0 : tC237_0.all (kEn tY237.1 tY237.2.1) = true := by decide +kernel
theorem tc237_1 : tC237_1.all (kEn tY237.1 tY237.2.1) = true := by decide +kernel
theorem tm237 : kM tM237 tY237 ((tWs[237]?).getD (0, 0, 0, 0)) = true := by decide +kernel
set_option maxRecDepth 20000 in
theorem tw237 : kW ((tWs[237]?).getD (0, 0, 0, 0)).1 = some (.code tY237.1 tY237.2.1 tM237.2.1 tY237.2.2) := rfl
theorem tk237 : eMok tCl lw_g tNs tMs tYs tM237 tY237 := kM_ok (q := (tWs[237]?).getD (0, 0, 0, 0)) (show ∀ ch ∈ tC237, _ from List.forall_mem_cons.mpr ⟨tc237_0, List.forall_mem_cons.mpr ⟨tc237_1, fun _ h => absurd h List.not_mem_nil⟩⟩) tw237 tm237
theorem tc238_0 : tC238_0.all (kEn tY238.1 tY238.2.1) = true := by decide +kernel
theorem tm238 : kM tM238 tY238 ((tWs[238]?).getD (0, 0, 0, 0)) = true := by decide +kernel
set_option maxRecDepth 20000 in
theorem tw238 : kW ((tWs[238]?).getD (0, 0, 0, 0)).1 = some (.code tY238.1 tY238.2.1 tM238.2.1 tY238.2.2) := rfl
theorem tk238 : eMok tCl lw_g tNs tMs tYs tM238 tY238 := kM_ok (q := (tWs[238]?).getD (0, 0, 0, 0)) (show ∀ ch ∈ tC238, _ from List.forall_mem_cons.mpr ⟨tc238_0, fun _ h => absurd h List.not_mem_nil⟩) tw238 tm238
theorem tc239_0 : tC239_0.all (kEn tY239.1 tY239.2.1) = true := by decide +kernel
theorem tc239_1 : tC239_1.all (kEn tY239.1 tY239.2.1) = true := by decide +kernel
theorem tc239_2 : tC239_2.all (kEn tY239.1 tY239.2.1) = true := by decide +kernel
theorem tc239_3 : tC239_3.all (kEn tY239.1 tY239.2.1) = true := by decide +kernel
theorem tc239_4 : tC239_4.all (kEn tY239.1 tY239.2.1) = true := by decide +kernel
theorem tm239 : kM tM239 tY239 ((tWs[239]?).getD (0, 0, 0, 0)) = true := by decide +kernel
set_option maxRecDepth 20000 in
theorem tw239 : kW ((tWs[239]?).getD (0, 0, 0, 0)).1 = some (.code tY239.1 tY239.2.1 tM239.2.1 tY239.2.2) := rfl
theorem tk239 : eMok tCl lw_g tNs tMs tYs tM239 tY239 := kM_ok (q := (tWs[239]?).getD (0, 0, 0, 0)) (show ∀ ch ∈ tC239, _ from List.forall_mem_cons.mpr ⟨tc239_0, List.forall_mem_cons.mpr ⟨tc239_1, List.forall_mem_cons.mpr ⟨tc239_2, List.forall_mem_cons.mpr ⟨tc239_3, List.forall_mem_cons.mpr ⟨tc239_4, fun _ h => absurd h List.not_mem_nil⟩⟩⟩⟩⟩) tw239 tm239
theorem tc240_0 : tC240_0.all (kEn tY240.1 tY240.2.1) = true := by decide +kernel
theorem tc240_1 : tC240_1.all (kEn tY240.1 tY240.2.1) = true := by decide +kernel
theorem tc240_2 : tC240_2.all (kEn tY240.1 tY240.2.1) = true := by decide +kernel
theorem tc240_3 : tC240_3.all (kEn tY240.1 tY240.2.1) = true := by decide +kernel
theorem tc240_4 : tC240_4.all (kEn tY240.1 tY240.2.1) = true := by decide +kernel
theorem tm240 : kM tM240 tY240 ((tWs[240]?).getD (0, 0, 0, 0)) = true := by decide +kernel
set_option maxRecDepth 20000 in
theorem tw240 : kW ((tWs[240]?).getD (0, 0, 0, 0)).1 = some (.code tY240.1 tY240.2.1 tM240.2.1 tY240.2.2) := rfl
theorem tk240 : eMok tCl lw_g tNs tMs tYs tM240 tY240 := kM_ok (q := (tWs[240]?).getD (0, 0, 0, 0)) (show ∀ ch ∈ tC240, _ from List.forall_mem_cons.mpr ⟨tc240_0, List.forall_mem_cons.mpr ⟨tc240_1, List.forall_mem_cons.mpr ⟨tc240_2, List.forall_mem_cons.mpr ⟨tc240_3, List.forall_mem_cons.mpr ⟨tc240_4, fun _ h => absurd h List.not_mem_nil⟩⟩⟩⟩⟩) tw240 tm240
theorem tc241_0 : tC241_0.all (kEn tY241.1 tY241.2.1) = true := by decide +kernel
theorem tc241_1 : tC241_1.all (kEn tY241.1 tY241.2.1) = true := by decide +kernel
theorem tc241_2 : tC241_2.all (kEn tY241.1 tY241.2.1) = true := by decide +kernel
theorem tm241 : kM tM241 tY241 ((tWs[241]?).getD (0, 0, 0, 0)) = true := by decide +kernel
set_option maxRecDepth 20000 in
theorem tw241 : kW ((tWs[241]?).getD (0, 0, 0, 0)).1 = some (.code tY241.1 tY241.2.1 tM241.2.1 tY241.2.2) := rfl
theorem tk241 : eMok tCl lw_g tNs tMs tYs tM241 tY241 := kM_ok (q := (tWs[241]?).getD (0, 0, 0, 0)) (show ∀ ch ∈ tC241, _ from List.forall_mem_cons.mpr ⟨tc241_0, List.forall_mem_cons.mpr ⟨tc241_1, List.forall_mem_cons.mpr ⟨tc241_2, fun _ h => absurd h List.not_mem_nil⟩⟩⟩) tw241 tm241
