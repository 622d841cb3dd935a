theorem tc84_0 : tC84_0.all (kEn tY84.1 tY84.2.1) = true := by decide +kernel
theorem tm84 : kM tM84 tY84 ((tWs[84]?).getD (0, 0, 0, 0)) = true := by decide +kernel
set_option maxRecDepth 20000 in
theorem tw84 : kW ((tWs[84]?).getD (0, 0, 0, 0)).1 = some (.code tY84.1 tY84.2.1 tM84.2.1 tY84.2.2) := rfl
theorem tk84 : eMok tCl lw_g tNs tMs tYs tM84 tY84 := kM_ok (q := (tWs[84]?).getD (0, 0, 0, 0)) (show ∀ ch ∈ tC84, _ from List.forall_mem_cons.mpr ⟨tc84_0, fun _ h => absurd h List.not_mem_nil⟩) tw84 tm84
theorem tc85_0 : tC85_0.all (kEn tY85.1 tY85.2.1) = true := by decide +kernel
theorem tm85 : kM tM85 tY85 ((tWs[85]?).getD (0, 0, 0, 0)) = true := by decide +kernel
set_option maxRecDepth 20000 in
theorem tw85 : kW ((tWs[85]?).getD (0, 0, 0, 0)).1 = some (.code tY85.1 tY85.2.1 tM85.2.1 tY85.2.2) := rfl
theorem tk85 : eMok tCl lw_g tNs tMs tYs tM85 tY85 := kM_ok (q := (tWs[85]?).getD (0, 0, 0, 0)) (show ∀ ch ∈ tC85, _ from List.forall_mem_cons.mpr ⟨tc85_0, fun _ h => absurd h List.not_mem_nil⟩) tw85 tm85
theorem tc86_0 : tC86_0.all (kEn tY86.1 tY86.2.1) = true := by decide +kernel
theorem tc86_1 : tC86_1.all (kEn tY86.1 tY86.2.1) = true := by decide +kernel
theorem tm86 : kM tM86 tY86 ((tWs[86]?).getD (0, 0, 0, 0)) = true := by decide +kernel
set_option maxRecDepth 20000 in
theorem tw86 : kW ((tWs[86]?).getD (0, 0, 0, 0)).1 = some (.code tY86.1 tY86.2.1 tM86.2.1 tY86.2.2) := rfl
theorem tk86 : eMok tCl lw_g tNs tMs tYs tM86 tY86 := kM_ok (q := (tWs[86]?).getD (0, 0, 0, 0)) (show ∀ ch ∈ tC86, _ from List.forall_mem_cons.mpr ⟨tc86_0, List.forall_mem_cons.mpr ⟨tc86_1, fun _ h => absurd h List.not_mem_nil⟩⟩) tw86 tm86
theorem tc87_0 : tC87_0.all (kEn tY87.1 tY87.2.1) = true := by decide +kernel
theorem tc87_1 : tC87_1.all (kEn tY87.1 tY87.2.1) = true := by decide +kernel
theorem tm87 : kM tM87 tY87 ((tWs[87]?).getD (0, 0, 0, 0)) = true := by decide +kernel
set_option maxRecDepth 20000 in
theorem tw87 : kW ((tWs[87]?).getD (0, 0, 0, 0)).1 = some (.code tY87.1 tY87.2.1 tM87.2.1 tY87.2.2) := rfl
theorem tk87 : eMok tCl lw_g tNs tMs tYs tM87 tY87 := kM_ok (q := (tWs[87]?).getD (0, 0, 0, 0)) (show ∀ ch ∈ tC87, _ from List.forall_mem_cons.mpr ⟨tc87_0, List.forall_mem_cons.mpr ⟨tc87_1, fun _ h => absurd h List.not_mem_nil⟩⟩) tw87 tm87
theorem tc88_0 : tC88_0.all (kEn tY88.1 tY88.2.1) = true := by decide +kernel
theorem tc88_1 : tC88_1.all (kEn tY88.1 tY88.2.1) = true := by decide +kernel
theorem tc88_2 : tC88_2.all (kEn tY88.1 tY88.2.1) = true := by decide +kernel
theorem tc88_3 : tC88_3.all (kEn tY88.1 tY88.2.1) = true := by decide +kernel
theorem tm88 : kM tM88 tY88 ((tWs[88]?).getD (0, 0, 0, 0)) = true := by decide +kernel
set_option maxRecDepth 20000 in
theorem tw88 : kW ((tWs[88]?).getD (0, 0, 0, 0)).1 = some (.code tY88.1 tY88.2.1 tM88.2.1 tY88.2.2) := rfl
theorem tk88 : eMok tCl lw_g tNs tMs tYs tM88 tY88 := kM_ok (q := (tWs[88]?).getD (0, 0, 0, 0)) (show ∀ ch ∈ tC88, _ from List.forall_mem_cons.mpr ⟨tc88_0, List.forall_mem_cons.mpr ⟨tc88_1, List.forall_mem_cons.mpr ⟨tc88_2, List.forall_mem_cons.mpr ⟨tc88_3, fun _ h => absurd h List.not_mem_nil⟩⟩⟩⟩) tw88 tm88
theorem tc89_0 : tC89_0.all (kEn tY89.1 tY89.2.1) = true := by decide +kernel
theorem tc89_1 : tC89_1.all (kEn tY89.1 tY89.2.1) = true := by decide +kernel
theorem tc89_2 : tC89_2.all (kEn tY89.1 tY89.2.1) = true := by decide +kernel
theorem tc89_3 : tC89_3.all (kEn tY89.1 tY89.2.1) = true := by decide +kernel
theorem tm89 : kM tM89 tY89 ((tWs[89]?).getD (0, 0, 0, 0)) = true := by decide +kernel
set_option maxRecDepth 20000 in
theorem tw89 : kW ((tWs[89]?).getD (0, 0, 0, 0)).1 = some (.code tY89.1 tY89.2.1 tM89.2.1 tY89.2.2) := rfl
theorem tk89 : eMok tCl lw_g tNs tMs tYs tM89 tY89 := kM_ok (q := (tWs[89]?).getD (0, 0, 0, 0)) (show ∀ ch ∈ tC89, _ from List.forall_mem_cons.mpr ⟨tc89_0, List.forall_mem_cons.mpr ⟨tc89_1, List.forall_mem_cons.mpr ⟨tc89_2, List.forall_mem_cons.mpr ⟨tc89_3, fun _ h => absurd h List.not_mem_nil⟩⟩⟩⟩) tw89 tm89
theorem tc90_0 : tC90_0.all (kEn tY90.1 tY90.2.1) = true := by decide +kernel
theorem tc90_1 : tC90_1.all (kEn tY90.1 tY90.2.1) = true := by decide +kernel
theorem tc90_2 : tC90_2.all (kEn tY90.1 tY90.2.1) = true := by decide +kernel
theorem tm90 : kM tM90 tY90 ((tWs[90]?).getD (0, 0, 0, 0)) = true := by decide +kernel
set_option maxRecDepth 20000 in
theorem tw90 : kW ((tWs[90]?).getD (0, 0, 0, 0)).1 = some (.code tY90.1 tY90.2.1 tM90.2.1 tY90.2.2) := rfl
theorem tk90 : eMok tCl lw_g tNs tMs tYs tM90 tY90 := kM_ok (q := (tWs[90]?).getD (0, 0, 0, 0)) (show ∀ ch ∈ tC90, _ from List.forall_mem_cons.mpr ⟨tc90_0, List.forall_mem_cons.mpr ⟨tc90_1, List.forall_mem_cons.mpr ⟨tc90_2, fun _ h => absurd h List.not_mem_nil⟩⟩⟩) tw90 tm90
theorem tc91_0 : tC91_0.all (kEn tY91.1 tY91.2.1) = true := by decide +kernel
theorem tc91_1 : tC91_1.all (kEn tY91.1 tY91.2.1) = true := by decide +kernel
theorem tc91_2 : tC91_2.all (kEn tY91.1 tY91.2.1) = true := by decide +kernel
theorem tc91_3 : tC91_3.all (kEn tY91.1 tY91.2.1) = true := by decide +kernel
theorem tm91 : kM tM91 tY91 ((tWs[91]?).getD (0, 0, 0, 0)) = true := by decide +kernel
set_option maxRecDepth 20000 in
theorem tw91 : kW ((tWs[91]?).getD (0, 0, 0, 0)).1 = some (.code tY91.1 tY91.2.1 tM91.2.1 tY91.2.2) := rfl
theorem tk91 : eMok tCl lw_g tNs tMs tYs tM91 tY91 := kM_ok (q := (tWs[91]?).getD (0, 0, 0, 0)) (show ∀ ch ∈ tC91, _ from List.forall_mem_cons.mpr ⟨tc91_0, List.forall_mem_cons.mpr ⟨tc91_1, List.forall_mem_cons.mpr ⟨tc91_2, List.forall_mem_cons.mpr ⟨tc91_3, fun _ h => absurd h List.not_mem_nil⟩⟩⟩⟩) tw91 tm91
theorem tc92_0 : tC92_0.all (kEn tY92.1 tY92.2.1) = true := by decide +kernel
theorem tc92_1 : tC92_1.all (kEn tY92.1 tY92.2.1) = true := by decide +kernel
theorem tm92 : kM tM92 tY92 ((tWs[92]?).getD (0, 0, 0, 0)) = true := by decide +kernel
set_option maxRecDepth 20000 in
theorem tw92 : kW ((tWs[92]?).getD (0, 0, 0, 0)).1 = some (.code tY92.1 tY92.2.1 tM92.2.1 tY92.2.2) := rfl
theorem tk92 : eMok tCl lw_g tNs tMs tYs tM92 tY92 := kM_ok (q := (tWs[92]?).getD (0, 0, 0, 0)) (show ∀ ch ∈ tC92, _ from List.forall_mem_cons.mpr ⟨tc92_0, List.forall_mem_cons.mpr ⟨tc92_1, fun _ h => absurd h List.not_mem_nil⟩⟩) tw92 tm92
theorem tc93_0 : tC93_0.all (kEn tY93.1 tY93.2.1) = true := by decide +kernel
theorem tc93_1 : tC93_1.all (kEn tY93.1 tY93.2.1) = true := by decide +kernel
theorem tm93 : kM tM93 tY93 ((tWs[93]?).getD (0, 0, 0, 0)) = true := by decide +kernel
set_option maxRecDepth 20000 in
theorem tw93 : kW ((tWs[93]?).getD (0, 0, 0, 0)).1 = some (.code tY93.1 tY93.2.1 tM93.2.1 tY93.2.2) := rfl
theorem tk93 : eMok tCl lw_g tNs tMs tYs tM93 tY93 := kM_ok (q := (tWs[93]?).getD (0, 0, 0, 0)) (show ∀ ch ∈ tC93, _ from List.forall_mem_cons.mpr ⟨tc93_0, List.forall_mem_cons.mpr ⟨tc93_1, fun _ h => absurd h List.not_mem_nil⟩⟩) tw93 tm93
theorem tc94_0 : tC94_0.all (kEn tY94.1 tY94.2.1) = true := by decide +kernel
theorem tc94_1 : tC94_1.all (kEn tY94.1 tY94.2.1) = true := by decide +kernel
theorem tm94 : kM tM94 tY94 ((tWs[94]?).getD (0, 0, 0, 0)) = true := by decide +kernel
set_option maxRecDepth 20000 in
theorem tw94 : kW ((tWs[94]?).getD (0, 0, 0, 0)).1 = some (.code tY94.1 tY94.2.1 tM94.2.1 tY94.2.2) := rfl
theorem tk94 : eMok tCl lw_g tNs tMs tYs tM94 tY94 := kM_ok (q := (tWs[94]?).getD (0, 0, 0, 0)) (show ∀ ch ∈ tC94, _ from List.forall_mem_cons.mpr ⟨tc94_0, List.forall_mem_cons.mpr ⟨tc94_1, fun _ h => absurd h List.not_mem_nil⟩⟩) tw94 tm94
theorem tc95_0 : tC95_0.all (kEn tY95.1 tY95.2.1) = true := by decide +kernel
theorem tc95_1 : tC95_1.all (kEn tY95.1 tY95.2.1) = true := by decide +kernel
theorem tm95 : kM tM95 tY95 ((tWs[95]?).getD (0, 0, 0, 0)) = true := by decide +kernel
set_option maxRecDepth 20000 in
theorem tw95 : kW ((tWs[95]?).getD (0, 0, 0, 0)).1 = some (.code tY95.1 tY95.2.1 tM95.2.1 tY95.2.2) := rfl
theorem tk95 : eMok tCl lw_g tNs tMs tYs tM95 tY95 := kM_ok (q := (tWs[95]?).getD (0, 0, 0, 0)) (show ∀ ch ∈ tC95, _ from List.forall_mem_cons.mpr ⟨tc95_0, List.forall_mem_cons.mpr ⟨tc95_1, fun _ h => absurd h List.not_mem_nil⟩⟩) tw95 tm95
theorem tc96_0 : tC96_0.all (kEn tY96.1 tY96.2.1) = true := by decide +kernel
theorem tc96_1 : tC96_1.all (kEn tY96.1 tY96.2.1) = true := by decide +kernel
theorem tc96_2 : tC96_2.all (kEn tY96.1 tY96.2.1) = true := by decide +kernel
theorem tc96_3 : tC96_3.all (kEn tY96.1 tY96.2.1) = true := by decide +kernel
theorem tc96_4 : tC96_4.all (kEn tY96.1 tY96.2.1) = true := by decide +kernel
theorem tc96_5 : tC96_5.all (kEn tY96.1 tY96.2.1) = true := by decide +kernel
theorem tm96 : kM tM96 tY96 ((tWs[96]?).getD (0, 0, 0, 0)) = true := by decide +kernel
set_option maxRecDepth 20000 in
theorem tw96 : kW ((tWs[96]?).getD (0, 0, 0, 0)).1 = some (.code tY96.1 tY96.2.1 tM96.2.1 tY96.2.2) := rfl
theorem tk96 : eMok tCl lw_g tNs tMs tYs tM96 tY96 := kM_ok (q := (tWs[96]?).getD (0, 0, 0, 0)) (show ∀ ch ∈ tC96, _ from List.forall_mem_cons.mpr ⟨tc96_0, List.forall_mem_cons.mpr ⟨tc96_1, List.forall_mem_cons.mpr ⟨tc96_2, List.forall_mem_cons.mpr ⟨tc96_3, List.forall_mem_cons.mpr ⟨tc96_4, List.forall_mem_cons.mpr ⟨tc96_5, fun _ h => absurd h List.not_mem_nil⟩⟩⟩⟩⟩⟩) tw96 tm96
theorem tc97_0 : tC97_0.all (kEn tY97.1 tY97.2.1) = true := by decide +kernel
theorem tc97_1 : tC97_1.all (kEn tY97.1 tY97.2.1) = true := by decide +kernel
theorem tm97 : kM tM97 tY97 ((tWs[97]?).getD (0, 0, 0, 0)) = true := by decide +kernel
set_option maxRecDepth 20000 in
theorem tw97 : kW ((tWs[97]?).getD (0, 0, 0, 0)).1 = some (.code tY97.1 tY97.2.1 tM97.2.1 tY97.2.2) := rfl
theorem tk97 : eMok tCl lw_g tNs tMs tYs tM97 tY97 := kM_ok (q := (tWs[97]?).getD (0, 0, 0, 0)) (show ∀ ch ∈ tC97, _ from List.forall_mem_cons.mpr ⟨tc97_0, List.forall_mem_cons.mpr ⟨tc97_1, fun _ h => absurd h List.not_mem_nil⟩⟩) tw97 tm97
theorem tc98_0 : tC98_0.all (kEn tY98.1 tY98.2.1) = true := by decide +kernel
theorem tm98 : kM tM98 tY98 ((tWs[98]?).getD (0, 0, 0, 0)) = true := by decide +kernel
set_option maxRecDepth 20000 in
theorem tw98 : kW ((tWs[98]?).getD (0, 0, 0, 0)).1 = some (.code tY98.1 tY98.2.1 tM98.2.1 tY98.2.2) := rfl
theorem tk98 : eMok tCl lw_g tNs tMs tYs tM98 tY98 := kM_ok (q := (tWs[98]?).getD (0, 0, 0, 0)) (show ∀ ch ∈ tC98, _ from List.forall_mem_cons.mpr ⟨tc98_0, fun _ h => absurd h List.not_mem_nil⟩) tw98 tm98
theorem tc99_0 : tC99_0.all (kEn tY99.1 tY99.2.1) = true := by decide +kernel
theorem tm99 : kM tM99 tY99 ((tWs[99]?).getD (0, 0, 0, 0)) = true := by decide +kernel
set_option maxRecDepth 20000 in
theorem tw99 : kW ((tWs[99]?).getD (0, 0, 0, 0)).1 = some (.code tY99.1 tY99.2.1 tM99.2.1 tY99.2.2) := rfl
theorem tk99 : eMok tCl lw_g tNs tMs tYs tM99 tY99 := kM_ok (q := (tWs[99]?).getD (0, 0, 0, 0)) (show ∀ ch ∈ tC99, _ from List.forall_mem_cons.mpr ⟨tc99_0, fun _ h => absurd h List.not_mem_nil⟩) tw99 tm99
theorem tc100_0 : tC100_0.all (kEn tY100.1 tY100.2.1) = true := by decide +kernel
theorem tc100_1 : tC100_1.all (kEn tY100.1 tY100.2.1) = true := by decide +kernel
theorem tc100_2 : tC100_2.all (kEn tY100.1 tY100.2.1) = true := by decide +kernel
theorem tm100 : kM tM100 tY100 ((tWs[100]?).getD (0, 0, 0, 0)) = true := by decide +kernel
set_option maxRecDepth 20000 in
theorem tw100 : kW ((tWs[100]?).getD (0, 0, 0, 0)).1 = some (.code tY100.1 tY100.2.1 tM100.2.1 tY100.2.2) := rfl
theorem tk100 : eMok tCl lw_g tNs tMs tYs tM100 tY100 := kM_ok (q := (tWs[100]?).getD (0, 0, 0, 0)) (show ∀ ch ∈ tC100, _ from List.forall_mem_cons.mpr ⟨tc100_0, List.forall_mem_cons.mpr ⟨tc100_1, List.forall_mem_cons.mpr ⟨tc100_2, fun _ h => absurd h List.not_mem_nil⟩⟩⟩) tw100 tm100
theorem tc101_0 : tC101_0.all (kEn tY101.1 tY101.2.1) = true := by decide +kernel
theorem tc101_1 : tC101_1.all (kEn tY101.1 tY101.2.1) = true := by decide +kernel
theorem tc101_2 : tC101_2.all (kEn tY101.1 tY101.2.1) = true := by decide +kernel
theorem tc101_3 : tC101_3.all (kEn tY101.1 tY101.2.1) = true := by decide +kernel
theorem tm101 : kM tM101 tY101 ((tWs[101]?).getD (0, 0, 0, 0)) = true := by decide +kernel
set_option maxRecDepth 20000 in
theorem tw101 : kW ((tWs[101]?).getD (0, 0, 0, 0)).1 = some (.code tY101.1 tY101.2.1 tM101.2.1 tY101.2.2) := rfl
theorem tk101 : eMok tCl lw_g tNs tMs tYs tM101 tY101 := kM_ok (q := (tWs[101]?).getD (0, 0, 0, 0)) (show ∀ ch ∈ tC101, _ from List.forall_mem_cons.mpr ⟨tc101_0, List.forall_mem_cons.mpr ⟨tc101_1, List.forall_mem_cons.mpr ⟨tc101_2, List.forall_mem_cons.mpr ⟨tc101_3, fun _ h => absurd h List.not_mem_nil⟩⟩⟩⟩) tw101 tm101
theorem tc102_0 : tC102_0.all (kEn tY102.1 tY102.2.1) = true := by decide +kernel
theorem tc102_1 : tC102_1.all (kEn tY102.1 tY102.2.1) = true := by decide +kernel
theorem tc102_2 : tC102_2.all (kEn tY102.1 tY102.2.1) = true := by decide +kernel
theorem tc102_3 : tC102_3.all (kEn tY102.1 tY102.2.1) = true := by decide +kernel
theorem tm102 : kM tM102 tY102 ((tWs[102]?).getD (0, 0, 0, 0)) = true := by decide +kernel
set_option maxRecDepth 20000 in
theorem tw102 : kW ((tWs[102]?).getD (0, 0, 0, 0)).1 = some (.code tY102.1 tY102.2.1 tM102.2.1 tY102.2.2) := rfl
theorem tk102 : eMok tCl lw_g tNs tMs tYs tM102 tY102 := kM_ok (q := (tWs[102]?).getD (0, 0, 0, 0)) (show ∀ ch ∈ tC102, _ from List.forall_mem_cons.mpr ⟨tc102_0, List.forall_mem_cons.mpr ⟨tc102_1, List.forall_mem_cons.mpr ⟨tc102_2, List.forall_mem_cons.mpr ⟨tc102_3, fun _ h => absurd h List.not_mem_nil⟩⟩⟩⟩) tw102 tm102
theorem tc103_0 : tC103_0.all (kEn tY103.1 tY103.2.1) = true := by decide +kernel
theorem tc103_1 : tC103_1.all (kEn tY103.1 tY103.2.1) = true := by decide +kernel
theorem tc103_2 : tC103_2.all (kEn tY103.1 tY103.2.1) = true := by decide +kernel
theorem tm103 : kM tM103 tY103 ((tWs[103]?).getD (0, 0, 0, 0)) = true := by decide +kernel
set_option maxRecDepth 20000 in
theorem tw103 : kW ((tWs[103]?).getD (0, 0, 0, 0)).1 = some (.code tY103.1 tY103.2.1 tM103.2.1 tY103.2.2) := rfl
theorem tk103 : eMok tCl lw_g tNs tMs tYs tM103 tY103 := kM_ok (q := (tWs[103]?).getD (0, 0, 0, 0)) (show ∀ ch ∈ tC103, _ from List.forall_mem_cons.mpr ⟨tc103_0, List.forall_mem_cons.mpr ⟨tc103_1, List.forall_mem_cons.mpr ⟨tc103_2, fun _ h => absurd h List.not_mem_nil⟩⟩⟩) tw103 tm103
theorem tc104_0 : tC104_0.all (kEn tY104.1 tY104.2.1) = true := by decide +kernel
theorem tc104_1 : tC104_1.all (kEn tY104.1 tY104.2.1) = true := by decide +kernel
theorem tm104 : kM tM104 tY104 ((tWs[104]?).getD (0, 0, 0, 0)) = true := by decide +kernel
set_option maxRecDepth 20000 in
theorem tw104 : kW ((tWs[104]?).getD (0, 0, 0, 0)).1 = some (.code tY104.1 tY104.2.1 tM104.2.1 tY104.2.2) := rfl
theorem tk104 : eMok tCl lw_g tNs tMs tYs tM104 tY104 := kM_ok (q := (tWs[104]?).getD (0, 0, 0, 0)) (show ∀ ch ∈ tC104, _ from List.forall_mem_cons.mpr ⟨tc104_0, List.forall_mem_cons.mpr ⟨tc104_1, fun _ h => absurd h List.not_mem_nil⟩⟩) tw104 tm104
theorem tc105_0 : tC105_0.all (kEn tY105.1 tY105.2.1) = true := by decide +kernel
theorem tc105_1 : tC105_1.all (kEn tY105.1 tY105.2.1) = true := by decide +kernel
theorem tc105_2 : tC105_2.all (kEn tY105.1 tY105.2.1) = true := by decide +kernel
theorem tm105 : kM tM105 tY105 ((tWs[105]?).getD (0, 0, 0, 0)) = true := by decide +kernel
set_option maxRecDepth 20000 in
theorem tw105 : kW ((tWs[105]?).getD (0, 0, 0, 0)).1 = some (.code tY105.1 tY105.2.1 tM105.2.1 tY105.2.2) := rfl
theorem tk105 : eMok tCl lw_g tNs tMs tYs tM105 tY105 := kM_ok (q := (tWs[105]?).getD (0, 0, 0, 0)) (show ∀ ch ∈ tC105, _ from List.forall_mem_cons.mpr ⟨tc105_0, List.forall_mem_cons.mpr ⟨tc105_1, List.forall_mem_cons.mpr ⟨tc105_2, fun _ h => absurd h List.not_mem_nil⟩⟩⟩) tw105 tm105
theorem tc106_0 : tC106_0.all (kEn tY106.1 tY106.2.1) = true := by decide +kernel
theorem tc106_1 : tC106_1.all (kEn tY106.1 tY106.2.1) = true := by decide +kernel
theorem tm106 : kM tM106 tY106 ((tWs[106]?).getD (0, 0, 0, 0)) = true := by decide +kernel
set_option maxRecDepth 20000 in
theorem tw106 : kW ((tWs[106]?).getD (0, 0, 0, 0)).1 = some (.code tY106.1 tY106.2.1 tM106.2.1 tY106.2.2) := rfl
theorem tk106 : eMok tCl lw_g tNs tMs tYs tM106 tY106 := kM_ok (q := (tWs[106]?).getD (0, 0, 0, 0)) (show ∀ ch ∈ tC106, _ from List.forall_mem_cons.mpr ⟨tc106_0, List.forall_mem_cons.mpr ⟨tc106_1, fun _ h => absurd h List.not_mem_nil⟩⟩) tw106 tm106
theorem tc107_0 : tC107_0.all (kEn tY107.1 tY107.2.1) = true := by decide +kernel
theorem tm107 : kM tM107 tY107 ((tWs[107]?).getD (0, 0, 0, 0)) = true := by decide +kernel
set_option maxRecDepth 20000 in
theorem tw107 : kW ((tWs[107]?).getD (0, 0, 0, 0)).1 = some (.code tY107.1 tY107.2.1 tM107.2.1 tY107.2.2) := rfl
theorem tk107 : eMok tCl lw_g tNs tMs tYs tM107 tY107 := kM_ok (q := (tWs[107]?).getD (0, 0, 0, 0)) (show ∀ ch ∈ tC107, _ from List.forall_mem_cons.mpr ⟨tc107_0, fun _ h => absurd h List.not_mem_nil⟩) tw107 tm107
theorem tc108_0 : tC108_0.all (kEn tY108.1 tY108.2.1) = true := by decide +kernel
theorem tc108_1 : tC108_1.all (kEn tY108.1 tY108.2.1) = true := by decide +kernel
theorem tc108_2 : tC108_2.all (kEn tY108.1 tY108.2.1) = true := by decide +kernel
theorem tc108_3 : tC108_3.all (kEn tY108.1 tY108.2.1) = true := by decide +kernel
theorem tm108 : kM tM108 tY108 ((tWs[108]?).getD (0, 0, 0, 0)) = true := by decide +kernel
set_option maxRecDepth 20000 in
theorem tw108 : kW ((tWs[108]?).getD (0, 0, 0, 0)).1 = some (.code tY108.1 tY108.2.1 tM108.2.1 tY108.2.2) := rfl
theorem tk108 : eMok tCl lw_g tNs tMs tYs tM108 tY108 := kM_ok (q := (tWs[108]?).getD (0, 0, 0, 0)) (show ∀ ch ∈ tC108, _ from List.forall_mem_cons.mpr ⟨tc108_0, List.forall_mem_cons.mpr ⟨tc108_1, List.forall_mem_cons.mpr ⟨tc108_2, List.forall_mem_cons.mpr ⟨tc108_3, fun _ h => absurd h List.not_mem_nil⟩⟩⟩⟩) tw108 tm108
theorem tc109_0 : tC109_0.all (kEn tY109.1 tY109.2.1) = true := by decide +kernel
theorem tc109_1 : tC109_1.all (kEn tY109.1 tY109.2.1) = true := by decide +kernel
theorem tm109 : kM tM109 tY109 ((tWs[109]?).getD (0, 0, 0, 0)) = true := by decide +kernel
set_option maxRecDepth 20000 in
theorem tw109 : kW ((tWs[109]?).getD (0, 0, 0, 0)).1 = some (.code tY109.1 tY109.2.1 tM109.2.1 tY109.2.2) := rfl
theorem tk109 : eMok tCl lw_g tNs tMs tYs tM109 tY109 := kM_ok (q := (tWs[109]?).getD (0, 0, 0, 0)) (show ∀ ch ∈ tC109, _ from List.forall_mem_cons.mpr ⟨tc109_0, List.forall_mem_cons.mpr ⟨tc109_1, fun _ h => absurd h List.not_mem_nil⟩⟩) tw109 tm109
theorem tc110_0 : tC110_0.all (kEn tY110.1 tY110.2.1) = true := by decide +kernel
theorem tc110_1 : tC110_1.all (kEn tY110.1 tY110.2.1) = true := by decide +kernel
theorem tc110_2 : tC110_2.all (kEn tY110.1 tY110.2.1) = true := by decide +kernel
theorem tc110_3 : tC110_3.all (kEn tY110.1 tY110.2.1) = true := by decide +kernel
theorem tc110_4 : tC110_4.all (kEn tY110.1 tY110.2.1) = true := by decide +kernel
theorem tm110 : kM tM110 tY110 ((tWs[110]?).getD (0, 0, 0, 0)) = true := by decide +kernel
set_option maxRecDepth 20000 in
theorem tw110 : kW ((tWs[110]?).getD (0, 0, 0, 0)).1 = some (.code tY110.1 tY110.2.1 tM110.2.1 tY110.2.2) := rfl
theorem tk110 : eMok tCl lw_g tNs tMs tYs tM110 tY110 := kM_ok (q := (tWs[110]?).getD (0, 0, 0, 0)) (show ∀ ch ∈ tC110, _ from List.forall_mem_cons.mpr ⟨tc110_0, List.forall_mem_cons.mpr ⟨tc110_1, List.forall_mem_cons.mpr ⟨tc110_2, List.forall_mem_cons.mpr ⟨tc110_3, List.forall_mem_cons.mpr ⟨tc110_4, fun _ h => absurd h List.not_mem_nil⟩⟩⟩⟩⟩) tw110 tm110
theorem tc111_0 : tC111_0.all (kEn tY111.1 tY111.2.1) = true := by decide +kernel
theorem tc111_1 : tC111_1.all (kEn tY111.1 tY111.2.1) = true := by decide +kernel
theorem tm111 : kM tM111 tY111 ((tWs[111]?).getD (0, 0, 0, 0)) = true := by decide +kernel
set_option maxRecDepth 20000 in
theorem tw111 : kW ((tWs[111]?).getD (0, 0, 0, 0)).1 = some (.code tY111.1 tY111.2.1 tM111.2.1 tY111.2.2) := rfl
theorem tk111 : eMok tCl lw_g tNs tMs tYs tM111 tY111 := kM_ok (q := (tWs[111]?).getD (0, 0, 0, 0)) (show ∀ ch ∈ tC111, _ from List.forall_mem_cons.mpr ⟨tc111_0, List.forall_mem_cons.mpr ⟨tc111_1, fun _ h => absurd h List.not_mem_nil⟩⟩) tw111 tm111
theorem tc112_0 : tC112_0.all (kEn tY112.1 tY112.2.1) = true := by decide +kernel
theorem tc112_1 : tC112_1.all (kEn tY112.1 tY112.2.1) = true := by decide +kernel
theorem tm112 : kM tM112 tY112 ((tWs[112]?).getD (0, 0, 0, 0)) = true := by decide +kernel
set_option maxRecDepth 20000 in
theorem tw112 : kW ((tWs[112]?).getD (0, 0, 0, 0)).1 = some (.code tY112.1 tY112.2.1 tM112.2.1 tY112.2.2) := rfl
theorem tk112 : eMok tCl lw_g tNs tMs tYs tM112 tY112 := kM_ok (q := (tWs[112]?).getD (0, 0, 0, 0)) (show ∀ ch ∈ tC112, _ from List.forall_mem_cons.mpr ⟨tc112_0, List.forall_mem_cons.mpr ⟨tc112_1, fun _ h => absurd h List.not_mem_nil⟩⟩) tw112 tm112
theorem tc113_0 : tC113_0.all (kEn tY113.1 tY113.2.1) = true := by decide +kernel
theorem tc113_1 : tC113_1.all (kEn tY113.1 tY113.2.1) = true := by decide +kernel
theorem tc113_2 : tC113_2.all (kEn tY113.1 tY113.2.1) = true := by decide +kernel
theorem tc113_3 : tC113_3.all (kEn tY113.1 tY113.2.1) = true := by decide +kernel
theorem tc113_4 : tC113_4.all (kEn tY113.1 tY113.2.1) = true := by decide +kernel
theorem tc113_5 : tC113_5.all (kEn tY113.1 tY113.2.1) = true := by decide +kernel
theorem tc113_6 : tC113_6.all (kEn tY113.1 tY113.2.1) = true := by decide +kernel
theorem tc113_7 : tC113_7.all (kEn tY113.1 tY113.2.1) = true := by decide +kernel
theorem tc113_8 : tC113_8.all (kEn tY113.1 tY113.2.1) = true := by decide +kernel
theorem tc113_9 : tC113_9.all (kEn tY113.1 tY113.2.1) = true := by decide +kernel
theorem tm113 : kM tM113 tY113 ((tWs[113]?).getD (0, 0, 0, 0)) = true := by decide +kernel
set_option maxRecDepth 20000 in
theorem tw113 : kW ((tWs[113]?).getD (0, 0, 0, 0)).1 = some (.code tY113.1 tY113.2.1 tM113.2.1 tY113.2.2) := rfl
theorem tk113 : eMok tCl lw_g tNs tMs tYs tM113 tY113 := kM_ok (q := (tWs[113]?).getD (0, 0, 0, 0)) (show ∀ ch ∈ tC113, _ from List.forall_mem_cons.mpr ⟨tc113_0, List.forall_mem_cons.mpr ⟨tc113_1, List.forall_mem_cons.mpr ⟨tc113_2, List.forall_mem_cons.mpr ⟨tc113_3, List.forall_mem_cons.mpr ⟨tc113_4, List.forall_mem_cons.mpr ⟨tc113_5, List.forall_mem_cons.mpr ⟨tc113_6, List.forall_mem_cons.mpr ⟨tc113_7, List.forall_mem_cons.mpr ⟨tc113_8, List.forall_mem_cons.mpr ⟨tc113_9, fun _ h => absurd h List.not_mem_nil⟩⟩⟩⟩⟩⟩⟩⟩⟩⟩) tw113 tm113
