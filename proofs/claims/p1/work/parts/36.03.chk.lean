theorem tc79_0 : tC79_0.all (kEn tY79.1 tY79.2.1) = true := by decide +kernel
theorem tm79 : kM tM79 tY79 ((tWs[79]?).getD (0, 0, 0, 0)) = true := by decide +kernel
set_option maxRecDepth 20000 in
theorem tw79 : kW ((tWs[79]?).getD (0, 0, 0, 0)).1 = some (.code tY79.1 tY79.2.1 tM79.2.1 tY79.2.2) := rfl
theorem tk79 : eMok tCl lw_g tNs tMs tYs tM79 tY79 := kM_ok (q := (tWs[79]?).getD (0, 0, 0, 0)) (show ∀ ch ∈ tC79, _ from List.forall_mem_cons.mpr ⟨tc79_0, fun _ h => absurd h List.not_mem_nil⟩) tw79 tm79
theorem tc80_0 : tC80_0.all (kEn tY80.1 tY80.2.1) = true := by decide +kernel
theorem tm80 : kM tM80 tY80 ((tWs[80]?).getD (0, 0, 0, 0)) = true := by decide +kernel
set_option maxRecDepth 20000 in
theorem tw80 : kW ((tWs[80]?).getD (0, 0, 0, 0)).1 = some (.code tY80.1 tY80.2.1 tM80.2.1 tY80.2.2) := rfl
theorem tk80 : eMok tCl lw_g tNs tMs tYs tM80 tY80 := kM_ok (q := (tWs[80]?).getD (0, 0, 0, 0)) (show ∀ ch ∈ tC80, _ from List.forall_mem_cons.mpr ⟨tc80_0, fun _ h => absurd h List.not_mem_nil⟩) tw80 tm80
theorem tc81_0 : tC81_0.all (kEn tY81.1 tY81.2.1) = true := by decide +kernel
theorem tm81 : kM tM81 tY81 ((tWs[81]?).getD (0, 0, 0, 0)) = true := by decide +kernel
set_option maxRecDepth 20000 in
theorem tw81 : kW ((tWs[81]?).getD (0, 0, 0, 0)).1 = some (.code tY81.1 tY81.2.1 tM81.2.1 tY81.2.2) := rfl
theorem tk81 : eMok tCl lw_g tNs tMs tYs tM81 tY81 := kM_ok (q := (tWs[81]?).getD (0, 0, 0, 0)) (show ∀ ch ∈ tC81, _ from List.forall_mem_cons.mpr ⟨tc81_0, fun _ h => absurd h List.not_mem_nil⟩) tw81 tm81
theorem tc82_0 : tC82_0.all (kEn tY82.1 tY82.2.1) = true := by decide +kernel
theorem tm82 : kM tM82 tY82 ((tWs[82]?).getD (0, 0, 0, 0)) = true := by decide +kernel
set_option maxRecDepth 20000 in
theorem tw82 : kW ((tWs[82]?).getD (0, 0, 0, 0)).1 = some (.code tY82.1 tY82.2.1 tM82.2.1 tY82.2.2) := rfl
theorem tk82 : eMok tCl lw_g tNs tMs tYs tM82 tY82 := kM_ok (q := (tWs[82]?).getD (0, 0, 0, 0)) (show ∀ ch ∈ tC82, _ from List.forall_mem_cons.mpr ⟨tc82_0, fun _ h => absurd h List.not_mem_nil⟩) tw82 tm82
theorem tc83_0 : tC83_0.all (kEn tY83.1 tY83.2.1) = true := by decide +kernel
theorem tm83 : kM tM83 tY83 ((tWs[83]?).getD (0, 0, 0, 0)) = true := by decide +kernel
set_option maxRecDepth 20000 in
theorem tw83 : kW ((tWs[83]?).getD (0, 0, 0, 0)).1 = some (.code tY83.1 tY83.2.1 tM83.2.1 tY83.2.2) := rfl
theorem tk83 : eMok tCl lw_g tNs tMs tYs tM83 tY83 := kM_ok (q := (tWs[83]?).getD (0, 0, 0, 0)) (show ∀ ch ∈ tC83, _ from List.forall_mem_cons.mpr ⟨tc83_0, fun _ h => absurd h List.not_mem_nil⟩) tw83 tm83
theorem tc84_0 : tC84_0.all (kEn tY84.1 tY84.2.1) = true := by decide +kernel
theorem tc84_1 : tC84_1.all (kEn tY84.1 tY84.2.1) = true := by decide +kernel
theorem tm84 : kM tM84 tY84 ((tWs[84]?).getD (0, 0, 0, 0)) = true := by decide +kernel
set_option maxRecDepth 20000 in
theorem tw84 : kW ((tWs[84]?).getD (0, 0, 0, 0)).1 = some (.code tY84.1 tY84.2.1 tM84.2.1 tY84.2.2) := rfl
theorem tk84 : eMok tCl lw_g tNs tMs tYs tM84 tY84 := kM_ok (q := (tWs[84]?).getD (0, 0, 0, 0)) (show ∀ ch ∈ tC84, _ from List.forall_mem_cons.mpr ⟨tc84_0, List.forall_mem_cons.mpr ⟨tc84_1, fun _ h => absurd h List.not_mem_nil⟩⟩) tw84 tm84
theorem tc85_0 : tC85_0.all (kEn tY85.1 tY85.2.1) = true := by decide +kernel
theorem tc85_1 : tC85_1.all (kEn tY85.1 tY85.2.1) = true := by decide +kernel
theorem tc85_2 : tC85_2.all (kEn tY85.1 tY85.2.1) = true := by decide +kernel
theorem tm85 : kM tM85 tY85 ((tWs[85]?).getD (0, 0, 0, 0)) = true := by decide +kernel
set_option maxRecDepth 20000 in
theorem tw85 : kW ((tWs[85]?).getD (0, 0, 0, 0)).1 = some (.code tY85.1 tY85.2.1 tM85.2.1 tY85.2.2) := rfl
theorem tk85 : eMok tCl lw_g tNs tMs tYs tM85 tY85 := kM_ok (q := (tWs[85]?).getD (0, 0, 0, 0)) (show ∀ ch ∈ tC85, _ from List.forall_mem_cons.mpr ⟨tc85_0, List.forall_mem_cons.mpr ⟨tc85_1, List.forall_mem_cons.mpr ⟨tc85_2, fun _ h => absurd h List.not_mem_nil⟩⟩⟩) tw85 tm85
theorem tc86_0 : tC86_0.all (kEn tY86.1 tY86.2.1) = true := by decide +kernel
theorem tc86_1 : tC86_1.all (kEn tY86.1 tY86.2.1) = true := by decide +kernel
theorem tc86_2 : tC86_2.all (kEn tY86.1 tY86.2.1) = true := by decide +kernel
theorem tc86_3 : tC86_3.all (kEn tY86.1 tY86.2.1) = true := by decide +kernel
theorem tm86 : kM tM86 tY86 ((tWs[86]?).getD (0, 0, 0, 0)) = true := by decide +kernel
set_option maxRecDepth 20000 in
theorem tw86 : kW ((tWs[86]?).getD (0, 0, 0, 0)).1 = some (.code tY86.1 tY86.2.1 tM86.2.1 tY86.2.2) := rfl
theorem tk86 : eMok tCl lw_g tNs tMs tYs tM86 tY86 := kM_ok (q := (tWs[86]?).getD (0, 0, 0, 0)) (show ∀ ch ∈ tC86, _ from List.forall_mem_cons.mpr ⟨tc86_0, List.forall_mem_cons.mpr ⟨tc86_1, List.forall_mem_cons.mpr ⟨tc86_2, List.forall_mem_cons.mpr ⟨tc86_3, fun _ h => absurd h List.not_mem_nil⟩⟩⟩⟩) tw86 tm86
theorem tc87_0 : tC87_0.all (kEn tY87.1 tY87.2.1) = true := by decide +kernel
theorem tc87_1 : tC87_1.all (kEn tY87.1 tY87.2.1) = true := by decide +kernel
theorem tm87 : kM tM87 tY87 ((tWs[87]?).getD (0, 0, 0, 0)) = true := by decide +kernel
set_option maxRecDepth 20000 in
theorem tw87 : kW ((tWs[87]?).getD (0, 0, 0, 0)).1 = some (.code tY87.1 tY87.2.1 tM87.2.1 tY87.2.2) := rfl
theorem tk87 : eMok tCl lw_g tNs tMs tYs tM87 tY87 := kM_ok (q := (tWs[87]?).getD (0, 0, 0, 0)) (show ∀ ch ∈ tC87, _ from List.forall_mem_cons.mpr ⟨tc87_0, List.forall_mem_cons.mpr ⟨tc87_1, fun _ h => absurd h List.not_mem_nil⟩⟩) tw87 tm87
theorem tc88_0 : tC88_0.all (kEn tY88.1 tY88.2.1) = true := by decide +kernel
theorem tm88 : kM tM88 tY88 ((tWs[88]?).getD (0, 0, 0, 0)) = true := by decide +kernel
set_option maxRecDepth 20000 in
theorem tw88 : kW ((tWs[88]?).getD (0, 0, 0, 0)).1 = some (.code tY88.1 tY88.2.1 tM88.2.1 tY88.2.2) := rfl
theorem tk88 : eMok tCl lw_g tNs tMs tYs tM88 tY88 := kM_ok (q := (tWs[88]?).getD (0, 0, 0, 0)) (show ∀ ch ∈ tC88, _ from List.forall_mem_cons.mpr ⟨tc88_0, fun _ h => absurd h List.not_mem_nil⟩) tw88 tm88
theorem tc89_0 : tC89_0.all (kEn tY89.1 tY89.2.1) = true := by decide +kernel
theorem tc89_1 : tC89_1.all (kEn tY89.1 tY89.2.1) = true := by decide +kernel
theorem tm89 : kM tM89 tY89 ((tWs[89]?).getD (0, 0, 0, 0)) = true := by decide +kernel
set_option maxRecDepth 20000 in
theorem tw89 : kW ((tWs[89]?).getD (0, 0, 0, 0)).1 = some (.code tY89.1 tY89.2.1 tM89.2.1 tY89.2.2) := rfl
theorem tk89 : eMok tCl lw_g tNs tMs tYs tM89 tY89 := kM_ok (q := (tWs[89]?).getD (0, 0, 0, 0)) (show ∀ ch ∈ tC89, _ from List.forall_mem_cons.mpr ⟨tc89_0, List.forall_mem_cons.mpr ⟨tc89_1, fun _ h => absurd h List.not_mem_nil⟩⟩) tw89 tm89
theorem tc90_0 : tC90_0.all (kEn tY90.1 tY90.2.1) = true := by decide +kernel
theorem tc90_1 : tC90_1.all (kEn tY90.1 tY90.2.1) = true := by decide +kernel
theorem tc90_2 : tC90_2.all (kEn tY90.1 tY90.2.1) = true := by decide +kernel
theorem tc90_3 : tC90_3.all (kEn tY90.1 tY90.2.1) = true := by decide +kernel
theorem tm90 : kM tM90 tY90 ((tWs[90]?).getD (0, 0, 0, 0)) = true := by decide +kernel
set_option maxRecDepth 20000 in
theorem tw90 : kW ((tWs[90]?).getD (0, 0, 0, 0)).1 = some (.code tY90.1 tY90.2.1 tM90.2.1 tY90.2.2) := rfl
theorem tk90 : eMok tCl lw_g tNs tMs tYs tM90 tY90 := kM_ok (q := (tWs[90]?).getD (0, 0, 0, 0)) (show ∀ ch ∈ tC90, _ from List.forall_mem_cons.mpr ⟨tc90_0, List.forall_mem_cons.mpr ⟨tc90_1, List.forall_mem_cons.mpr ⟨tc90_2, List.forall_mem_cons.mpr ⟨tc90_3, fun _ h => absurd h List.not_mem_nil⟩⟩⟩⟩) tw90 tm90
theorem tc91_0 : tC91_0.all (kEn tY91.1 tY91.2.1) = true := by decide +kernel
theorem tc91_1 : tC91_1.all (kEn tY91.1 tY91.2.1) = true := by decide +kernel
theorem tc91_2 : tC91_2.all (kEn tY91.1 tY91.2.1) = true := by decide +kernel
theorem tc91_3 : tC91_3.all (kEn tY91.1 tY91.2.1) = true := by decide +kernel
theorem tc91_4 : tC91_4.all (kEn tY91.1 tY91.2.1) = true := by decide +kernel
theorem tm91 : kM tM91 tY91 ((tWs[91]?).getD (0, 0, 0, 0)) = true := by decide +kernel
set_option maxRecDepth 20000 in
theorem tw91 : kW ((tWs[91]?).getD (0, 0, 0, 0)).1 = some (.code tY91.1 tY91.2.1 tM91.2.1 tY91.2.2) := rfl
theorem tk91 : eMok tCl lw_g tNs tMs tYs tM91 tY91 := kM_ok (q := (tWs[91]?).getD (0, 0, 0, 0)) (show ∀ ch ∈ tC91, _ from List.forall_mem_cons.mpr ⟨tc91_0, List.forall_mem_cons.mpr ⟨tc91_1, List.forall_mem_cons.mpr ⟨tc91_2, List.forall_mem_cons.mpr ⟨tc91_3, List.forall_mem_cons.mpr ⟨tc91_4, fun _ h => absurd h List.not_mem_nil⟩⟩⟩⟩⟩) tw91 tm91
theorem tc92_0 : tC92_0.all (kEn tY92.1 tY92.2.1) = true := by decide +kernel
theorem tc92_1 : tC92_1.all (kEn tY92.1 tY92.2.1) = true := by decide +kernel
theorem tm92 : kM tM92 tY92 ((tWs[92]?).getD (0, 0, 0, 0)) = true := by decide +kernel
set_option maxRecDepth 20000 in
theorem tw92 : kW ((tWs[92]?).getD (0, 0, 0, 0)).1 = some (.code tY92.1 tY92.2.1 tM92.2.1 tY92.2.2) := rfl
theorem tk92 : eMok tCl lw_g tNs tMs tYs tM92 tY92 := kM_ok (q := (tWs[92]?).getD (0, 0, 0, 0)) (show ∀ ch ∈ tC92, _ from List.forall_mem_cons.mpr ⟨tc92_0, List.forall_mem_cons.mpr ⟨tc92_1, fun _ h => absurd h List.not_mem_nil⟩⟩) tw92 tm92
theorem tc93_0 : tC93_0.all (kEn tY93.1 tY93.2.1) = true := by decide +kernel
theorem tc93_1 : tC93_1.all (kEn tY93.1 tY93.2.1) = true := by decide +kernel
theorem tm93 : kM tM93 tY93 ((tWs[93]?).getD (0, 0, 0, 0)) = true := by decide +kernel
set_option maxRecDepth 20000 in
theorem tw93 : kW ((tWs[93]?).getD (0, 0, 0, 0)).1 = some (.code tY93.1 tY93.2.1 tM93.2.1 tY93.2.2) := rfl
theorem tk93 : eMok tCl lw_g tNs tMs tYs tM93 tY93 := kM_ok (q := (tWs[93]?).getD (0, 0, 0, 0)) (show ∀ ch ∈ tC93, _ from List.forall_mem_cons.mpr ⟨tc93_0, List.forall_mem_cons.mpr ⟨tc93_1, fun _ h => absurd h List.not_mem_nil⟩⟩) tw93 tm93
theorem tc94_0 : tC94_0.all (kEn tY94.1 tY94.2.1) = true := by decide +kernel
theorem tc94_1 : tC94_1.all (kEn tY94.1 tY94.2.1) = true := by decide +kernel
theorem tm94 : kM tM94 tY94 ((tWs[94]?).getD (0, 0, 0, 0)) = true := by decide +kernel
set_option maxRecDepth 20000 in
theorem tw94 : kW ((tWs[94]?).getD (0, 0, 0, 0)).1 = some (.code tY94.1 tY94.2.1 tM94.2.1 tY94.2.2) := rfl
theorem tk94 : eMok tCl lw_g tNs tMs tYs tM94 tY94 := kM_ok (q := (tWs[94]?).getD (0, 0, 0, 0)) (show ∀ ch ∈ tC94, _ from List.forall_mem_cons.mpr ⟨tc94_0, List.forall_mem_cons.mpr ⟨tc94_1, fun _ h => absurd h List.not_mem_nil⟩⟩) tw94 tm94
theorem tc95_0 : tC95_0.all (kEn tY95.1 tY95.2.1) = true := by decide +kernel
theorem tc95_1 : tC95_1.all (kEn tY95.1 tY95.2.1) = true := by decide +kernel
theorem tm95 : kM tM95 tY95 ((tWs[95]?).getD (0, 0, 0, 0)) = true := by decide +kernel
set_option maxRecDepth 20000 in
theorem tw95 : kW ((tWs[95]?).getD (0, 0, 0, 0)).1 = some (.code tY95.1 tY95.2.1 tM95.2.1 tY95.2.2) := rfl
theorem tk95 : eMok tCl lw_g tNs tMs tYs tM95 tY95 := kM_ok (q := (tWs[95]?).getD (0, 0, 0, 0)) (show ∀ ch ∈ tC95, _ from List.forall_mem_cons.mpr ⟨tc95_0, List.forall_mem_cons.mpr ⟨tc95_1, fun _ h => absurd h List.not_mem_nil⟩⟩) tw95 tm95
theorem tc96_0 : tC96_0.all (kEn tY96.1 tY96.2.1) = true := by decide +kernel
theorem tc96_1 : tC96_1.all (kEn tY96.1 tY96.2.1) = true := by decide +kernel
theorem tm96 : kM tM96 tY96 ((tWs[96]?).getD (0, 0, 0, 0)) = true := by decide +kernel
set_option maxRecDepth 20000 in
theorem tw96 : kW ((tWs[96]?).getD (0, 0, 0, 0)).1 = some (.code tY96.1 tY96.2.1 tM96.2.1 tY96.2.2) := rfl
theorem tk96 : eMok tCl lw_g tNs tMs tYs tM96 tY96 := kM_ok (q := (tWs[96]?).getD (0, 0, 0, 0)) (show ∀ ch ∈ tC96, _ from List.forall_mem_cons.mpr ⟨tc96_0, List.forall_mem_cons.mpr ⟨tc96_1, fun _ h => absurd h List.not_mem_nil⟩⟩) tw96 tm96
theorem tc97_0 : tC97_0.all (kEn tY97.1 tY97.2.1) = true := by decide +kernel
theorem tc97_1 : tC97_1.all (kEn tY97.1 tY97.2.1) = true := by decide +kernel
theorem tc97_2 : tC97_2.all (kEn tY97.1 tY97.2.1) = true := by decide +kernel
theorem tm97 : kM tM97 tY97 ((tWs[97]?).getD (0, 0, 0, 0)) = true := by decide +kernel
set_option maxRecDepth 20000 in
theorem tw97 : kW ((tWs[97]?).getD (0, 0, 0, 0)).1 = some (.code tY97.1 tY97.2.1 tM97.2.1 tY97.2.2) := rfl
theorem tk97 : eMok tCl lw_g tNs tMs tYs tM97 tY97 := kM_ok (q := (tWs[97]?).getD (0, 0, 0, 0)) (show ∀ ch ∈ tC97, _ from List.forall_mem_cons.mpr ⟨tc97_0, List.forall_mem_cons.mpr ⟨tc97_1, List.forall_mem_cons.mpr ⟨tc97_2, fun _ h => absurd h List.not_mem_nil⟩⟩⟩) tw97 tm97
theorem tc98_0 : tC98_0.all (kEn tY98.1 tY98.2.1) = true := by decide +kernel
theorem tm98 : kM tM98 tY98 ((tWs[98]?).getD (0, 0, 0, 0)) = true := by decide +kernel
set_option maxRecDepth 20000 in
theorem tw98 : kW ((tWs[98]?).getD (0, 0, 0, 0)).1 = some (.code tY98.1 tY98.2.1 tM98.2.1 tY98.2.2) := rfl
theorem tk98 : eMok tCl lw_g tNs tMs tYs tM98 tY98 := kM_ok (q := (tWs[98]?).getD (0, 0, 0, 0)) (show ∀ ch ∈ tC98, _ from List.forall_mem_cons.mpr ⟨tc98_0, fun _ h => absurd h List.not_mem_nil⟩) tw98 tm98
theorem tc99_0 : tC99_0.all (kEn tY99.1 tY99.2.1) = true := by decide +kernel
theorem tc99_1 : tC99_1.all (kEn tY99.1 tY99.2.1) = true := by decide +kernel
theorem tm99 : kM tM99 tY99 ((tWs[99]?).getD (0, 0, 0, 0)) = true := by decide +kernel
set_option maxRecDepth 20000 in
theorem tw99 : kW ((tWs[99]?).getD (0, 0, 0, 0)).1 = some (.code tY99.1 tY99.2.1 tM99.2.1 tY99.2.2) := rfl
theorem tk99 : eMok tCl lw_g tNs tMs tYs tM99 tY99 := kM_ok (q := (tWs[99]?).getD (0, 0, 0, 0)) (show ∀ ch ∈ tC99, _ from List.forall_mem_cons.mpr ⟨tc99_0, List.forall_mem_cons.mpr ⟨tc99_1, fun _ h => absurd h List.not_mem_nil⟩⟩) tw99 tm99
theorem tc100_0 : tC100_0.all (kEn tY100.1 tY100.2.1) = true := by decide +kernel
theorem tc100_1 : tC100_1.all (kEn tY100.1 tY100.2.1) = true := by decide +kernel
theorem tc100_2 : tC100_2.all (kEn tY100.1 tY100.2.1) = true := by decide +kernel
theorem tc100_3 : tC100_3.all (kEn tY100.1 tY100.2.1) = true := by decide +kernel
theorem tm100 : kM tM100 tY100 ((tWs[100]?).getD (0, 0, 0, 0)) = true := by decide +kernel
set_option maxRecDepth 20000 in
theorem tw100 : kW ((tWs[100]?).getD (0, 0, 0, 0)).1 = some (.code tY100.1 tY100.2.1 tM100.2.1 tY100.2.2) := rfl
theorem tk100 : eMok tCl lw_g tNs tMs tYs tM100 tY100 := kM_ok (q := (tWs[100]?).getD (0, 0, 0, 0)) (show ∀ ch ∈ tC100, _ from List.forall_mem_cons.mpr ⟨tc100_0, List.forall_mem_cons.mpr ⟨tc100_1, List.forall_mem_cons.mpr ⟨tc100_2, List.forall_mem_cons.mpr ⟨tc100_3, fun _ h => absurd h List.not_mem_nil⟩⟩⟩⟩) tw100 tm100
theorem tc101_0 : tC101_0.all (kEn tY101.1 tY101.2.1) = true := by decide +kernel
theorem tc101_1 : tC101_1.all (kEn tY101.1 tY101.2.1) = true := by decide +kernel
theorem tm101 : kM tM101 tY101 ((tWs[101]?).getD (0, 0, 0, 0)) = true := by decide +kernel
set_option maxRecDepth 20000 in
theorem tw101 : kW ((tWs[101]?).getD (0, 0, 0, 0)).1 = some (.code tY101.1 tY101.2.1 tM101.2.1 tY101.2.2) := rfl
theorem tk101 : eMok tCl lw_g tNs tMs tYs tM101 tY101 := kM_ok (q := (tWs[101]?).getD (0, 0, 0, 0)) (show ∀ ch ∈ tC101, _ from List.forall_mem_cons.mpr ⟨tc101_0, List.forall_mem_cons.mpr ⟨tc101_1, fun _ h => absurd h List.not_mem_nil⟩⟩) tw101 tm101
theorem tc102_0 : tC102_0.all (kEn tY102.1 tY102.2.1) = true := by decide +kernel
theorem tc102_1 : tC102_1.all (kEn tY102.1 tY102.2.1) = true := by decide +kernel
theorem tc102_2 : tC102_2.all (kEn tY102.1 tY102.2.1) = true := by decide +kernel
theorem tc102_3 : tC102_3.all (kEn tY102.1 tY102.2.1) = true := by decide +kernel
theorem tc102_4 : tC102_4.all (kEn tY102.1 tY102.2.1) = true := by decide +kernel
theorem tc102_5 : tC102_5.all (kEn tY102.1 tY102.2.1) = true := by decide +kernel
theorem tm102 : kM tM102 tY102 ((tWs[102]?).getD (0, 0, 0, 0)) = true := by decide +kernel
set_option maxRecDepth 20000 in
theorem tw102 : kW ((tWs[102]?).getD (0, 0, 0, 0)).1 = some (.code tY102.1 tY102.2.1 tM102.2.1 tY102.2.2) := rfl
theorem tk102 : eMok tCl lw_g tNs tMs tYs tM102 tY102 := kM_ok (q := (tWs[102]?).getD (0, 0, 0, 0)) (show ∀ ch ∈ tC102, _ from List.forall_mem_cons.mpr ⟨tc102_0, List.forall_mem_cons.mpr ⟨tc102_1, List.forall_mem_cons.mpr ⟨tc102_2, List.forall_mem_cons.mpr ⟨tc102_3, List.forall_mem_cons.mpr ⟨tc102_4, List.forall_mem_cons.mpr ⟨tc102_5, fun _ h => absurd h List.not_mem_nil⟩⟩⟩⟩⟩⟩) tw102 tm102
theorem tc103_0 : tC103_0.all (kEn tY103.1 tY103.2.1) = true := by decide +kernel
theorem tc103_1 : tC103_1.all (kEn tY103.1 tY103.2.1) = true := by decide +kernel
theorem tc103_2 : tC103_2.all (kEn tY103.1 tY103.2.1) = true := by decide +kernel
theorem tm103 : kM tM103 tY103 ((tWs[103]?).getD (0, 0, 0, 0)) = true := by decide +kernel
set_option maxRecDepth 20000 in
theorem tw103 : kW ((tWs[103]?).getD (0, 0, 0, 0)).1 = some (.code tY103.1 tY103.2.1 tM103.2.1 tY103.2.2) := rfl
theorem tk103 : eMok tCl lw_g tNs tMs tYs tM103 tY103 := kM_ok (q := (tWs[103]?).getD (0, 0, 0, 0)) (show ∀ ch ∈ tC103, _ from List.forall_mem_cons.mpr ⟨tc103_0, List.forall_mem_cons.mpr ⟨tc103_1, List.forall_mem_cons.mpr ⟨tc103_2, fun _ h => absurd h List.not_mem_nil⟩⟩⟩) tw103 tm103
theorem tc104_0 : tC104_0.all (kEn tY104.1 tY104.2.1) = true := by decide +kernel
theorem tc104_1 : tC104_1.all (kEn tY104.1 tY104.2.1) = true := by decide +kernel
theorem tm104 : kM tM104 tY104 ((tWs[104]?).getD (0, 0, 0, 0)) = true := by decide +kernel
set_option maxRecDepth 20000 in
theorem tw104 : kW ((tWs[104]?).getD (0, 0, 0, 0)).1 = some (.code tY104.1 tY104.2.1 tM104.2.1 tY104.2.2) := rfl
theorem tk104 : eMok tCl lw_g tNs tMs tYs tM104 tY104 := kM_ok (q := (tWs[104]?).getD (0, 0, 0, 0)) (show ∀ ch ∈ tC104, _ from List.forall_mem_cons.mpr ⟨tc104_0, List.forall_mem_cons.mpr ⟨tc104_1, fun _ h => absurd h List.not_mem_nil⟩⟩) tw104 tm104
theorem tc105_0 : tC105_0.all (kEn tY105.1 tY105.2.1) = true := by decide +kernel
theorem tc105_1 : tC105_1.all (kEn tY105.1 tY105.2.1) = true := by decide +kernel
theorem tc105_2 : tC105_2.all (kEn tY105.1 tY105.2.1) = true := by decide +kernel
theorem tm105 : kM tM105 tY105 ((tWs[105]?).getD (0, 0, 0, 0)) = true := by decide +kernel
set_option maxRecDepth 20000 in
theorem tw105 : kW ((tWs[105]?).getD (0, 0, 0, 0)).1 = some (.code tY105.1 tY105.2.1 tM105.2.1 tY105.2.2) := rfl
theorem tk105 : eMok tCl lw_g tNs tMs tYs tM105 tY105 := kM_ok (q := (tWs[105]?).getD (0, 0, 0, 0)) (show ∀ ch ∈ tC105, _ from List.forall_mem_cons.mpr ⟨tc105_0, List.forall_mem_cons.mpr ⟨tc105_1, List.forall_mem_cons.mpr ⟨tc105_2, fun _ h => absurd h List.not_mem_nil⟩⟩⟩) tw105 tm105
theorem tc106_0 : tC106_0.all (kEn tY106.1 tY106.2.1) = true := by decide +kernel
theorem tc106_1 : tC106_1.all (kEn tY106.1 tY106.2.1) = true := by decide +kernel
theorem tc106_2 : tC106_2.all (kEn tY106.1 tY106.2.1) = true := by decide +kernel
theorem tm106 : kM tM106 tY106 ((tWs[106]?).getD (0, 0, 0, 0)) = true := by decide +kernel
set_option maxRecDepth 20000 in
theorem tw106 : kW ((tWs[106]?).getD (0, 0, 0, 0)).1 = some (.code tY106.1 tY106.2.1 tM106.2.1 tY106.2.2) := rfl
theorem tk106 : eMok tCl lw_g tNs tMs tYs tM106 tY106 := kM_ok (q := (tWs[106]?).getD (0, 0, 0, 0)) (show ∀ ch ∈ tC106, _ from List.forall_mem_cons.mpr ⟨tc106_0, List.forall_mem_cons.mpr ⟨tc106_1, List.forall_mem_cons.mpr ⟨tc106_2, fun _ h => absurd h List.not_mem_nil⟩⟩⟩) tw106 tm106
theorem tc107_0 : tC107_0.all (kEn tY107.1 tY107.2.1) = true := by decide +kernel
theorem tm107 : kM tM107 tY107 ((tWs[107]?).getD (0, 0, 0, 0)) = true := by decide +kernel
set_option maxRecDepth 20000 in
theorem tw107 : kW ((tWs[107]?).getD (0, 0, 0, 0)).1 = some (.code tY107.1 tY107.2.1 tM107.2.1 tY107.2.2) := rfl
theorem tk107 : eMok tCl lw_g tNs tMs tYs tM107 tY107 := kM_ok (q := (tWs[107]?).getD (0, 0, 0, 0)) (show ∀ ch ∈ tC107, _ from List.forall_mem_cons.mpr ⟨tc107_0, fun _ h => absurd h List.not_mem_nil⟩) tw107 tm107
theorem tc108_0 : tC108_0.all (kEn tY108.1 tY108.2.1) = true := by decide +kernel
theorem tc108_1 : tC108_1.all (kEn tY108.1 tY108.2.1) = true := by decide +kernel
theorem tm108 : kM tM108 tY108 ((tWs[108]?).getD (0, 0, 0, 0)) = true := by decide +kernel
set_option maxRecDepth 20000 in
theorem tw108 : kW ((tWs[108]?).getD (0, 0, 0, 0)).1 = some (.code tY108.1 tY108.2.1 tM108.2.1 tY108.2.2) := rfl
theorem tk108 : eMok tCl lw_g tNs tMs tYs tM108 tY108 := kM_ok (q := (tWs[108]?).getD (0, 0, 0, 0)) (show ∀ ch ∈ tC108, _ from List.forall_mem_cons.mpr ⟨tc108_0, List.forall_mem_cons.mpr ⟨tc108_1, fun _ h => absurd h List.not_mem_nil⟩⟩) tw108 tm108
theorem tc109_0 : tC109_0.all (kEn tY109.1 tY109.2.1) = true := by decide +kernel
theorem tc109_1 : tC109_1.all (kEn tY109.1 tY109.2.1) = true := by decide +kernel
theorem tm109 : kM tM109 tY109 ((tWs[109]?).getD (0, 0, 0, 0)) = true := by decide +kernel
set_option maxRecDepth 20000 in
theorem tw109 : kW ((tWs[109]?).getD (0, 0, 0, 0)).1 = some (.code tY109.1 tY109.2.1 tM109.2.1 tY109.2.2) := rfl
theorem tk109 : eMok tCl lw_g tNs tMs tYs tM109 tY109 := kM_ok (q := (tWs[109]?).getD (0, 0, 0, 0)) (show ∀ ch ∈ tC109, _ from List.forall_mem_cons.mpr ⟨tc109_0, List.forall_mem_cons.mpr ⟨tc109_1, fun _ h => absurd h List.not_mem_nil⟩⟩) tw109 tm109
theorem tc110_0 : tC110_0.all (kEn tY110.1 tY110.2.1) = true := by decide +kernel
theorem tc110_1 : tC110_1.all (kEn tY110.1 tY110.2.1) = true := by decide +kernel
theorem tm110 : kM tM110 tY110 ((tWs[110]?).getD (0, 0, 0, 0)) = true := by decide +kernel
set_option maxRecDepth 20000 in
theorem tw110 : kW ((tWs[110]?).getD (0, 0, 0, 0)).1 = some (.code tY110.1 tY110.2.1 tM110.2.1 tY110.2.2) := rfl
theorem tk110 : eMok tCl lw_g tNs tMs tYs tM110 tY110 := kM_ok (q := (tWs[110]?).getD (0, 0, 0, 0)) (show ∀ ch ∈ tC110, _ from List.forall_mem_cons.mpr ⟨tc110_0, List.forall_mem_cons.mpr ⟨tc110_1, fun _ h => absurd h List.not_mem_nil⟩⟩) tw110 tm110
theorem tc111_0 : tC111_0.all (kEn tY111.1 tY111.2.1) = true := by decide +kernel
theorem tc111_1 : tC111_1.all (kEn tY111.1 tY111.2.1) = true := by decide +kernel
theorem tc111_2 : tC111_2.all (kEn tY111.1 tY111.2.1) = true := by decide +kernel
theorem tm111 : kM tM111 tY111 ((tWs[111]?).getD (0, 0, 0, 0)) = true := by decide +kernel
set_option maxRecDepth 20000 in
theorem tw111 : kW ((tWs[111]?).getD (0, 0, 0, 0)).1 = some (.code tY111.1 tY111.2.1 tM111.2.1 tY111.2.2) := rfl
theorem tk111 : eMok tCl lw_g tNs tMs tYs tM111 tY111 := kM_ok (q := (tWs[111]?).getD (0, 0, 0, 0)) (show ∀ ch ∈ tC111, _ from List.forall_mem_cons.mpr ⟨tc111_0, List.forall_mem_cons.mpr ⟨tc111_1, List.forall_mem_cons.mpr ⟨tc111_2, fun _ h => absurd h List.not_mem_nil⟩⟩⟩) tw111 tm111
theorem tc112_0 : tC112_0.all (kEn tY112.1 tY112.2.1) = true := by decide +kernel
theorem tm112 : kM tM112 tY112 ((tWs[112]?).getD (0, 0, 0, 0)) = true := by decide +kernel
set_option maxRecDepth 20000 in
theorem tw112 : kW ((tWs[112]?).getD (0, 0, 0, 0)).1 = some (.code tY112.1 tY112.2.1 tM112.2.1 tY112.2.2) := rfl
theorem tk112 : eMok tCl lw_g tNs tMs tYs tM112 tY112 := kM_ok (q := (tWs[112]?).getD (0, 0, 0, 0)) (show ∀ ch ∈ tC112, _ from List.forall_mem_cons.mpr ⟨tc112_0, fun _ h => absurd h List.not_mem_nil⟩) tw112 tm112
theorem tc113_0 : tC113_0.all (kEn tY113.1 tY113.2.1) = true := by decide +kernel
theorem tc113_1 : tC113_1.all (kEn tY113.1 tY113.2.1) = true := by decide +kernel
theorem tm113 : kM tM113 tY113 ((tWs[113]?).getD (0, 0, 0, 0)) = true := by decide +kernel
set_option maxRecDepth 20000 in
theorem tw113 : kW ((tWs[113]?).getD (0, 0, 0, 0)).1 = some (.code tY113.1 tY113.2.1 tM113.2.1 tY113.2.2) := rfl
theorem tk113 : eMok tCl lw_g tNs tMs tYs tM113 tY113 := kM_ok (q := (tWs[113]?).getD (0, 0, 0, 0)) (show ∀ ch ∈ tC113, _ from List.forall_mem_cons.mpr ⟨tc113_0, List.forall_mem_cons.mpr ⟨tc113_1, fun _ h => absurd h List.not_mem_nil⟩⟩) tw113 tm113
theorem tc114_0 : tC114_0.all (kEn tY114.1 tY114.2.1) = true := by decide +kernel
theorem tm114 : kM tM114 tY114 ((tWs[114]?).getD (0, 0, 0, 0)) = true := by decide +kernel
set_option maxRecDepth 20000 in
theorem tw114 : kW ((tWs[114]?).getD (0, 0, 0, 0)).1 = some (.code tY114.1 tY114.2.1 tM114.2.1 tY114.2.2) := rfl
theorem tk114 : eMok tCl lw_g tNs tMs tYs tM114 tY114 := kM_ok (q := (tWs[114]?).getD (0, 0, 0, 0)) (show ∀ ch ∈ tC114, _ from List.forall_mem_cons.mpr ⟨tc114_0, fun _ h => absurd h List.not_mem_nil⟩) tw114 tm114
theorem tc115_0 : tC115_0.all (kEn tY115.1 tY115.2.1) = true := by decide +kernel
theorem tm115 : kM tM115 tY115 ((tWs[115]?).getD (0, 0, 0, 0)) = true := by decide +kernel
set_option maxRecDepth 20000 in
theorem tw115 : kW ((tWs[115]?).getD (0, 0, 0, 0)).1 = some (.code tY115.1 tY115.2.1 tM115.2.1 tY115.2.2) := rfl
theorem tk115 : eMok tCl lw_g tNs tMs tYs tM115 tY115 := kM_ok (q := (tWs[115]?).getD (0, 0, 0, 0)) (show ∀ ch ∈ tC115, _ from List.forall_mem_cons.mpr ⟨tc115_0, fun _ h => absurd h List.not_mem_nil⟩) tw115 tm115
theorem tc116_0 : tC116_0.all (kEn tY116.1 tY116.2.1) = true := by decide +kernel
theorem tc116_1 : tC116_1.all (kEn tY116.1 tY116.2.1) = true := by decide +kernel
theorem tm116 : kM tM116 tY116 ((tWs[116]?).getD (0, 0, 0, 0)) = true := by decide +kernel
set_option maxRecDepth 20000 in
theorem tw116 : kW ((tWs[116]?).getD (0, 0, 0, 0)).1 = some (.code tY116.1 tY116.2.1 tM116.2.1 tY116.2.2) := rfl
theorem tk116 : eMok tCl lw_g tNs tMs tYs tM116 tY116 := kM_ok (q := (tWs[116]?).getD (0, 0, 0, 0)) (show ∀ ch ∈ tC116, _ from List.forall_mem_cons.mpr ⟨tc116_0, List.forall_mem_cons.mpr ⟨tc116_1, fun _ h => absurd h List.not_mem_nil⟩⟩) tw116 tm116
theorem tc117_0 : tC117_0.all (kEn tY117.1 tY117.2.1) = true := by decide +kernel
theorem tm117 : kM tM117 tY117 ((tWs[117]?).getD (0, 0, 0, 0)) = true := by decide +kernel
set_option maxRecDepth 20000 in
theorem tw117 : kW ((tWs[117]?).getD (0, 0, 0, 0)).1 = some (.code tY117.1 tY117.2.1 tM117.2.1 tY117.2.2) := rfl
theorem tk117 : eMok tCl lw_g tNs tMs tYs tM117 tY117 := kM_ok (q := (tWs[117]?).getD (0, 0, 0, 0)) (show ∀ ch ∈ tC117, _ from List.forall_mem_cons.mpr ⟨tc117_0, fun _ h => absurd h List.not_mem_nil⟩) tw117 tm117
theorem tc118_0 : tC118_0.all (kEn tY118.1 tY118.2.1) = true := by decide +kernel
theorem tc118_1 : tC118_1.all (kEn tY118.1 tY118.2.1) = true := by decide +kernel
theorem tm118 : kM tM118 tY118 ((tWs[118]?).getD (0, 0, 0, 0)) = true := by decide +kernel
set_option maxRecDepth 20000 in
theorem tw118 : kW ((tWs[118]?).getD (0, 0, 0, 0)).1 = some (.code tY118.1 tY118.2.1 tM118.2.1 tY118.2.2) := rfl
theorem tk118 : eMok tCl lw_g tNs tMs tYs tM118 tY118 := kM_ok (q := (tWs[118]?).getD (0, 0, 0, 0)) (show ∀ ch ∈ tC118, _ from List.forall_mem_cons.mpr ⟨tc118_0, List.forall_mem_cons.mpr ⟨tc118_1, fun _ h => absurd h List.not_mem_nil⟩⟩) tw118 tm118
theorem tc119_0 : tC119_0.all (kEn tY119.1 tY119.2.1) = true := by decide +kernel
theorem tm119 : kM tM119 tY119 ((tWs[119]?).getD (0, 0, 0, 0)) = true := by decide +kernel
set_option maxRecDepth 20000 in
theorem tw119 : kW ((tWs[119]?).getD (0, 0, 0, 0)).1 = some (.code tY119.1 tY119.2.1 tM119.2.1 tY119.2.2) := rfl
theorem tk119 : eMok tCl lw_g tNs tMs tYs tM119 tY119 := kM_ok (q := (tWs[119]?).getD (0, 0, 0, 0)) (show ∀ ch ∈ tC119, _ from List.forall_mem_cons.mpr ⟨tc119_0, fun _ h => absurd h List.not_mem_nil⟩) tw119 tm119
theorem tc120_0 : tC120_0.all (kEn tY120.1 tY120.2.1) = true := by decide +kernel
theorem tc120_1 : tC120_1.all (kEn tY120.1 tY120.2.1) = true := by decide +kernel
theorem tm120 : kM tM120 tY120 ((tWs[120]?).getD (0, 0, 0, 0)) = true := by decide +kernel
set_option maxRecDepth 20000 in
theorem tw120 : kW ((tWs[120]?).getD (0, 0, 0, 0)).1 = some (.code tY120.1 tY120.2.1 tM120.2.1 tY120.2.2) := rfl
theorem tk120 : eMok tCl lw_g tNs tMs tYs tM120 tY120 := kM_ok (q := (tWs[120]?).getD (0, 0, 0, 0)) (show ∀ ch ∈ tC120, _ from List.forall_mem_cons.mpr ⟨tc120_0, List.forall_mem_cons.mpr ⟨tc120_1, fun _ h => absurd h List.not_mem_nil⟩⟩) tw120 tm120
theorem tc121_0 : tC121_0.all (kEn tY121.1 tY121.2.1) = true := by decide +kernel
theorem tc121_1 : tC121_1.all (kEn tY121.1 tY121.2.1) = true := by decide +kernel
theorem tc121_2 : tC121_2.all (kEn tY121.1 tY121.2.1) = true := by decide +kernel
theorem tm121 : kM tM121 tY121 ((tWs[121]?).getD (0, 0, 0, 0)) = true := by decide +kernel
set_option maxRecDepth 20000 in
theorem tw121 : kW ((tWs[121]?).getD (0, 0, 0, 0)).1 = some (.code tY121.1 tY121.2.1 tM121.2.1 tY121.2.2) := rfl
theorem tk121 : eMok tCl lw_g tNs tMs tYs tM121 tY121 := kM_ok (q := (tWs[121]?).getD (0, 0, 0, 0)) (show ∀ ch ∈ tC121, _ from List.forall_mem_cons.mpr ⟨tc121_0, List.forall_mem_cons.mpr ⟨tc121_1, List.forall_mem_cons.mpr ⟨tc121_2, fun _ h => absurd h List.not_mem_nil⟩⟩⟩) tw121 tm121
theorem tc122_0 : tC122_0.all (kEn tY122.1 tY122.2.1) = true := by decide +kernel
theorem tc122_1 : tC122_1.all (kEn tY122.1 tY122.2.1) = true := by decide +kernel
theorem tc122_2 : tC122_2.all (kEn tY122.1 tY122.2.1) = true := by decide +kernel
theorem tm122 : kM tM122 tY122 ((tWs[122]?).getD (0, 0, 0, 0)) = true := by decide +kernel
set_option maxRecDepth 20000 in
theorem tw122 : kW ((tWs[122]?).getD (0, 0, 0, 0)).1 = some (.code tY122.1 tY122.2.1 tM122.2.1 tY122.2.2) := rfl
theorem tk122 : eMok tCl lw_g tNs tMs tYs tM122 tY122 := kM_ok (q := (tWs[122]?).getD (0, 0, 0, 0)) (show ∀ ch ∈ tC122, _ from List.forall_mem_cons.mpr ⟨tc122_0, List.forall_mem_cons.mpr ⟨tc122_1, List.forall_mem_cons.mpr ⟨tc122_2, fun _ h => absurd h List.not_mem_nil⟩⟩⟩) tw122 tm122
theorem tc123_0 : tC123_0.all (kEn tY123.1 tY123.2.1) = true := by decide +kernel
theorem tc123_1 : tC123_1.all (kEn tY123.1 tY123.2.1) = true := by decide +kernel
theorem tc123_2 : tC123_2.all (kEn tY123.1 tY123.2.1) = true := by decide +kernel
theorem tc123_3 : tC123_3.all (kEn tY123.1 tY123.2.1) = true := by decide +kernel
theorem tm123 : kM tM123 tY123 ((tWs[123]?).getD (0, 0, 0, 0)) = true := by decide +kernel
set_option maxRecDepth 20000 in
theorem tw123 : kW ((tWs[123]?).getD (0, 0, 0, 0)).1 = some (.code tY123.1 tY123.2.1 tM123.2.1 tY123.2.2) := rfl
theorem tk123 : eMok tCl lw_g tNs tMs tYs tM123 tY123 := kM_ok (q := (tWs[123]?).getD (0, 0, 0, 0)) (show ∀ ch ∈ tC123, _ from List.forall_mem_cons.mpr ⟨tc123_0, List.forall_mem_cons.mpr ⟨tc123_1, List.forall_mem_cons.mpr ⟨tc123_2, List.forall_mem_cons.mpr ⟨tc123_3, fun _ h => absurd h List.not_mem_nil⟩⟩⟩⟩) tw123 tm123
theorem tc124_0 : tC124_0.all (kEn tY124.1 tY124.2.1) = true := by decide +kernel
theorem tm124 : kM tM124 tY124 ((tWs[124]?).getD (0, 0, 0, 0)) = true := by decide +kernel
set_option maxRecDepth 20000 in
theorem tw124 : kW ((tWs[124]?).getD (0, 0, 0, 0)).1 = some (.code tY124.1 tY124.2.1 tM124.2.1 tY124.2.2) := rfl
theorem tk124 : eMok tCl lw_g tNs tMs tYs tM124 tY124 := kM_ok (q := (tWs[124]?).getD (0, 0, 0, 0)) (show ∀ ch ∈ tC124, _ from List.forall_mem_cons.mpr ⟨tc124_0, fun _ h => absurd h List.not_mem_nil⟩) tw124 tm124
theorem tc125_0 : tC125_0.all (kEn tY125.1 tY125.2.1) = true := by decide +kernel
theorem tc125_1 : tC125_1.all (kEn tY125.1 tY125.2.1) = true := by decide +kernel
theorem tc125_2 : tC125_2.all (kEn tY125.1 tY125.2.1) = true := by decide +kernel
theorem tc125_3 : tC125_3.all (kEn tY125.1 tY125.2.1) = true := by decide +kernel
theorem tm125 : kM tM125 tY125 ((tWs[125]?).getD (0, 0, 0, 0)) = true := by decide +kernel
set_option maxRecDepth 20000 in
theorem tw125 : kW ((tWs[125]?).getD (0, 0, 0, 0)).1 = some (.code tY125.1 tY125.2.1 tM125.2.1 tY125.2.2) := rfl
theorem tk125 : eMok tCl lw_g tNs tMs tYs tM125 tY125 := kM_ok (q := (tWs[125]?).getD (0, 0, 0, 0)) (show ∀ ch ∈ tC125, _ from List.forall_mem_cons.mpr ⟨tc125_0, List.forall_mem_cons.mpr ⟨tc125_1, List.forall_mem_cons.mpr ⟨tc125_2, List.forall_mem_cons.mpr ⟨tc125_3, fun _ h => absurd h List.not_mem_nil⟩⟩⟩⟩) tw125 tm125
