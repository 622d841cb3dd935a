section
theorem td84 : tC84.all (fun ch => dCh tY84.2.1 (ch.map dTr)) = true := by decide +kernel
theorem td85 : tC85.all (fun ch => dCh tY85.2.1 (ch.map dTr)) = true := by decide +kernel
theorem td86 : tC86.all (fun ch => dCh tY86.2.1 (ch.map dTr)) = true := by decide +kernel
theorem td87 : tC87.all (fun ch => dCh tY87.2.1 (ch.map dTr)) = true := by decide +kernel
theorem td88 : tC88.all (fun ch => dCh tY88.2.1 (ch.map dTr)) = true := by decide +kernel
theorem td89 : tC89.all (fun ch => dCh tY89.2.1 (ch.map dTr)) = true := by decide +kernel
theorem td90 : tC90.all (fun ch => dCh tY90.2.1 (ch.map dTr)) = true := by decide +kernel
theorem td91 : tC91.all (fun ch => dCh tY91.2.1 (ch.map dTr)) = true := by decide +kernel
theorem td92 : tC92.all (fun ch => dCh tY92.2.1 (ch.map dTr)) = true := by decide +kernel
theorem td93 : tC93.all (fun ch => dCh tY93.2.1 (ch.map dTr)) = true := by decide +kernel
theorem td94 : tC94.all (fun ch => dCh tY94.2.1 (ch.map dTr)) = true := by decide +kernel
theorem td95 : tC95.all (fun ch => dCh tY95.2.1 (ch.map dTr)) = true := by decide +kernel
theorem td96 : tC96.all (fun ch => dCh tY96.2.1 (ch.map dTr)) = true := by decide +kernel
theorem td97 : tC97.all (fun ch => dCh tY97.2.1 (ch.map dTr)) = true := by decide +kernel
theorem td98 : tC98.all (fun ch => dCh tY98.2.1 (ch.map dTr)) = true := by decide +kernel
theorem td99 : tC99.all (fun ch => dCh tY99.2.1 (ch.map dTr)) = true := by decide +kernel
theorem td100 : tC100.all (fun ch => dCh tY100.2.1 (ch.map dTr)) = true := by decide +kernel
theorem td101 : tC101.all (fun ch => dCh tY101.2.1 (ch.map dTr)) = true := by decide +kernel
theorem td102 : tC102.all (fun ch => dCh tY102.2.1 (ch.map dTr)) = true := by decide +kernel
theorem td103 : tC103.all (fun ch => dCh tY103.2.1 (ch.map dTr)) = true := by decide +kernel
theorem td104 : tC104.all (fun ch => dCh tY104.2.1 (ch.map dTr)) = true := by decide +kernel
theorem td105 : tC105.all (fun ch => dCh tY105.2.1 (ch.map dTr)) = true := by decide +kernel
theorem td106 : tC106.all (fun ch => dCh tY106.2.1 (ch.map dTr)) = true := by decide +kernel
theorem td107 : tC107.all (fun ch => dCh tY107.2.1 (ch.map dTr)) = true := by decide +kernel
theorem td108 : tC108.all (fun ch => dCh tY108.2.1 (ch.map dTr)) = true := by decide +kernel
theorem td109 : tC109.all (fun ch => dCh tY109.2.1 (ch.map dTr)) = true := by decide +kernel
theorem td110 : tC110.all (fun ch => dCh tY110.2.1 (ch.map dTr)) = true := by decide +kernel
theorem td111 : tC111.all (fun ch => dCh tY111.2.1 (ch.map dTr)) = true := by decide +kernel
theorem td112 : tC112.all (fun ch => dCh tY112.2.1 (ch.map dTr)) = true := by decide +kernel
theorem td113 : tC113.all (fun ch => dCh tY113.2.1 (ch.map dTr)) = true := by decide +kernel
theorem ta84 : tC84.all (fun ch => ch.all (kFn tY84.1)) = true := kGa_ok tg_0 84 rfl
theorem tm84 : kM tM84 tY84 ((tWs[84]?).getD (0, 0, 0, 0)) = true := kGm_ok th_0 84 rfl
set_option maxRecDepth 20000 in
theorem tw84 : kW ((tWs[84]?).getD (0, 0, 0, 0)).1 = some (.code tY84.1 tY84.2.1 tM84.2.1 tY84.2.2) := rfl
theorem tk84 : eMok tCl lw_g tNs tMs tYs tM84 tY84 := kM_ok (q := (tWs[84]?).getD (0, 0, 0, 0)) (show ∀ ch ∈ tC84, _ from kE_ok (Y := tY84) td84 ta84) tw84 tm84
theorem ta85 : tC85.all (fun ch => ch.all (kFn tY85.1)) = true := kGa_ok tg_0 85 rfl
theorem tm85 : kM tM85 tY85 ((tWs[85]?).getD (0, 0, 0, 0)) = true := kGm_ok th_0 85 rfl
set_option maxRecDepth 20000 in
theorem tw85 : kW ((tWs[85]?).getD (0, 0, 0, 0)).1 = some (.code tY85.1 tY85.2.1 tM85.2.1 tY85.2.2) := rfl
theorem tk85 : eMok tCl lw_g tNs tMs tYs tM85 tY85 := kM_ok (q := (tWs[85]?).getD (0, 0, 0, 0)) (show ∀ ch ∈ tC85, _ from kE_ok (Y := tY85) td85 ta85) tw85 tm85
theorem ta86 : tC86.all (fun ch => ch.all (kFn tY86.1)) = true := kGa_ok tg_0 86 rfl
theorem tm86 : kM tM86 tY86 ((tWs[86]?).getD (0, 0, 0, 0)) = true := kGm_ok th_0 86 rfl
set_option maxRecDepth 20000 in
theorem tw86 : kW ((tWs[86]?).getD (0, 0, 0, 0)).1 = some (.code tY86.1 tY86.2.1 tM86.2.1 tY86.2.2) := rfl
theorem tk86 : eMok tCl lw_g tNs tMs tYs tM86 tY86 := kM_ok (q := (tWs[86]?).getD (0, 0, 0, 0)) (show ∀ ch ∈ tC86, _ from kE_ok (Y := tY86) td86 ta86) tw86 tm86
theorem ta87 : tC87.all (fun ch => ch.all (kFn tY87.1)) = true := kGa_ok tg_0 87 rfl
theorem tm87 : kM tM87 tY87 ((tWs[87]?).getD (0, 0, 0, 0)) = true := kGm_ok th_0 87 rfl
set_option maxRecDepth 20000 in
theorem tw87 : kW ((tWs[87]?).getD (0, 0, 0, 0)).1 = some (.code tY87.1 tY87.2.1 tM87.2.1 tY87.2.2) := rfl
theorem tk87 : eMok tCl lw_g tNs tMs tYs tM87 tY87 := kM_ok (q := (tWs[87]?).getD (0, 0, 0, 0)) (show ∀ ch ∈ tC87, _ from kE_ok (Y := tY87) td87 ta87) tw87 tm87
theorem ta88 : tC88.all (fun ch => ch.all (kFn tY88.1)) = true := kGa_ok tg_0 88 rfl
theorem tm88 : kM tM88 tY88 ((tWs[88]?).getD (0, 0, 0, 0)) = true := kGm_ok th_0 88 rfl
set_option maxRecDepth 20000 in
theorem tw88 : kW ((tWs[88]?).getD (0, 0, 0, 0)).1 = some (.code tY88.1 tY88.2.1 tM88.2.1 tY88.2.2) := rfl
theorem tk88 : eMok tCl lw_g tNs tMs tYs tM88 tY88 := kM_ok (q := (tWs[88]?).getD (0, 0, 0, 0)) (show ∀ ch ∈ tC88, _ from kE_ok (Y := tY88) td88 ta88) tw88 tm88
theorem ta89 : tC89.all (fun ch => ch.all (kFn tY89.1)) = true := kGa_ok tg_0 89 rfl
theorem tm89 : kM tM89 tY89 ((tWs[89]?).getD (0, 0, 0, 0)) = true := kGm_ok th_0 89 rfl
set_option maxRecDepth 20000 in
theorem tw89 : kW ((tWs[89]?).getD (0, 0, 0, 0)).1 = some (.code tY89.1 tY89.2.1 tM89.2.1 tY89.2.2) := rfl
theorem tk89 : eMok tCl lw_g tNs tMs tYs tM89 tY89 := kM_ok (q := (tWs[89]?).getD (0, 0, 0, 0)) (show ∀ ch ∈ tC89, _ from kE_ok (Y := tY89) td89 ta89) tw89 tm89
theorem ta90 : tC90.all (fun ch => ch.all (kFn tY90.1)) = true := kGa_ok tg_0 90 rfl
theorem tm90 : kM tM90 tY90 ((tWs[90]?).getD (0, 0, 0, 0)) = true := kGm_ok th_0 90 rfl
set_option maxRecDepth 20000 in
theorem tw90 : kW ((tWs[90]?).getD (0, 0, 0, 0)).1 = some (.code tY90.1 tY90.2.1 tM90.2.1 tY90.2.2) := rfl
theorem tk90 : eMok tCl lw_g tNs tMs tYs tM90 tY90 := kM_ok (q := (tWs[90]?).getD (0, 0, 0, 0)) (show ∀ ch ∈ tC90, _ from kE_ok (Y := tY90) td90 ta90) tw90 tm90
theorem ta91 : tC91.all (fun ch => ch.all (kFn tY91.1)) = true := kGa_ok tg_0 91 rfl
theorem tm91 : kM tM91 tY91 ((tWs[91]?).getD (0, 0, 0, 0)) = true := kGm_ok th_0 91 rfl
set_option maxRecDepth 20000 in
theorem tw91 : kW ((tWs[91]?).getD (0, 0, 0, 0)).1 = some (.code tY91.1 tY91.2.1 tM91.2.1 tY91.2.2) := rfl
theorem tk91 : eMok tCl lw_g tNs tMs tYs tM91 tY91 := kM_ok (q := (tWs[91]?).getD (0, 0, 0, 0)) (show ∀ ch ∈ tC91, _ from kE_ok (Y := tY91) td91 ta91) tw91 tm91
theorem ta92 : tC92.all (fun ch => ch.all (kFn tY92.1)) = true := kGa_ok tg_0 92 rfl
theorem tm92 : kM tM92 tY92 ((tWs[92]?).getD (0, 0, 0, 0)) = true := kGm_ok th_0 92 rfl
set_option maxRecDepth 20000 in
theorem tw92 : kW ((tWs[92]?).getD (0, 0, 0, 0)).1 = some (.code tY92.1 tY92.2.1 tM92.2.1 tY92.2.2) := rfl
theorem tk92 : eMok tCl lw_g tNs tMs tYs tM92 tY92 := kM_ok (q := (tWs[92]?).getD (0, 0, 0, 0)) (show ∀ ch ∈ tC92, _ from kE_ok (Y := tY92) td92 ta92) tw92 tm92
theorem ta93 : tC93.all (fun ch => ch.all (kFn tY93.1)) = true := kGa_ok tg_0 93 rfl
theorem tm93 : kM tM93 tY93 ((tWs[93]?).getD (0, 0, 0, 0)) = true := kGm_ok th_0 93 rfl
set_option maxRecDepth 20000 in
theorem tw93 : kW ((tWs[93]?).getD (0, 0, 0, 0)).1 = some (.code tY93.1 tY93.2.1 tM93.2.1 tY93.2.2) := rfl
theorem tk93 : eMok tCl lw_g tNs tMs tYs tM93 tY93 := kM_ok (q := (tWs[93]?).getD (0, 0, 0, 0)) (show ∀ ch ∈ tC93, _ from kE_ok (Y := tY93) td93 ta93) tw93 tm93
theorem ta94 : tC94.all (fun ch => ch.all (kFn tY94.1)) = true := kGa_ok tg_0 94 rfl
theorem tm94 : kM tM94 tY94 ((tWs[94]?).getD (0, 0, 0, 0)) = true := kGm_ok th_0 94 rfl
set_option maxRecDepth 20000 in
theorem tw94 : kW ((tWs[94]?).getD (0, 0, 0, 0)).1 = some (.code tY94.1 tY94.2.1 tM94.2.1 tY94.2.2) := rfl
theorem tk94 : eMok tCl lw_g tNs tMs tYs tM94 tY94 := kM_ok (q := (tWs[94]?).getD (0, 0, 0, 0)) (show ∀ ch ∈ tC94, _ from kE_ok (Y := tY94) td94 ta94) tw94 tm94
theorem ta95 : tC95.all (fun ch => ch.all (kFn tY95.1)) = true := kGa_ok tg_0 95 rfl
theorem tm95 : kM tM95 tY95 ((tWs[95]?).getD (0, 0, 0, 0)) = true := kGm_ok th_0 95 rfl
set_option maxRecDepth 20000 in
theorem tw95 : kW ((tWs[95]?).getD (0, 0, 0, 0)).1 = some (.code tY95.1 tY95.2.1 tM95.2.1 tY95.2.2) := rfl
theorem tk95 : eMok tCl lw_g tNs tMs tYs tM95 tY95 := kM_ok (q := (tWs[95]?).getD (0, 0, 0, 0)) (show ∀ ch ∈ tC95, _ from kE_ok (Y := tY95) td95 ta95) tw95 tm95
theorem ta96 : tC96.all (fun ch => ch.all (kFn tY96.1)) = true := kGa_ok tg_1 0 rfl
theorem tm96 : kM tM96 tY96 ((tWs[96]?).getD (0, 0, 0, 0)) = true := kGm_ok th_1 0 rfl
set_option maxRecDepth 20000 in
theorem tw96 : kW ((tWs[96]?).getD (0, 0, 0, 0)).1 = some (.code tY96.1 tY96.2.1 tM96.2.1 tY96.2.2) := rfl
theorem tk96 : eMok tCl lw_g tNs tMs tYs tM96 tY96 := kM_ok (q := (tWs[96]?).getD (0, 0, 0, 0)) (show ∀ ch ∈ tC96, _ from kE_ok (Y := tY96) td96 ta96) tw96 tm96
theorem ta97 : tC97.all (fun ch => ch.all (kFn tY97.1)) = true := kGa_ok tg_1 1 rfl
theorem tm97 : kM tM97 tY97 ((tWs[97]?).getD (0, 0, 0, 0)) = true := kGm_ok th_1 1 rfl
set_option maxRecDepth 20000 in
theorem tw97 : kW ((tWs[97]?).getD (0, 0, 0, 0)).1 = some (.code tY97.1 tY97.2.1 tM97.2.1 tY97.2.2) := rfl
theorem tk97 : eMok tCl lw_g tNs tMs tYs tM97 tY97 := kM_ok (q := (tWs[97]?).getD (0, 0, 0, 0)) (show ∀ ch ∈ tC97, _ from kE_ok (Y := tY97) td97 ta97) tw97 tm97
theorem ta98 : tC98.all (fun ch => ch.all (kFn tY98.1)) = true := kGa_ok tg_1 2 rfl
theorem tm98 : kM tM98 tY98 ((tWs[98]?).getD (0, 0, 0, 0)) = true := kGm_ok th_1 2 rfl
set_option maxRecDepth 20000 in
theorem tw98 : kW ((tWs[98]?).getD (0, 0, 0, 0)).1 = some (.code tY98.1 tY98.2.1 tM98.2.1 tY98.2.2) := rfl
theorem tk98 : eMok tCl lw_g tNs tMs tYs tM98 tY98 := kM_ok (q := (tWs[98]?).getD (0, 0, 0, 0)) (show ∀ ch ∈ tC98, _ from kE_ok (Y := tY98) td98 ta98) tw98 tm98
theorem ta99 : tC99.all (fun ch => ch.all (kFn tY99.1)) = true := kGa_ok tg_1 3 rfl
theorem tm99 : kM tM99 tY99 ((tWs[99]?).getD (0, 0, 0, 0)) = true := kGm_ok th_1 3 rfl
set_option maxRecDepth 20000 in
theorem tw99 : kW ((tWs[99]?).getD (0, 0, 0, 0)).1 = some (.code tY99.1 tY99.2.1 tM99.2.1 tY99.2.2) := rfl
theorem tk99 : eMok tCl lw_g tNs tMs tYs tM99 tY99 := kM_ok (q := (tWs[99]?).getD (0, 0, 0, 0)) (show ∀ ch ∈ tC99, _ from kE_ok (Y := tY99) td99 ta99) tw99 tm99
theorem ta100 : tC100.all (fun ch => ch.all (kFn tY100.1)) = true := kGa_ok tg_1 4 rfl
theorem tm100 : kM tM100 tY100 ((tWs[100]?).getD (0, 0, 0, 0)) = true := kGm_ok th_1 4 rfl
set_option maxRecDepth 20000 in
theorem tw100 : kW ((tWs[100]?).getD (0, 0, 0, 0)).1 = some (.code tY100.1 tY100.2.1 tM100.2.1 tY100.2.2) := rfl
theorem tk100 : eMok tCl lw_g tNs tMs tYs tM100 tY100 := kM_ok (q := (tWs[100]?).getD (0, 0, 0, 0)) (show ∀ ch ∈ tC100, _ from kE_ok (Y := tY100) td100 ta100) tw100 tm100
theorem ta101 : tC101.all (fun ch => ch.all (kFn tY101.1)) = true := kGa_ok tg_1 5 rfl
theorem tm101 : kM tM101 tY101 ((tWs[101]?).getD (0, 0, 0, 0)) = true := kGm_ok th_1 5 rfl
set_option maxRecDepth 20000 in
theorem tw101 : kW ((tWs[101]?).getD (0, 0, 0, 0)).1 = some (.code tY101.1 tY101.2.1 tM101.2.1 tY101.2.2) := rfl
theorem tk101 : eMok tCl lw_g tNs tMs tYs tM101 tY101 := kM_ok (q := (tWs[101]?).getD (0, 0, 0, 0)) (show ∀ ch ∈ tC101, _ from kE_ok (Y := tY101) td101 ta101) tw101 tm101
theorem ta102 : tC102.all (fun ch => ch.all (kFn tY102.1)) = true := kGa_ok tg_1 6 rfl
theorem tm102 : kM tM102 tY102 ((tWs[102]?).getD (0, 0, 0, 0)) = true := kGm_ok th_1 6 rfl
set_option maxRecDepth 20000 in
theorem tw102 : kW ((tWs[102]?).getD (0, 0, 0, 0)).1 = some (.code tY102.1 tY102.2.1 tM102.2.1 tY102.2.2) := rfl
theorem tk102 : eMok tCl lw_g tNs tMs tYs tM102 tY102 := kM_ok (q := (tWs[102]?).getD (0, 0, 0, 0)) (show ∀ ch ∈ tC102, _ from kE_ok (Y := tY102) td102 ta102) tw102 tm102
theorem ta103 : tC103.all (fun ch => ch.all (kFn tY103.1)) = true := kGa_ok tg_1 7 rfl
theorem tm103 : kM tM103 tY103 ((tWs[103]?).getD (0, 0, 0, 0)) = true := kGm_ok th_1 7 rfl
set_option maxRecDepth 20000 in
theorem tw103 : kW ((tWs[103]?).getD (0, 0, 0, 0)).1 = some (.code tY103.1 tY103.2.1 tM103.2.1 tY103.2.2) := rfl
theorem tk103 : eMok tCl lw_g tNs tMs tYs tM103 tY103 := kM_ok (q := (tWs[103]?).getD (0, 0, 0, 0)) (show ∀ ch ∈ tC103, _ from kE_ok (Y := tY103) td103 ta103) tw103 tm103
theorem ta104 : tC104.all (fun ch => ch.all (kFn tY104.1)) = true := kGa_ok tg_1 8 rfl
theorem tm104 : kM tM104 tY104 ((tWs[104]?).getD (0, 0, 0, 0)) = true := kGm_ok th_1 8 rfl
set_option maxRecDepth 20000 in
theorem tw104 : kW ((tWs[104]?).getD (0, 0, 0, 0)).1 = some (.code tY104.1 tY104.2.1 tM104.2.1 tY104.2.2) := rfl
theorem tk104 : eMok tCl lw_g tNs tMs tYs tM104 tY104 := kM_ok (q := (tWs[104]?).getD (0, 0, 0, 0)) (show ∀ ch ∈ tC104, _ from kE_ok (Y := tY104) td104 ta104) tw104 tm104
theorem ta105 : tC105.all (fun ch => ch.all (kFn tY105.1)) = true := kGa_ok tg_1 9 rfl
theorem tm105 : kM tM105 tY105 ((tWs[105]?).getD (0, 0, 0, 0)) = true := kGm_ok th_1 9 rfl
set_option maxRecDepth 20000 in
theorem tw105 : kW ((tWs[105]?).getD (0, 0, 0, 0)).1 = some (.code tY105.1 tY105.2.1 tM105.2.1 tY105.2.2) := rfl
theorem tk105 : eMok tCl lw_g tNs tMs tYs tM105 tY105 := kM_ok (q := (tWs[105]?).getD (0, 0, 0, 0)) (show ∀ ch ∈ tC105, _ from kE_ok (Y := tY105) td105 ta105) tw105 tm105
theorem ta106 : tC106.all (fun ch => ch.all (kFn tY106.1)) = true := kGa_ok tg_1 10 rfl
theorem tm106 : kM tM106 tY106 ((tWs[106]?).getD (0, 0, 0, 0)) = true := kGm_ok th_1 10 rfl
set_option maxRecDepth 20000 in
theorem tw106 : kW ((tWs[106]?).getD (0, 0, 0, 0)).1 = some (.code tY106.1 tY106.2.1 tM106.2.1 tY106.2.2) := rfl
theorem tk106 : eMok tCl lw_g tNs tMs tYs tM106 tY106 := kM_ok (q := (tWs[106]?).getD (0, 0, 0, 0)) (show ∀ ch ∈ tC106, _ from kE_ok (Y := tY106) td106 ta106) tw106 tm106
theorem ta107 : tC107.all (fun ch => ch.all (kFn tY107.1)) = true := kGa_ok tg_1 11 rfl
theorem tm107 : kM tM107 tY107 ((tWs[107]?).getD (0, 0, 0, 0)) = true := kGm_ok th_1 11 rfl
set_option maxRecDepth 20000 in
theorem tw107 : kW ((tWs[107]?).getD (0, 0, 0, 0)).1 = some (.code tY107.1 tY107.2.1 tM107.2.1 tY107.2.2) := rfl
theorem tk107 : eMok tCl lw_g tNs tMs tYs tM107 tY107 := kM_ok (q := (tWs[107]?).getD (0, 0, 0, 0)) (show ∀ ch ∈ tC107, _ from kE_ok (Y := tY107) td107 ta107) tw107 tm107
theorem ta108 : tC108.all (fun ch => ch.all (kFn tY108.1)) = true := kGa_ok tg_1 12 rfl
theorem tm108 : kM tM108 tY108 ((tWs[108]?).getD (0, 0, 0, 0)) = true := kGm_ok th_1 12 rfl
set_option maxRecDepth 20000 in
theorem tw108 : kW ((tWs[108]?).getD (0, 0, 0, 0)).1 = some (.code tY108.1 tY108.2.1 tM108.2.1 tY108.2.2) := rfl
theorem tk108 : eMok tCl lw_g tNs tMs tYs tM108 tY108 := kM_ok (q := (tWs[108]?).getD (0, 0, 0, 0)) (show ∀ ch ∈ tC108, _ from kE_ok (Y := tY108) td108 ta108) tw108 tm108
theorem ta109 : tC109.all (fun ch => ch.all (kFn tY109.1)) = true := kGa_ok tg_1 13 rfl
theorem tm109 : kM tM109 tY109 ((tWs[109]?).getD (0, 0, 0, 0)) = true := kGm_ok th_1 13 rfl
set_option maxRecDepth 20000 in
theorem tw109 : kW ((tWs[109]?).getD (0, 0, 0, 0)).1 = some (.code tY109.1 tY109.2.1 tM109.2.1 tY109.2.2) := rfl
theorem tk109 : eMok tCl lw_g tNs tMs tYs tM109 tY109 := kM_ok (q := (tWs[109]?).getD (0, 0, 0, 0)) (show ∀ ch ∈ tC109, _ from kE_ok (Y := tY109) td109 ta109) tw109 tm109
theorem ta110 : tC110.all (fun ch => ch.all (kFn tY110.1)) = true := kGa_ok tg_1 14 rfl
theorem tm110 : kM tM110 tY110 ((tWs[110]?).getD (0, 0, 0, 0)) = true := kGm_ok th_1 14 rfl
set_option maxRecDepth 20000 in
theorem tw110 : kW ((tWs[110]?).getD (0, 0, 0, 0)).1 = some (.code tY110.1 tY110.2.1 tM110.2.1 tY110.2.2) := rfl
theorem tk110 : eMok tCl lw_g tNs tMs tYs tM110 tY110 := kM_ok (q := (tWs[110]?).getD (0, 0, 0, 0)) (show ∀ ch ∈ tC110, _ from kE_ok (Y := tY110) td110 ta110) tw110 tm110
theorem ta111 : tC111.all (fun ch => ch.all (kFn tY111.1)) = true := kGa_ok tg_1 15 rfl
theorem tm111 : kM tM111 tY111 ((tWs[111]?).getD (0, 0, 0, 0)) = true := kGm_ok th_1 15 rfl
set_option maxRecDepth 20000 in
theorem tw111 : kW ((tWs[111]?).getD (0, 0, 0, 0)).1 = some (.code tY111.1 tY111.2.1 tM111.2.1 tY111.2.2) := rfl
theorem tk111 : eMok tCl lw_g tNs tMs tYs tM111 tY111 := kM_ok (q := (tWs[111]?).getD (0, 0, 0, 0)) (show ∀ ch ∈ tC111, _ from kE_ok (Y := tY111) td111 ta111) tw111 tm111
theorem ta112 : tC112.all (fun ch => ch.all (kFn tY112.1)) = true := kGa_ok tg_1 16 rfl
theorem tm112 : kM tM112 tY112 ((tWs[112]?).getD (0, 0, 0, 0)) = true := kGm_ok th_1 16 rfl
set_option maxRecDepth 20000 in
theorem tw112 : kW ((tWs[112]?).getD (0, 0, 0, 0)).1 = some (.code tY112.1 tY112.2.1 tM112.2.1 tY112.2.2) := rfl
theorem tk112 : eMok tCl lw_g tNs tMs tYs tM112 tY112 := kM_ok (q := (tWs[112]?).getD (0, 0, 0, 0)) (show ∀ ch ∈ tC112, _ from kE_ok (Y := tY112) td112 ta112) tw112 tm112
theorem ta113 : tC113.all (fun ch => ch.all (kFn tY113.1)) = true := kGa_ok tg_1 17 rfl
theorem tm113 : kM tM113 tY113 ((tWs[113]?).getD (0, 0, 0, 0)) = true := kGm_ok th_1 17 rfl
set_option maxRecDepth 20000 in
theorem tw113 : kW ((tWs[113]?).getD (0, 0, 0, 0)).1 = some (.code tY113.1 tY113.2.1 tM113.2.1 tY113.2.2) := rfl
theorem tk113 : eMok tCl lw_g tNs tMs tYs tM113 tY113 := kM_ok (q := (tWs[113]?).getD (0, 0, 0, 0)) (show ∀ ch ∈ tC113, _ from kE_ok (Y := tY113) td113 ta113) tw113 tm113
end
section
theorem td114 : tC114.all (fun ch => dCh tY114.2.1 (ch.map dTr)) = true := by decide +kernel
theorem td115 : tC115.all (fun ch => dCh tY115.2.1 (ch.map dTr)) = true := by decide +kernel
theorem td116 : tC116.all (fun ch => dCh tY116.2.1 (ch.map dTr)) = true := by decide +kernel
theorem td117 : tC117.all (fun ch => dCh tY117.2.1 (ch.map dTr)) = true := by decide +kernel
theorem td118 : tC118.all (fun ch => dCh tY118.2.1 (ch.map dTr)) = true := by decide +kernel
theorem td119 : tC119.all (fun ch => dCh tY119.2.1 (ch.map dTr)) = true := by decide +kernel
theorem td120 : tC120.all (fun ch => dCh tY120.2.1 (ch.map dTr)) = true := by decide +kernel
theorem td121 : tC121.all (fun ch => dCh tY121.2.1 (ch.map dTr)) = true := by decide +kernel
theorem td122 : tC122.all (fun ch => dCh tY122.2.1 (ch.map dTr)) = true := by decide +kernel
theorem td123 : tC123.all (fun ch => dCh tY123.2.1 (ch.map dTr)) = true := by decide +kernel
theorem td124 : tC124.all (fun ch => dCh tY124.2.1 (ch.map dTr)) = true := by decide +kernel
theorem td125 : tC125.all (fun ch => dCh tY125.2.1 (ch.map dTr)) = true := by decide +kernel
theorem td126 : tC126.all (fun ch => dCh tY126.2.1 (ch.map dTr)) = true := by decide +kernel
theorem td127 : tC127.all (fun ch => dCh tY127.2.1 (ch.map dTr)) = true := by decide +kernel
theorem td128 : tC128.all (fun ch => dCh tY128.2.1 (ch.map dTr)) = true := by decide +kernel
theorem td129 : tC129.all (fun ch => dCh tY129.2.1 (ch.map dTr)) = true := by decide +kernel
theorem td130 : tC130.all (fun ch => dCh tY130.2.1 (ch.map dTr)) = true := by decide +kernel
theorem td131 : tC131.all (fun ch => dCh tY131.2.1 (ch.map dTr)) = true := by decide +kernel
theorem td132 : tC132.all (fun ch => dCh tY132.2.1 (ch.map dTr)) = true := by decide +kernel
theorem td133 : tC133.all (fun ch => dCh tY133.2.1 (ch.map dTr)) = true := by decide +kernel
theorem td134 : tC134.all (fun ch => dCh tY134.2.1 (ch.map dTr)) = true := by decide +kernel
theorem td135 : tC135.all (fun ch => dCh tY135.2.1 (ch.map dTr)) = true := by decide +kernel
theorem td136 : tC136.all (fun ch => dCh tY136.2.1 (ch.map dTr)) = true := by decide +kernel
theorem td137 : tC137.all (fun ch => dCh tY137.2.1 (ch.map dTr)) = true := by decide +kernel
theorem td138 : tC138.all (fun ch => dCh tY138.2.1 (ch.map dTr)) = true := by decide +kernel
theorem td139 : tC139.all (fun ch => dCh tY139.2.1 (ch.map dTr)) = true := by decide +kernel
theorem td140 : tC140.all (fun ch => dCh tY140.2.1 (ch.map dTr)) = true := by decide +kernel
theorem td141 : tC141.all (fun ch => dCh tY141.2.1 (ch.map dTr)) = true := by decide +kernel
theorem td142 : tC142.all (fun ch => dCh tY142.2.1 (ch.map dTr)) = true := by decide +kernel
theorem td143 : tC143.all (fun ch => dCh tY143.2.1 (ch.map dTr)) = true := by decide +kernel
theorem td144 : tC144.all (fun ch => dCh tY144.2.1 (ch.map dTr)) = true := by decide +kernel
theorem td145 : tC145.all (fun ch => dCh tY145.2.1 (ch.map dTr)) = true := by decide +kernel
theorem td146 : tC146.all (fun ch => dCh tY146.2.1 (ch.map dTr)) = true := by decide +kernel
theorem td147 : tC147.all (fun ch => dCh tY147.2.1 (ch.map dTr)) = true := by decide +kernel
theorem td148 : tC148.all (fun ch => dCh tY148.2.1 (ch.map dTr)) = true := by decide +kernel
theorem td149 : tC149.all (fun ch => dCh tY149.2.1 (ch.map dTr)) = true := by decide +kernel
theorem td150 : tC150.all (fun ch => dCh tY150.2.1 (ch.map dTr)) = true := by decide +kernel
theorem td151 : tC151.all (fun ch => dCh tY151.2.1 (ch.map dTr)) = true := by decide +kernel
theorem td152 : tC152.all (fun ch => dCh tY152.2.1 (ch.map dTr)) = true := by decide +kernel
theorem td153 : tC153.all (fun ch => dCh tY153.2.1 (ch.map dTr)) = true := by decide +kernel
theorem td154 : tC154.all (fun ch => dCh tY154.2.1 (ch.map dTr)) = true := by decide +kernel
theorem td155 : tC155.all (fun ch => dCh tY155.2.1 (ch.map dTr)) = true := by decide +kernel
theorem td156 : tC156.all (fun ch => dCh tY156.2.1 (ch.map dTr)) = true := by decide +kernel
theorem td157 : tC157.all (fun ch => dCh tY157.2.1 (ch.map dTr)) = true := by decide +kernel
theorem ta114 : tC114.all (fun ch => ch.all (kFn tY114.1)) = true := kGa_ok tg_1 18 rfl
theorem tm114 : kM tM114 tY114 ((tWs[114]?).getD (0, 0, 0, 0)) = true := kGm_ok th_1 18 rfl
set_option maxRecDepth 20000 in
theorem tw114 : kW ((tWs[114]?).getD (0, 0, 0, 0)).1 = some (.code tY114.1 tY114.2.1 tM114.2.1 tY114.2.2) := rfl
theorem tk114 : eMok tCl lw_g tNs tMs tYs tM114 tY114 := kM_ok (q := (tWs[114]?).getD (0, 0, 0, 0)) (show ∀ ch ∈ tC114, _ from kE_ok (Y := tY114) td114 ta114) tw114 tm114
theorem ta115 : tC115.all (fun ch => ch.all (kFn tY115.1)) = true := kGa_ok tg_1 19 rfl
theorem tm115 : kM tM115 tY115 ((tWs[115]?).getD (0, 0, 0, 0)) = true := kGm_ok th_1 19 rfl
set_option maxRecDepth 20000 in
theorem tw115 : kW ((tWs[115]?).getD (0, 0, 0, 0)).1 = some (.code tY115.1 tY115.2.1 tM115.2.1 tY115.2.2) := rfl
theorem tk115 : eMok tCl lw_g tNs tMs tYs tM115 tY115 := kM_ok (q := (tWs[115]?).getD (0, 0, 0, 0)) (show ∀ ch ∈ tC115, _ from kE_ok (Y := tY115) td115 ta115) tw115 tm115
theorem ta116 : tC116.all (fun ch => ch.all (kFn tY116.1)) = true := kGa_ok tg_1 20 rfl
theorem tm116 : kM tM116 tY116 ((tWs[116]?).getD (0, 0, 0, 0)) = true := kGm_ok th_1 20 rfl
set_option maxRecDepth 20000 in
theorem tw116 : kW ((tWs[116]?).getD (0, 0, 0, 0)).1 = some (.code tY116.1 tY116.2.1 tM116.2.1 tY116.2.2) := rfl
theorem tk116 : eMok tCl lw_g tNs tMs tYs tM116 tY116 := kM_ok (q := (tWs[116]?).getD (0, 0, 0, 0)) (show ∀ ch ∈ tC116, _ from kE_ok (Y := tY116) td116 ta116) tw116 tm116
theorem ta117 : tC117.all (fun ch => ch.all (kFn tY117.1)) = true := kGa_ok tg_1 21 rfl
theorem tm117 : kM tM117 tY117 ((tWs[117]?).getD (0, 0, 0, 0)) = true := kGm_ok th_1 21 rfl
set_option maxRecDepth 20000 in
theorem tw117 : kW ((tWs[117]?).getD (0, 0, 0, 0)).1 = some (.code tY117.1 tY117.2.1 tM117.2.1 tY117.2.2) := rfl
theorem tk117 : eMok tCl lw_g tNs tMs tYs tM117 tY117 := kM_ok (q := (tWs[117]?).getD (0, 0, 0, 0)) (show ∀ ch ∈ tC117, _ from kE_ok (Y := tY117) td117 ta117) tw117 tm117
theorem ta118 : tC118.all (fun ch => ch.all (kFn tY118.1)) = true := kGa_ok tg_1 22 rfl
theorem tm118 : kM tM118 tY118 ((tWs[118]?).getD (0, 0, 0, 0)) = true := kGm_ok th_1 22 rfl
set_option maxRecDepth 20000 in
theorem tw118 : kW ((tWs[118]?).getD (0, 0, 0, 0)).1 = some (.code tY118.1 tY118.2.1 tM118.2.1 tY118.2.2) := rfl
theorem tk118 : eMok tCl lw_g tNs tMs tYs tM118 tY118 := kM_ok (q := (tWs[118]?).getD (0, 0, 0, 0)) (show ∀ ch ∈ tC118, _ from kE_ok (Y := tY118) td118 ta118) tw118 tm118
theorem ta119 : tC119.all (fun ch => ch.all (kFn tY119.1)) = true := kGa_ok tg_1 23 rfl
theorem tm119 : kM tM119 tY119 ((tWs[119]?).getD (0, 0, 0, 0)) = true := kGm_ok th_1 23 rfl
set_option maxRecDepth 20000 in
theorem tw119 : kW ((tWs[119]?).getD (0, 0, 0, 0)).1 = some (.code tY119.1 tY119.2.1 tM119.2.1 tY119.2.2) := rfl
theorem tk119 : eMok tCl lw_g tNs tMs tYs tM119 tY119 := kM_ok (q := (tWs[119]?).getD (0, 0, 0, 0)) (show ∀ ch ∈ tC119, _ from kE_ok (Y := tY119) td119 ta119) tw119 tm119
theorem ta120 : tC120.all (fun ch => ch.all (kFn tY120.1)) = true := kGa_ok tg_1 24 rfl
theorem tm120 : kM tM120 tY120 ((tWs[120]?).getD (0, 0, 0, 0)) = true := kGm_ok th_1 24 rfl
set_option maxRecDepth 20000 in
theorem tw120 : kW ((tWs[120]?).getD (0, 0, 0, 0)).1 = some (.code tY120.1 tY120.2.1 tM120.2.1 tY120.2.2) := rfl
theorem tk120 : eMok tCl lw_g tNs tMs tYs tM120 tY120 := kM_ok (q := (tWs[120]?).getD (0, 0, 0, 0)) (show ∀ ch ∈ tC120, _ from kE_ok (Y := tY120) td120 ta120) tw120 tm120
theorem ta121 : tC121.all (fun ch => ch.all (kFn tY121.1)) = true := kGa_ok tg_1 25 rfl
theorem tm121 : kM tM121 tY121 ((tWs[121]?).getD (0, 0, 0, 0)) = true := kGm_ok th_1 25 rfl
set_option maxRecDepth 20000 in
theorem tw121 : kW ((tWs[121]?).getD (0, 0, 0, 0)).1 = some (.code tY121.1 tY121.2.1 tM121.2.1 tY121.2.2) := rfl
theorem tk121 : eMok tCl lw_g tNs tMs tYs tM121 tY121 := kM_ok (q := (tWs[121]?).getD (0, 0, 0, 0)) (show ∀ ch ∈ tC121, _ from kE_ok (Y := tY121) td121 ta121) tw121 tm121
theorem ta122 : tC122.all (fun ch => ch.all (kFn tY122.1)) = true := kGa_ok tg_1 26 rfl
theorem tm122 : kM tM122 tY122 ((tWs[122]?).getD (0, 0, 0, 0)) = true := kGm_ok th_1 26 rfl
set_option maxRecDepth 20000 in
theorem tw122 : kW ((tWs[122]?).getD (0, 0, 0, 0)).1 = some (.code tY122.1 tY122.2.1 tM122.2.1 tY122.2.2) := rfl
theorem tk122 : eMok tCl lw_g tNs tMs tYs tM122 tY122 := kM_ok (q := (tWs[122]?).getD (0, 0, 0, 0)) (show ∀ ch ∈ tC122, _ from kE_ok (Y := tY122) td122 ta122) tw122 tm122
theorem ta123 : tC123.all (fun ch => ch.all (kFn tY123.1)) = true := kGa_ok tg_1 27 rfl
theorem tm123 : kM tM123 tY123 ((tWs[123]?).getD (0, 0, 0, 0)) = true := kGm_ok th_1 27 rfl
set_option maxRecDepth 20000 in
theorem tw123 : kW ((tWs[123]?).getD (0, 0, 0, 0)).1 = some (.code tY123.1 tY123.2.1 tM123.2.1 tY123.2.2) := rfl
theorem tk123 : eMok tCl lw_g tNs tMs tYs tM123 tY123 := kM_ok (q := (tWs[123]?).getD (0, 0, 0, 0)) (show ∀ ch ∈ tC123, _ from kE_ok (Y := tY123) td123 ta123) tw123 tm123
theorem ta124 : tC124.all (fun ch => ch.all (kFn tY124.1)) = true := kGa_ok tg_1 28 rfl
theorem tm124 : kM tM124 tY124 ((tWs[124]?).getD (0, 0, 0, 0)) = true := kGm_ok th_1 28 rfl
set_option maxRecDepth 20000 in
theorem tw124 : kW ((tWs[124]?).getD (0, 0, 0, 0)).1 = some (.code tY124.1 tY124.2.1 tM124.2.1 tY124.2.2) := rfl
theorem tk124 : eMok tCl lw_g tNs tMs tYs tM124 tY124 := kM_ok (q := (tWs[124]?).getD (0, 0, 0, 0)) (show ∀ ch ∈ tC124, _ from kE_ok (Y := tY124) td124 ta124) tw124 tm124
theorem ta125 : tC125.all (fun ch => ch.all (kFn tY125.1)) = true := kGa_ok tg_1 29 rfl
theorem tm125 : kM tM125 tY125 ((tWs[125]?).getD (0, 0, 0, 0)) = true := kGm_ok th_1 29 rfl
set_option maxRecDepth 20000 in
theorem tw125 : kW ((tWs[125]?).getD (0, 0, 0, 0)).1 = some (.code tY125.1 tY125.2.1 tM125.2.1 tY125.2.2) := rfl
theorem tk125 : eMok tCl lw_g tNs tMs tYs tM125 tY125 := kM_ok (q := (tWs[125]?).getD (0, 0, 0, 0)) (show ∀ ch ∈ tC125, _ from kE_ok (Y := tY125) td125 ta125) tw125 tm125
theorem ta126 : tC126.all (fun ch => ch.all (kFn tY126.1)) = true := kGa_ok tg_1 30 rfl
theorem tm126 : kM tM126 tY126 ((tWs[126]?).getD (0, 0, 0, 0)) = true := kGm_ok th_1 30 rfl
set_option maxRecDepth 20000 in
theorem tw126 : kW ((tWs[126]?).getD (0, 0, 0, 0)).1 = some (.code tY126.1 tY126.2.1 tM126.2.1 tY126.2.2) := rfl
theorem tk126 : eMok tCl lw_g tNs tMs tYs tM126 tY126 := kM_ok (q := (tWs[126]?).getD (0, 0, 0, 0)) (show ∀ ch ∈ tC126, _ from kE_ok (Y := tY126) td126 ta126) tw126 tm126
theorem ta127 : tC127.all (fun ch => ch.all (kFn tY127.1)) = true := kGa_ok tg_1 31 rfl
theorem tm127 : kM tM127 tY127 ((tWs[127]?).getD (0, 0, 0, 0)) = true := kGm_ok th_1 31 rfl
set_option maxRecDepth 20000 in
theorem tw127 : kW ((tWs[127]?).getD (0, 0, 0, 0)).1 = some (.code tY127.1 tY127.2.1 tM127.2.1 tY127.2.2) := rfl
theorem tk127 : eMok tCl lw_g tNs tMs tYs tM127 tY127 := kM_ok (q := (tWs[127]?).getD (0, 0, 0, 0)) (show ∀ ch ∈ tC127, _ from kE_ok (Y := tY127) td127 ta127) tw127 tm127
theorem ta128 : tC128.all (fun ch => ch.all (kFn tY128.1)) = true := kGa_ok tg_1 32 rfl
theorem tm128 : kM tM128 tY128 ((tWs[128]?).getD (0, 0, 0, 0)) = true := kGm_ok th_1 32 rfl
set_option maxRecDepth 20000 in
theorem tw128 : kW ((tWs[128]?).getD (0, 0, 0, 0)).1 = some (.code tY128.1 tY128.2.1 tM128.2.1 tY128.2.2) := rfl
theorem tk128 : eMok tCl lw_g tNs tMs tYs tM128 tY128 := kM_ok (q := (tWs[128]?).getD (0, 0, 0, 0)) (show ∀ ch ∈ tC128, _ from kE_ok (Y := tY128) td128 ta128) tw128 tm128
theorem ta129 : tC129.all (fun ch => ch.all (kFn tY129.1)) = true := kGa_ok tg_1 33 rfl
theorem tm129 : kM tM129 tY129 ((tWs[129]?).getD (0, 0, 0, 0)) = true := kGm_ok th_1 33 rfl
set_option maxRecDepth 20000 in
theorem tw129 : kW ((tWs[129]?).getD (0, 0, 0, 0)).1 = some (.code tY129.1 tY129.2.1 tM129.2.1 tY129.2.2) := rfl
theorem tk129 : eMok tCl lw_g tNs tMs tYs tM129 tY129 := kM_ok (q := (tWs[129]?).getD (0, 0, 0, 0)) (show ∀ ch ∈ tC129, _ from kE_ok (Y := tY129) td129 ta129) tw129 tm129
theorem ta130 : tC130.all (fun ch => ch.all (kFn tY130.1)) = true := kGa_ok tg_1 34 rfl
theorem tm130 : kM tM130 tY130 ((tWs[130]?).getD (0, 0, 0, 0)) = true := kGm_ok th_1 34 rfl
set_option maxRecDepth 20000 in
theorem tw130 : kW ((tWs[130]?).getD (0, 0, 0, 0)).1 = some (.code tY130.1 tY130.2.1 tM130.2.1 tY130.2.2) := rfl
theorem tk130 : eMok tCl lw_g tNs tMs tYs tM130 tY130 := kM_ok (q := (tWs[130]?).getD (0, 0, 0, 0)) (show ∀ ch ∈ tC130, _ from kE_ok (Y := tY130) td130 ta130) tw130 tm130
theorem ta131 : tC131.all (fun ch => ch.all (kFn tY131.1)) = true := kGa_ok tg_1 35 rfl
theorem tm131 : kM tM131 tY131 ((tWs[131]?).getD (0, 0, 0, 0)) = true := kGm_ok th_1 35 rfl
set_option maxRecDepth 20000 in
theorem tw131 : kW ((tWs[131]?).getD (0, 0, 0, 0)).1 = some (.code tY131.1 tY131.2.1 tM131.2.1 tY131.2.2) := rfl
theorem tk131 : eMok tCl lw_g tNs tMs tYs tM131 tY131 := kM_ok (q := (tWs[131]?).getD (0, 0, 0, 0)) (show ∀ ch ∈ tC131, _ from kE_ok (Y := tY131) td131 ta131) tw131 tm131
theorem ta132 : tC132.all (fun ch => ch.all (kFn tY132.1)) = true := kGa_ok tg_1 36 rfl
theorem tm132 : kM tM132 tY132 ((tWs[132]?).getD (0, 0, 0, 0)) = true := kGm_ok th_1 36 rfl
set_option maxRecDepth 20000 in
theorem tw132 : kW ((tWs[132]?).getD (0, 0, 0, 0)).1 = some (.code tY132.1 tY132.2.1 tM132.2.1 tY132.2.2) := rfl
theorem tk132 : eMok tCl lw_g tNs tMs tYs tM132 tY132 := kM_ok (q := (tWs[132]?).getD (0, 0, 0, 0)) (show ∀ ch ∈ tC132, _ from kE_ok (Y := tY132) td132 ta132) tw132 tm132
theorem ta133 : tC133.all (fun ch => ch.all (kFn tY133.1)) = true := kGa_ok tg_1 37 rfl
theorem tm133 : kM tM133 tY133 ((tWs[133]?).getD (0, 0, 0, 0)) = true := kGm_ok th_1 37 rfl
set_option maxRecDepth 20000 in
theorem tw133 : kW ((tWs[133]?).getD (0, 0, 0, 0)).1 = some (.code tY133.1 tY133.2.1 tM133.2.1 tY133.2.2) := rfl
theorem tk133 : eMok tCl lw_g tNs tMs tYs tM133 tY133 := kM_ok (q := (tWs[133]?).getD (0, 0, 0, 0)) (show ∀ ch ∈ tC133, _ from kE_ok (Y := tY133) td133 ta133) tw133 tm133
theorem ta134 : tC134.all (fun ch => ch.all (kFn tY134.1)) = true := kGa_ok tg_1 38 rfl
theorem tm134 : kM tM134 tY134 ((tWs[134]?).getD (0, 0, 0, 0)) = true := kGm_ok th_1 38 rfl
set_option maxRecDepth 20000 in
theorem tw134 : kW ((tWs[134]?).getD (0, 0, 0, 0)).1 = some (.code tY134.1 tY134.2.1 tM134.2.1 tY134.2.2) := rfl
theorem tk134 : eMok tCl lw_g tNs tMs tYs tM134 tY134 := kM_ok (q := (tWs[134]?).getD (0, 0, 0, 0)) (show ∀ ch ∈ tC134, _ from kE_ok (Y := tY134) td134 ta134) tw134 tm134
theorem ta135 : tC135.all (fun ch => ch.all (kFn tY135.1)) = true := kGa_ok tg_1 39 rfl
theorem tm135 : kM tM135 tY135 ((tWs[135]?).getD (0, 0, 0, 0)) = true := kGm_ok th_1 39 rfl
set_option maxRecDepth 20000 in
theorem tw135 : kW ((tWs[135]?).getD (0, 0, 0, 0)).1 = some (.code tY135.1 tY135.2.1 tM135.2.1 tY135.2.2) := rfl
theorem tk135 : eMok tCl lw_g tNs tMs tYs tM135 tY135 := kM_ok (q := (tWs[135]?).getD (0, 0, 0, 0)) (show ∀ ch ∈ tC135, _ from kE_ok (Y := tY135) td135 ta135) tw135 tm135
theorem ta136 : tC136.all (fun ch => ch.all (kFn tY136.1)) = true := kGa_ok tg_1 40 rfl
theorem tm136 : kM tM136 tY136 ((tWs[136]?).getD (0, 0, 0, 0)) = true := kGm_ok th_1 40 rfl
set_option maxRecDepth 20000 in
theorem tw136 : kW ((tWs[136]?).getD (0, 0, 0, 0)).1 = some (.code tY136.1 tY136.2.1 tM136.2.1 tY136.2.2) := rfl
theorem tk136 : eMok tCl lw_g tNs tMs tYs tM136 tY136 := kM_ok (q := (tWs[136]?).getD (0, 0, 0, 0)) (show ∀ ch ∈ tC136, _ from kE_ok (Y := tY136) td136 ta136) tw136 tm136
theorem ta137 : tC137.all (fun ch => ch.all (kFn tY137.1)) = true := kGa_ok tg_1 41 rfl
theorem tm137 : kM tM137 tY137 ((tWs[137]?).getD (0, 0, 0, 0)) = true := kGm_ok th_1 41 rfl
set_option maxRecDepth 20000 in
theorem tw137 : kW ((tWs[137]?).getD (0, 0, 0, 0)).1 = some (.code tY137.1 tY137.2.1 tM137.2.1 tY137.2.2) := rfl
theorem tk137 : eMok tCl lw_g tNs tMs tYs tM137 tY137 := kM_ok (q := (tWs[137]?).getD (0, 0, 0, 0)) (show ∀ ch ∈ tC137, _ from kE_ok (Y := tY137) td137 ta137) tw137 tm137
theorem ta138 : tC138.all (fun ch => ch.all (kFn tY138.1)) = true := kGa_ok tg_1 42 rfl
theorem tm138 : kM tM138 tY138 ((tWs[138]?).getD (0, 0, 0, 0)) = true := kGm_ok th_1 42 rfl
set_option maxRecDepth 20000 in
theorem tw138 : kW ((tWs[138]?).getD (0, 0, 0, 0)).1 = some (.code tY138.1 tY138.2.1 tM138.2.1 tY138.2.2) := rfl
theorem tk138 : eMok tCl lw_g tNs tMs tYs tM138 tY138 := kM_ok (q := (tWs[138]?).getD (0, 0, 0, 0)) (show ∀ ch ∈ tC138, _ from kE_ok (Y := tY138) td138 ta138) tw138 tm138
theorem ta139 : tC139.all (fun ch => ch.all (kFn tY139.1)) = true := kGa_ok tg_1 43 rfl
theorem tm139 : kM tM139 tY139 ((tWs[139]?).getD (0, 0, 0, 0)) = true := kGm_ok th_1 43 rfl
set_option maxRecDepth 20000 in
theorem tw139 : kW ((tWs[139]?).getD (0, 0, 0, 0)).1 = some (.code tY139.1 tY139.2.1 tM139.2.1 tY139.2.2) := rfl
theorem tk139 : eMok tCl lw_g tNs tMs tYs tM139 tY139 := kM_ok (q := (tWs[139]?).getD (0, 0, 0, 0)) (show ∀ ch ∈ tC139, _ from kE_ok (Y := tY139) td139 ta139) tw139 tm139
theorem ta140 : tC140.all (fun ch => ch.all (kFn tY140.1)) = true := kGa_ok tg_1 44 rfl
theorem tm140 : kM tM140 tY140 ((tWs[140]?).getD (0, 0, 0, 0)) = true := kGm_ok th_1 44 rfl
set_option maxRecDepth 20000 in
theorem tw140 : kW ((tWs[140]?).getD (0, 0, 0, 0)).1 = some (.code tY140.1 tY140.2.1 tM140.2.1 tY140.2.2) := rfl
theorem tk140 : eMok tCl lw_g tNs tMs tYs tM140 tY140 := kM_ok (q := (tWs[140]?).getD (0, 0, 0, 0)) (show ∀ ch ∈ tC140, _ from kE_ok (Y := tY140) td140 ta140) tw140 tm140
theorem ta141 : tC141.all (fun ch => ch.all (kFn tY141.1)) = true := kGa_ok tg_1 45 rfl
theorem tm141 : kM tM141 tY141 ((tWs[141]?).getD (0, 0, 0, 0)) = true := kGm_ok th_1 45 rfl
set_option maxRecDepth 20000 in
theorem tw141 : kW ((tWs[141]?).getD (0, 0, 0, 0)).1 = some (.code tY141.1 tY141.2.1 tM141.2.1 tY141.2.2) := rfl
theorem tk141 : eMok tCl lw_g tNs tMs tYs tM141 tY141 := kM_ok (q := (tWs[141]?).getD (0, 0, 0, 0)) (show ∀ ch ∈ tC141, _ from kE_ok (Y := tY141) td141 ta141) tw141 tm141
theorem ta142 : tC142.all (fun ch => ch.all (kFn tY142.1)) = true := kGa_ok tg_1 46 rfl
theorem tm142 : kM tM142 tY142 ((tWs[142]?).getD (0, 0, 0, 0)) = true := kGm_ok th_1 46 rfl
set_option maxRecDepth 20000 in
theorem tw142 : kW ((tWs[142]?).getD (0, 0, 0, 0)).1 = some (.code tY142.1 tY142.2.1 tM142.2.1 tY142.2.2) := rfl
theorem tk142 : eMok tCl lw_g tNs tMs tYs tM142 tY142 := kM_ok (q := (tWs[142]?).getD (0, 0, 0, 0)) (show ∀ ch ∈ tC142, _ from kE_ok (Y := tY142) td142 ta142) tw142 tm142
theorem ta143 : tC143.all (fun ch => ch.all (kFn tY143.1)) = true := kGa_ok tg_1 47 rfl
theorem tm143 : kM tM143 tY143 ((tWs[143]?).getD (0, 0, 0, 0)) = true := kGm_ok th_1 47 rfl
set_option maxRecDepth 20000 in
theorem tw143 : kW ((tWs[143]?).getD (0, 0, 0, 0)).1 = some (.code tY143.1 tY143.2.1 tM143.2.1 tY143.2.2) := rfl
theorem tk143 : eMok tCl lw_g tNs tMs tYs tM143 tY143 := kM_ok (q := (tWs[143]?).getD (0, 0, 0, 0)) (show ∀ ch ∈ tC143, _ from kE_ok (Y := tY143) td143 ta143) tw143 tm143
theorem ta144 : tC144.all (fun ch => ch.all (kFn tY144.1)) = true := kGa_ok tg_1 48 rfl
theorem tm144 : kM tM144 tY144 ((tWs[144]?).getD (0, 0, 0, 0)) = true := kGm_ok th_1 48 rfl
set_option maxRecDepth 20000 in
theorem tw144 : kW ((tWs[144]?).getD (0, 0, 0, 0)).1 = some (.code tY144.1 tY144.2.1 tM144.2.1 tY144.2.2) := rfl
theorem tk144 : eMok tCl lw_g tNs tMs tYs tM144 tY144 := kM_ok (q := (tWs[144]?).getD (0, 0, 0, 0)) (show ∀ ch ∈ tC144, _ from kE_ok (Y := tY144) td144 ta144) tw144 tm144
theorem ta145 : tC145.all (fun ch => ch.all (kFn tY145.1)) = true := kGa_ok tg_1 49 rfl
theorem tm145 : kM tM145 tY145 ((tWs[145]?).getD (0, 0, 0, 0)) = true := kGm_ok th_1 49 rfl
set_option maxRecDepth 20000 in
theorem tw145 : kW ((tWs[145]?).getD (0, 0, 0, 0)).1 = some (.code tY145.1 tY145.2.1 tM145.2.1 tY145.2.2) := rfl
theorem tk145 : eMok tCl lw_g tNs tMs tYs tM145 tY145 := kM_ok (q := (tWs[145]?).getD (0, 0, 0, 0)) (show ∀ ch ∈ tC145, _ from kE_ok (Y := tY145) td145 ta145) tw145 tm145
theorem ta146 : tC146.all (fun ch => ch.all (kFn tY146.1)) = true := kGa_ok tg_1 50 rfl
theorem tm146 : kM tM146 tY146 ((tWs[146]?).getD (0, 0, 0, 0)) = true := kGm_ok th_1 50 rfl
set_option maxRecDepth 20000 in
theorem tw146 : kW ((tWs[146]?).getD (0, 0, 0, 0)).1 = some (.code tY146.1 tY146.2.1 tM146.2.1 tY146.2.2) := rfl
theorem tk146 : eMok tCl lw_g tNs tMs tYs tM146 tY146 := kM_ok (q := (tWs[146]?).getD (0, 0, 0, 0)) (show ∀ ch ∈ tC146, _ from kE_ok (Y := tY146) td146 ta146) tw146 tm146
theorem ta147 : tC147.all (fun ch => ch.all (kFn tY147.1)) = true := kGa_ok tg_1 51 rfl
theorem tm147 : kM tM147 tY147 ((tWs[147]?).getD (0, 0, 0, 0)) = true := kGm_ok th_1 51 rfl
set_option maxRecDepth 20000 in
theorem tw147 : kW ((tWs[147]?).getD (0, 0, 0, 0)).1 = some (.code tY147.1 tY147.2.1 tM147.2.1 tY147.2.2) := rfl
theorem tk147 : eMok tCl lw_g tNs tMs tYs tM147 tY147 := kM_ok (q := (tWs[147]?).getD (0, 0, 0, 0)) (show ∀ ch ∈ tC147, _ from kE_ok (Y := tY147) td147 ta147) tw147 tm147
theorem ta148 : tC148.all (fun ch => ch.all (kFn tY148.1)) = true := kGa_ok tg_1 52 rfl
theorem tm148 : kM tM148 tY148 ((tWs[148]?).getD (0, 0, 0, 0)) = true := kGm_ok th_1 52 rfl
set_option maxRecDepth 20000 in
theorem tw148 : kW ((tWs[148]?).getD (0, 0, 0, 0)).1 = some (.code tY148.1 tY148.2.1 tM148.2.1 tY148.2.2) := rfl
theorem tk148 : eMok tCl lw_g tNs tMs tYs tM148 tY148 := kM_ok (q := (tWs[148]?).getD (0, 0, 0, 0)) (show ∀ ch ∈ tC148, _ from kE_ok (Y := tY148) td148 ta148) tw148 tm148
theorem ta149 : tC149.all (fun ch => ch.all (kFn tY149.1)) = true := kGa_ok tg_1 53 rfl
theorem tm149 : kM tM149 tY149 ((tWs[149]?).getD (0, 0, 0, 0)) = true := kGm_ok th_1 53 rfl
set_option maxRecDepth 20000 in
theorem tw149 : kW ((tWs[149]?).getD (0, 0, 0, 0)).1 = some (.code tY149.1 tY149.2.1 tM149.2.1 tY149.2.2) := rfl
theorem tk149 : eMok tCl lw_g tNs tMs tYs tM149 tY149 := kM_ok (q := (tWs[149]?).getD (0, 0, 0, 0)) (show ∀ ch ∈ tC149, _ from kE_ok (Y := tY149) td149 ta149) tw149 tm149
theorem ta150 : tC150.all (fun ch => ch.all (kFn tY150.1)) = true := kGa_ok tg_1 54 rfl
theorem tm150 : kM tM150 tY150 ((tWs[150]?).getD (0, 0, 0, 0)) = true := kGm_ok th_1 54 rfl
set_option maxRecDepth 20000 in
theorem tw150 : kW ((tWs[150]?).getD (0, 0, 0, 0)).1 = some (.code tY150.1 tY150.2.1 tM150.2.1 tY150.2.2) := rfl
theorem tk150 : eMok tCl lw_g tNs tMs tYs tM150 tY150 := kM_ok (q := (tWs[150]?).getD (0, 0, 0, 0)) (show ∀ ch ∈ tC150, _ from kE_ok (Y := tY150) td150 ta150) tw150 tm150
theorem ta151 : tC151.all (fun ch => ch.all (kFn tY151.1)) = true := kGa_ok tg_1 55 rfl
theorem tm151 : kM tM151 tY151 ((tWs[151]?).getD (0, 0, 0, 0)) = true := kGm_ok th_1 55 rfl
set_option maxRecDepth 20000 in
theorem tw151 : kW ((tWs[151]?).getD (0, 0, 0, 0)).1 = some (.code tY151.1 tY151.2.1 tM151.2.1 tY151.2.2) := rfl
theorem tk151 : eMok tCl lw_g tNs tMs tYs tM151 tY151 := kM_ok (q := (tWs[151]?).getD (0, 0, 0, 0)) (show ∀ ch ∈ tC151, _ from kE_ok (Y := tY151) td151 ta151) tw151 tm151
theorem ta152 : tC152.all (fun ch => ch.all (kFn tY152.1)) = true := kGa_ok tg_1 56 rfl
theorem tm152 : kM tM152 tY152 ((tWs[152]?).getD (0, 0, 0, 0)) = true := kGm_ok th_1 56 rfl
set_option maxRecDepth 20000 in
theorem tw152 : kW ((tWs[152]?).getD (0, 0, 0, 0)).1 = some (.code tY152.1 tY152.2.1 tM152.2.1 tY152.2.2) := rfl
theorem tk152 : eMok tCl lw_g tNs tMs tYs tM152 tY152 := kM_ok (q := (tWs[152]?).getD (0, 0, 0, 0)) (show ∀ ch ∈ tC152, _ from kE_ok (Y := tY152) td152 ta152) tw152 tm152
theorem ta153 : tC153.all (fun ch => ch.all (kFn tY153.1)) = true := kGa_ok tg_1 57 rfl
theorem tm153 : kM tM153 tY153 ((tWs[153]?).getD (0, 0, 0, 0)) = true := kGm_ok th_1 57 rfl
set_option maxRecDepth 20000 in
theorem tw153 : kW ((tWs[153]?).getD (0, 0, 0, 0)).1 = some (.code tY153.1 tY153.2.1 tM153.2.1 tY153.2.2) := rfl
theorem tk153 : eMok tCl lw_g tNs tMs tYs tM153 tY153 := kM_ok (q := (tWs[153]?).getD (0, 0, 0, 0)) (show ∀ ch ∈ tC153, _ from kE_ok (Y := tY153) td153 ta153) tw153 tm153
theorem ta154 : tC154.all (fun ch => ch.all (kFn tY154.1)) = true := kGa_ok tg_1 58 rfl
theorem tm154 : kM tM154 tY154 ((tWs[154]?).getD (0, 0, 0, 0)) = true := kGm_ok th_1 58 rfl
set_option maxRecDepth 20000 in
theorem tw154 : kW ((tWs[154]?).getD (0, 0, 0, 0)).1 = some (.code tY154.1 tY154.2.1 tM154.2.1 tY154.2.2) := rfl
theorem tk154 : eMok tCl lw_g tNs tMs tYs tM154 tY154 := kM_ok (q := (tWs[154]?).getD (0, 0, 0, 0)) (show ∀ ch ∈ tC154, _ from kE_ok (Y := tY154) td154 ta154) tw154 tm154
theorem ta155 : tC155.all (fun ch => ch.all (kFn tY155.1)) = true := kGa_ok tg_1 59 rfl
theorem tm155 : kM tM155 tY155 ((tWs[155]?).getD (0, 0, 0, 0)) = true := kGm_ok th_1 59 rfl
set_option maxRecDepth 20000 in
theorem tw155 : kW ((tWs[155]?).getD (0, 0, 0, 0)).1 = some (.code tY155.1 tY155.2.1 tM155.2.1 tY155.2.2) := rfl
theorem tk155 : eMok tCl lw_g tNs tMs tYs tM155 tY155 := kM_ok (q := (tWs[155]?).getD (0, 0, 0, 0)) (show ∀ ch ∈ tC155, _ from kE_ok (Y := tY155) td155 ta155) tw155 tm155
theorem ta156 : tC156.all (fun ch => ch.all (kFn tY156.1)) = true := kGa_ok tg_1 60 rfl
theorem tm156 : kM tM156 tY156 ((tWs[156]?).getD (0, 0, 0, 0)) = true := kGm_ok th_1 60 rfl
set_option maxRecDepth 20000 in
theorem tw156 : kW ((tWs[156]?).getD (0, 0, 0, 0)).1 = some (.code tY156.1 tY156.2.1 tM156.2.1 tY156.2.2) := rfl
theorem tk156 : eMok tCl lw_g tNs tMs tYs tM156 tY156 := kM_ok (q := (tWs[156]?).getD (0, 0, 0, 0)) (show ∀ ch ∈ tC156, _ from kE_ok (Y := tY156) td156 ta156) tw156 tm156
theorem ta157 : tC157.all (fun ch => ch.all (kFn tY157.1)) = true := kGa_ok tg_1 61 rfl
theorem tm157 : kM tM157 tY157 ((tWs[157]?).getD (0, 0, 0, 0)) = true := kGm_ok th_1 61 rfl
set_option maxRecDepth 20000 in
theorem tw157 : kW ((tWs[157]?).getD (0, 0, 0, 0)).1 = some (.code tY157.1 tY157.2.1 tM157.2.1 tY157.2.2) := rfl
theorem tk157 : eMok tCl lw_g tNs tMs tYs tM157 tY157 := kM_ok (q := (tWs[157]?).getD (0, 0, 0, 0)) (show ∀ ch ∈ tC157, _ from kE_ok (Y := tY157) td157 ta157) tw157 tm157
end
section
theorem td158 : tC158.all (fun ch => dCh tY158.2.1 (ch.map dTr)) = true := by decide +kernel
theorem td159 : tC159.all (fun ch => dCh tY159.2.1 (ch.map dTr)) = true := by decide +kernel
theorem td160 : tC160.all (fun ch => dCh tY160.2.1 (ch.map dTr)) = true := by decide +kernel
theorem td161 : tC161.all (fun ch => dCh tY161.2.1 (ch.map dTr)) = true := by decide +kernel
theorem td162 : tC162.all (fun ch => dCh tY162.2.1 (ch.map dTr)) = true := by decide +kernel
theorem td163 : tC163.all (fun ch => dCh tY163.2.1 (ch.map dTr)) = true := by decide +kernel
theorem td164 : tC164.all (fun ch => dCh tY164.2.1 (ch.map dTr)) = true := by decide +kernel
theorem td165 : tC165.all (fun ch => dCh tY165.2.1 (ch.map dTr)) = true := by decide +kernel
theorem td166 : tC166.all (fun ch => dCh tY166.2.1 (ch.map dTr)) = true := by decide +kernel
theorem td167 : tC167.all (fun ch => dCh tY167.2.1 (ch.map dTr)) = true := by decide +kernel
theorem td168 : tC168.all (fun ch => dCh tY168.2.1 (ch.map dTr)) = true := by decide +kernel
theorem td169 : tC169.all (fun ch => dCh tY169.2.1 (ch.map dTr)) = true := by decide +kernel
theorem td170 : tC170.all (fun ch => dCh tY170.2.1 (ch.map dTr)) = true := by decide +kernel
theorem td171 : tC171.all (fun ch => dCh tY171.2.1 (ch.map dTr)) = true := by decide +kernel
theorem td172 : tC172.all (fun ch => dCh tY172.2.1 (ch.map dTr)) = true := by decide +kernel
theorem td173 : tC173.all (fun ch => dCh tY173.2.1 (ch.map dTr)) = true := by decide +kernel
theorem td174 : tC174.all (fun ch => dCh tY174.2.1 (ch.map dTr)) = true := by decide +kernel
theorem td175 : tC175.all (fun ch => dCh tY175.2.1 (ch.map dTr)) = true := by decide +kernel
theorem td176 : tC176.all (fun ch => dCh tY176.2.1 (ch.map dTr)) = true := by decide +kernel
theorem td177 : tC177.all (fun ch => dCh tY177.2.1 (ch.map dTr)) = true := by decide +kernel
theorem td178 : tC178.all (fun ch => dCh tY178.2.1 (ch.map dTr)) = true := by decide +kernel
theorem td179 : tC179.all (fun ch => dCh tY179.2.1 (ch.map dTr)) = true := by decide +kernel
theorem td180 : tC180.all (fun ch => dCh tY180.2.1 (ch.map dTr)) = true := by decide +kernel
theorem td181 : tC181.all (fun ch => dCh tY181.2.1 (ch.map dTr)) = true := by decide +kernel
theorem td182 : tC182.all (fun ch => dCh tY182.2.1 (ch.map dTr)) = true := by decide +kernel
theorem td183 : tC183.all (fun ch => dCh tY183.2.1 (ch.map dTr)) = true := by decide +kernel
theorem td184 : tC184.all (fun ch => dCh tY184.2.1 (ch.map dTr)) = true := by decide +kernel
theorem td185 : tC185.all (fun ch => dCh tY185.2.1 (ch.map dTr)) = true := by decide +kernel
theorem td186 : tC186.all (fun ch => dCh tY186.2.1 (ch.map dTr)) = true := by decide +kernel
theorem td187 : tC187.all (fun ch => dCh tY187.2.1 (ch.map dTr)) = true := by decide +kernel
theorem td188 : tC188.all (fun ch => dCh tY188.2.1 (ch.map dTr)) = true := by decide +kernel
theorem td189 : tC189.all (fun ch => dCh tY189.2.1 (ch.map dTr)) = true := by decide +kernel
theorem td190 : tC190.all (fun ch => dCh tY190.2.1 (ch.map dTr)) = true := by decide +kernel
theorem td191 : tC191.all (fun ch => dCh tY191.2.1 (ch.map dTr)) = true := by decide +kernel
theorem td192 : tC192.all (fun ch => dCh tY192.2.1 (ch.map dTr)) = true := by decide +kernel
theorem ta158 : tC158.all (fun ch => ch.all (kFn tY158.1)) = true := kGa_ok tg_1 62 rfl
theorem tm158 : kM tM158 tY158 ((tWs[158]?).getD (0, 0, 0, 0)) = true := kGm_ok th_1 62 rfl
set_option maxRecDepth 20000 in
theorem tw158 : kW ((tWs[158]?).getD (0, 0, 0, 0)).1 = some (.code tY158.1 tY158.2.1 tM158.2.1 tY158.2.2) := rfl
theorem tk158 : eMok tCl lw_g tNs tMs tYs tM158 tY158 := kM_ok (q := (tWs[158]?).getD (0, 0, 0, 0)) (show ∀ ch ∈ tC158, _ from kE_ok (Y := tY158) td158 ta158) tw158 tm158
theorem ta159 : tC159.all (fun ch => ch.all (kFn tY159.1)) = true := kGa_ok tg_1 63 rfl
theorem tm159 : kM tM159 tY159 ((tWs[159]?).getD (0, 0, 0, 0)) = true := kGm_ok th_1 63 rfl
set_option maxRecDepth 20000 in
theorem tw159 : kW ((tWs[159]?).getD (0, 0, 0, 0)).1 = some (.code tY159.1 tY159.2.1 tM159.2.1 tY159.2.2) := rfl
theorem tk159 : eMok tCl lw_g tNs tMs tYs tM159 tY159 := kM_ok (q := (tWs[159]?).getD (0, 0, 0, 0)) (show ∀ ch ∈ tC159, _ from kE_ok (Y := tY159) td159 ta159) tw159 tm159
theorem ta160 : tC160.all (fun ch => ch.all (kFn tY160.1)) = true := kGa_ok tg_1 64 rfl
theorem tm160 : kM tM160 tY160 ((tWs[160]?).getD (0, 0, 0, 0)) = true := kGm_ok th_1 64 rfl
set_option maxRecDepth 20000 in
theorem tw160 : kW ((tWs[160]?).getD (0, 0, 0, 0)).1 = some (.code tY160.1 tY160.2.1 tM160.2.1 tY160.2.2) := rfl
theorem tk160 : eMok tCl lw_g tNs tMs tYs tM160 tY160 := kM_ok (q := (tWs[160]?).getD (0, 0, 0, 0)) (show ∀ ch ∈ tC160, _ from kE_ok (Y := tY160) td160 ta160) tw160 tm160
theorem ta161 : tC161.all (fun ch => ch.all (kFn tY161.1)) = true := kGa_ok tg_1 65 rfl
theorem tm161 : kM tM161 tY161 ((tWs[161]?).getD (0, 0, 0, 0)) = true := kGm_ok th_1 65 rfl
set_option maxRecDepth 20000 in
theorem tw161 : kW ((tWs[161]?).getD (0, 0, 0, 0)).1 = some (.code tY161.1 tY161.2.1 tM161.2.1 tY161.2.2) := rfl
theorem tk161 : eMok tCl lw_g tNs tMs tYs tM161 tY161 := kM_ok (q := (tWs[161]?).getD (0, 0, 0, 0)) (show ∀ ch ∈ tC161, _ from kE_ok (Y := tY161) td161 ta161) tw161 tm161
theorem ta162 : tC162.all (fun ch => ch.all (kFn tY162.1)) = true := kGa_ok tg_1 66 rfl
theorem tm162 : kM tM162 tY162 ((tWs[162]?).getD (0, 0, 0, 0)) = true := kGm_ok th_1 66 rfl
set_option maxRecDepth 20000 in
theorem tw162 : kW ((tWs[162]?).getD (0, 0, 0, 0)).1 = some (.code tY162.1 tY162.2.1 tM162.2.1 tY162.2.2) := rfl
theorem tk162 : eMok tCl lw_g tNs tMs tYs tM162 tY162 := kM_ok (q := (tWs[162]?).getD (0, 0, 0, 0)) (show ∀ ch ∈ tC162, _ from kE_ok (Y := tY162) td162 ta162) tw162 tm162
theorem ta163 : tC163.all (fun ch => ch.all (kFn tY163.1)) = true := kGa_ok tg_1 67 rfl
theorem tm163 : kM tM163 tY163 ((tWs[163]?).getD (0, 0, 0, 0)) = true := kGm_ok th_1 67 rfl
set_option maxRecDepth 20000 in
theorem tw163 : kW ((tWs[163]?).getD (0, 0, 0, 0)).1 = some (.code tY163.1 tY163.2.1 tM163.2.1 tY163.2.2) := rfl
theorem tk163 : eMok tCl lw_g tNs tMs tYs tM163 tY163 := kM_ok (q := (tWs[163]?).getD (0, 0, 0, 0)) (show ∀ ch ∈ tC163, _ from kE_ok (Y := tY163) td163 ta163) tw163 tm163
theorem ta164 : tC164.all (fun ch => ch.all (kFn tY164.1)) = true := kGa_ok tg_1 68 rfl
theorem tm164 : kM tM164 tY164 ((tWs[164]?).getD (0, 0, 0, 0)) = true := kGm_ok th_1 68 rfl
set_option maxRecDepth 20000 in
theorem tw164 : kW ((tWs[164]?).getD (0, 0, 0, 0)).1 = some (.code tY164.1 tY164.2.1 tM164.2.1 tY164.2.2) := rfl
theorem tk164 : eMok tCl lw_g tNs tMs tYs tM164 tY164 := kM_ok (q := (tWs[164]?).getD (0, 0, 0, 0)) (show ∀ ch ∈ tC164, _ from kE_ok (Y := tY164) td164 ta164) tw164 tm164
theorem ta165 : tC165.all (fun ch => ch.all (kFn tY165.1)) = true := kGa_ok tg_1 69 rfl
theorem tm165 : kM tM165 tY165 ((tWs[165]?).getD (0, 0, 0, 0)) = true := kGm_ok th_1 69 rfl
set_option maxRecDepth 20000 in
theorem tw165 : kW ((tWs[165]?).getD (0, 0, 0, 0)).1 = some (.code tY165.1 tY165.2.1 tM165.2.1 tY165.2.2) := rfl
theorem tk165 : eMok tCl lw_g tNs tMs tYs tM165 tY165 := kM_ok (q := (tWs[165]?).getD (0, 0, 0, 0)) (show ∀ ch ∈ tC165, _ from kE_ok (Y := tY165) td165 ta165) tw165 tm165
theorem ta166 : tC166.all (fun ch => ch.all (kFn tY166.1)) = true := kGa_ok tg_1 70 rfl
theorem tm166 : kM tM166 tY166 ((tWs[166]?).getD (0, 0, 0, 0)) = true := kGm_ok th_1 70 rfl
set_option maxRecDepth 20000 in
theorem tw166 : kW ((tWs[166]?).getD (0, 0, 0, 0)).1 = some (.code tY166.1 tY166.2.1 tM166.2.1 tY166.2.2) := rfl
theorem tk166 : eMok tCl lw_g tNs tMs tYs tM166 tY166 := kM_ok (q := (tWs[166]?).getD (0, 0, 0, 0)) (show ∀ ch ∈ tC166, _ from kE_ok (Y := tY166) td166 ta166) tw166 tm166
theorem ta167 : tC167.all (fun ch => ch.all (kFn tY167.1)) = true := kGa_ok tg_1 71 rfl
theorem tm167 : kM tM167 tY167 ((tWs[167]?).getD (0, 0, 0, 0)) = true := kGm_ok th_1 71 rfl
set_option maxRecDepth 20000 in
theorem tw167 : kW ((tWs[167]?).getD (0, 0, 0, 0)).1 = some (.code tY167.1 tY167.2.1 tM167.2.1 tY167.2.2) := rfl
theorem tk167 : eMok tCl lw_g tNs tMs tYs tM167 tY167 := kM_ok (q := (tWs[167]?).getD (0, 0, 0, 0)) (show ∀ ch ∈ tC167, _ from kE_ok (Y := tY167) td167 ta167) tw167 tm167
theorem ta168 : tC168.all (fun ch => ch.all (kFn tY168.1)) = true := kGa_ok tg_1 72 rfl
theorem tm168 : kM tM168 tY168 ((tWs[168]?).getD (0, 0, 0, 0)) = true := kGm_ok th_1 72 rfl
set_option maxRecDepth 20000 in
theorem tw168 : kW ((tWs[168]?).getD (0, 0, 0, 0)).1 = some (.code tY168.1 tY168.2.1 tM168.2.1 tY168.2.2) := rfl
theorem tk168 : eMok tCl lw_g tNs tMs tYs tM168 tY168 := kM_ok (q := (tWs[168]?).getD (0, 0, 0, 0)) (show ∀ ch ∈ tC168, _ from kE_ok (Y := tY168) td168 ta168) tw168 tm168
theorem ta169 : tC169.all (fun ch => ch.all (kFn tY169.1)) = true := kGa_ok tg_1 73 rfl
theorem tm169 : kM tM169 tY169 ((tWs[169]?).getD (0, 0, 0, 0)) = true := kGm_ok th_1 73 rfl
set_option maxRecDepth 20000 in
theorem tw169 : kW ((tWs[169]?).getD (0, 0, 0, 0)).1 = some (.code tY169.1 tY169.2.1 tM169.2.1 tY169.2.2) := rfl
theorem tk169 : eMok tCl lw_g tNs tMs tYs tM169 tY169 := kM_ok (q := (tWs[169]?).getD (0, 0, 0, 0)) (show ∀ ch ∈ tC169, _ from kE_ok (Y := tY169) td169 ta169) tw169 tm169
theorem ta170 : tC170.all (fun ch => ch.all (kFn tY170.1)) = true := kGa_ok tg_1 74 rfl
theorem tm170 : kM tM170 tY170 ((tWs[170]?).getD (0, 0, 0, 0)) = true := kGm_ok th_1 74 rfl
set_option maxRecDepth 20000 in
theorem tw170 : kW ((tWs[170]?).getD (0, 0, 0, 0)).1 = some (.code tY170.1 tY170.2.1 tM170.2.1 tY170.2.2) := rfl
theorem tk170 : eMok tCl lw_g tNs tMs tYs tM170 tY170 := kM_ok (q := (tWs[170]?).getD (0, 0, 0, 0)) (show ∀ ch ∈ tC170, _ from kE_ok (Y := tY170) td170 ta170) tw170 tm170
theorem ta171 : tC171.all (fun ch => ch.all (kFn tY171.1)) = true := kGa_ok tg_1 75 rfl
theorem tm171 : kM tM171 tY171 ((tWs[171]?).getD (0, 0, 0, 0)) = true := kGm_ok th_1 75 rfl
set_option maxRecDepth 20000 in
theorem tw171 : kW ((tWs[171]?).getD (0, 0, 0, 0)).1 = some (.code tY171.1 tY171.2.1 tM171.2.1 tY171.2.2) := rfl
theorem tk171 : eMok tCl lw_g tNs tMs tYs tM171 tY171 := kM_ok (q := (tWs[171]?).getD (0, 0, 0, 0)) (show ∀ ch ∈ tC171, _ from kE_ok (Y := tY171) td171 ta171) tw171 tm171
theorem ta172 : tC172.all (fun ch => ch.all (kFn tY172.1)) = true := kGa_ok tg_1 76 rfl
theorem tm172 : kM tM172 tY172 ((tWs[172]?).getD (0, 0, 0, 0)) = true := kGm_ok th_1 76 rfl
set_option maxRecDepth 20000 in
theorem tw172 : kW ((tWs[172]?).getD (0, 0, 0, 0)).1 = some (.code tY172.1 tY172.2.1 tM172.2.1 tY172.2.2) := rfl
theorem tk172 : eMok tCl lw_g tNs tMs tYs tM172 tY172 := kM_ok (q := (tWs[172]?).getD (0, 0, 0, 0)) (show ∀ ch ∈ tC172, _ from kE_ok (Y := tY172) td172 ta172) tw172 tm172
theorem ta173 : tC173.all (fun ch => ch.all (kFn tY173.1)) = true := kGa_ok tg_1 77 rfl
theorem tm173 : kM tM173 tY173 ((tWs[173]?).getD (0, 0, 0, 0)) = true := kGm_ok th_1 77 rfl
set_option maxRecDepth 20000 in
theorem tw173 : kW ((tWs[173]?).getD (0, 0, 0, 0)).1 = some (.code tY173.1 tY173.2.1 tM173.2.1 tY173.2.2) := rfl
theorem tk173 : eMok tCl lw_g tNs tMs tYs tM173 tY173 := kM_ok (q := (tWs[173]?).getD (0, 0, 0, 0)) (show ∀ ch ∈ tC173, _ from kE_ok (Y := tY173) td173 ta173) tw173 tm173
theorem ta174 : tC174.all (fun ch => ch.all (kFn tY174.1)) = true := kGa_ok tg_1 78 rfl
theorem tm174 : kM tM174 tY174 ((tWs[174]?).getD (0, 0, 0, 0)) = true := kGm_ok th_1 78 rfl
set_option maxRecDepth 20000 in
theorem tw174 : kW ((tWs[174]?).getD (0, 0, 0, 0)).1 = some (.code tY174.1 tY174.2.1 tM174.2.1 tY174.2.2) := rfl
theorem tk174 : eMok tCl lw_g tNs tMs tYs tM174 tY174 := kM_ok (q := (tWs[174]?).getD (0, 0, 0, 0)) (show ∀ ch ∈ tC174, _ from kE_ok (Y := tY174) td174 ta174) tw174 tm174
theorem ta175 : tC175.all (fun ch => ch.all (kFn tY175.1)) = true := kGa_ok tg_1 79 rfl
theorem tm175 : kM tM175 tY175 ((tWs[175]?).getD (0, 0, 0, 0)) = true := kGm_ok th_1 79 rfl
set_option maxRecDepth 20000 in
theorem tw175 : kW ((tWs[175]?).getD (0, 0, 0, 0)).1 = some (.code tY175.1 tY175.2.1 tM175.2.1 tY175.2.2) := rfl
theorem tk175 : eMok tCl lw_g tNs tMs tYs tM175 tY175 := kM_ok (q := (tWs[175]?).getD (0, 0, 0, 0)) (show ∀ ch ∈ tC175, _ from kE_ok (Y := tY175) td175 ta175) tw175 tm175
theorem ta176 : tC176.all (fun ch => ch.all (kFn tY176.1)) = true := kGa_ok tg_1 80 rfl
theorem tm176 : kM tM176 tY176 ((tWs[176]?).getD (0, 0, 0, 0)) = true := kGm_ok th_1 80 rfl
set_option maxRecDepth 20000 in
theorem tw176 : kW ((tWs[176]?).getD (0, 0, 0, 0)).1 = some (.code tY176.1 tY176.2.1 tM176.2.1 tY176.2.2) := rfl
theorem tk176 : eMok tCl lw_g tNs tMs tYs tM176 tY176 := kM_ok (q := (tWs[176]?).getD (0, 0, 0, 0)) (show ∀ ch ∈ tC176, _ from kE_ok (Y := tY176) td176 ta176) tw176 tm176
theorem ta177 : tC177.all (fun ch => ch.all (kFn tY177.1)) = true := kGa_ok tg_1 81 rfl
theorem tm177 : kM tM177 tY177 ((tWs[177]?).getD (0, 0, 0, 0)) = true := kGm_ok th_1 81 rfl
set_option maxRecDepth 20000 in
theorem tw177 : kW ((tWs[177]?).getD (0, 0, 0, 0)).1 = some (.code tY177.1 tY177.2.1 tM177.2.1 tY177.2.2) := rfl
theorem tk177 : eMok tCl lw_g tNs tMs tYs tM177 tY177 := kM_ok (q := (tWs[177]?).getD (0, 0, 0, 0)) (show ∀ ch ∈ tC177, _ from kE_ok (Y := tY177) td177 ta177) tw177 tm177
theorem ta178 : tC178.all (fun ch => ch.all (kFn tY178.1)) = true := kGa_ok tg_1 82 rfl
theorem tm178 : kM tM178 tY178 ((tWs[178]?).getD (0, 0, 0, 0)) = true := kGm_ok th_1 82 rfl
set_option maxRecDepth 20000 in
theorem tw178 : kW ((tWs[178]?).getD (0, 0, 0, 0)).1 = some (.code tY178.1 tY178.2.1 tM178.2.1 tY178.2.2) := rfl
theorem tk178 : eMok tCl lw_g tNs tMs tYs tM178 tY178 := kM_ok (q := (tWs[178]?).getD (0, 0, 0, 0)) (show ∀ ch ∈ tC178, _ from kE_ok (Y := tY178) td178 ta178) tw178 tm178
theorem ta179 : tC179.all (fun ch => ch.all (kFn tY179.1)) = true := kGa_ok tg_1 83 rfl
theorem tm179 : kM tM179 tY179 ((tWs[179]?).getD (0, 0, 0, 0)) = true := kGm_ok th_1 83 rfl
set_option maxRecDepth 20000 in
theorem tw179 : kW ((tWs[179]?).getD (0, 0, 0, 0)).1 = some (.code tY179.1 tY179.2.1 tM179.2.1 tY179.2.2) := rfl
theorem tk179 : eMok tCl lw_g tNs tMs tYs tM179 tY179 := kM_ok (q := (tWs[179]?).getD (0, 0, 0, 0)) (show ∀ ch ∈ tC179, _ from kE_ok (Y := tY179) td179 ta179) tw179 tm179
theorem ta180 : tC180.all (fun ch => ch.all (kFn tY180.1)) = true := kGa_ok tg_1 84 rfl
theorem tm180 : kM tM180 tY180 ((tWs[180]?).getD (0, 0, 0, 0)) = true := kGm_ok th_1 84 rfl
set_option maxRecDepth 20000 in
theorem tw180 : kW ((tWs[180]?).getD (0, 0, 0, 0)).1 = some (.code tY180.1 tY180.2.1 tM180.2.1 tY180.2.2) := rfl
theorem tk180 : eMok tCl lw_g tNs tMs tYs tM180 tY180 := kM_ok (q := (tWs[180]?).getD (0, 0, 0, 0)) (show ∀ ch ∈ tC180, _ from kE_ok (Y := tY180) td180 ta180) tw180 tm180
theorem ta181 : tC181.all (fun ch => ch.all (kFn tY181.1)) = true := kGa_ok tg_1 85 rfl
theorem tm181 : kM tM181 tY181 ((tWs[181]?).getD (0, 0, 0, 0)) = true := kGm_ok th_1 85 rfl
set_option maxRecDepth 20000 in
theorem tw181 : kW ((tWs[181]?).getD (0, 0, 0, 0)).1 = some (.code tY181.1 tY181.2.1 tM181.2.1 tY181.2.2) := rfl
theorem tk181 : eMok tCl lw_g tNs tMs tYs tM181 tY181 := kM_ok (q := (tWs[181]?).getD (0, 0, 0, 0)) (show ∀ ch ∈ tC181, _ from kE_ok (Y := tY181) td181 ta181) tw181 tm181
theorem ta182 : tC182.all (fun ch => ch.all (kFn tY182.1)) = true := kGa_ok tg_1 86 rfl
theorem tm182 : kM tM182 tY182 ((tWs[182]?).getD (0, 0, 0, 0)) = true := kGm_ok th_1 86 rfl
set_option maxRecDepth 20000 in
theorem tw182 : kW ((tWs[182]?).getD (0, 0, 0, 0)).1 = some (.code tY182.1 tY182.2.1 tM182.2.1 tY182.2.2) := rfl
theorem tk182 : eMok tCl lw_g tNs tMs tYs tM182 tY182 := kM_ok (q := (tWs[182]?).getD (0, 0, 0, 0)) (show ∀ ch ∈ tC182, _ from kE_ok (Y := tY182) td182 ta182) tw182 tm182
theorem ta183 : tC183.all (fun ch => ch.all (kFn tY183.1)) = true := kGa_ok tg_1 87 rfl
theorem tm183 : kM tM183 tY183 ((tWs[183]?).getD (0, 0, 0, 0)) = true := kGm_ok th_1 87 rfl
set_option maxRecDepth 20000 in
theorem tw183 : kW ((tWs[183]?).getD (0, 0, 0, 0)).1 = some (.code tY183.1 tY183.2.1 tM183.2.1 tY183.2.2) := rfl
theorem tk183 : eMok tCl lw_g tNs tMs tYs tM183 tY183 := kM_ok (q := (tWs[183]?).getD (0, 0, 0, 0)) (show ∀ ch ∈ tC183, _ from kE_ok (Y := tY183) td183 ta183) tw183 tm183
theorem ta184 : tC184.all (fun ch => ch.all (kFn tY184.1)) = true := kGa_ok tg_1 88 rfl
theorem tm184 : kM tM184 tY184 ((tWs[184]?).getD (0, 0, 0, 0)) = true := kGm_ok th_1 88 rfl
set_option maxRecDepth 20000 in
theorem tw184 : kW ((tWs[184]?).getD (0, 0, 0, 0)).1 = some (.code tY184.1 tY184.2.1 tM184.2.1 tY184.2.2) := rfl
theorem tk184 : eMok tCl lw_g tNs tMs tYs tM184 tY184 := kM_ok (q := (tWs[184]?).getD (0, 0, 0, 0)) (show ∀ ch ∈ tC184, _ from kE_ok (Y := tY184) td184 ta184) tw184 tm184
theorem ta185 : tC185.all (fun ch => ch.all (kFn tY185.1)) = true := kGa_ok tg_1 89 rfl
theorem tm185 : kM tM185 tY185 ((tWs[185]?).getD (0, 0, 0, 0)) = true := kGm_ok th_1 89 rfl
set_option maxRecDepth 20000 in
theorem tw185 : kW ((tWs[185]?).getD (0, 0, 0, 0)).1 = some (.code tY185.1 tY185.2.1 tM185.2.1 tY185.2.2) := rfl
theorem tk185 : eMok tCl lw_g tNs tMs tYs tM185 tY185 := kM_ok (q := (tWs[185]?).getD (0, 0, 0, 0)) (show ∀ ch ∈ tC185, _ from kE_ok (Y := tY185) td185 ta185) tw185 tm185
theorem ta186 : tC186.all (fun ch => ch.all (kFn tY186.1)) = true := kGa_ok tg_1 90 rfl
theorem tm186 : kM tM186 tY186 ((tWs[186]?).getD (0, 0, 0, 0)) = true := kGm_ok th_1 90 rfl
set_option maxRecDepth 20000 in
theorem tw186 : kW ((tWs[186]?).getD (0, 0, 0, 0)).1 = some (.code tY186.1 tY186.2.1 tM186.2.1 tY186.2.2) := rfl
theorem tk186 : eMok tCl lw_g tNs tMs tYs tM186 tY186 := kM_ok (q := (tWs[186]?).getD (0, 0, 0, 0)) (show ∀ ch ∈ tC186, _ from kE_ok (Y := tY186) td186 ta186) tw186 tm186
theorem ta187 : tC187.all (fun ch => ch.all (kFn tY187.1)) = true := kGa_ok tg_1 91 rfl
theorem tm187 : kM tM187 tY187 ((tWs[187]?).getD (0, 0, 0, 0)) = true := kGm_ok th_1 91 rfl
set_option maxRecDepth 20000 in
theorem tw187 : kW ((tWs[187]?).getD (0, 0, 0, 0)).1 = some (.code tY187.1 tY187.2.1 tM187.2.1 tY187.2.2) := rfl
theorem tk187 : eMok tCl lw_g tNs tMs tYs tM187 tY187 := kM_ok (q := (tWs[187]?).getD (0, 0, 0, 0)) (show ∀ ch ∈ tC187, _ from kE_ok (Y := tY187) td187 ta187) tw187 tm187
theorem ta188 : tC188.all (fun ch => ch.all (kFn tY188.1)) = true := kGa_ok tg_1 92 rfl
theorem tm188 : kM tM188 tY188 ((tWs[188]?).getD (0, 0, 0, 0)) = true := kGm_ok th_1 92 rfl
set_option maxRecDepth 20000 in
theorem tw188 : kW ((tWs[188]?).getD (0, 0, 0, 0)).1 = some (.code tY188.1 tY188.2.1 tM188.2.1 tY188.2.2) := rfl
theorem tk188 : eMok tCl lw_g tNs tMs tYs tM188 tY188 := kM_ok (q := (tWs[188]?).getD (0, 0, 0, 0)) (show ∀ ch ∈ tC188, _ from kE_ok (Y := tY188) td188 ta188) tw188 tm188
theorem ta189 : tC189.all (fun ch => ch.all (kFn tY189.1)) = true := kGa_ok tg_1 93 rfl
theorem tm189 : kM tM189 tY189 ((tWs[189]?).getD (0, 0, 0, 0)) = true := kGm_ok th_1 93 rfl
set_option maxRecDepth 20000 in
theorem tw189 : kW ((tWs[189]?).getD (0, 0, 0, 0)).1 = some (.code tY189.1 tY189.2.1 tM189.2.1 tY189.2.2) := rfl
theorem tk189 : eMok tCl lw_g tNs tMs tYs tM189 tY189 := kM_ok (q := (tWs[189]?).getD (0, 0, 0, 0)) (show ∀ ch ∈ tC189, _ from kE_ok (Y := tY189) td189 ta189) tw189 tm189
theorem ta190 : tC190.all (fun ch => ch.all (kFn tY190.1)) = true := kGa_ok tg_1 94 rfl
theorem tm190 : kM tM190 tY190 ((tWs[190]?).getD (0, 0, 0, 0)) = true := kGm_ok th_1 94 rfl
set_option maxRecDepth 20000 in
theorem tw190 : kW ((tWs[190]?).getD (0, 0, 0, 0)).1 = some (.code tY190.1 tY190.2.1 tM190.2.1 tY190.2.2) := rfl
theorem tk190 : eMok tCl lw_g tNs tMs tYs tM190 tY190 := kM_ok (q := (tWs[190]?).getD (0, 0, 0, 0)) (show ∀ ch ∈ tC190, _ from kE_ok (Y := tY190) td190 ta190) tw190 tm190
theorem ta191 : tC191.all (fun ch => ch.all (kFn tY191.1)) = true := kGa_ok tg_1 95 rfl
theorem tm191 : kM tM191 tY191 ((tWs[191]?).getD (0, 0, 0, 0)) = true := kGm_ok th_1 95 rfl
set_option maxRecDepth 20000 in
theorem tw191 : kW ((tWs[191]?).getD (0, 0, 0, 0)).1 = some (.code tY191.1 tY191.2.1 tM191.2.1 tY191.2.2) := rfl
theorem tk191 : eMok tCl lw_g tNs tMs tYs tM191 tY191 := kM_ok (q := (tWs[191]?).getD (0, 0, 0, 0)) (show ∀ ch ∈ tC191, _ from kE_ok (Y := tY191) td191 ta191) tw191 tm191
theorem ta192 : tC192.all (fun ch => ch.all (kFn tY192.1)) = true := kGa_ok tg_2 0 rfl
theorem tm192 : kM tM192 tY192 ((tWs[192]?).getD (0, 0, 0, 0)) = true := kGm_ok th_2 0 rfl
set_option maxRecDepth 20000 in
theorem tw192 : kW ((tWs[192]?).getD (0, 0, 0, 0)).1 = some (.code tY192.1 tY192.2.1 tM192.2.1 tY192.2.2) := rfl
theorem tk192 : eMok tCl lw_g tNs tMs tYs tM192 tY192 := kM_ok (q := (tWs[192]?).getD (0, 0, 0, 0)) (show ∀ ch ∈ tC192, _ from kE_ok (Y := tY192) td192 ta192) tw192 tm192
end
section
theorem td193 : tC193.all (fun ch => dCh tY193.2.1 (ch.map dTr)) = true := by decide +kernel
theorem td194 : tC194.all (fun ch => dCh tY194.2.1 (ch.map dTr)) = true := by decide +kernel
theorem td195 : tC195.all (fun ch => dCh tY195.2.1 (ch.map dTr)) = true := by decide +kernel
theorem td196 : tC196.all (fun ch => dCh tY196.2.1 (ch.map dTr)) = true := by decide +kernel
theorem td197 : tC197.all (fun ch => dCh tY197.2.1 (ch.map dTr)) = true := by decide +kernel
theorem td198 : tC198.all (fun ch => dCh tY198.2.1 (ch.map dTr)) = true := by decide +kernel
theorem td199 : tC199.all (fun ch => dCh tY199.2.1 (ch.map dTr)) = true := by decide +kernel
theorem td200 : tC200.all (fun ch => dCh tY200.2.1 (ch.map dTr)) = true := by decide +kernel
theorem td201 : tC201.all (fun ch => dCh tY201.2.1 (ch.map dTr)) = true := by decide +kernel
theorem td202 : tC202.all (fun ch => dCh tY202.2.1 (ch.map dTr)) = true := by decide +kernel
theorem td203 : tC203.all (fun ch => dCh tY203.2.1 (ch.map dTr)) = true := by decide +kernel
theorem td204 : tC204.all (fun ch => dCh tY204.2.1 (ch.map dTr)) = true := by decide +kernel
theorem td205 : tC205.all (fun ch => dCh tY205.2.1 (ch.map dTr)) = true := by decide +kernel
theorem td206 : tC206.all (fun ch => dCh tY206.2.1 (ch.map dTr)) = true := by decide +kernel
theorem td207 : tC207.all (fun ch => dCh tY207.2.1 (ch.map dTr)) = true := by decide +kernel
theorem td208 : tC208.all (fun ch => dCh tY208.2.1 (ch.map dTr)) = true := by decide +kernel
theorem td209 : tC209.all (fun ch => dCh tY209.2.1 (ch.map dTr)) = true := by decide +kernel
theorem td210 : tC210.all (fun ch => dCh tY210.2.1 (ch.map dTr)) = true := by decide +kernel
theorem td211 : tC211.all (fun ch => dCh tY211.2.1 (ch.map dTr)) = true := by decide +kernel
theorem td212 : tC212.all (fun ch => dCh tY212.2.1 (ch.map dTr)) = true := by decide +kernel
theorem td213 : tC213.all (fun ch => dCh tY213.2.1 (ch.map dTr)) = true := by decide +kernel
theorem td214 : tC214.all (fun ch => dCh tY214.2.1 (ch.map dTr)) = true := by decide +kernel
theorem td215 : tC215.all (fun ch => dCh tY215.2.1 (ch.map dTr)) = true := by decide +kernel
theorem td216 : tC216.all (fun ch => dCh tY216.2.1 (ch.map dTr)) = true := by decide +kernel
theorem td217 : tC217.all (fun ch => dCh tY217.2.1 (ch.map dTr)) = true := by decide +kernel
theorem td218 : tC218.all (fun ch => dCh tY218.2.1 (ch.map dTr)) = true := by decide +kernel
theorem td219 : tC219.all (fun ch => dCh tY219.2.1 (ch.map dTr)) = true := by decide +kernel
theorem td220 : tC220.all (fun ch => dCh tY220.2.1 (ch.map dTr)) = true := by decide +kernel
theorem td221 : tC221.all (fun ch => dCh tY221.2.1 (ch.map dTr)) = true := by decide +kernel
theorem td222 : tC222.all (fun ch => dCh tY222.2.1 (ch.map dTr)) = true := by decide +kernel
theorem td223 : tC223.all (fun ch => dCh tY223.2.1 (ch.map dTr)) = true := by decide +kernel
theorem td224 : tC224.all (fun ch => dCh tY224.2.1 (ch.map dTr)) = true := by decide +kernel
theorem td225 : tC225.all (fun ch => dCh tY225.2.1 (ch.map dTr)) = true := by decide +kernel
theorem td226 : tC226.all (fun ch => dCh tY226.2.1 (ch.map dTr)) = true := by decide +kernel
theorem td227 : tC227.all (fun ch => dCh tY227.2.1 (ch.map dTr)) = true := by decide +kernel
theorem td228 : tC228.all (fun ch => dCh tY228.2.1 (ch.map dTr)) = true := by decide +kernel
theorem td229 : tC229.all (fun ch => dCh tY229.2.1 (ch.map dTr)) = true := by decide +kernel
theorem td230 : tC230.all (fun ch => dCh tY230.2.1 (ch.map dTr)) = true := by decide +kernel
theorem td231 : tC231.all (fun ch => dCh tY231.2.1 (ch.map dTr)) = true := by decide +kernel
theorem td232 : tC232.all (fun ch => dCh tY232.2.1 (ch.map dTr)) = true := by decide +kernel
theorem td233 : tC233.all (fun ch => dCh tY233.2.1 (ch.map dTr)) = true := by decide +kernel
theorem td234 : tC234.all (fun ch => dCh tY234.2.1 (ch.map dTr)) = true := by decide +kernel
theorem td235 : tC235.all (fun ch => dCh tY235.2.1 (ch.map dTr)) = true := by decide +kernel
theorem td236 : tC236.all (fun ch => dCh tY236.2.1 (ch.map dTr)) = true := by decide +kernel
theorem td237 : tC237.all (fun ch => dCh tY237.2.1 (ch.map dTr)) = true := by decide +kernel
theorem td238 : tC238.all (fun ch => dCh tY238.2.1 (ch.map dTr)) = true := by decide +kernel
theorem td239 : tC239.all (fun ch => dCh tY239.2.1 (ch.map dTr)) = true := by decide +kernel
theorem td240 : tC240.all (fun ch => dCh tY240.2.1 (ch.map dTr)) = true := by decide +kernel
theorem td241 : tC241.all (fun ch => dCh tY241.2.1 (ch.map dTr)) = true := by decide +kernel
theorem ta193 : tC193.all (fun ch => ch.all (kFn tY193.1)) = true := kGa_ok tg_2 1 rfl
theorem tm193 : kM tM193 tY193 ((tWs[193]?).getD (0, 0, 0, 0)) = true := kGm_ok th_2 1 rfl
set_option maxRecDepth 20000 in
theorem tw193 : kW ((tWs[193]?).getD (0, 0, 0, 0)).1 = some (.code tY193.1 tY193.2.1 tM193.2.1 tY193.2.2) := rfl
theorem tk193 : eMok tCl lw_g tNs tMs tYs tM193 tY193 := kM_ok (q := (tWs[193]?).getD (0, 0, 0, 0)) (show ∀ ch ∈ tC193, _ from kE_ok (Y := tY193) td193 ta193) tw193 tm193
theorem ta194 : tC194.all (fun ch => ch.all (kFn tY194.1)) = true := kGa_ok tg_2 2 rfl
theorem tm194 : kM tM194 tY194 ((tWs[194]?).getD (0, 0, 0, 0)) = true := kGm_ok th_2 2 rfl
set_option maxRecDepth 20000 in
theorem tw194 : kW ((tWs[194]?).getD (0, 0, 0, 0)).1 = some (.code tY194.1 tY194.2.1 tM194.2.1 tY194.2.2) := rfl
theorem tk194 : eMok tCl lw_g tNs tMs tYs tM194 tY194 := kM_ok (q := (tWs[194]?).getD (0, 0, 0, 0)) (show ∀ ch ∈ tC194, _ from kE_ok (Y := tY194) td194 ta194) tw194 tm194
theorem ta195 : tC195.all (fun ch => ch.all (kFn tY195.1)) = true := kGa_ok tg_2 3 rfl
theorem tm195 : kM tM195 tY195 ((tWs[195]?).getD (0, 0, 0, 0)) = true := kGm_ok th_2 3 rfl
set_option maxRecDepth 20000 in
theorem tw195 : kW ((tWs[195]?).getD (0, 0, 0, 0)).1 = some (.code tY195.1 tY195.2.1 tM195.2.1 tY195.2.2) := rfl
theorem tk195 : eMok tCl lw_g tNs tMs tYs tM195 tY195 := kM_ok (q := (tWs[195]?).getD (0, 0, 0, 0)) (show ∀ ch ∈ tC195, _ from kE_ok (Y := tY195) td195 ta195) tw195 tm195
theorem ta196 : tC196.all (fun ch => ch.all (kFn tY196.1)) = true := kGa_ok tg_2 4 rfl
theorem tm196 : kM tM196 tY196 ((tWs[196]?).getD (0, 0, 0, 0)) = true := kGm_ok th_2 4 rfl
set_option maxRecDepth 20000 in
theorem tw196 : kW ((tWs[196]?).getD (0, 0, 0, 0)).1 = some (.code tY196.1 tY196.2.1 tM196.2.1 tY196.2.2) := rfl
theorem tk196 : eMok tCl lw_g tNs tMs tYs tM196 tY196 := kM_ok (q := (tWs[196]?).getD (0, 0, 0, 0)) (show ∀ ch ∈ tC196, _ from kE_ok (Y := tY196) td196 ta196) tw196 tm196
theorem ta197 : tC197.all (fun ch => ch.all (kFn tY197.1)) = true := kGa_ok tg_2 5 rfl
theorem tm197 : kM tM197 tY197 ((tWs[197]?).getD (0, 0, 0, 0)) = true := kGm_ok th_2 5 rfl
set_option maxRecDepth 20000 in
theorem tw197 : kW ((tWs[197]?).getD (0, 0, 0, 0)).1 = some (.code tY197.1 tY197.2.1 tM197.2.1 tY197.2.2) := rfl
theorem tk197 : eMok tCl lw_g tNs tMs tYs tM197 tY197 := kM_ok (q := (tWs[197]?).getD (0, 0, 0, 0)) (show ∀ ch ∈ tC197, _ from kE_ok (Y := tY197) td197 ta197) tw197 tm197
theorem ta198 : tC198.all (fun ch => ch.all (kFn tY198.1)) = true := kGa_ok tg_2 6 rfl
theorem tm198 : kM tM198 tY198 ((tWs[198]?).getD (0, 0, 0, 0)) = true := kGm_ok th_2 6 rfl
set_option maxRecDepth 20000 in
theorem tw198 : kW ((tWs[198]?).getD (0, 0, 0, 0)).1 = some (.code tY198.1 tY198.2.1 tM198.2.1 tY198.2.2) := rfl
theorem tk198 : eMok tCl lw_g tNs tMs tYs tM198 tY198 := kM_ok (q := (tWs[198]?).getD (0, 0, 0, 0)) (show ∀ ch ∈ tC198, _ from kE_ok (Y := tY198) td198 ta198) tw198 tm198
theorem ta199 : tC199.all (fun ch => ch.all (kFn tY199.1)) = true := kGa_ok tg_2 7 rfl
theorem tm199 : kM tM199 tY199 ((tWs[199]?).getD (0, 0, 0, 0)) = true := kGm_ok th_2 7 rfl
set_option maxRecDepth 20000 in
theorem tw199 : kW ((tWs[199]?).getD (0, 0, 0, 0)).1 = some (.code tY199.1 tY199.2.1 tM199.2.1 tY199.2.2) := rfl
theorem tk199 : eMok tCl lw_g tNs tMs tYs tM199 tY199 := kM_ok (q := (tWs[199]?).getD (0, 0, 0, 0)) (show ∀ ch ∈ tC199, _ from kE_ok (Y := tY199) td199 ta199) tw199 tm199
theorem ta200 : tC200.all (fun ch => ch.all (kFn tY200.1)) = true := kGa_ok tg_2 8 rfl
theorem tm200 : kM tM200 tY200 ((tWs[200]?).getD (0, 0, 0, 0)) = true := kGm_ok th_2 8 rfl
set_option maxRecDepth 20000 in
theorem tw200 : kW ((tWs[200]?).getD (0, 0, 0, 0)).1 = some (.code tY200.1 tY200.2.1 tM200.2.1 tY200.2.2) := rfl
theorem tk200 : eMok tCl lw_g tNs tMs tYs tM200 tY200 := kM_ok (q := (tWs[200]?).getD (0, 0, 0, 0)) (show ∀ ch ∈ tC200, _ from kE_ok (Y := tY200) td200 ta200) tw200 tm200
theorem ta201 : tC201.all (fun ch => ch.all (kFn tY201.1)) = true := kGa_ok tg_2 9 rfl
theorem tm201 : kM tM201 tY201 ((tWs[201]?).getD (0, 0, 0, 0)) = true := kGm_ok th_2 9 rfl
set_option maxRecDepth 20000 in
theorem tw201 : kW ((tWs[201]?).getD (0, 0, 0, 0)).1 = some (.code tY201.1 tY201.2.1 tM201.2.1 tY201.2.2) := rfl
theorem tk201 : eMok tCl lw_g tNs tMs tYs tM201 tY201 := kM_ok (q := (tWs[201]?).getD (0, 0, 0, 0)) (show ∀ ch ∈ tC201, _ from kE_ok (Y := tY201) td201 ta201) tw201 tm201
theorem ta202 : tC202.all (fun ch => ch.all (kFn tY202.1)) = true := kGa_ok tg_2 10 rfl
theorem tm202 : kM tM202 tY202 ((tWs[202]?).getD (0, 0, 0, 0)) = true := kGm_ok th_2 10 rfl
set_option maxRecDepth 20000 in
theorem tw202 : kW ((tWs[202]?).getD (0, 0, 0, 0)).1 = some (.code tY202.1 tY202.2.1 tM202.2.1 tY202.2.2) := rfl
theorem tk202 : eMok tCl lw_g tNs tMs tYs tM202 tY202 := kM_ok (q := (tWs[202]?).getD (0, 0, 0, 0)) (show ∀ ch ∈ tC202, _ from kE_ok (Y := tY202) td202 ta202) tw202 tm202
theorem ta203 : tC203.all (fun ch => ch.all (kFn tY203.1)) = true := kGa_ok tg_2 11 rfl
theorem tm203 : kM tM203 tY203 ((tWs[203]?).getD (0, 0, 0, 0)) = true := kGm_ok th_2 11 rfl
set_option maxRecDepth 20000 in
theorem tw203 : kW ((tWs[203]?).getD (0, 0, 0, 0)).1 = some (.code tY203.1 tY203.2.1 tM203.2.1 tY203.2.2) := rfl
theorem tk203 : eMok tCl lw_g tNs tMs tYs tM203 tY203 := kM_ok (q := (tWs[203]?).getD (0, 0, 0, 0)) (show ∀ ch ∈ tC203, _ from kE_ok (Y := tY203) td203 ta203) tw203 tm203
theorem ta204 : tC204.all (fun ch => ch.all (kFn tY204.1)) = true := kGa_ok tg_2 12 rfl
theorem tm204 : kM tM204 tY204 ((tWs[204]?).getD (0, 0, 0, 0)) = true := kGm_ok th_2 12 rfl
set_option maxRecDepth 20000 in
theorem tw204 : kW ((tWs[204]?).getD (0, 0, 0, 0)).1 = some (.code tY204.1 tY204.2.1 tM204.2.1 tY204.2.2) := rfl
theorem tk204 : eMok tCl lw_g tNs tMs tYs tM204 tY204 := kM_ok (q := (tWs[204]?).getD (0, 0, 0, 0)) (show ∀ ch ∈ tC204, _ from kE_ok (Y := tY204) td204 ta204) tw204 tm204
theorem ta205 : tC205.all (fun ch => ch.all (kFn tY205.1)) = true := kGa_ok tg_2 13 rfl
theorem tm205 : kM tM205 tY205 ((tWs[205]?).getD (0, 0, 0, 0)) = true := kGm_ok th_2 13 rfl
set_option maxRecDepth 20000 in
theorem tw205 : kW ((tWs[205]?).getD (0, 0, 0, 0)).1 = some (.code tY205.1 tY205.2.1 tM205.2.1 tY205.2.2) := rfl
theorem tk205 : eMok tCl lw_g tNs tMs tYs tM205 tY205 := kM_ok (q := (tWs[205]?).getD (0, 0, 0, 0)) (show ∀ ch ∈ tC205, _ from kE_ok (Y := tY205) td205 ta205) tw205 tm205
theorem ta206 : tC206.all (fun ch => ch.all (kFn tY206.1)) = true := kGa_ok tg_2 14 rfl
theorem tm206 : kM tM206 tY206 ((tWs[206]?).getD (0, 0, 0, 0)) = true := kGm_ok th_2 14 rfl
set_option maxRecDepth 20000 in
theorem tw206 : kW ((tWs[206]?).getD (0, 0, 0, 0)).1 = some (.code tY206.1 tY206.2.1 tM206.2.1 tY206.2.2) := rfl
theorem tk206 : eMok tCl lw_g tNs tMs tYs tM206 tY206 := kM_ok (q := (tWs[206]?).getD (0, 0, 0, 0)) (show ∀ ch ∈ tC206, _ from kE_ok (Y := tY206) td206 ta206) tw206 tm206
theorem ta207 : tC207.all (fun ch => ch.all (kFn tY207.1)) = true := kGa_ok tg_2 15 rfl
theorem tm207 : kM tM207 tY207 ((tWs[207]?).getD (0, 0, 0, 0)) = true := kGm_ok th_2 15 rfl
set_option maxRecDepth 20000 in
theorem tw207 : kW ((tWs[207]?).getD (0, 0, 0, 0)).1 = some (.code tY207.1 tY207.2.1 tM207.2.1 tY207.2.2) := rfl
theorem tk207 : eMok tCl lw_g tNs tMs tYs tM207 tY207 := kM_ok (q := (tWs[207]?).getD (0, 0, 0, 0)) (show ∀ ch ∈ tC207, _ from kE_ok (Y := tY207) td207 ta207) tw207 tm207
theorem ta208 : tC208.all (fun ch => ch.all (kFn tY208.1)) = true := kGa_ok tg_2 16 rfl
theorem tm208 : kM tM208 tY208 ((tWs[208]?).getD (0, 0, 0, 0)) = true := kGm_ok th_2 16 rfl
set_option maxRecDepth 20000 in
theorem tw208 : kW ((tWs[208]?).getD (0, 0, 0, 0)).1 = some (.code tY208.1 tY208.2.1 tM208.2.1 tY208.2.2) := rfl
theorem tk208 : eMok tCl lw_g tNs tMs tYs tM208 tY208 := kM_ok (q := (tWs[208]?).getD (0, 0, 0, 0)) (show ∀ ch ∈ tC208, _ from kE_ok (Y := tY208) td208 ta208) tw208 tm208
theorem ta209 : tC209.all (fun ch => ch.all (kFn tY209.1)) = true := kGa_ok tg_2 17 rfl
theorem tm209 : kM tM209 tY209 ((tWs[209]?).getD (0, 0, 0, 0)) = true := kGm_ok th_2 17 rfl
set_option maxRecDepth 20000 in
theorem tw209 : kW ((tWs[209]?).getD (0, 0, 0, 0)).1 = some (.code tY209.1 tY209.2.1 tM209.2.1 tY209.2.2) := rfl
theorem tk209 : eMok tCl lw_g tNs tMs tYs tM209 tY209 := kM_ok (q := (tWs[209]?).getD (0, 0, 0, 0)) (show ∀ ch ∈ tC209, _ from kE_ok (Y := tY209) td209 ta209) tw209 tm209
theorem ta210 : tC210.all (fun ch => ch.all (kFn tY210.1)) = true := kGa_ok tg_2 18 rfl
theorem tm210 : kM tM210 tY210 ((tWs[210]?).getD (0, 0, 0, 0)) = true := kGm_ok th_2 18 rfl
set_option maxRecDepth 20000 in
theorem tw210 : kW ((tWs[210]?).getD (0, 0, 0, 0)).1 = some (.code tY210.1 tY210.2.1 tM210.2.1 tY210.2.2) := rfl
theorem tk210 : eMok tCl lw_g tNs tMs tYs tM210 tY210 := kM_ok (q := (tWs[210]?).getD (0, 0, 0, 0)) (show ∀ ch ∈ tC210, _ from kE_ok (Y := tY210) td210 ta210) tw210 tm210
theorem ta211 : tC211.all (fun ch => ch.all (kFn tY211.1)) = true := kGa_ok tg_2 19 rfl
theorem tm211 : kM tM211 tY211 ((tWs[211]?).getD (0, 0, 0, 0)) = true := kGm_ok th_2 19 rfl
set_option maxRecDepth 20000 in
theorem tw211 : kW ((tWs[211]?).getD (0, 0, 0, 0)).1 = some (.code tY211.1 tY211.2.1 tM211.2.1 tY211.2.2) := rfl
theorem tk211 : eMok tCl lw_g tNs tMs tYs tM211 tY211 := kM_ok (q := (tWs[211]?).getD (0, 0, 0, 0)) (show ∀ ch ∈ tC211, _ from kE_ok (Y := tY211) td211 ta211) tw211 tm211
theorem ta212 : tC212.all (fun ch => ch.all (kFn tY212.1)) = true := kGa_ok tg_2 20 rfl
theorem tm212 : kM tM212 tY212 ((tWs[212]?).getD (0, 0, 0, 0)) = true := kGm_ok th_2 20 rfl
set_option maxRecDepth 20000 in
theorem tw212 : kW ((tWs[212]?).getD (0, 0, 0, 0)).1 = some (.code tY212.1 tY212.2.1 tM212.2.1 tY212.2.2) := rfl
theorem tk212 : eMok tCl lw_g tNs tMs tYs tM212 tY212 := kM_ok (q := (tWs[212]?).getD (0, 0, 0, 0)) (show ∀ ch ∈ tC212, _ from kE_ok (Y := tY212) td212 ta212) tw212 tm212
theorem ta213 : tC213.all (fun ch => ch.all (kFn tY213.1)) = true := kGa_ok tg_2 21 rfl
theorem tm213 : kM tM213 tY213 ((tWs[213]?).getD (0, 0, 0, 0)) = true := kGm_ok th_2 21 rfl
set_option maxRecDepth 20000 in
theorem tw213 : kW ((tWs[213]?).getD (0, 0, 0, 0)).1 = some (.code tY213.1 tY213.2.1 tM213.2.1 tY213.2.2) := rfl
theorem tk213 : eMok tCl lw_g tNs tMs tYs tM213 tY213 := kM_ok (q := (tWs[213]?).getD (0, 0, 0, 0)) (show ∀ ch ∈ tC213, _ from kE_ok (Y := tY213) td213 ta213) tw213 tm213
theorem ta214 : tC214.all (fun ch => ch.all (kFn tY214.1)) = true := kGa_ok tg_2 22 rfl
theorem tm214 : kM tM214 tY214 ((tWs[214]?).getD (0, 0, 0, 0)) = true := kGm_ok th_2 22 rfl
set_option maxRecDepth 20000 in
theorem tw214 : kW ((tWs[214]?).getD (0, 0, 0, 0)).1 = some (.code tY214.1 tY214.2.1 tM214.2.1 tY214.2.2) := rfl
theorem tk214 : eMok tCl lw_g tNs tMs tYs tM214 tY214 := kM_ok (q := (tWs[214]?).getD (0, 0, 0, 0)) (show ∀ ch ∈ tC214, _ from kE_ok (Y := tY214) td214 ta214) tw214 tm214
theorem ta215 : tC215.all (fun ch => ch.all (kFn tY215.1)) = true := kGa_ok tg_2 23 rfl
theorem tm215 : kM tM215 tY215 ((tWs[215]?).getD (0, 0, 0, 0)) = true := kGm_ok th_2 23 rfl
set_option maxRecDepth 20000 in
theorem tw215 : kW ((tWs[215]?).getD (0, 0, 0, 0)).1 = some (.code tY215.1 tY215.2.1 tM215.2.1 tY215.2.2) := rfl
theorem tk215 : eMok tCl lw_g tNs tMs tYs tM215 tY215 := kM_ok (q := (tWs[215]?).getD (0, 0, 0, 0)) (show ∀ ch ∈ tC215, _ from kE_ok (Y := tY215) td215 ta215) tw215 tm215
theorem ta216 : tC216.all (fun ch => ch.all (kFn tY216.1)) = true := kGa_ok tg_2 24 rfl
theorem tm216 : kM tM216 tY216 ((tWs[216]?).getD (0, 0, 0, 0)) = true := kGm_ok th_2 24 rfl
set_option maxRecDepth 20000 in
theorem tw216 : kW ((tWs[216]?).getD (0, 0, 0, 0)).1 = some (.code tY216.1 tY216.2.1 tM216.2.1 tY216.2.2) := rfl
theorem tk216 : eMok tCl lw_g tNs tMs tYs tM216 tY216 := kM_ok (q := (tWs[216]?).getD (0, 0, 0, 0)) (show ∀ ch ∈ tC216, _ from kE_ok (Y := tY216) td216 ta216) tw216 tm216
theorem ta217 : tC217.all (fun ch => ch.all (kFn tY217.1)) = true := kGa_ok tg_2 25 rfl
theorem tm217 : kM tM217 tY217 ((tWs[217]?).getD (0, 0, 0, 0)) = true := kGm_ok th_2 25 rfl
set_option maxRecDepth 20000 in
theorem tw217 : kW ((tWs[217]?).getD (0, 0, 0, 0)).1 = some (.code tY217.1 tY217.2.1 tM217.2.1 tY217.2.2) := rfl
theorem tk217 : eMok tCl lw_g tNs tMs tYs tM217 tY217 := kM_ok (q := (tWs[217]?).getD (0, 0, 0, 0)) (show ∀ ch ∈ tC217, _ from kE_ok (Y := tY217) td217 ta217) tw217 tm217
theorem ta218 : tC218.all (fun ch => ch.all (kFn tY218.1)) = true := kGa_ok tg_2 26 rfl
theorem tm218 : kM tM218 tY218 ((tWs[218]?).getD (0, 0, 0, 0)) = true := kGm_ok th_2 26 rfl
set_option maxRecDepth 20000 in
theorem tw218 : kW ((tWs[218]?).getD (0, 0, 0, 0)).1 = some (.code tY218.1 tY218.2.1 tM218.2.1 tY218.2.2) := rfl
theorem tk218 : eMok tCl lw_g tNs tMs tYs tM218 tY218 := kM_ok (q := (tWs[218]?).getD (0, 0, 0, 0)) (show ∀ ch ∈ tC218, _ from kE_ok (Y := tY218) td218 ta218) tw218 tm218
theorem ta219 : tC219.all (fun ch => ch.all (kFn tY219.1)) = true := kGa_ok tg_2 27 rfl
theorem tm219 : kM tM219 tY219 ((tWs[219]?).getD (0, 0, 0, 0)) = true := kGm_ok th_2 27 rfl
set_option maxRecDepth 20000 in
theorem tw219 : kW ((tWs[219]?).getD (0, 0, 0, 0)).1 = some (.code tY219.1 tY219.2.1 tM219.2.1 tY219.2.2) := rfl
theorem tk219 : eMok tCl lw_g tNs tMs tYs tM219 tY219 := kM_ok (q := (tWs[219]?).getD (0, 0, 0, 0)) (show ∀ ch ∈ tC219, _ from kE_ok (Y := tY219) td219 ta219) tw219 tm219
theorem ta220 : tC220.all (fun ch => ch.all (kFn tY220.1)) = true := kGa_ok tg_2 28 rfl
theorem tm220 : kM tM220 tY220 ((tWs[220]?).getD (0, 0, 0, 0)) = true := kGm_ok th_2 28 rfl
set_option maxRecDepth 20000 in
theorem tw220 : kW ((tWs[220]?).getD (0, 0, 0, 0)).1 = some (.code tY220.1 tY220.2.1 tM220.2.1 tY220.2.2) := rfl
theorem tk220 : eMok tCl lw_g tNs tMs tYs tM220 tY220 := kM_ok (q := (tWs[220]?).getD (0, 0, 0, 0)) (show ∀ ch ∈ tC220, _ from kE_ok (Y := tY220) td220 ta220) tw220 tm220
theorem ta221 : tC221.all (fun ch => ch.all (kFn tY221.1)) = true := kGa_ok tg_2 29 rfl
theorem tm221 : kM tM221 tY221 ((tWs[221]?).getD (0, 0, 0, 0)) = true := kGm_ok th_2 29 rfl
set_option maxRecDepth 20000 in
theorem tw221 : kW ((tWs[221]?).getD (0, 0, 0, 0)).1 = some (.code tY221.1 tY221.2.1 tM221.2.1 tY221.2.2) := rfl
theorem tk221 : eMok tCl lw_g tNs tMs tYs tM221 tY221 := kM_ok (q := (tWs[221]?).getD (0, 0, 0, 0)) (show ∀ ch ∈ tC221, _ from kE_ok (Y := tY221) td221 ta221) tw221 tm221
theorem ta222 : tC222.all (fun ch => ch.all (kFn tY222.1)) = true := kGa_ok tg_2 30 rfl
theorem tm222 : kM tM222 tY222 ((tWs[222]?).getD (0, 0, 0, 0)) = true := kGm_ok th_2 30 rfl
set_option maxRecDepth 20000 in
theorem tw222 : kW ((tWs[222]?).getD (0, 0, 0, 0)).1 = some (.code tY222.1 tY222.2.1 tM222.2.1 tY222.2.2) := rfl
theorem tk222 : eMok tCl lw_g tNs tMs tYs tM222 tY222 := kM_ok (q := (tWs[222]?).getD (0, 0, 0, 0)) (show ∀ ch ∈ tC222, _ from kE_ok (Y := tY222) td222 ta222) tw222 tm222
theorem ta223 : tC223.all (fun ch => ch.all (kFn tY223.1)) = true := kGa_ok tg_2 31 rfl
theorem tm223 : kM tM223 tY223 ((tWs[223]?).getD (0, 0, 0, 0)) = true := kGm_ok th_2 31 rfl
set_option maxRecDepth 20000 in
theorem tw223 : kW ((tWs[223]?).getD (0, 0, 0, 0)).1 = some (.code tY223.1 tY223.2.1 tM223.2.1 tY223.2.2) := rfl
theorem tk223 : eMok tCl lw_g tNs tMs tYs tM223 tY223 := kM_ok (q := (tWs[223]?).getD (0, 0, 0, 0)) (show ∀ ch ∈ tC223, _ from kE_ok (Y := tY223) td223 ta223) tw223 tm223
theorem ta224 : tC224.all (fun ch => ch.all (kFn tY224.1)) = true := kGa_ok tg_2 32 rfl
theorem tm224 : kM tM224 tY224 ((tWs[224]?).getD (0, 0, 0, 0)) = true := kGm_ok th_2 32 rfl
set_option maxRecDepth 20000 in
theorem tw224 : kW ((tWs[224]?).getD (0, 0, 0, 0)).1 = some (.code tY224.1 tY224.2.1 tM224.2.1 tY224.2.2) := rfl
theorem tk224 : eMok tCl lw_g tNs tMs tYs tM224 tY224 := kM_ok (q := (tWs[224]?).getD (0, 0, 0, 0)) (show ∀ ch ∈ tC224, _ from kE_ok (Y := tY224) td224 ta224) tw224 tm224
theorem ta225 : tC225.all (fun ch => ch.all (kFn tY225.1)) = true := kGa_ok tg_2 33 rfl
theorem tm225 : kM tM225 tY225 ((tWs[225]?).getD (0, 0, 0, 0)) = true := kGm_ok th_2 33 rfl
set_option maxRecDepth 20000 in
theorem tw225 : kW ((tWs[225]?).getD (0, 0, 0, 0)).1 = some (.code tY225.1 tY225.2.1 tM225.2.1 tY225.2.2) := rfl
theorem tk225 : eMok tCl lw_g tNs tMs tYs tM225 tY225 := kM_ok (q := (tWs[225]?).getD (0, 0, 0, 0)) (show ∀ ch ∈ tC225, _ from kE_ok (Y := tY225) td225 ta225) tw225 tm225
theorem ta226 : tC226.all (fun ch => ch.all (kFn tY226.1)) = true := kGa_ok tg_2 34 rfl
theorem tm226 : kM tM226 tY226 ((tWs[226]?).getD (0, 0, 0, 0)) = true := kGm_ok th_2 34 rfl
set_option maxRecDepth 20000 in
theorem tw226 : kW ((tWs[226]?).getD (0, 0, 0, 0)).1 = some (.code tY226.1 tY226.2.1 tM226.2.1 tY226.2.2) := rfl
theorem tk226 : eMok tCl lw_g tNs tMs tYs tM226 tY226 := kM_ok (q := (tWs[226]?).getD (0, 0, 0, 0)) (show ∀ ch ∈ tC226, _ from kE_ok (Y := tY226) td226 ta226) tw226 tm226
theorem ta227 : tC227.all (fun ch => ch.all (kFn tY227.1)) = true := kGa_ok tg_2 35 rfl
theorem tm227 : kM tM227 tY227 ((tWs[227]?).getD (0, 0, 0, 0)) = true := kGm_ok th_2 35 rfl
set_option maxRecDepth 20000 in
theorem tw227 : kW ((tWs[227]?).getD (0, 0, 0, 0)).1 = some (.code tY227.1 tY227.2.1 tM227.2.1 tY227.2.2) := rfl
theorem tk227 : eMok tCl lw_g tNs tMs tYs tM227 tY227 := kM_ok (q := (tWs[227]?).getD (0, 0, 0, 0)) (show ∀ ch ∈ tC227, _ from kE_ok (Y := tY227) td227 ta227) tw227 tm227
theorem ta228 : tC228.all (fun ch => ch.all (kFn tY228.1)) = true := kGa_ok tg_2 36 rfl
theorem tm228 : kM tM228 tY228 ((tWs[228]?).getD (0, 0, 0, 0)) = true := kGm_ok th_2 36 rfl
set_option maxRecDepth 20000 in
theorem tw228 : kW ((tWs[228]?).getD (0, 0, 0, 0)).1 = some (.code tY228.1 tY228.2.1 tM228.2.1 tY228.2.2) := rfl
theorem tk228 : eMok tCl lw_g tNs tMs tYs tM228 tY228 := kM_ok (q := (tWs[228]?).getD (0, 0, 0, 0)) (show ∀ ch ∈ tC228, _ from kE_ok (Y := tY228) td228 ta228) tw228 tm228
theorem ta229 : tC229.all (fun ch => ch.all (kFn tY229.1)) = true := kGa_ok tg_2 37 rfl
theorem tm229 : kM tM229 tY229 ((tWs[229]?).getD (0, 0, 0, 0)) = true := kGm_ok th_2 37 rfl
set_option maxRecDepth 20000 in
theorem tw229 : kW ((tWs[229]?).getD (0, 0, 0, 0)).1 = some (.code tY229.1 tY229.2.1 tM229.2.1 tY229.2.2) := rfl
theorem tk229 : eMok tCl lw_g tNs tMs tYs tM229 tY229 := kM_ok (q := (tWs[229]?).getD (0, 0, 0, 0)) (show ∀ ch ∈ tC229, _ from kE_ok (Y := tY229) td229 ta229) tw229 tm229
theorem ta230 : tC230.all (fun ch => ch.all (kFn tY230.1)) = true := kGa_ok tg_2 38 rfl
theorem tm230 : kM tM230 tY230 ((tWs[230]?).getD (0, 0, 0, 0)) = true := kGm_ok th_2 38 rfl
set_option maxRecDepth 20000 in
theorem tw230 : kW ((tWs[230]?).getD (0, 0, 0, 0)).1 = some (.code tY230.1 tY230.2.1 tM230.2.1 tY230.2.2) := rfl
theorem tk230 : eMok tCl lw_g tNs tMs tYs tM230 tY230 := kM_ok (q := (tWs[230]?).getD (0, 0, 0, 0)) (show ∀ ch ∈ tC230, _ from kE_ok (Y := tY230) td230 ta230) tw230 tm230
theorem ta231 : tC231.all (fun ch => ch.all (kFn tY231.1)) = true := kGa_ok tg_2 39 rfl
theorem tm231 : kM tM231 tY231 ((tWs[231]?).getD (0, 0, 0, 0)) = true := kGm_ok th_2 39 rfl
set_option maxRecDepth 20000 in
theorem tw231 : kW ((tWs[231]?).getD (0, 0, 0, 0)).1 = some (.code tY231.1 tY231.2.1 tM231.2.1 tY231.2.2) := rfl
theorem tk231 : eMok tCl lw_g tNs tMs tYs tM231 tY231 := kM_ok (q := (tWs[231]?).getD (0, 0, 0, 0)) (show ∀ ch ∈ tC231, _ from kE_ok (Y := tY231) td231 ta231) tw231 tm231
theorem ta232 : tC232.all (fun ch => ch.all (kFn tY232.1)) = true := kGa_ok tg_2 40 rfl
theorem tm232 : kM tM232 tY232 ((tWs[232]?).getD (0, 0, 0, 0)) = true := kGm_ok th_2 40 rfl
set_option maxRecDepth 20000 in
theorem tw232 : kW ((tWs[232]?).getD (0, 0, 0, 0)).1 = some (.code tY232.1 tY232.2.1 tM232.2.1 tY232.2.2) := rfl
theorem tk232 : eMok tCl lw_g tNs tMs tYs tM232 tY232 := kM_ok (q := (tWs[232]?).getD (0, 0, 0, 0)) (show ∀ ch ∈ tC232, _ from kE_ok (Y := tY232) td232 ta232) tw232 tm232
theorem ta233 : tC233.all (fun ch => ch.all (kFn tY233.1)) = true := kGa_ok tg_2 41 rfl
theorem tm233 : kM tM233 tY233 ((tWs[233]?).getD (0, 0, 0, 0)) = true := kGm_ok th_2 41 rfl
set_option maxRecDepth 20000 in
theorem tw233 : kW ((tWs[233]?).getD (0, 0, 0, 0)).1 = some (.code tY233.1 tY233.2.1 tM233.2.1 tY233.2.2) := rfl
theorem tk233 : eMok tCl lw_g tNs tMs tYs tM233 tY233 := kM_ok (q := (tWs[233]?).getD (0, 0, 0, 0)) (show ∀ ch ∈ tC233, _ from kE_ok (Y := tY233) td233 ta233) tw233 tm233
theorem ta234 : tC234.all (fun ch => ch.all (kFn tY234.1)) = true := kGa_ok tg_2 42 rfl
theorem tm234 : kM tM234 tY234 ((tWs[234]?).getD (0, 0, 0, 0)) = true := kGm_ok th_2 42 rfl
set_option maxRecDepth 20000 in
theorem tw234 : kW ((tWs[234]?).getD (0, 0, 0, 0)).1 = some (.code tY234.1 tY234.2.1 tM234.2.1 tY234.2.2) := rfl
theorem tk234 : eMok tCl lw_g tNs tMs tYs tM234 tY234 := kM_ok (q := (tWs[234]?).getD (0, 0, 0, 0)) (show ∀ ch ∈ tC234, _ from kE_ok (Y := tY234) td234 ta234) tw234 tm234
theorem ta235 : tC235.all (fun ch => ch.all (kFn tY235.1)) = true := kGa_ok tg_2 43 rfl
theorem tm235 : kM tM235 tY235 ((tWs[235]?).getD (0, 0, 0, 0)) = true := kGm_ok th_2 43 rfl
set_option maxRecDepth 20000 in
theorem tw235 : kW ((tWs[235]?).getD (0, 0, 0, 0)).1 = some (.code tY235.1 tY235.2.1 tM235.2.1 tY235.2.2) := rfl
theorem tk235 : eMok tCl lw_g tNs tMs tYs tM235 tY235 := kM_ok (q := (tWs[235]?).getD (0, 0, 0, 0)) (show ∀ ch ∈ tC235, _ from kE_ok (Y := tY235) td235 ta235) tw235 tm235
theorem ta236 : tC236.all (fun ch => ch.all (kFn tY236.1)) = true := kGa_ok tg_2 44 rfl
theorem tm236 : kM tM236 tY236 ((tWs[236]?).getD (0, 0, 0, 0)) = true := kGm_ok th_2 44 rfl
set_option maxRecDepth 20000 in
theorem tw236 : kW ((tWs[236]?).getD (0, 0, 0, 0)).1 = some (.code tY236.1 tY236.2.1 tM236.2.1 tY236.2.2) := rfl
theorem tk236 : eMok tCl lw_g tNs tMs tYs tM236 tY236 := kM_ok (q := (tWs[236]?).getD (0, 0, 0, 0)) (show ∀ ch ∈ tC236, _ from kE_ok (Y := tY236) td236 ta236) tw236 tm236
theorem ta237 : tC237.all (fun ch => ch.all (kFn tY237.1)) = true := kGa_ok tg_2 45 rfl
theorem tm237 : kM tM237 tY237 ((tWs[237]?).getD (0, 0, 0, 0)) = true := kGm_ok th_2 45 rfl
set_option maxRecDepth 20000 in
theorem tw237 : kW ((tWs[237]?).getD (0, 0, 0, 0)).1 = some (.code tY237.1 tY237.2.1 tM237.2.1 tY237.2.2) := rfl
theorem tk237 : eMok tCl lw_g tNs tMs tYs tM237 tY237 := kM_ok (q := (tWs[237]?).getD (0, 0, 0, 0)) (show ∀ ch ∈ tC237, _ from kE_ok (Y := tY237) td237 ta237) tw237 tm237
theorem ta238 : tC238.all (fun ch => ch.all (kFn tY238.1)) = true := kGa_ok tg_2 46 rfl
theorem tm238 : kM tM238 tY238 ((tWs[238]?).getD (0, 0, 0, 0)) = true := kGm_ok th_2 46 rfl
set_option maxRecDepth 20000 in
theorem tw238 : kW ((tWs[238]?).getD (0, 0, 0, 0)).1 = some (.code tY238.1 tY238.2.1 tM238.2.1 tY238.2.2) := rfl
theorem tk238 : eMok tCl lw_g tNs tMs tYs tM238 tY238 := kM_ok (q := (tWs[238]?).getD (0, 0, 0, 0)) (show ∀ ch ∈ tC238, _ from kE_ok (Y := tY238) td238 ta238) tw238 tm238
theorem ta239 : tC239.all (fun ch => ch.all (kFn tY239.1)) = true := kGa_ok tg_2 47 rfl
theorem tm239 : kM tM239 tY239 ((tWs[239]?).getD (0, 0, 0, 0)) = true := kGm_ok th_2 47 rfl
set_option maxRecDepth 20000 in
theorem tw239 : kW ((tWs[239]?).getD (0, 0, 0, 0)).1 = some (.code tY239.1 tY239.2.1 tM239.2.1 tY239.2.2) := rfl
theorem tk239 : eMok tCl lw_g tNs tMs tYs tM239 tY239 := kM_ok (q := (tWs[239]?).getD (0, 0, 0, 0)) (show ∀ ch ∈ tC239, _ from kE_ok (Y := tY239) td239 ta239) tw239 tm239
theorem ta240 : tC240.all (fun ch => ch.all (kFn tY240.1)) = true := kGa_ok tg_2 48 rfl
theorem tm240 : kM tM240 tY240 ((tWs[240]?).getD (0, 0, 0, 0)) = true := kGm_ok th_2 48 rfl
set_option maxRecDepth 20000 in
theorem tw240 : kW ((tWs[240]?).getD (0, 0, 0, 0)).1 = some (.code tY240.1 tY240.2.1 tM240.2.1 tY240.2.2) := rfl
theorem tk240 : eMok tCl lw_g tNs tMs tYs tM240 tY240 := kM_ok (q := (tWs[240]?).getD (0, 0, 0, 0)) (show ∀ ch ∈ tC240, _ from kE_ok (Y := tY240) td240 ta240) tw240 tm240
theorem ta241 : tC241.all (fun ch => ch.all (kFn tY241.1)) = true := kGa_ok tg_2 49 rfl
theorem tm241 : kM tM241 tY241 ((tWs[241]?).getD (0, 0, 0, 0)) = true := kGm_ok th_2 49 rfl
set_option maxRecDepth 20000 in
theorem tw241 : kW ((tWs[241]?).getD (0, 0, 0, 0)).1 = some (.code tY241.1 tY241.2.1 tM241.2.1 tY241.2.2) := rfl
theorem tk241 : eMok tCl lw_g tNs tMs tYs tM241 tY241 := kM_ok (q := (tWs[241]?).getD (0, 0, 0, 0)) (show ∀ ch ∈ tC241, _ from kE_ok (Y := tY241) td241 ta241) tw241 tm241
end
section
theorem td242 : tC242.all (fun ch => dCh tY242.2.1 (ch.map dTr)) = true := by decide +kernel
theorem td243 : tC243.all (fun ch => dCh tY243.2.1 (ch.map dTr)) = true := by decide +kernel
theorem td244 : tC244.all (fun ch => dCh tY244.2.1 (ch.map dTr)) = true := by decide +kernel
theorem td245 : tC245.all (fun ch => dCh tY245.2.1 (ch.map dTr)) = true := by decide +kernel
theorem td246 : tC246.all (fun ch => dCh tY246.2.1 (ch.map dTr)) = true := by decide +kernel
theorem td247 : tC247.all (fun ch => dCh tY247.2.1 (ch.map dTr)) = true := by decide +kernel
theorem td248 : tC248.all (fun ch => dCh tY248.2.1 (ch.map dTr)) = true := by decide +kernel
theorem td249 : tC249.all (fun ch => dCh tY249.2.1 (ch.map dTr)) = true := by decide +kernel
theorem td250 : tC250.all (fun ch => dCh tY250.2.1 (ch.map dTr)) = true := by decide +kernel
theorem td251 : tC251.all (fun ch => dCh tY251.2.1 (ch.map dTr)) = true := by decide +kernel
theorem td252 : tC252.all (fun ch => dCh tY252.2.1 (ch.map dTr)) = true := by decide +kernel
theorem td253 : tC253.all (fun ch => dCh tY253.2.1 (ch.map dTr)) = true := by decide +kernel
theorem td254 : tC254.all (fun ch => dCh tY254.2.1 (ch.map dTr)) = true := by decide +kernel
theorem td255 : tC255.all (fun ch => dCh tY255.2.1 (ch.map dTr)) = true := by decide +kernel
theorem td256 : tC256.all (fun ch => dCh tY256.2.1 (ch.map dTr)) = true := by decide +kernel
theorem td257 : tC257.all (fun ch => dCh tY257.2.1 (ch.map dTr)) = true := by decide +kernel
theorem td258 : tC258.all (fun ch => dCh tY258.2.1 (ch.map dTr)) = true := by decide +kernel
theorem td259 : tC259.all (fun ch => dCh tY259.2.1 (ch.map dTr)) = true := by decide +kernel
theorem td260 : tC260.all (fun ch => dCh tY260.2.1 (ch.map dTr)) = true := by decide +kernel
theorem td261 : tC261.all (fun ch => dCh tY261.2.1 (ch.map dTr)) = true := by decide +kernel
theorem td262 : tC262.all (fun ch => dCh tY262.2.1 (ch.map dTr)) = true := by decide +kernel
theorem td263 : tC263.all (fun ch => dCh tY263.2.1 (ch.map dTr)) = true := by decide +kernel
theorem td264 : tC264.all (fun ch => dCh tY264.2.1 (ch.map dTr)) = true := by decide +kernel
theorem td265 : tC265.all (fun ch => dCh tY265.2.1 (ch.map dTr)) = true := by decide +kernel
theorem td266 : tC266.all (fun ch => dCh tY266.2.1 (ch.map dTr)) = true := by decide +kernel
theorem td267 : tC267.all (fun ch => dCh tY267.2.1 (ch.map dTr)) = true := by decide +kernel
theorem td268 : tC268.all (fun ch => dCh tY268.2.1 (ch.map dTr)) = true := by decide +kernel
theorem td269 : tC269.all (fun ch => dCh tY269.2.1 (ch.map dTr)) = true := by decide +kernel
theorem td270 : tC270.all (fun ch => dCh tY270.2.1 (ch.map dTr)) = true := by decide +kernel
theorem td271 : tC271.all (fun ch => dCh tY271.2.1 (ch.map dTr)) = true := by decide +kernel
theorem td272 : tC272.all (fun ch => dCh tY272.2.1 (ch.map dTr)) = true := by decide +kernel
theorem td273 : tC273.all (fun ch => dCh tY273.2.1 (ch.map dTr)) = true := by decide +kernel
theorem td274 : tC274.all (fun ch => dCh tY274.2.1 (ch.map dTr)) = true := by decide +kernel
theorem td275 : tC275.all (fun ch => dCh tY275.2.1 (ch.map dTr)) = true := by decide +kernel
theorem td276 : tC276.all (fun ch => dCh tY276.2.1 (ch.map dTr)) = true := by decide +kernel
theorem td277 : tC277.all (fun ch => dCh tY277.2.1 (ch.map dTr)) = true := by decide +kernel
theorem td278 : tC278.all (fun ch => dCh tY278.2.1 (ch.map dTr)) = true := by decide +kernel
theorem ta242 : tC242.all (fun ch => ch.all (kFn tY242.1)) = true := kGa_ok tg_2 50 rfl
theorem tm242 : kM tM242 tY242 ((tWs[242]?).getD (0, 0, 0, 0)) = true := kGm_ok th_2 50 rfl
set_option maxRecDepth 20000 in
theorem tw242 : kW ((tWs[242]?).getD (0, 0, 0, 0)).1 = some (.code tY242.1 tY242.2.1 tM242.2.1 tY242.2.2) := rfl
theorem tk242 : eMok tCl lw_g tNs tMs tYs tM242 tY242 := kM_ok (q := (tWs[242]?).getD (0, 0, 0, 0)) (show ∀ ch ∈ tC242, _ from kE_ok (Y := tY242) td242 ta242) tw242 tm242
theorem ta243 : tC243.all (fun ch => ch.all (kFn tY243.1)) = true := kGa_ok tg_2 51 rfl
theorem tm243 : kM tM243 tY243 ((tWs[243]?).getD (0, 0, 0, 0)) = true := kGm_ok th_2 51 rfl
set_option maxRecDepth 20000 in
theorem tw243 : kW ((tWs[243]?).getD (0, 0, 0, 0)).1 = some (.code tY243.1 tY243.2.1 tM243.2.1 tY243.2.2) := rfl
theorem tk243 : eMok tCl lw_g tNs tMs tYs tM243 tY243 := kM_ok (q := (tWs[243]?).getD (0, 0, 0, 0)) (show ∀ ch ∈ tC243, _ from kE_ok (Y := tY243) td243 ta243) tw243 tm243
theorem ta244 : tC244.all (fun ch => ch.all (kFn tY244.1)) = true := kGa_ok tg_2 52 rfl
theorem tm244 : kM tM244 tY244 ((tWs[244]?).getD (0, 0, 0, 0)) = true := kGm_ok th_2 52 rfl
set_option maxRecDepth 20000 in
theorem tw244 : kW ((tWs[244]?).getD (0, 0, 0, 0)).1 = some (.code tY244.1 tY244.2.1 tM244.2.1 tY244.2.2) := rfl
theorem tk244 : eMok tCl lw_g tNs tMs tYs tM244 tY244 := kM_ok (q := (tWs[244]?).getD (0, 0, 0, 0)) (show ∀ ch ∈ tC244, _ from kE_ok (Y := tY244) td244 ta244) tw244 tm244
theorem ta245 : tC245.all (fun ch => ch.all (kFn tY245.1)) = true := kGa_ok tg_2 53 rfl
theorem tm245 : kM tM245 tY245 ((tWs[245]?).getD (0, 0, 0, 0)) = true := kGm_ok th_2 53 rfl
set_option maxRecDepth 20000 in
theorem tw245 : kW ((tWs[245]?).getD (0, 0, 0, 0)).1 = some (.code tY245.1 tY245.2.1 tM245.2.1 tY245.2.2) := rfl
theorem tk245 : eMok tCl lw_g tNs tMs tYs tM245 tY245 := kM_ok (q := (tWs[245]?).getD (0, 0, 0, 0)) (show ∀ ch ∈ tC245, _ from kE_ok (Y := tY245) td245 ta245) tw245 tm245
theorem ta246 : tC246.all (fun ch => ch.all (kFn tY246.1)) = true := kGa_ok tg_2 54 rfl
theorem tm246 : kM tM246 tY246 ((tWs[246]?).getD (0, 0, 0, 0)) = true := kGm_ok th_2 54 rfl
set_option maxRecDepth 20000 in
theorem tw246 : kW ((tWs[246]?).getD (0, 0, 0, 0)).1 = some (.code tY246.1 tY246.2.1 tM246.2.1 tY246.2.2) := rfl
theorem tk246 : eMok tCl lw_g tNs tMs tYs tM246 tY246 := kM_ok (q := (tWs[246]?).getD (0, 0, 0, 0)) (show ∀ ch ∈ tC246, _ from kE_ok (Y := tY246) td246 ta246) tw246 tm246
theorem ta247 : tC247.all (fun ch => ch.all (kFn tY247.1)) = true := kGa_ok tg_2 55 rfl
theorem tm247 : kM tM247 tY247 ((tWs[247]?).getD (0, 0, 0, 0)) = true := kGm_ok th_2 55 rfl
set_option maxRecDepth 20000 in
theorem tw247 : kW ((tWs[247]?).getD (0, 0, 0, 0)).1 = some (.code tY247.1 tY247.2.1 tM247.2.1 tY247.2.2) := rfl
theorem tk247 : eMok tCl lw_g tNs tMs tYs tM247 tY247 := kM_ok (q := (tWs[247]?).getD (0, 0, 0, 0)) (show ∀ ch ∈ tC247, _ from kE_ok (Y := tY247) td247 ta247) tw247 tm247
theorem ta248 : tC248.all (fun ch => ch.all (kFn tY248.1)) = true := kGa_ok tg_2 56 rfl
theorem tm248 : kM tM248 tY248 ((tWs[248]?).getD (0, 0, 0, 0)) = true := kGm_ok th_2 56 rfl
set_option maxRecDepth 20000 in
theorem tw248 : kW ((tWs[248]?).getD (0, 0, 0, 0)).1 = some (.code tY248.1 tY248.2.1 tM248.2.1 tY248.2.2) := rfl
theorem tk248 : eMok tCl lw_g tNs tMs tYs tM248 tY248 := kM_ok (q := (tWs[248]?).getD (0, 0, 0, 0)) (show ∀ ch ∈ tC248, _ from kE_ok (Y := tY248) td248 ta248) tw248 tm248
theorem ta249 : tC249.all (fun ch => ch.all (kFn tY249.1)) = true := kGa_ok tg_2 57 rfl
theorem tm249 : kM tM249 tY249 ((tWs[249]?).getD (0, 0, 0, 0)) = true := kGm_ok th_2 57 rfl
set_option maxRecDepth 20000 in
theorem tw249 : kW ((tWs[249]?).getD (0, 0, 0, 0)).1 = some (.code tY249.1 tY249.2.1 tM249.2.1 tY249.2.2) := rfl
theorem tk249 : eMok tCl lw_g tNs tMs tYs tM249 tY249 := kM_ok (q := (tWs[249]?).getD (0, 0, 0, 0)) (show ∀ ch ∈ tC249, _ from kE_ok (Y := tY249) td249 ta249) tw249 tm249
theorem ta250 : tC250.all (fun ch => ch.all (kFn tY250.1)) = true := kGa_ok tg_2 58 rfl
theorem tm250 : kM tM250 tY250 ((tWs[250]?).getD (0, 0, 0, 0)) = true := kGm_ok th_2 58 rfl
set_option maxRecDepth 20000 in
theorem tw250 : kW ((tWs[250]?).getD (0, 0, 0, 0)).1 = some (.code tY250.1 tY250.2.1 tM250.2.1 tY250.2.2) := rfl
theorem tk250 : eMok tCl lw_g tNs tMs tYs tM250 tY250 := kM_ok (q := (tWs[250]?).getD (0, 0, 0, 0)) (show ∀ ch ∈ tC250, _ from kE_ok (Y := tY250) td250 ta250) tw250 tm250
theorem ta251 : tC251.all (fun ch => ch.all (kFn tY251.1)) = true := kGa_ok tg_2 59 rfl
theorem tm251 : kM tM251 tY251 ((tWs[251]?).getD (0, 0, 0, 0)) = true := kGm_ok th_2 59 rfl
set_option maxRecDepth 20000 in
theorem tw251 : kW ((tWs[251]?).getD (0, 0, 0, 0)).1 = some (.code tY251.1 tY251.2.1 tM251.2.1 tY251.2.2) := rfl
theorem tk251 : eMok tCl lw_g tNs tMs tYs tM251 tY251 := kM_ok (q := (tWs[251]?).getD (0, 0, 0, 0)) (show ∀ ch ∈ tC251, _ from kE_ok (Y := tY251) td251 ta251) tw251 tm251
theorem ta252 : tC252.all (fun ch => ch.all (kFn tY252.1)) = true := kGa_ok tg_2 60 rfl
theorem tm252 : kM tM252 tY252 ((tWs[252]?).getD (0, 0, 0, 0)) = true := kGm_ok th_2 60 rfl
set_option maxRecDepth 20000 in
theorem tw252 : kW ((tWs[252]?).getD (0, 0, 0, 0)).1 = some (.code tY252.1 tY252.2.1 tM252.2.1 tY252.2.2) := rfl
theorem tk252 : eMok tCl lw_g tNs tMs tYs tM252 tY252 := kM_ok (q := (tWs[252]?).getD (0, 0, 0, 0)) (show ∀ ch ∈ tC252, _ from kE_ok (Y := tY252) td252 ta252) tw252 tm252
theorem ta253 : tC253.all (fun ch => ch.all (kFn tY253.1)) = true := kGa_ok tg_2 61 rfl
theorem tm253 : kM tM253 tY253 ((tWs[253]?).getD (0, 0, 0, 0)) = true := kGm_ok th_2 61 rfl
set_option maxRecDepth 20000 in
theorem tw253 : kW ((tWs[253]?).getD (0, 0, 0, 0)).1 = some (.code tY253.1 tY253.2.1 tM253.2.1 tY253.2.2) := rfl
theorem tk253 : eMok tCl lw_g tNs tMs tYs tM253 tY253 := kM_ok (q := (tWs[253]?).getD (0, 0, 0, 0)) (show ∀ ch ∈ tC253, _ from kE_ok (Y := tY253) td253 ta253) tw253 tm253
theorem ta254 : tC254.all (fun ch => ch.all (kFn tY254.1)) = true := kGa_ok tg_2 62 rfl
theorem tm254 : kM tM254 tY254 ((tWs[254]?).getD (0, 0, 0, 0)) = true := kGm_ok th_2 62 rfl
set_option maxRecDepth 20000 in
theorem tw254 : kW ((tWs[254]?).getD (0, 0, 0, 0)).1 = some (.code tY254.1 tY254.2.1 tM254.2.1 tY254.2.2) := rfl
theorem tk254 : eMok tCl lw_g tNs tMs tYs tM254 tY254 := kM_ok (q := (tWs[254]?).getD (0, 0, 0, 0)) (show ∀ ch ∈ tC254, _ from kE_ok (Y := tY254) td254 ta254) tw254 tm254
theorem ta255 : tC255.all (fun ch => ch.all (kFn tY255.1)) = true := kGa_ok tg_2 63 rfl
theorem tm255 : kM tM255 tY255 ((tWs[255]?).getD (0, 0, 0, 0)) = true := kGm_ok th_2 63 rfl
set_option maxRecDepth 20000 in
theorem tw255 : kW ((tWs[255]?).getD (0, 0, 0, 0)).1 = some (.code tY255.1 tY255.2.1 tM255.2.1 tY255.2.2) := rfl
theorem tk255 : eMok tCl lw_g tNs tMs tYs tM255 tY255 := kM_ok (q := (tWs[255]?).getD (0, 0, 0, 0)) (show ∀ ch ∈ tC255, _ from kE_ok (Y := tY255) td255 ta255) tw255 tm255
theorem ta256 : tC256.all (fun ch => ch.all (kFn tY256.1)) = true := kGa_ok tg_2 64 rfl
theorem tm256 : kM tM256 tY256 ((tWs[256]?).getD (0, 0, 0, 0)) = true := kGm_ok th_2 64 rfl
set_option maxRecDepth 20000 in
theorem tw256 : kW ((tWs[256]?).getD (0, 0, 0, 0)).1 = some (.code tY256.1 tY256.2.1 tM256.2.1 tY256.2.2) := rfl
theorem tk256 : eMok tCl lw_g tNs tMs tYs tM256 tY256 := kM_ok (q := (tWs[256]?).getD (0, 0, 0, 0)) (show ∀ ch ∈ tC256, _ from kE_ok (Y := tY256) td256 ta256) tw256 tm256
theorem ta257 : tC257.all (fun ch => ch.all (kFn tY257.1)) = true := kGa_ok tg_2 65 rfl
theorem tm257 : kM tM257 tY257 ((tWs[257]?).getD (0, 0, 0, 0)) = true := kGm_ok th_2 65 rfl
set_option maxRecDepth 20000 in
theorem tw257 : kW ((tWs[257]?).getD (0, 0, 0, 0)).1 = some (.code tY257.1 tY257.2.1 tM257.2.1 tY257.2.2) := rfl
theorem tk257 : eMok tCl lw_g tNs tMs tYs tM257 tY257 := kM_ok (q := (tWs[257]?).getD (0, 0, 0, 0)) (show ∀ ch ∈ tC257, _ from kE_ok (Y := tY257) td257 ta257) tw257 tm257
theorem ta258 : tC258.all (fun ch => ch.all (kFn tY258.1)) = true := kGa_ok tg_2 66 rfl
theorem tm258 : kM tM258 tY258 ((tWs[258]?).getD (0, 0, 0, 0)) = true := kGm_ok th_2 66 rfl
set_option maxRecDepth 20000 in
theorem tw258 : kW ((tWs[258]?).getD (0, 0, 0, 0)).1 = some (.code tY258.1 tY258.2.1 tM258.2.1 tY258.2.2) := rfl
theorem tk258 : eMok tCl lw_g tNs tMs tYs tM258 tY258 := kM_ok (q := (tWs[258]?).getD (0, 0, 0, 0)) (show ∀ ch ∈ tC258, _ from kE_ok (Y := tY258) td258 ta258) tw258 tm258
theorem ta259 : tC259.all (fun ch => ch.all (kFn tY259.1)) = true := kGa_ok tg_2 67 rfl
theorem tm259 : kM tM259 tY259 ((tWs[259]?).getD (0, 0, 0, 0)) = true := kGm_ok th_2 67 rfl
set_option maxRecDepth 20000 in
theorem tw259 : kW ((tWs[259]?).getD (0, 0, 0, 0)).1 = some (.code tY259.1 tY259.2.1 tM259.2.1 tY259.2.2) := rfl
theorem tk259 : eMok tCl lw_g tNs tMs tYs tM259 tY259 := kM_ok (q := (tWs[259]?).getD (0, 0, 0, 0)) (show ∀ ch ∈ tC259, _ from kE_ok (Y := tY259) td259 ta259) tw259 tm259
theorem ta260 : tC260.all (fun ch => ch.all (kFn tY260.1)) = true := kGa_ok tg_2 68 rfl
theorem tm260 : kM tM260 tY260 ((tWs[260]?).getD (0, 0, 0, 0)) = true := kGm_ok th_2 68 rfl
set_option maxRecDepth 20000 in
theorem tw260 : kW ((tWs[260]?).getD (0, 0, 0, 0)).1 = some (.code tY260.1 tY260.2.1 tM260.2.1 tY260.2.2) := rfl
theorem tk260 : eMok tCl lw_g tNs tMs tYs tM260 tY260 := kM_ok (q := (tWs[260]?).getD (0, 0, 0, 0)) (show ∀ ch ∈ tC260, _ from kE_ok (Y := tY260) td260 ta260) tw260 tm260
theorem ta261 : tC261.all (fun ch => ch.all (kFn tY261.1)) = true := kGa_ok tg_2 69 rfl
theorem tm261 : kM tM261 tY261 ((tWs[261]?).getD (0, 0, 0, 0)) = true := kGm_ok th_2 69 rfl
set_option maxRecDepth 20000 in
theorem tw261 : kW ((tWs[261]?).getD (0, 0, 0, 0)).1 = some (.code tY261.1 tY261.2.1 tM261.2.1 tY261.2.2) := rfl
theorem tk261 : eMok tCl lw_g tNs tMs tYs tM261 tY261 := kM_ok (q := (tWs[261]?).getD (0, 0, 0, 0)) (show ∀ ch ∈ tC261, _ from kE_ok (Y := tY261) td261 ta261) tw261 tm261
theorem ta262 : tC262.all (fun ch => ch.all (kFn tY262.1)) = true := kGa_ok tg_2 70 rfl
theorem tm262 : kM tM262 tY262 ((tWs[262]?).getD (0, 0, 0, 0)) = true := kGm_ok th_2 70 rfl
set_option maxRecDepth 20000 in
theorem tw262 : kW ((tWs[262]?).getD (0, 0, 0, 0)).1 = some (.code tY262.1 tY262.2.1 tM262.2.1 tY262.2.2) := rfl
theorem tk262 : eMok tCl lw_g tNs tMs tYs tM262 tY262 := kM_ok (q := (tWs[262]?).getD (0, 0, 0, 0)) (show ∀ ch ∈ tC262, _ from kE_ok (Y := tY262) td262 ta262) tw262 tm262
theorem ta263 : tC263.all (fun ch => ch.all (kFn tY263.1)) = true := kGa_ok tg_2 71 rfl
theorem tm263 : kM tM263 tY263 ((tWs[263]?).getD (0, 0, 0, 0)) = true := kGm_ok th_2 71 rfl
set_option maxRecDepth 20000 in
theorem tw263 : kW ((tWs[263]?).getD (0, 0, 0, 0)).1 = some (.code tY263.1 tY263.2.1 tM263.2.1 tY263.2.2) := rfl
theorem tk263 : eMok tCl lw_g tNs tMs tYs tM263 tY263 := kM_ok (q := (tWs[263]?).getD (0, 0, 0, 0)) (show ∀ ch ∈ tC263, _ from kE_ok (Y := tY263) td263 ta263) tw263 tm263
theorem ta264 : tC264.all (fun ch => ch.all (kFn tY264.1)) = true := kGa_ok tg_2 72 rfl
theorem tm264 : kM tM264 tY264 ((tWs[264]?).getD (0, 0, 0, 0)) = true := kGm_ok th_2 72 rfl
set_option maxRecDepth 20000 in
theorem tw264 : kW ((tWs[264]?).getD (0, 0, 0, 0)).1 = some (.code tY264.1 tY264.2.1 tM264.2.1 tY264.2.2) := rfl
theorem tk264 : eMok tCl lw_g tNs tMs tYs tM264 tY264 := kM_ok (q := (tWs[264]?).getD (0, 0, 0, 0)) (show ∀ ch ∈ tC264, _ from kE_ok (Y := tY264) td264 ta264) tw264 tm264
theorem ta265 : tC265.all (fun ch => ch.all (kFn tY265.1)) = true := kGa_ok tg_2 73 rfl
theorem tm265 : kM tM265 tY265 ((tWs[265]?).getD (0, 0, 0, 0)) = true := kGm_ok th_2 73 rfl
set_option maxRecDepth 20000 in
theorem tw265 : kW ((tWs[265]?).getD (0, 0, 0, 0)).1 = some (.code tY265.1 tY265.2.1 tM265.2.1 tY265.2.2) := rfl
theorem tk265 : eMok tCl lw_g tNs tMs tYs tM265 tY265 := kM_ok (q := (tWs[265]?).getD (0, 0, 0, 0)) (show ∀ ch ∈ tC265, _ from kE_ok (Y := tY265) td265 ta265) tw265 tm265
theorem ta266 : tC266.all (fun ch => ch.all (kFn tY266.1)) = true := kGa_ok tg_2 74 rfl
theorem tm266 : kM tM266 tY266 ((tWs[266]?).getD (0, 0, 0, 0)) = true := kGm_ok th_2 74 rfl
set_option maxRecDepth 20000 in
theorem tw266 : kW ((tWs[266]?).getD (0, 0, 0, 0)).1 = some (.code tY266.1 tY266.2.1 tM266.2.1 tY266.2.2) := rfl
theorem tk266 : eMok tCl lw_g tNs tMs tYs tM266 tY266 := kM_ok (q := (tWs[266]?).getD (0, 0, 0, 0)) (show ∀ ch ∈ tC266, _ from kE_ok (Y := tY266) td266 ta266) tw266 tm266
theorem ta267 : tC267.all (fun ch => ch.all (kFn tY267.1)) = true := kGa_ok tg_2 75 rfl
theorem tm267 : kM tM267 tY267 ((tWs[267]?).getD (0, 0, 0, 0)) = true := kGm_ok th_2 75 rfl
set_option maxRecDepth 20000 in
theorem tw267 : kW ((tWs[267]?).getD (0, 0, 0, 0)).1 = some (.code tY267.1 tY267.2.1 tM267.2.1 tY267.2.2) := rfl
theorem tk267 : eMok tCl lw_g tNs tMs tYs tM267 tY267 := kM_ok (q := (tWs[267]?).getD (0, 0, 0, 0)) (show ∀ ch ∈ tC267, _ from kE_ok (Y := tY267) td267 ta267) tw267 tm267
theorem ta268 : tC268.all (fun ch => ch.all (kFn tY268.1)) = true := kGa_ok tg_2 76 rfl
theorem tm268 : kM tM268 tY268 ((tWs[268]?).getD (0, 0, 0, 0)) = true := kGm_ok th_2 76 rfl
set_option maxRecDepth 20000 in
theorem tw268 : kW ((tWs[268]?).getD (0, 0, 0, 0)).1 = some (.code tY268.1 tY268.2.1 tM268.2.1 tY268.2.2) := rfl
theorem tk268 : eMok tCl lw_g tNs tMs tYs tM268 tY268 := kM_ok (q := (tWs[268]?).getD (0, 0, 0, 0)) (show ∀ ch ∈ tC268, _ from kE_ok (Y := tY268) td268 ta268) tw268 tm268
theorem ta269 : tC269.all (fun ch => ch.all (kFn tY269.1)) = true := kGa_ok tg_2 77 rfl
theorem tm269 : kM tM269 tY269 ((tWs[269]?).getD (0, 0, 0, 0)) = true := kGm_ok th_2 77 rfl
set_option maxRecDepth 20000 in
theorem tw269 : kW ((tWs[269]?).getD (0, 0, 0, 0)).1 = some (.code tY269.1 tY269.2.1 tM269.2.1 tY269.2.2) := rfl
theorem tk269 : eMok tCl lw_g tNs tMs tYs tM269 tY269 := kM_ok (q := (tWs[269]?).getD (0, 0, 0, 0)) (show ∀ ch ∈ tC269, _ from kE_ok (Y := tY269) td269 ta269) tw269 tm269
theorem ta270 : tC270.all (fun ch => ch.all (kFn tY270.1)) = true := kGa_ok tg_2 78 rfl
theorem tm270 : kM tM270 tY270 ((tWs[270]?).getD (0, 0, 0, 0)) = true := kGm_ok th_2 78 rfl
set_option maxRecDepth 20000 in
theorem tw270 : kW ((tWs[270]?).getD (0, 0, 0, 0)).1 = some (.code tY270.1 tY270.2.1 tM270.2.1 tY270.2.2) := rfl
theorem tk270 : eMok tCl lw_g tNs tMs tYs tM270 tY270 := kM_ok (q := (tWs[270]?).getD (0, 0, 0, 0)) (show ∀ ch ∈ tC270, _ from kE_ok (Y := tY270) td270 ta270) tw270 tm270
theorem ta271 : tC271.all (fun ch => ch.all (kFn tY271.1)) = true := kGa_ok tg_2 79 rfl
theorem tm271 : kM tM271 tY271 ((tWs[271]?).getD (0, 0, 0, 0)) = true := kGm_ok th_2 79 rfl
set_option maxRecDepth 20000 in
theorem tw271 : kW ((tWs[271]?).getD (0, 0, 0, 0)).1 = some (.code tY271.1 tY271.2.1 tM271.2.1 tY271.2.2) := rfl
theorem tk271 : eMok tCl lw_g tNs tMs tYs tM271 tY271 := kM_ok (q := (tWs[271]?).getD (0, 0, 0, 0)) (show ∀ ch ∈ tC271, _ from kE_ok (Y := tY271) td271 ta271) tw271 tm271
theorem ta272 : tC272.all (fun ch => ch.all (kFn tY272.1)) = true := kGa_ok tg_2 80 rfl
theorem tm272 : kM tM272 tY272 ((tWs[272]?).getD (0, 0, 0, 0)) = true := kGm_ok th_2 80 rfl
set_option maxRecDepth 20000 in
theorem tw272 : kW ((tWs[272]?).getD (0, 0, 0, 0)).1 = some (.code tY272.1 tY272.2.1 tM272.2.1 tY272.2.2) := rfl
theorem tk272 : eMok tCl lw_g tNs tMs tYs tM272 tY272 := kM_ok (q := (tWs[272]?).getD (0, 0, 0, 0)) (show ∀ ch ∈ tC272, _ from kE_ok (Y := tY272) td272 ta272) tw272 tm272
theorem ta273 : tC273.all (fun ch => ch.all (kFn tY273.1)) = true := kGa_ok tg_2 81 rfl
theorem tm273 : kM tM273 tY273 ((tWs[273]?).getD (0, 0, 0, 0)) = true := kGm_ok th_2 81 rfl
set_option maxRecDepth 20000 in
theorem tw273 : kW ((tWs[273]?).getD (0, 0, 0, 0)).1 = some (.code tY273.1 tY273.2.1 tM273.2.1 tY273.2.2) := rfl
theorem tk273 : eMok tCl lw_g tNs tMs tYs tM273 tY273 := kM_ok (q := (tWs[273]?).getD (0, 0, 0, 0)) (show ∀ ch ∈ tC273, _ from kE_ok (Y := tY273) td273 ta273) tw273 tm273
theorem ta274 : tC274.all (fun ch => ch.all (kFn tY274.1)) = true := kGa_ok tg_2 82 rfl
theorem tm274 : kM tM274 tY274 ((tWs[274]?).getD (0, 0, 0, 0)) = true := kGm_ok th_2 82 rfl
set_option maxRecDepth 20000 in
theorem tw274 : kW ((tWs[274]?).getD (0, 0, 0, 0)).1 = some (.code tY274.1 tY274.2.1 tM274.2.1 tY274.2.2) := rfl
theorem tk274 : eMok tCl lw_g tNs tMs tYs tM274 tY274 := kM_ok (q := (tWs[274]?).getD (0, 0, 0, 0)) (show ∀ ch ∈ tC274, _ from kE_ok (Y := tY274) td274 ta274) tw274 tm274
theorem ta275 : tC275.all (fun ch => ch.all (kFn tY275.1)) = true := kGa_ok tg_2 83 rfl
theorem tm275 : kM tM275 tY275 ((tWs[275]?).getD (0, 0, 0, 0)) = true := kGm_ok th_2 83 rfl
set_option maxRecDepth 20000 in
theorem tw275 : kW ((tWs[275]?).getD (0, 0, 0, 0)).1 = some (.code tY275.1 tY275.2.1 tM275.2.1 tY275.2.2) := rfl
theorem tk275 : eMok tCl lw_g tNs tMs tYs tM275 tY275 := kM_ok (q := (tWs[275]?).getD (0, 0, 0, 0)) (show ∀ ch ∈ tC275, _ from kE_ok (Y := tY275) td275 ta275) tw275 tm275
theorem ta276 : tC276.all (fun ch => ch.all (kFn tY276.1)) = true := kGa_ok tg_2 84 rfl
theorem tm276 : kM tM276 tY276 ((tWs[276]?).getD (0, 0, 0, 0)) = true := kGm_ok th_2 84 rfl
set_option maxRecDepth 20000 in
theorem tw276 : kW ((tWs[276]?).getD (0, 0, 0, 0)).1 = some (.code tY276.1 tY276.2.1 tM276.2.1 tY276.2.2) := rfl
theorem tk276 : eMok tCl lw_g tNs tMs tYs tM276 tY276 := kM_ok (q := (tWs[276]?).getD (0, 0, 0, 0)) (show ∀ ch ∈ tC276, _ from kE_ok (Y := tY276) td276 ta276) tw276 tm276
theorem ta277 : tC277.all (fun ch => ch.all (kFn tY277.1)) = true := kGa_ok tg_2 85 rfl
theorem tm277 : kM tM277 tY277 ((tWs[277]?).getD (0, 0, 0, 0)) = true := kGm_ok th_2 85 rfl
set_option maxRecDepth 20000 in
theorem tw277 : kW ((tWs[277]?).getD (0, 0, 0, 0)).1 = some (.code tY277.1 tY277.2.1 tM277.2.1 tY277.2.2) := rfl
theorem tk277 : eMok tCl lw_g tNs tMs tYs tM277 tY277 := kM_ok (q := (tWs[277]?).getD (0, 0, 0, 0)) (show ∀ ch ∈ tC277, _ from kE_ok (Y := tY277) td277 ta277) tw277 tm277
theorem ta278 : tC278.all (fun ch => ch.all (kFn tY278.1)) = true := kGa_ok tg_2 86 rfl
theorem tm278 : kM tM278 tY278 ((tWs[278]?).getD (0, 0, 0, 0)) = true := kGm_ok th_2 86 rfl
set_option maxRecDepth 20000 in
theorem tw278 : kW ((tWs[278]?).getD (0, 0, 0, 0)).1 = some (.code tY278.1 tY278.2.1 tM278.2.1 tY278.2.2) := rfl
theorem tk278 : eMok tCl lw_g tNs tMs tYs tM278 tY278 := kM_ok (q := (tWs[278]?).getD (0, 0, 0, 0)) (show ∀ ch ∈ tC278, _ from kE_ok (Y := tY278) td278 ta278) tw278 tm278
end
section
theorem td279 : tC279.all (fun ch => dCh tY279.2.1 (ch.map dTr)) = true := by decide +kernel
theorem td280 : tC280.all (fun ch => dCh tY280.2.1 (ch.map dTr)) = true := by decide +kernel
theorem td281 : tC281.all (fun ch => dCh tY281.2.1 (ch.map dTr)) = true := by decide +kernel
theorem td282 : tC282.all (fun ch => dCh tY282.2.1 (ch.map dTr)) = true := by decide +kernel
theorem td283 : tC283.all (fun ch => dCh tY283.2.1 (ch.map dTr)) = true := by decide +kernel
theorem td284 : tC284.all (fun ch => dCh tY284.2.1 (ch.map dTr)) = true := by decide +kernel
theorem td285 : tC285.all (fun ch => dCh tY285.2.1 (ch.map dTr)) = true := by decide +kernel
theorem td286 : tC286.all (fun ch => dCh tY286.2.1 (ch.map dTr)) = true := by decide +kernel
theorem ta279 : tC279.all (fun ch => ch.all (kFn tY279.1)) = true := kGa_ok tg_2 87 rfl
theorem tm279 : kM tM279 tY279 ((tWs[279]?).getD (0, 0, 0, 0)) = true := kGm_ok th_2 87 rfl
set_option maxRecDepth 20000 in
theorem tw279 : kW ((tWs[279]?).getD (0, 0, 0, 0)).1 = some (.code tY279.1 tY279.2.1 tM279.2.1 tY279.2.2) := rfl
theorem tk279 : eMok tCl lw_g tNs tMs tYs tM279 tY279 := kM_ok (q := (tWs[279]?).getD (0, 0, 0, 0)) (show ∀ ch ∈ tC279, _ from kE_ok (Y := tY279) td279 ta279) tw279 tm279
theorem ta280 : tC280.all (fun ch => ch.all (kFn tY280.1)) = true := kGa_ok tg_2 88 rfl
theorem tm280 : kM tM280 tY280 ((tWs[280]?).getD (0, 0, 0, 0)) = true := kGm_ok th_2 88 rfl
set_option maxRecDepth 20000 in
theorem tw280 : kW ((tWs[280]?).getD (0, 0, 0, 0)).1 = some (.code tY280.1 tY280.2.1 tM280.2.1 tY280.2.2) := rfl
theorem tk280 : eMok tCl lw_g tNs tMs tYs tM280 tY280 := kM_ok (q := (tWs[280]?).getD (0, 0, 0, 0)) (show ∀ ch ∈ tC280, _ from kE_ok (Y := tY280) td280 ta280) tw280 tm280
theorem ta281 : tC281.all (fun ch => ch.all (kFn tY281.1)) = true := kGa_ok tg_2 89 rfl
theorem tm281 : kM tM281 tY281 ((tWs[281]?).getD (0, 0, 0, 0)) = true := kGm_ok th_2 89 rfl
set_option maxRecDepth 20000 in
theorem tw281 : kW ((tWs[281]?).getD (0, 0, 0, 0)).1 = some (.code tY281.1 tY281.2.1 tM281.2.1 tY281.2.2) := rfl
theorem tk281 : eMok tCl lw_g tNs tMs tYs tM281 tY281 := kM_ok (q := (tWs[281]?).getD (0, 0, 0, 0)) (show ∀ ch ∈ tC281, _ from kE_ok (Y := tY281) td281 ta281) tw281 tm281
theorem ta282 : tC282.all (fun ch => ch.all (kFn tY282.1)) = true := kGa_ok tg_2 90 rfl
theorem tm282 : kM tM282 tY282 ((tWs[282]?).getD (0, 0, 0, 0)) = true := kGm_ok th_2 90 rfl
set_option maxRecDepth 20000 in
theorem tw282 : kW ((tWs[282]?).getD (0, 0, 0, 0)).1 = some (.code tY282.1 tY282.2.1 tM282.2.1 tY282.2.2) := rfl
theorem tk282 : eMok tCl lw_g tNs tMs tYs tM282 tY282 := kM_ok (q := (tWs[282]?).getD (0, 0, 0, 0)) (show ∀ ch ∈ tC282, _ from kE_ok (Y := tY282) td282 ta282) tw282 tm282
theorem ta283 : tC283.all (fun ch => ch.all (kFn tY283.1)) = true := kGa_ok tg_2 91 rfl
theorem tm283 : kM tM283 tY283 ((tWs[283]?).getD (0, 0, 0, 0)) = true := kGm_ok th_2 91 rfl
set_option maxRecDepth 20000 in
theorem tw283 : kW ((tWs[283]?).getD (0, 0, 0, 0)).1 = some (.code tY283.1 tY283.2.1 tM283.2.1 tY283.2.2) := rfl
theorem tk283 : eMok tCl lw_g tNs tMs tYs tM283 tY283 := kM_ok (q := (tWs[283]?).getD (0, 0, 0, 0)) (show ∀ ch ∈ tC283, _ from kE_ok (Y := tY283) td283 ta283) tw283 tm283
theorem ta284 : tC284.all (fun ch => ch.all (kFn tY284.1)) = true := kGa_ok tg_2 92 rfl
theorem tm284 : kM tM284 tY284 ((tWs[284]?).getD (0, 0, 0, 0)) = true := kGm_ok th_2 92 rfl
set_option maxRecDepth 20000 in
theorem tw284 : kW ((tWs[284]?).getD (0, 0, 0, 0)).1 = some (.code tY284.1 tY284.2.1 tM284.2.1 tY284.2.2) := rfl
theorem tk284 : eMok tCl lw_g tNs tMs tYs tM284 tY284 := kM_ok (q := (tWs[284]?).getD (0, 0, 0, 0)) (show ∀ ch ∈ tC284, _ from kE_ok (Y := tY284) td284 ta284) tw284 tm284
theorem ta285 : tC285.all (fun ch => ch.all (kFn tY285.1)) = true := kGa_ok tg_2 93 rfl
theorem tm285 : kM tM285 tY285 ((tWs[285]?).getD (0, 0, 0, 0)) = true := kGm_ok th_2 93 rfl
set_option maxRecDepth 20000 in
theorem tw285 : kW ((tWs[285]?).getD (0, 0, 0, 0)).1 = some (.code tY285.1 tY285.2.1 tM285.2.1 tY285.2.2) := rfl
theorem tk285 : eMok tCl lw_g tNs tMs tYs tM285 tY285 := kM_ok (q := (tWs[285]?).getD (0, 0, 0, 0)) (show ∀ ch ∈ tC285, _ from kE_ok (Y := tY285) td285 ta285) tw285 tm285
theorem ta286 : tC286.all (fun ch => ch.all (kFn tY286.1)) = true := kGa_ok tg_2 94 rfl
theorem tm286 : kM tM286 tY286 ((tWs[286]?).getD (0, 0, 0, 0)) = true := kGm_ok th_2 94 rfl
set_option maxRecDepth 20000 in
theorem tw286 : kW ((tWs[286]?).getD (0, 0, 0, 0)).1 = some (.code tY286.1 tY286.2.1 tM286.2.1 tY286.2.2) := rfl
theorem tk286 : eMok tCl lw_g tNs tMs tYs tM286 tY286 := kM_ok (q := (tWs[286]?).getD (0, 0, 0, 0)) (show ∀ ch ∈ tC286, _ from kE_ok (Y := tY286) td286 ta286) tw286 tm286
end
section
set_option maxRecDepth 100000 in
theorem tOk : eAll (eMok tCl lw_g tNs tMs tYs) tMs tYs := ⟨tk0, ⟨tk1, ⟨tk2, ⟨tk3, ⟨tk4, ⟨tk5, ⟨tk6, ⟨tk7, ⟨tk8, ⟨tk9, ⟨tk10, ⟨tk11, ⟨tk12, ⟨tk13, ⟨tk14, ⟨tk15, ⟨tk16, ⟨tk17, ⟨tk18, ⟨tk19, ⟨tk20, ⟨tk21, ⟨tk22, ⟨tk23, ⟨tk24, ⟨tk25, ⟨tk26, ⟨tk27, ⟨tk28, ⟨tk29, ⟨tk30, ⟨tk31, ⟨tk32, ⟨tk33, ⟨tk34, ⟨tk35, ⟨tk36, ⟨tk37, ⟨tk38, ⟨tk39, ⟨tk40, ⟨tk41, ⟨tk42, ⟨tk43, ⟨tk44, ⟨tk45, ⟨tk46, ⟨tk47, ⟨tk48, ⟨tk49, ⟨tk50, ⟨tk51, ⟨tk52, ⟨tk53, ⟨tk54, ⟨tk55, ⟨tk56, ⟨tk57, ⟨tk58, ⟨tk59, ⟨tk60, ⟨tk61, ⟨tk62, ⟨tk63, ⟨tk64, ⟨tk65, ⟨tk66, ⟨tk67, ⟨tk68, ⟨tk69, ⟨tk70, ⟨tk71, ⟨tk72, ⟨tk73, ⟨tk74, ⟨tk75, ⟨tk76, ⟨tk77, ⟨tk78, ⟨tk79, ⟨tk80, ⟨tk81, ⟨tk82, ⟨tk83, ⟨tk84, ⟨tk85, ⟨tk86, ⟨tk87, ⟨tk88, ⟨tk89, ⟨tk90, ⟨tk91, ⟨tk92, ⟨tk93, ⟨tk94, ⟨tk95, ⟨tk96, ⟨tk97, ⟨tk98, ⟨tk99, ⟨tk100, ⟨tk101, ⟨tk102, ⟨tk103, ⟨tk104, ⟨tk105, ⟨tk106, ⟨tk107, ⟨tk108, ⟨tk109, ⟨tk110, ⟨tk111, ⟨tk112, ⟨tk113, ⟨tk114, ⟨tk115, ⟨tk116, ⟨tk117, ⟨tk118, ⟨tk119, ⟨tk120, ⟨tk121, ⟨tk122, ⟨tk123, ⟨tk124, ⟨tk125, ⟨tk126, ⟨tk127, ⟨tk128, ⟨tk129, ⟨tk130, ⟨tk131, ⟨tk132, ⟨tk133, ⟨tk134, ⟨tk135, ⟨tk136, ⟨tk137, ⟨tk138, ⟨tk139, ⟨tk140, ⟨tk141, ⟨tk142, ⟨tk143, ⟨tk144, ⟨tk145, ⟨tk146, ⟨tk147, ⟨tk148, ⟨tk149, ⟨tk150, ⟨tk151, ⟨tk152, ⟨tk153, ⟨tk154, ⟨tk155, ⟨tk156, ⟨tk157, ⟨tk158, ⟨tk159, ⟨tk160, ⟨tk161, ⟨tk162, ⟨tk163, ⟨tk164, ⟨tk165, ⟨tk166, ⟨tk167, ⟨tk168, ⟨tk169, ⟨tk170, ⟨tk171, ⟨tk172, ⟨tk173, ⟨tk174, ⟨tk175, ⟨tk176, ⟨tk177, ⟨tk178, ⟨tk179, ⟨tk180, ⟨tk181, ⟨tk182, ⟨tk183, ⟨tk184, ⟨tk185, ⟨tk186, ⟨tk187, ⟨tk188, ⟨tk189, ⟨tk190, ⟨tk191, ⟨tk192, ⟨tk193, ⟨tk194, ⟨tk195, ⟨tk196, ⟨tk197, ⟨tk198, ⟨tk199, ⟨tk200, ⟨tk201, ⟨tk202, ⟨tk203, ⟨tk204, ⟨tk205, ⟨tk206, ⟨tk207, ⟨tk208, ⟨tk209, ⟨tk210, ⟨tk211, ⟨tk212, ⟨tk213, ⟨tk214, ⟨tk215, ⟨tk216, ⟨tk217, ⟨tk218, ⟨tk219, ⟨tk220, ⟨tk221, ⟨tk222, ⟨tk223, ⟨tk224, ⟨tk225, ⟨tk226, ⟨tk227, ⟨tk228, ⟨tk229, ⟨tk230, ⟨tk231, ⟨tk232, ⟨tk233, ⟨tk234, ⟨tk235, ⟨tk236, ⟨tk237, ⟨tk238, ⟨tk239, ⟨tk240, ⟨tk241, ⟨tk242, ⟨tk243, ⟨tk244, ⟨tk245, ⟨tk246, ⟨tk247, ⟨tk248, ⟨tk249, ⟨tk250, ⟨tk251, ⟨tk252, ⟨tk253, ⟨tk254, ⟨tk255, ⟨tk256, ⟨tk257, ⟨tk258, ⟨tk259, ⟨tk260, ⟨tk261, ⟨tk262, ⟨tk263, ⟨tk264, ⟨tk265, ⟨tk266, ⟨tk267, ⟨tk268, ⟨tk269, ⟨tk270, ⟨tk271, ⟨tk272, ⟨tk273, ⟨tk274, ⟨tk275, ⟨tk276, ⟨tk277, ⟨tk278, ⟨tk279, ⟨tk280, ⟨tk281, ⟨tk282, ⟨tk283, ⟨tk284, ⟨tk285, ⟨tk286, trivial⟩⟩⟩⟩⟩⟩⟩⟩⟩⟩⟩⟩⟩⟩⟩⟩⟩⟩⟩⟩⟩⟩⟩⟩⟩⟩⟩⟩⟩⟩⟩⟩⟩⟩⟩⟩⟩⟩⟩⟩⟩⟩⟩⟩⟩⟩⟩⟩⟩⟩⟩⟩⟩⟩⟩⟩⟩⟩⟩⟩⟩⟩⟩⟩⟩⟩⟩⟩⟩⟩⟩⟩⟩⟩⟩⟩⟩⟩⟩⟩⟩⟩⟩⟩⟩⟩⟩⟩⟩⟩⟩⟩⟩⟩⟩⟩⟩⟩⟩⟩⟩⟩⟩⟩⟩⟩⟩⟩⟩⟩⟩⟩⟩⟩⟩⟩⟩⟩⟩⟩⟩⟩⟩⟩⟩⟩⟩⟩⟩⟩⟩⟩⟩⟩⟩⟩⟩⟩⟩⟩⟩⟩⟩⟩⟩⟩⟩⟩⟩⟩⟩⟩⟩⟩⟩⟩⟩⟩⟩⟩⟩⟩⟩⟩⟩⟩⟩⟩⟩⟩⟩⟩⟩⟩⟩⟩⟩⟩⟩⟩⟩⟩⟩⟩⟩⟩⟩⟩⟩⟩⟩⟩⟩⟩⟩⟩⟩⟩⟩⟩⟩⟩⟩⟩⟩⟩⟩⟩⟩⟩⟩⟩⟩⟩⟩⟩⟩⟩⟩⟩⟩⟩⟩⟩⟩⟩⟩⟩⟩⟩⟩⟩⟩⟩⟩⟩⟩⟩⟩⟩⟩⟩⟩⟩⟩⟩⟩⟩⟩⟩⟩⟩⟩⟩⟩⟩⟩⟩⟩⟩⟩⟩⟩⟩⟩⟩⟩⟩⟩⟩⟩⟩⟩⟩⟩⟩⟩⟩⟩⟩⟩⟩⟩⟩⟩⟩⟩
end
section
/-! THE PLAIN MACHINE: the cells have a fixed shape (tSh), what is in them is a function of cell and place; the text's field is set or not. Printed by wip/p34/mk38.py. -/
abbrev dM : Type := (Nat → Nat → Int32) × (Nat → Nat → Int64) × Bool
/-- the words, as rows 42 and 77 hold them for ever -/
def tWd : List Int64 := [126893, 459761, 15827, 148870, 6888374364, 1903978, 316351, 10524038, 1896526, 377761, 249, 399641, 107681, 247162, 259212373, 923, 168984, 2968, 29611, 289903041, 79958, 12387257]
def tKv (j : Nat) : Int64 := tWd.getD j 0
def dLg (m : dM) (k : Nat) : Nat → Int64 := cond (Nat.beq k 42 || Nat.beq k 77) tKv (m.2.1 k)
abbrev dS : Type := (Nat × List (Option (Option Nat))) ⊕ ((Nat × Nat) ⊕ (Nat ⊕ List Nat))
def dFv (m : dM) (k j : Nat) (f : Option (Option Nat)) : cV := match f with
  | none => .inl (m.1 k j)
  | some none => .inr (.inr (cond m.2.2 (some 1) none))
  | some (some r) => .inr (.inr (some r))
def dFs (m : dM) (k : Nat) : Nat → List (Option (Option Nat)) → List cV
  | _, [] => []
  | j, f :: fs => dFv m k j f :: dFs m k (j + 1) fs
def dC (m : dM) (k : Nat) (s : dS) : cC := match s with
  | .inl o => .inl (o.1, dFs m k 0 o.2)
  | .inr (.inl a) => .inr (.inl (a.1, a.2, m.1 k))
  | .inr (.inr (.inl n)) => .inr (.inr (.inl (n, dLg m k)))
  | .inr (.inr (.inr rs)) => .inr (.inr (.inr (rs.length, fun j => rs[j]?)))
def dCs (m : dM) : Nat → List dS → cH
  | _, [] => []
  | k, s :: sh => dC m k s :: dCs m (k + 1) sh
theorem dFs_at (m : dM) (k : Nat) : ∀ (fs : List (Option (Option Nat))) (j i : Nat), (dFs m k j fs)[i]? = (fs[i]?).map (dFv m k (j + i))
  | [], j, i => by simp [dFs]
  | f :: fs, j, 0 => by simp [dFs]
  | f :: fs, j, i + 1 => by
    simp only [dFs, List.getElem?_cons_succ]
    rw [dFs_at m k fs (j + 1) i, show j + 1 + i = j + (i + 1) by omega]
theorem dCs_at (m : dM) : ∀ (sh : List dS) (k i : Nat), (dCs m k sh)[i]? = (sh[i]?).map (dC m (k + i))
  | [], k, i => by simp [dCs]
  | s :: sh, k, 0 => by simp [dCs]
  | s :: sh, k, i + 1 => by
    simp only [dCs, List.getElem?_cons_succ]
    rw [dCs_at m sh (k + 1) i, show k + 1 + i = k + (i + 1) by omega]
theorem dFs_congr {m m' : dM} {k : Nat} (h1 : m'.1 k = m.1 k) (h3 : m'.2.2 = m.2.2) : ∀ (j : Nat) (fs : List (Option (Option Nat))), dFs m' k j fs = dFs m k j fs
  | _, [] => rfl
  | j, f :: fs => by
    simp only [dFs]
    rw [dFs_congr h1 h3 (j + 1) fs]
    congr 1
    match f with
    | none => simp [dFv, h1]
    | some none => simp [dFv, h3]
    | some (some r) => rfl
theorem dC_congr {m m' : dM} {k : Nat} (h1 : m'.1 k = m.1 k) (h2 : m'.2.1 k = m.2.1 k) (h3 : m'.2.2 = m.2.2) (s : dS) : dC m' k s = dC m k s := by
  match s with
  | .inl o => simp [dC, dFs_congr h1 h3]
  | .inr (.inl a) => simp [dC, h1]
  | .inr (.inr (.inl n)) => simp [dC, dLg, h2]
  | .inr (.inr (.inr rs)) => rfl
theorem dCs_set {m m' : dM} {sh : List dS} {i : Nat} {c : cC} (h1 : ∀ j, j ≠ i → m'.1 j = m.1 j ∧ m'.2.1 j = m.2.1 j) (h3 : m'.2.2 = m.2.2) (h2 : ∀ s, sh[i]? = some s → dC m' i s = c) : (dCs m 0 sh).set i c = dCs m' 0 sh := by
  apply List.ext_getElem?
  intro j
  rw [List.getElem?_set, dCs_at]
  by_cases hj : i = j
  · subst hj
    rw [if_pos rfl]
    cases hs : sh[i]? with
    | none =>
      have hl : sh.length ≤ i := List.getElem?_eq_none_iff.mp hs
      have hl2 : ∀ (sh : List dS) (k : Nat), (dCs m k sh).length = sh.length := by
        intro sh
        induction sh with
        | nil => intro k; rfl
        | cons s sh ih => intro k; simp [dCs, ih]
      rw [if_neg (by rw [hl2]; omega), dCs_at, hs]
      rfl
    | some s =>
      have hl : i < sh.length := (List.getElem?_eq_some_iff.mp hs).1
      have hl2 : ∀ (sh : List dS) (k : Nat), (dCs m k sh).length = sh.length := by
        intro sh
        induction sh with
        | nil => intro k; rfl
        | cons s sh ih => intro k; simp [dCs, ih]
      rw [if_pos (by rw [hl2]; omega), dCs_at, hs]
      simp only [Option.map_some, Nat.zero_add]
      rw [h2 s hs]
  · rw [if_neg hj, dCs_at]
    cases hs : sh[j]? with
    | none => rfl
    | some s =>
      simp only [Option.map_some, Nat.zero_add]
      obtain ⟨g1, g2⟩ := h1 j (fun e => hj e.symm)
      rw [dC_congr g1 g2 h3]
def dSet (m : dM) (k j : Nat) (v : Int32) : dM := (fun a b => cond (Nat.beq a k && Nat.beq b j) v (m.1 a b), m.2)
def dSetL (m : dM) (k j : Nat) (v : Int64) : dM := (m.1, fun a b => cond (Nat.beq a k && Nat.beq b j) v (m.2.1 a b), m.2.2)
def dTx (m : dM) : dM := (m.1, m.2.1, true)
def dCpy (m : dM) (k0 sp k1 dp n : Nat) : dM := (fun a b => cond (Nat.beq a k1) (va_cpy (m.1 k0) (m.1 k1) sp dp n b) (m.1 a b), m.2)
theorem d_beq {a b : Nat} (h : a ≠ b) : Nat.beq a b = false := by
  cases hb : Nat.beq a b with
  | true => exact absurd (Nat.eq_of_beq_eq_true hb) h
  | false => rfl
theorem dSet_s (m : dM) (k j : Nat) (v : Int32) : (dSet m k j v).1 k j = v := by simp [dSet]
theorem dSet_k {m : dM} {k j a : Nat} {v : Int32} (h : a ≠ k) : (dSet m k j v).1 a = m.1 a := by
  funext b
  simp [dSet, d_beq h]
theorem dSet_j {m : dM} {k j a b : Nat} {v : Int32} (h : b ≠ j) : (dSet m k j v).1 a b = m.1 a b := by simp [dSet, d_beq h]
theorem dSet_f {m : dM} {k j : Nat} {v : Int32} : (dSet m k j v).1 k = upd (m.1 k) j v := by
  funext b
  unfold upd
  by_cases h : b = j
  · subst h; rw [if_pos rfl, dSet_s]
  · rw [if_neg h, dSet_j h]
theorem dSet_e (m : dM) (k j : Nat) (v : Int32) (a b : Nat) : (dSet m k j v).1 a b = if a = k ∧ b = j then v else m.1 a b := by
  by_cases h : a = k
  · subst h
    by_cases h2 : b = j
    · subst h2; rw [dSet_s, if_pos ⟨rfl, rfl⟩]
    · rw [dSet_j h2, if_neg (fun q => h2 q.2)]
  · rw [dSet_k h, if_neg (fun q => h q.1)]
theorem dSetL_e (m : dM) (k j : Nat) (v : Int64) (a b : Nat) : (dSetL m k j v).2.1 a b = if a = k ∧ b = j then v else m.2.1 a b := by
  by_cases h : a = k
  · subst h
    by_cases h2 : b = j
    · subst h2; simp [dSetL]
    · simp [dSetL, d_beq h2, h2]
  · simp [dSetL, d_beq h, h]
theorem dCpy_e (m : dM) (k0 sp k1 dp n a b : Nat) : (dCpy m k0 sp k1 dp n).1 a b = if a = k1 ∧ dp ≤ b ∧ b < dp + n then m.1 k0 (sp + (b - dp)) else m.1 a b := by
  by_cases h : a = k1
  · subst h
    simp only [dCpy, Nat.beq_refl, cond_true, va_cpy]
    by_cases h2 : dp ≤ b ∧ b < dp + n
    · rw [if_pos h2, if_pos ⟨trivial, h2⟩]
    · rw [if_neg h2, if_neg (fun q => h2 q.2)]
  · rw [if_neg (fun q => h q.1)]
    simp [dCpy, d_beq h]
theorem dFs_set {m : dM} {k j : Nat} {v : Int32} {fs : List (Option (Option Nat))} (hj : fs[j]? = some none) : dFs (dSet m k j v) k 0 fs = (dFs m k 0 fs).set j (.inl v) := by
  apply List.ext_getElem?
  intro i
  rw [List.getElem?_set, dFs_at, dFs_at, Nat.zero_add]
  by_cases hi : j = i
  · subst hi
    have hl : j < (dFs m k 0 fs).length := by
      have : (dFs m k 0 fs)[j]? = some (.inl (m.1 k j)) := by rw [dFs_at, hj]; simp [dFv]
      exact (List.getElem?_eq_some_iff.mp this).1
    rw [if_pos rfl, if_pos hl, hj]
    simp [dFv, dSet_s]
  · rw [if_neg hi]
    congr 1
    funext f
    match f with
    | none => simp [dFv, dSet_j (fun e => hi e.symm)]
    | some none => rfl
    | some (some r) => rfl
def tSh : List dS := [.inl (11, [some (some 1), none, none, some (some 2), some (some 20), some (some 38), some (some 43), some (some 44), some (some 47), some (some 51), some (some 54), some (some 61), some (some 67)]),
  .inr (.inl (1, 2000)),
  .inl (3, [none, none, none, none, none, none, none, some (some 3), some (some 4), some (some 5), some (some 6), some (some 7), some (some 8), some (some 9), some (some 10), some (some 11)]),
  .inr (.inl (0, 7)),
  .inr (.inl (0, 10)),
  .inr (.inl (0, 10)),
  .inr (.inl (0, 10)),
  .inr (.inl (0, 8)),
  .inr (.inl (0, 8)),
  .inr (.inl (0, 8)),
  .inr (.inl (0, 8)),
  .inl (4, [some (some 12), none, some (some 13), some (some 18), some (some 19), none]),
  .inr (.inl (0, 406)),
  .inr (.inr (.inr [14, 15, 16, 17])),
  .inr (.inl (0, 14)),
  .inr (.inl (0, 14)),
  .inr (.inl (0, 14)),
  .inr (.inl (0, 14)),
  .inr (.inl (0, 4)),
  .inr (.inl (0, 32)),
  .inl (3, [none, none, none, none, none, none, none, some (some 21), some (some 22), some (some 23), some (some 24), some (some 25), some (some 26), some (some 27), some (some 28), some (some 29)]),
  .inr (.inl (0, 7)),
  .inr (.inl (0, 10)),
  .inr (.inl (0, 10)),
  .inr (.inl (0, 10)),
  .inr (.inl (0, 8)),
  .inr (.inl (0, 8)),
  .inr (.inl (0, 8)),
  .inr (.inl (0, 8)),
  .inl (4, [some (some 30), none, some (some 31), some (some 36), some (some 37), none]),
  .inr (.inl (0, 406)),
  .inr (.inr (.inr [32, 33, 34, 35])),
  .inr (.inl (0, 14)),
  .inr (.inl (0, 14)),
  .inr (.inl (0, 14)),
  .inr (.inl (0, 14)),
  .inr (.inl (0, 4)),
  .inr (.inl (0, 32)),
  .inl (8, [some (some 39), some (some 40), some (some 41), some (some 42), some none, none]),
  .inr (.inl (0, 401)),
  .inr (.inl (0, 401)),
  .inr (.inr (.inl 401)),
  .inr (.inr (.inl 22)),
  .inl (2, [some (some 38), some (some 29), none, none, none, none, none]),
  .inl (5, [some (some 38), some (some 20), some (some 45), some (some 46), none, none]),
  .inr (.inr (.inl 7)),
  .inr (.inr (.inl 8)),
  .inl (7, [none, none, none, none, none, none, some (some 48), some (some 49), some (some 50)]),
  .inr (.inl (0, 10)),
  .inr (.inl (0, 10)),
  .inr (.inl (0, 7)),
  .inl (6, [some (some 52), some (some 53), none, none, none]),
  .inr (.inl (0, 1320)),
  .inr (.inl (0, 99)),
  .inl (0, [some (some 2), some (some 57), some (some 55), some (some 56)]),
  .inr (.inl (0, 9)),
  .inr (.inl (0, 10)),
  .inl (10, [some (some 2), none, some (some 58), some (some 59), some (some 60), none]),
  .inr (.inl (0, 7)),
  .inr (.inl (0, 7)),
  .inr (.inl (0, 7)),
  .inl (1, [some (some 2), some (some 54), some (some 62), some (some 66), none]),
  .inl (7, [none, none, none, none, none, none, some (some 63), some (some 64), some (some 65)]),
  .inr (.inl (0, 10)),
  .inr (.inl (0, 10)),
  .inr (.inl (0, 7)),
  .inr (.inl (0, 8)),
  .inl (9, [some (some 2), some (some 68), some (some 69), none]),
  .inr (.inl (0, 20)),
  .inr (.inl (2, 20)),
  .inl (12, [none, some (some 71), none, some (some 72), none, some (some 73), some (some 74), some (some 75), some (some 76), some (some 77), none, none, none, none, none, none, none, none, none, none, none, some (some 78), some (some 79), some (some 80), some (some 81), some (some 82), some (some 83), some (some 84), some (some 85), some (some 86), some (some 87), some (some 88), some (some 89), some (some 90), some (some 91), some (some 92), some (some 93), some (some 94), some (some 95), some (some 96), none, some (some 97), some (some 98), some (some 99), some (some 100), some (some 101), none, some (some 102), some (some 103), some (some 104), none, some (some 105), some (some 106), none, some (some 107), some (some 108), none, none, some (some 109), some (some 110), none, none, some (some 111), none, some (some 112), some (some 113), some (some 114), some (some 115), some (some 116)]),
  .inr (.inl (1, 2000)),
  .inr (.inl (1, 2000)),
  .inr (.inl (0, 403)),
  .inr (.inl (0, 403)),
  .inr (.inl (0, 403)),
  .inr (.inr (.inl 403)),
  .inr (.inr (.inl 22)),
  .inr (.inr (.inl 15)),
  .inr (.inl (0, 15)),
  .inr (.inl (0, 2)),
  .inr (.inl (0, 14)),
  .inr (.inl (0, 2)),
  .inr (.inl (0, 20)),
  .inr (.inl (0, 20)),
  .inr (.inl (0, 20)),
  .inr (.inl (0, 2)),
  .inr (.inl (0, 16)),
  .inr (.inl (0, 16)),
  .inr (.inl (0, 16)),
  .inr (.inl (0, 16)),
  .inr (.inl (0, 2)),
  .inr (.inl (0, 2)),
  .inr (.inl (0, 2)),
  .inr (.inl (0, 2)),
  .inr (.inl (0, 8)),
  .inr (.inl (0, 8)),
  .inr (.inl (2, 260)),
  .inr (.inl (0, 260)),
  .inr (.inl (0, 260)),
  .inr (.inl (0, 260)),
  .inr (.inl (0, 260)),
  .inr (.inl (0, 840)),
  .inr (.inl (0, 840)),
  .inr (.inl (0, 64)),
  .inr (.inl (0, 9)),
  .inr (.inl (0, 400)),
  .inr (.inl (0, 58)),
  .inr (.inl (0, 58)),
  .inr (.inl (0, 7)),
  .inr (.inl (0, 7)),
  .inr (.inl (0, 2320)),
  .inr (.inl (0, 20)),
  .inr (.inl (0, 20)),
  .inr (.inl (0, 10)),
  .inr (.inl (2, 3)),
  .inr (.inl (0, 174))]
def dHp (m : dM) : cH := dCs m 0 tSh
theorem dHp_at (m : dM) (k : Nat) : (dHp m)[k]? = (tSh[k]?).map (dC m k) := by
  unfold dHp
  rw [dCs_at, Nat.zero_add]
/-- a field's sort; a row's sort and length; a row of longs; a row of rows -/
def dFk (k a b : Nat) : Option (Option (Option Nat)) := match tSh[k]? with
  | some (.inl o) => cond (Nat.beq o.1 a) (o.2[b]?) none
  | _ => none
def dAk (k : Nat) : Option (Nat × Nat) := match tSh[k]? with
  | some (.inr (.inl a)) => some a
  | _ => none
def dLk (k : Nat) : Option Nat := match tSh[k]? with
  | some (.inr (.inr (.inl n))) => some n
  | _ => none
def dRk (k : Nat) : Option (List Nat) := match tSh[k]? with
  | some (.inr (.inr (.inr rs))) => some rs
  | _ => none
def dCk (k d0 : Nat) : Bool := match tSh[k]? with
  | some (.inl o) => Nat.beq o.1 d0
  | _ => false
theorem dFk_ok {k a b : Nat} {f : Option (Option Nat)} (h : dFk k a b = some f) : ∃ fs, tSh[k]? = some (.inl (a, fs)) ∧ fs[b]? = some f := by
  unfold dFk at h
  split at h
  · rename_i o ho
    obtain ⟨h1, h2⟩ := eCond h
    have e := Nat.eq_of_beq_eq_true h1
    exact ⟨o.2, by rw [ho, ← e], h2⟩
  · cases h
theorem dAk_ok {k : Nat} {a : Nat × Nat} (h : dAk k = some a) : tSh[k]? = some (.inr (.inl a)) := by
  unfold dAk at h
  split at h
  · rename_i o ho; cases h; exact ho
  · cases h
theorem dLk_ok {k n : Nat} (h : dLk k = some n) : tSh[k]? = some (.inr (.inr (.inl n))) := by
  unfold dLk at h
  split at h
  · rename_i o ho; cases h; exact ho
  · cases h
theorem dRk_ok {k : Nat} {rs : List Nat} (h : dRk k = some rs) : tSh[k]? = some (.inr (.inr (.inr rs))) := by
  unfold dRk at h
  split at h
  · rename_i o ho; cases h; exact ho
  · cases h
theorem dHp_set {m m' : dM} {i : Nat} {c : cC} (h1 : ∀ j, j ≠ i → m'.1 j = m.1 j ∧ m'.2.1 j = m.2.1 j) (h3 : m'.2.2 = m.2.2) (h2 : ∀ s, tSh[i]? = some s → dC m' i s = c) : (dHp m).set i c = dHp m' := dCs_set h1 h3 h2
/-! places, locals -/
def cIsR (i : Instr) : Bool := match i with
  | .return_ => true
  | .ireturn => true
  | .lreturn => true
  | .areturn => true
  | _ => false
theorem cRet_none {M : eM} {en : eN} {S : cS} (h : cIsR en.2.1 = false) : cRet M en S = none := by
  unfold cRet
  split
  · rename_i h2 h3; rw [h2] at h; cases h
  · rename_i h2 h3; rw [h2] at h; cases h
  · rename_i h2 h3; rw [h2] at h; cases h
  · rename_i h2 h3; rw [h2] at h; cases h
  · rename_i h2 h3; rw [h2] at h; cases h
  · rfl
abbrev dL : Type := List (Option cV)
def dLo (l : dL) (lc : cL) : Prop := ∀ (i : Nat) (v : cV), l[i]? = some (some v) → cGet lc i = some v
theorem cGet_filter {p : Nat × cV → Bool} : ∀ {lc : cL} {i : Nat} {v : cV}, cGet lc i = some v → p (i, v) = true → cGet (lc.filter p) i = some v
  | [], i, v, h, _ => by cases h
  | q :: lc, i, v, h, hp => by
    unfold cGet at h
    cases hb : Nat.beq q.1 i with
    | true =>
      rw [hb] at h
      have e := Nat.eq_of_beq_eq_true hb
      cases h
      have hq : p q = true := by
        have : q = (i, q.2) := by rw [← e]
        rw [this]; exact hp
      rw [List.filter_cons_of_pos hq]
      unfold cGet
      rw [hb]
      rfl
    | false =>
      rw [hb] at h
      have ih := cGet_filter (p := p) h hp
      cases hq : p q with
      | true =>
        rw [List.filter_cons_of_pos hq]
        unfold cGet
        rw [hb]
        exact ih
      | false =>
        rw [List.filter_cons_of_neg (by rw [hq]; decide)]
        exact ih
def dKl (l : dL) (k : Nat) : Bool := match k with
  | 0 => true
  | k + 1 => match l[k]? with
    | some (some (.inr (.inl _))) => false
    | _ => true
theorem dKl_ok {l : dL} {i : Nat} {w : cV} (h : dKl l (i + 1) = true) (hw : l[i]? = some (some w)) : (cCat w == 2) = false := by
  simp only [dKl, hw] at h
  match w, h with
  | .inl _, _ => rfl
  | .inr (.inr _), _ => rfl
theorem dPut_ok {l : dL} {lc : cL} {k : Nat} {v : cV} (h : dLo l lc) (hk : dKl l k = true) : dLo (l.set k (some v)) (cPut lc k v) := by
  intro i w hw
  rw [List.getElem?_set] at hw
  unfold cPut cGet
  by_cases hi : k = i
  · subst hi
    rw [if_pos rfl] at hw
    split at hw
    · cases hw
      rw [Nat.beq_refl]
      rfl
    · cases hw
  · rw [if_neg hi] at hw
    rw [d_beq hi]
    refine cGet_filter (h i w hw) ?_
    have e1 : (i == k) = false := beq_eq_false_iff_ne.mpr (fun e => hi e.symm)
    simp only [e1, Bool.not_false, Bool.true_and]
    by_cases h2 : i + 1 = k
    · subst h2
      rw [dKl_ok hk hw]
      simp
    · have e2 : (i + 1 == k) = false := beq_eq_false_iff_ne.mpr h2
      rw [e2]
      rfl
theorem dPut2_ok {l : dL} {lc : cL} {k : Nat} {v : cV} (h : dLo l lc) (hk : dKl l k = true) : dLo ((l.set k (some v)).set (k + 1) none) (cPut2 lc k v) := by
  intro i w hw
  rw [List.getElem?_set] at hw
  unfold cPut2 cGet
  by_cases hi1 : k + 1 = i
  · rw [if_pos hi1] at hw
    split at hw
    · cases hw
    · cases hw
  · rw [if_neg hi1, List.getElem?_set] at hw
    by_cases hi : k = i
    · subst hi
      rw [if_pos rfl] at hw
      split at hw
      · cases hw
        rw [Nat.beq_refl]
        rfl
      · cases hw
    · rw [if_neg hi] at hw
      rw [d_beq hi]
      refine cGet_filter (h i w hw) ?_
      have e1 : (i == k) = false := beq_eq_false_iff_ne.mpr (fun e => hi e.symm)
      have e3 : (i == k + 1) = false := beq_eq_false_iff_ne.mpr (fun e => hi1 e.symm)
      simp only [e1, e3, Bool.not_false, Bool.true_and]
      by_cases h2 : i + 1 = k
      · subst h2
        rw [dKl_ok hk hw]
        simp
      · have e2 : (i + 1 == k) = false := beq_eq_false_iff_ne.mpr h2
        rw [e2]
        rfl
def dArgs (vs : List cV) : dL := match vs with
  | [] => []
  | v :: vs => cond (Nat.beq (cCat v) 2) (some v :: none :: dArgs vs) (some v :: dArgs vs)
theorem dArgs_ge : ∀ (vs : List cV) (i j : Nat), j < i → cGet (cArgs i vs) j = none
  | [], i, j, h => rfl
  | v :: vs, i, j, h => by
    unfold cArgs cGet
    simp only
    rw [d_beq (show i ≠ j by omega)]
    exact dArgs_ge vs _ j (by cases Nat.beq (cCat v) 2 <;> simp <;> omega)
theorem dArgs_ok : ∀ (vs : List cV) (i0 i : Nat) (v : cV) (n : Nat), (dArgs vs ++ List.replicate n none)[i]? = some (some v) → cGet (cArgs i0 vs) (i0 + i) = some v
  | [], i0, i, v, n, h => by
    simp only [dArgs, List.nil_append, List.getElem?_replicate] at h
    split at h <;> cases h
  | a :: vs, i0, i, v, n, h => by
    unfold dArgs at h
    unfold cArgs cGet
    simp only
    cases hc : Nat.beq (cCat a) 2 with
    | true =>
      rw [hc] at h
      match i, h with
      | 0, h =>
        simp at h
        subst h
        rw [Nat.add_zero, Nat.beq_refl]
        rfl
      | 1, h => simp at h
      | i + 2, h =>
        rw [d_beq (show i0 ≠ i0 + (i + 2) by omega)]
        have := dArgs_ok vs (i0 + 2) i v n (by simpa using h)
        rw [show i0 + (i + 2) = i0 + 2 + i by omega]
        exact this
    | false =>
      rw [hc] at h
      match i, h with
      | 0, h =>
        simp at h
        subst h
        rw [Nat.add_zero, Nat.beq_refl]
        rfl
      | i + 1, h =>
        rw [d_beq (show i0 ≠ i0 + (i + 1) by omega)]
        have := dArgs_ok vs (i0 + 1) i v n (by simpa using h)
        rw [show i0 + (i + 1) = i0 + 1 + i by omega]
        exact this
/-! WHAT A METHOD COMES TO: from a place, with locals l, stack st, memory m, it ends, and what it hands back and leaves is as Q says -/
def Wp (d y pc : Nat) (l : dL) (st : List cV) (m : dM) (Q : Option cV → dM → Prop) : Prop := ∀ lc : cL, dLo l lc → ∃ (v : Option cV) (m' : dM), cRun tMs d y (pc, lc, st, dHp m) v (dHp m') ∧ Q v m'
theorem Wp.mono {d y pc : Nat} {l : dL} {st : List cV} {m : dM} {Q Q' : Option cV → dM → Prop} (h : Wp d y pc l st m Q) (hq : ∀ v m', Q v m' → Q' v m') : Wp d y pc l st m Q' := by
  intro lc hlc
  obtain ⟨v, m', h1, h2⟩ := h lc hlc
  exact ⟨v, m', h1, hq v m' h2⟩
theorem Wp.deep {d d' y pc : Nat} {l : dL} {st : List cV} {m : dM} {Q : Option cV → dM → Prop} (h : Wp d y pc l st m Q) (hd : d ≤ d') : Wp d' y pc l st m Q := by
  intro lc hlc
  obtain ⟨v, m', h1, h2⟩ := h lc hlc
  exact ⟨v, m', h1.deep hd, h2⟩
def dMask : List Bool → dL → dL
  | b :: bs, x :: l => cond b x none :: dMask bs l
  | _, _ => []
theorem dMask_ok : ∀ (bs : List Bool) (l : dL) (i : Nat) (v : cV), (dMask bs l)[i]? = some (some v) → l[i]? = some (some v)
  | [], l, i, v, h => by simp [dMask] at h
  | b :: bs, [], i, v, h => by simp [dMask] at h
  | b :: bs, x :: l, 0, v, h => by
    simp only [dMask, List.getElem?_cons_zero] at h
    cases b with
    | true => simpa using h
    | false => simp at h
  | b :: bs, x :: l, i + 1, v, h => by
    simp only [dMask, List.getElem?_cons_succ] at h
    simpa using dMask_ok bs l i v h
theorem Wp.wk (bs : List Bool) {d y pc : Nat} {l : dL} {st : List cV} {m : dM} {Q : Option cV → dM → Prop} (h : Wp d y pc (dMask bs l) st m Q) : Wp d y pc l st m Q := fun lc hlc => h lc (fun i v hi => hlc i v (dMask_ok bs l i v hi))
def qV (Q : dM → Prop) : Option cV → dM → Prop := fun o m => o = none ∧ Q m
def qI (Q : Int32 → dM → Prop) : Option cV → dM → Prop := fun o m => ∃ x, o = some (.inl x) ∧ Q x m
def qL (Q : Int64 → dM → Prop) : Option cV → dM → Prop := fun o m => ∃ x, o = some (.inr (.inl x)) ∧ Q x m
def qR (k : Nat) (Q : dM → Prop) : Option cV → dM → Prop := fun o m => o = some (.inr (.inr (some k))) ∧ Q m
def dAt (M : eM) (pc q : Nat) (i : Instr) (a b e : Nat) : Prop := (∃ c len, eAt M.1 pc = some (pc, i, len, a, b, c, e)) ∧ pc + eLen i = q
section DRU
variable {d y pc q : Nat} {M : eM} {a b e : Nat} {l : dL} {st : List cV} {m : dM} {Q : Option cV → dM → Prop}
theorem Wp.step {i : Instr} {l' : dL} {st' : List cV} {m' : dM} (hM : tMs[y]? = some M) (ha : ∃ c len, eAt M.1 pc = some (pc, i, len, a, b, c, e)) (hr : cIsR i = false) (hc : cIsC i = false) (hs : ∀ lc, dLo l lc → ∃ lc', dLo l' lc' ∧ cStep M.2.1 i a b e pc lc st (dHp m) = some (q, lc', st', dHp m')) (K : Wp d y q l' st' m' Q) : Wp d y pc l st m Q := by
  intro lc hlc
  obtain ⟨c, len, ha⟩ := ha
  obtain ⟨lc', h1, h2⟩ := hs lc hlc
  obtain ⟨v, m2, h3, h4⟩ := K lc' h1
  exact ⟨v, m2, cRun.step hM ha (cRet_none hr) hc h2 h3, h4⟩
theorem w_iconst {n : Int} {x : Int32} (hM : tMs[y]? = some M) (ha : dAt M pc q (.iconst n) a b e) (hx : Int32.ofInt n = x) (K : Wp d y q l (.inl x :: st) m Q) : Wp d y pc l st m Q :=
  Wp.step hM ha.1 rfl rfl (fun lc h => ⟨lc, h, by rw [← ha.2, ← hx]; rfl⟩) K
theorem w_bipush {n : Int} {x : Int32} (hM : tMs[y]? = some M) (ha : dAt M pc q (.bipush n) a b e) (hx : (Int8.ofInt n).toInt32 = x) (K : Wp d y q l (.inl x :: st) m Q) : Wp d y pc l st m Q :=
  Wp.step hM ha.1 rfl rfl (fun lc h => ⟨lc, h, by rw [← ha.2, ← hx]; rfl⟩) K
theorem w_sipush {n : Int} {x : Int32} (hM : tMs[y]? = some M) (ha : dAt M pc q (.sipush n) a b e) (hx : (Int16.ofInt n).toInt32 = x) (K : Wp d y q l (.inl x :: st) m Q) : Wp d y pc l st m Q :=
  Wp.step hM ha.1 rfl rfl (fun lc h => ⟨lc, h, by rw [← ha.2, ← hx]; rfl⟩) K
theorem w_lconst {n : Fin 2} {x : Int64} (hM : tMs[y]? = some M) (ha : dAt M pc q (.lconst n) a b e) (hx : Int64.ofNat (n : Nat) = x) (K : Wp d y q l (.inr (.inl x) :: st) m Q) : Wp d y pc l st m Q :=
  Wp.step hM ha.1 rfl rfl (fun lc h => ⟨lc, h, by rw [← ha.2, ← hx]; rfl⟩) K
theorem w_ldc {n : Nat} {x : Int32} (hM : tMs[y]? = some M) (ha : dAt M pc q (.ldc n) a b e) (hx : Int32.ofNat a = x) (K : Wp d y q l (.inl x :: st) m Q) : Wp d y pc l st m Q :=
  Wp.step hM ha.1 rfl rfl (fun lc h => ⟨lc, h, by rw [← ha.2, ← hx]; rfl⟩) K
theorem w_ldc_w {n : Nat} {x : Int32} (hM : tMs[y]? = some M) (ha : dAt M pc q (.ldc_w n) a b e) (hx : Int32.ofNat a = x) (K : Wp d y q l (.inl x :: st) m Q) : Wp d y pc l st m Q :=
  Wp.step hM ha.1 rfl rfl (fun lc h => ⟨lc, h, by rw [← ha.2, ← hx]; rfl⟩) K
theorem w_ldc2_w {n : Nat} {x : Int64} (hM : tMs[y]? = some M) (ha : dAt M pc q (.ldc2_w n) a b e) (hx : Int64.ofNat a = x) (K : Wp d y q l (.inr (.inl x) :: st) m Q) : Wp d y pc l st m Q :=
  Wp.step hM ha.1 rfl rfl (fun lc h => ⟨lc, h, by rw [← ha.2, ← hx]; rfl⟩) K
theorem w_iload_n {k : Fin 4} {x : Int32} (hM : tMs[y]? = some M) (ha : dAt M pc q (.iload_n k) a b e) (hl : l[(k : Nat)]? = some (some (.inl x))) (K : Wp d y q l (.inl x :: st) m Q) : Wp d y pc l st m Q :=
  Wp.step hM ha.1 rfl rfl (fun lc h => ⟨lc, h, by rw [← ha.2]; simp only [cStep, h _ _ hl]; rfl⟩) K
theorem w_istore_n {k : Fin 4} {x : Int32} {l' : dL} (hM : tMs[y]? = some M) (ha : dAt M pc q (.istore_n k) a b e) (hn : Nat.blt ((k : Nat)) M.2.1 = true) (hk : dKl l (k : Nat) = true) (hl : l.set (k : Nat) (some (.inl x)) = l') (K : Wp d y q l' st m Q) : Wp d y pc l (.inl x :: st) m Q :=
  Wp.step hM ha.1 rfl rfl (fun lc h => ⟨_, hl ▸ dPut_ok h hk, by rw [← ha.2]; simp only [cStep, hn, cond_true]; rfl⟩) K
theorem w_iload {k : Nat} {x : Int32} (hM : tMs[y]? = some M) (ha : dAt M pc q (.iload k) a b e) (hl : l[(k : Nat)]? = some (some (.inl x))) (K : Wp d y q l (.inl x :: st) m Q) : Wp d y pc l st m Q :=
  Wp.step hM ha.1 rfl rfl (fun lc h => ⟨lc, h, by rw [← ha.2]; simp only [cStep, h _ _ hl]; rfl⟩) K
theorem w_istore {k : Nat} {x : Int32} {l' : dL} (hM : tMs[y]? = some M) (ha : dAt M pc q (.istore k) a b e) (hn : Nat.blt ((k : Nat)) M.2.1 = true) (hk : dKl l (k : Nat) = true) (hl : l.set (k : Nat) (some (.inl x)) = l') (K : Wp d y q l' st m Q) : Wp d y pc l (.inl x :: st) m Q :=
  Wp.step hM ha.1 rfl rfl (fun lc h => ⟨_, hl ▸ dPut_ok h hk, by rw [← ha.2]; simp only [cStep, hn, cond_true]; rfl⟩) K
theorem w_lload_n {k : Fin 4} {x : Int64} (hM : tMs[y]? = some M) (ha : dAt M pc q (.lload_n k) a b e) (hl : l[(k : Nat)]? = some (some (.inr (.inl x)))) (K : Wp d y q l (.inr (.inl x) :: st) m Q) : Wp d y pc l st m Q :=
  Wp.step hM ha.1 rfl rfl (fun lc h => ⟨lc, h, by rw [← ha.2]; simp only [cStep, h _ _ hl]; rfl⟩) K
theorem w_lstore_n {k : Fin 4} {x : Int64} {l' : dL} (hM : tMs[y]? = some M) (ha : dAt M pc q (.lstore_n k) a b e) (hn : Nat.blt ((k : Nat) + 1) M.2.1 = true) (hk : dKl l (k : Nat) = true) (hl : (l.set (k : Nat) (some (.inr (.inl x)))).set ((k : Nat) + 1) none = l') (K : Wp d y q l' st m Q) : Wp d y pc l (.inr (.inl x) :: st) m Q :=
  Wp.step hM ha.1 rfl rfl (fun lc h => ⟨_, hl ▸ dPut2_ok h hk, by rw [← ha.2]; simp only [cStep, hn, cond_true]; rfl⟩) K
theorem w_lload {k : Nat} {x : Int64} (hM : tMs[y]? = some M) (ha : dAt M pc q (.lload k) a b e) (hl : l[(k : Nat)]? = some (some (.inr (.inl x)))) (K : Wp d y q l (.inr (.inl x) :: st) m Q) : Wp d y pc l st m Q :=
  Wp.step hM ha.1 rfl rfl (fun lc h => ⟨lc, h, by rw [← ha.2]; simp only [cStep, h _ _ hl]; rfl⟩) K
theorem w_lstore {k : Nat} {x : Int64} {l' : dL} (hM : tMs[y]? = some M) (ha : dAt M pc q (.lstore k) a b e) (hn : Nat.blt ((k : Nat) + 1) M.2.1 = true) (hk : dKl l (k : Nat) = true) (hl : (l.set (k : Nat) (some (.inr (.inl x)))).set ((k : Nat) + 1) none = l') (K : Wp d y q l' st m Q) : Wp d y pc l (.inr (.inl x) :: st) m Q :=
  Wp.step hM ha.1 rfl rfl (fun lc h => ⟨_, hl ▸ dPut2_ok h hk, by rw [← ha.2]; simp only [cStep, hn, cond_true]; rfl⟩) K
theorem w_aload_n {k : Fin 4} {x : Nat} (hM : tMs[y]? = some M) (ha : dAt M pc q (.aload_n k) a b e) (hl : l[(k : Nat)]? = some (some (.inr (.inr (some x))))) (K : Wp d y q l (.inr (.inr (some x)) :: st) m Q) : Wp d y pc l st m Q :=
  Wp.step hM ha.1 rfl rfl (fun lc h => ⟨lc, h, by rw [← ha.2]; simp only [cStep, h _ _ hl]; rfl⟩) K
theorem w_astore_n {k : Fin 4} {x : Nat} {l' : dL} (hM : tMs[y]? = some M) (ha : dAt M pc q (.astore_n k) a b e) (hn : Nat.blt ((k : Nat)) M.2.1 = true) (hk : dKl l (k : Nat) = true) (hl : l.set (k : Nat) (some (.inr (.inr (some x)))) = l') (K : Wp d y q l' st m Q) : Wp d y pc l (.inr (.inr (some x)) :: st) m Q :=
  Wp.step hM ha.1 rfl rfl (fun lc h => ⟨_, hl ▸ dPut_ok h hk, by rw [← ha.2]; simp only [cStep, hn, cond_true]; rfl⟩) K
theorem w_aload {k : Nat} {x : Nat} (hM : tMs[y]? = some M) (ha : dAt M pc q (.aload k) a b e) (hl : l[(k : Nat)]? = some (some (.inr (.inr (some x))))) (K : Wp d y q l (.inr (.inr (some x)) :: st) m Q) : Wp d y pc l st m Q :=
  Wp.step hM ha.1 rfl rfl (fun lc h => ⟨lc, h, by rw [← ha.2]; simp only [cStep, h _ _ hl]; rfl⟩) K
theorem w_astore {k : Nat} {x : Nat} {l' : dL} (hM : tMs[y]? = some M) (ha : dAt M pc q (.astore k) a b e) (hn : Nat.blt ((k : Nat)) M.2.1 = true) (hk : dKl l (k : Nat) = true) (hl : l.set (k : Nat) (some (.inr (.inr (some x)))) = l') (K : Wp d y q l' st m Q) : Wp d y pc l (.inr (.inr (some x)) :: st) m Q :=
  Wp.step hM ha.1 rfl rfl (fun lc h => ⟨_, hl ▸ dPut_ok h hk, by rw [← ha.2]; simp only [cStep, hn, cond_true]; rfl⟩) K
theorem w_iinc {k : Nat} {n : Int} {x z : Int32} {l' : dL} (hM : tMs[y]? = some M) (ha : dAt M pc q (.iinc k n) a b e) (hg : l[k]? = some (some (.inl x))) (hn : Nat.blt k M.2.1 = true) (hk : dKl l k = true) (hz : Int32.ofInt n = z) (hl : l.set k (some (.inl (x + z))) = l') (K : Wp d y q l' st m Q) : Wp d y pc l st m Q :=
  Wp.step hM ha.1 rfl rfl (fun lc h => ⟨_, hl ▸ dPut_ok h hk, by rw [← ha.2, ← hz]; simp only [cStep, h _ _ hg, hn, cond_true]; rfl⟩) K
theorem w_iadd {x z : Int32} (hM : tMs[y]? = some M) (ha : dAt M pc q .iadd a b e) (K : Wp d y q l (.inl (x + z) :: st) m Q) : Wp d y pc l (.inl z :: .inl x :: st) m Q :=
  Wp.step hM ha.1 rfl rfl (fun lc h => ⟨lc, h, by rw [← ha.2]; rfl⟩) K
theorem w_isub {x z : Int32} (hM : tMs[y]? = some M) (ha : dAt M pc q .isub a b e) (K : Wp d y q l (.inl (x - z) :: st) m Q) : Wp d y pc l (.inl z :: .inl x :: st) m Q :=
  Wp.step hM ha.1 rfl rfl (fun lc h => ⟨lc, h, by rw [← ha.2]; rfl⟩) K
theorem w_imul {x z : Int32} (hM : tMs[y]? = some M) (ha : dAt M pc q .imul a b e) (K : Wp d y q l (.inl (x * z) :: st) m Q) : Wp d y pc l (.inl z :: .inl x :: st) m Q :=
  Wp.step hM ha.1 rfl rfl (fun lc h => ⟨lc, h, by rw [← ha.2]; rfl⟩) K
theorem w_iand {x z : Int32} (hM : tMs[y]? = some M) (ha : dAt M pc q .iand a b e) (K : Wp d y q l (.inl (x &&& z) :: st) m Q) : Wp d y pc l (.inl z :: .inl x :: st) m Q :=
  Wp.step hM ha.1 rfl rfl (fun lc h => ⟨lc, h, by rw [← ha.2]; rfl⟩) K
theorem w_ior {x z : Int32} (hM : tMs[y]? = some M) (ha : dAt M pc q .ior a b e) (K : Wp d y q l (.inl (x ||| z) :: st) m Q) : Wp d y pc l (.inl z :: .inl x :: st) m Q :=
  Wp.step hM ha.1 rfl rfl (fun lc h => ⟨lc, h, by rw [← ha.2]; rfl⟩) K
theorem w_ixor {x z : Int32} (hM : tMs[y]? = some M) (ha : dAt M pc q .ixor a b e) (K : Wp d y q l (.inl (x ^^^ z) :: st) m Q) : Wp d y pc l (.inl z :: .inl x :: st) m Q :=
  Wp.step hM ha.1 rfl rfl (fun lc h => ⟨lc, h, by rw [← ha.2]; rfl⟩) K
theorem w_ishl {x z : Int32} (hM : tMs[y]? = some M) (ha : dAt M pc q .ishl a b e) (K : Wp d y q l (.inl (x <<< (z &&& 31)) :: st) m Q) : Wp d y pc l (.inl z :: .inl x :: st) m Q :=
  Wp.step hM ha.1 rfl rfl (fun lc h => ⟨lc, h, by rw [← ha.2]; rfl⟩) K
theorem w_ishr {x z : Int32} (hM : tMs[y]? = some M) (ha : dAt M pc q .ishr a b e) (K : Wp d y q l (.inl (x >>> (z &&& 31)) :: st) m Q) : Wp d y pc l (.inl z :: .inl x :: st) m Q :=
  Wp.step hM ha.1 rfl rfl (fun lc h => ⟨lc, h, by rw [← ha.2]; rfl⟩) K
theorem w_iushr {x z : Int32} (hM : tMs[y]? = some M) (ha : dAt M pc q .iushr a b e) (K : Wp d y q l (.inl ((x.toUInt32 >>> (z.toUInt32 &&& Int32.toUInt32 31)).toInt32) :: st) m Q) : Wp d y pc l (.inl z :: .inl x :: st) m Q :=
  Wp.step hM ha.1 rfl rfl (fun lc h => ⟨lc, h, by rw [← ha.2]; rfl⟩) K
theorem w_irem {x z : Int32} (hM : tMs[y]? = some M) (ha : dAt M pc q .irem a b e) (hz : z ≠ 0) (K : Wp d y q l (.inl (x - x / z * z) :: st) m Q) : Wp d y pc l (.inl z :: .inl x :: st) m Q :=
  Wp.step hM ha.1 rfl rfl (fun lc h => ⟨lc, h, by rw [← ha.2]; simp only [cStep, cBin, decide_eq_false hz, cond_false]; rfl⟩) K
theorem w_idiv {x z : Int32} (hM : tMs[y]? = some M) (ha : dAt M pc q .idiv a b e) (hz : z ≠ 0) (K : Wp d y q l (.inl (x / z) :: st) m Q) : Wp d y pc l (.inl z :: .inl x :: st) m Q :=
  Wp.step hM ha.1 rfl rfl (fun lc h => ⟨lc, h, by rw [← ha.2]; simp only [cStep, cBin, decide_eq_false hz, cond_false]; rfl⟩) K
theorem w_i2b {x : Int32} (hM : tMs[y]? = some M) (ha : dAt M pc q .i2b a b e) (K : Wp d y q l (.inl x.toInt8.toInt32 :: st) m Q) : Wp d y pc l (.inl x :: st) m Q :=
  Wp.step hM ha.1 rfl rfl (fun lc h => ⟨lc, h, by
    rw [← ha.2]
    match st with
    | [] => rfl
    | .inl _ :: _ => rfl
    | .inr _ :: _ => rfl⟩) K
theorem w_i2l {x : Int32} (hM : tMs[y]? = some M) (ha : dAt M pc q .i2l a b e) (K : Wp d y q l (.inr (.inl x.toInt64) :: st) m Q) : Wp d y pc l (.inl x :: st) m Q :=
  Wp.step hM ha.1 rfl rfl (fun lc h => ⟨lc, h, by
    rw [← ha.2]
    match st with
    | [] => rfl
    | .inl _ :: _ => rfl
    | .inr _ :: _ => rfl⟩) K
theorem w_l2i {x : Int64} (hM : tMs[y]? = some M) (ha : dAt M pc q .l2i a b e) (K : Wp d y q l (.inl x.toInt32 :: st) m Q) : Wp d y pc l (.inr (.inl x) :: st) m Q :=
  Wp.step hM ha.1 rfl rfl (fun lc h => ⟨lc, h, by
    rw [← ha.2]
    match st with
    | [] => rfl
    | .inl _ :: _ => rfl
    | .inr (.inl _) :: _ => rfl
    | .inr (.inr _) :: _ => rfl⟩) K
theorem w_ladd {x z : Int64} (hM : tMs[y]? = some M) (ha : dAt M pc q .ladd a b e) (K : Wp d y q l (.inr (.inl (x + z)) :: st) m Q) : Wp d y pc l (.inr (.inl z) :: .inr (.inl x) :: st) m Q :=
  Wp.step hM ha.1 rfl rfl (fun lc h => ⟨lc, h, by rw [← ha.2]; rfl⟩) K
theorem w_lmul {x z : Int64} (hM : tMs[y]? = some M) (ha : dAt M pc q .lmul a b e) (K : Wp d y q l (.inr (.inl (x * z)) :: st) m Q) : Wp d y pc l (.inr (.inl z) :: .inr (.inl x) :: st) m Q :=
  Wp.step hM ha.1 rfl rfl (fun lc h => ⟨lc, h, by rw [← ha.2]; rfl⟩) K
theorem w_lcmp {x z : Int64} (hM : tMs[y]? = some M) (ha : dAt M pc q .lcmp a b e) (K : Wp d y q l (.inl (lg_cmp x z) :: st) m Q) : Wp d y pc l (.inr (.inl z) :: .inr (.inl x) :: st) m Q :=
  Wp.step hM ha.1 rfl rfl (fun lc h => ⟨lc, h, by rw [← ha.2]; rfl⟩) K
theorem w_dup {v : cV} (hM : tMs[y]? = some M) (ha : dAt M pc q .dup a b e) (hv : Nat.beq (cCat v) 1 = true) (K : Wp d y q l (v :: v :: st) m Q) : Wp d y pc l (v :: st) m Q :=
  Wp.step hM ha.1 rfl rfl (fun lc h => ⟨lc, h, by rw [← ha.2]; simp only [cStep, hv, cond_true]; rfl⟩) K
theorem w_dup2 {v w : cV} (hM : tMs[y]? = some M) (ha : dAt M pc q .dup2 a b e) (hv : (Nat.beq (cCat v) 1 && Nat.beq (cCat w) 1) = true) (K : Wp d y q l (v :: w :: v :: w :: st) m Q) : Wp d y pc l (v :: w :: st) m Q :=
  Wp.step hM ha.1 rfl rfl (fun lc h => ⟨lc, h, by rw [← ha.2]; simp only [cStep, hv, cond_true]; rfl⟩) K
theorem w_pop {v : cV} (hM : tMs[y]? = some M) (ha : dAt M pc q .pop a b e) (hv : Nat.beq (cCat v) 1 = true) (K : Wp d y q l st m Q) : Wp d y pc l (v :: st) m Q :=
  Wp.step hM ha.1 rfl rfl (fun lc h => ⟨lc, h, by rw [← ha.2]; simp only [cStep, hv, cond_true]; rfl⟩) K
theorem w_getf {k z : Nat} {v : Int32} (hM : tMs[y]? = some M) (ha : dAt M pc q (.getfield z) a b e) (hf : dFk k a b = some none) (hv : m.1 k b = v) (K : Wp d y q l (.inl v :: st) m Q) : Wp d y pc l (.inr (.inr (some k)) :: st) m Q := by
  obtain ⟨fs, h1, h2⟩ := dFk_ok hf
  refine Wp.step hM ha.1 rfl rfl (fun lc h => ⟨lc, h, ?_⟩) K
  rw [← ha.2]
  simp only [cStep, dHp_at, h1, Option.map_some, dC, Nat.beq_refl, cond_true, dFs_at, h2, dFv, Nat.zero_add]
  rw [hv]; rfl
theorem w_getr {k z : Nat} {r : Nat} (hM : tMs[y]? = some M) (ha : dAt M pc q (.getfield z) a b e) (hf : dFk k a b = some (some (some r))) (K : Wp d y q l (.inr (.inr (some r)) :: st) m Q) : Wp d y pc l (.inr (.inr (some k)) :: st) m Q := by
  obtain ⟨fs, h1, h2⟩ := dFk_ok hf
  refine Wp.step hM ha.1 rfl rfl (fun lc h => ⟨lc, h, ?_⟩) K
  rw [← ha.2]
  simp only [cStep, dHp_at, h1, Option.map_some, dC, Nat.beq_refl, cond_true, dFs_at, h2, dFv, Nat.zero_add]
  rfl
theorem w_gett {k z : Nat} (hM : tMs[y]? = some M) (ha : dAt M pc q (.getfield z) a b e) (hf : dFk k a b = some (some none)) (K : Wp d y q l (.inr (.inr (cond m.2.2 (some 1) none)) :: st) m Q) : Wp d y pc l (.inr (.inr (some k)) :: st) m Q := by
  obtain ⟨fs, h1, h2⟩ := dFk_ok hf
  refine Wp.step hM ha.1 rfl rfl (fun lc h => ⟨lc, h, ?_⟩) K
  rw [← ha.2]
  simp only [cStep, dHp_at, h1, Option.map_some, dC, Nat.beq_refl, cond_true, dFs_at, h2, dFv, Nat.zero_add]
  rfl
theorem w_gettT {k z : Nat} (hM : tMs[y]? = some M) (ha : dAt M pc q (.getfield z) a b e) (hf : dFk k a b = some (some none)) (ht : m.2.2 = true) (K : Wp d y q l (.inr (.inr (some 1)) :: st) m Q) : Wp d y pc l (.inr (.inr (some k)) :: st) m Q := by
  obtain ⟨fs, h1, h2⟩ := dFk_ok hf
  refine Wp.step hM ha.1 rfl rfl (fun lc h => ⟨lc, h, ?_⟩) K
  rw [← ha.2]
  simp only [cStep, dHp_at, h1, Option.map_some, dC, Nat.beq_refl, cond_true, dFs_at, h2, dFv, Nat.zero_add]
  rw [ht]; rfl
theorem w_putf {k z : Nat} {x : Int32} {m' : dM} (hM : tMs[y]? = some M) (ha : dAt M pc q (.putfield z) a b e) (hf : dFk k a b = some none) (he : e = 0) (hm : dSet m k b x = m') (K : Wp d y q l st m' Q) : Wp d y pc l (.inl x :: .inr (.inr (some k)) :: st) m Q := by
  obtain ⟨fs, h1, h2⟩ := dFk_ok hf
  subst hm
  refine Wp.step hM ha.1 rfl rfl (fun lc h => ⟨lc, h, ?_⟩) K
  rw [← ha.2]
  have hb : Nat.blt b (dFs m k 0 fs).length = true := by
    have : (dFs m k 0 fs)[b]? = some (.inl (m.1 k b)) := by rw [dFs_at, h2]; simp [dFv]
    exact Nat.ble_eq_true_of_le (List.getElem?_eq_some_iff.mp this).1
  have hc : (Nat.beq e 0 || (Nat.beq e 2 && cB1 x)) = true := by simp only [he, Nat.beq_refl, Bool.true_or]
  simp only [cStep, dHp_at, h1, Option.map_some, dC, Nat.beq_refl, hb, hc, Bool.and_true, cond_true]
  rw [dHp_set (m' := dSet m k b x) (fun j hj => ⟨dSet_k hj, rfl⟩) rfl (fun s hs => ?_)]
  · rfl
  · rw [h1] at hs
    cases hs
    simp only [dC, dFs_set h2]
theorem w_putz {k z : Nat} {x : Int32} {m' : dM} (hM : tMs[y]? = some M) (ha : dAt M pc q (.putfield z) a b e) (hf : dFk k a b = some none) (he : e = 2) (hx : x = 0 ∨ x = 1) (hm : dSet m k b x = m') (K : Wp d y q l st m' Q) : Wp d y pc l (.inl x :: .inr (.inr (some k)) :: st) m Q := by
  obtain ⟨fs, h1, h2⟩ := dFk_ok hf
  subst hm
  refine Wp.step hM ha.1 rfl rfl (fun lc h => ⟨lc, h, ?_⟩) K
  rw [← ha.2]
  have hb : Nat.blt b (dFs m k 0 fs).length = true := by
    have : (dFs m k 0 fs)[b]? = some (.inl (m.1 k b)) := by rw [dFs_at, h2]; simp [dFv]
    exact Nat.ble_eq_true_of_le (List.getElem?_eq_some_iff.mp this).1
  have hc : (Nat.beq e 0 || (Nat.beq e 2 && cB1 x)) = true := by simp only [he, Nat.beq_refl, Bool.true_and, cB1, decide_eq_true hx, Bool.or_true]
  simp only [cStep, dHp_at, h1, Option.map_some, dC, Nat.beq_refl, hb, hc, Bool.and_true, cond_true]
  rw [dHp_set (m' := dSet m k b x) (fun j hj => ⟨dSet_k hj, rfl⟩) rfl (fun s hs => ?_)]
  · rfl
  · rw [h1] at hs
    cases hs
    simp only [dC, dFs_set h2]
theorem w_putt {k z : Nat} (hM : tMs[y]? = some M) (ha : dAt M pc q (.putfield z) a b e) (hk : k = 38) (hb : b = 4) (hA : a = 8) (he : e = 5) (K : Wp d y q l st (dTx m) Q) : Wp d y pc l (.inr (.inr (some 1)) :: .inr (.inr (some k)) :: st) m Q := by
  subst hk
  subst hb
  subst hA
  subst he
  refine Wp.step hM ha.1 rfl rfl (fun lc h => ⟨lc, h, ?_⟩) K
  rw [← ha.2]
  rfl
theorem d_cix {x : Int32} {n : Nat} (h : 0 ≤ x.toInt ∧ x.toInt < n) : cIx x n = true := decide_eq_true h
theorem w_iald {k n j : Nat} {x v : Int32} (hM : tMs[y]? = some M) (ha : dAt M pc q .iaload a b e) (hk : dAk k = some (0, n)) (hi : 0 ≤ x.toInt ∧ x.toInt < n) (hj : x.toNatClampNeg = j) (hv : m.1 k j = v) (K : Wp d y q l (.inl v :: st) m Q) : Wp d y pc l (.inl x :: .inr (.inr (some k)) :: st) m Q := by
  refine Wp.step hM ha.1 rfl rfl (fun lc h => ⟨lc, h, ?_⟩) K
  rw [← ha.2]
  simp only [cStep, dHp_at, dAk_ok hk, Option.map_some, dC, Nat.beq_refl, d_cix hi, Bool.and_true, Bool.true_or, Bool.or_true, cond_true, hj, hv]
  rfl
theorem w_bald {k n j : Nat} {x v : Int32} (hM : tMs[y]? = some M) (ha : dAt M pc q .baload a b e) (hk : dAk k = some (1, n)) (hi : 0 ≤ x.toInt ∧ x.toInt < n) (hj : x.toNatClampNeg = j) (hv : m.1 k j = v) (K : Wp d y q l (.inl v :: st) m Q) : Wp d y pc l (.inl x :: .inr (.inr (some k)) :: st) m Q := by
  refine Wp.step hM ha.1 rfl rfl (fun lc h => ⟨lc, h, ?_⟩) K
  rw [← ha.2]
  simp only [cStep, dHp_at, dAk_ok hk, Option.map_some, dC, Nat.beq_refl, d_cix hi, Bool.and_true, Bool.true_or, Bool.or_true, cond_true, hj, hv]
  rfl
theorem w_zald {k n j : Nat} {x v : Int32} (hM : tMs[y]? = some M) (ha : dAt M pc q .baload a b e) (hk : dAk k = some (2, n)) (hi : 0 ≤ x.toInt ∧ x.toInt < n) (hj : x.toNatClampNeg = j) (hv : m.1 k j = v) (K : Wp d y q l (.inl v :: st) m Q) : Wp d y pc l (.inl x :: .inr (.inr (some k)) :: st) m Q := by
  refine Wp.step hM ha.1 rfl rfl (fun lc h => ⟨lc, h, ?_⟩) K
  rw [← ha.2]
  simp only [cStep, dHp_at, dAk_ok hk, Option.map_some, dC, Nat.beq_refl, d_cix hi, Bool.and_true, Bool.true_or, Bool.or_true, cond_true, hj, hv]
  rfl
theorem w_iast {k n j : Nat} {x z : Int32} {m' : dM} (hM : tMs[y]? = some M) (ha : dAt M pc q .iastore a b e) (hk : dAk k = some (0, n)) (hi : 0 ≤ x.toInt ∧ x.toInt < n) (hj : x.toNatClampNeg = j) (hm : dSet m k j (z) = m') (K : Wp d y q l st m' Q) : Wp d y pc l (.inl z :: .inl x :: .inr (.inr (some k)) :: st) m Q := by
  subst hm
  subst hj
  refine Wp.step hM ha.1 rfl rfl (fun lc h => ⟨lc, h, ?_⟩) K
  rw [← ha.2]
  simp only [cStep, dHp_at, dAk_ok hk, Option.map_some, dC, Nat.beq_refl, d_cix hi, Bool.and_true, Bool.true_or, Bool.or_true, cond_true]
  rw [dHp_set (m' := dSet m k x.toNatClampNeg (z)) (fun j hj => ⟨dSet_k hj, rfl⟩) rfl (fun s hs => ?_)]
  · rfl
  · rw [dAk_ok hk] at hs
    cases hs
    simp only [dC, dSet_f]
    all_goals rfl
theorem w_bast {k n j : Nat} {x z : Int32} {m' : dM} (hM : tMs[y]? = some M) (ha : dAt M pc q .bastore a b e) (hk : dAk k = some (1, n)) (hi : 0 ≤ x.toInt ∧ x.toInt < n) (hj : x.toNatClampNeg = j) (hm : dSet m k j (z.toInt8.toInt32) = m') (K : Wp d y q l st m' Q) : Wp d y pc l (.inl z :: .inl x :: .inr (.inr (some k)) :: st) m Q := by
  subst hm
  subst hj
  refine Wp.step hM ha.1 rfl rfl (fun lc h => ⟨lc, h, ?_⟩) K
  rw [← ha.2]
  simp only [cStep, dHp_at, dAk_ok hk, Option.map_some, dC, Nat.beq_refl, d_cix hi, Bool.and_true, Bool.true_or, Bool.or_true, cond_true]
  rw [dHp_set (m' := dSet m k x.toNatClampNeg (z.toInt8.toInt32)) (fun j hj => ⟨dSet_k hj, rfl⟩) rfl (fun s hs => ?_)]
  · rfl
  · rw [dAk_ok hk] at hs
    cases hs
    simp only [dC, dSet_f]
    all_goals rfl
theorem w_zast {k n j : Nat} {x z : Int32} {m' : dM} (hM : tMs[y]? = some M) (ha : dAt M pc q .bastore a b e) (hk : dAk k = some (2, n)) (hz : z = 0 ∨ z = 1) (hi : 0 ≤ x.toInt ∧ x.toInt < n) (hj : x.toNatClampNeg = j) (hm : dSet m k j (z) = m') (K : Wp d y q l st m' Q) : Wp d y pc l (.inl z :: .inl x :: .inr (.inr (some k)) :: st) m Q := by
  subst hm
  subst hj
  refine Wp.step hM ha.1 rfl rfl (fun lc h => ⟨lc, h, ?_⟩) K
  rw [← ha.2]
  simp only [cStep, dHp_at, dAk_ok hk, Option.map_some, dC, Nat.beq_refl, d_cix hi, Bool.and_true, Bool.true_or, Bool.or_true, cond_true, cB1, decide_eq_true hz, Bool.true_and]
  rw [dHp_set (m' := dSet m k x.toNatClampNeg (z)) (fun j hj => ⟨dSet_k hj, rfl⟩) rfl (fun s hs => ?_)]
  · rfl
  · rw [dAk_ok hk] at hs
    cases hs
    simp only [dC, dSet_f]
    all_goals rfl
theorem w_lald {k n j : Nat} {x : Int32} {v : Int64} (hM : tMs[y]? = some M) (ha : dAt M pc q .laload a b e) (hk : dLk k = some n) (hi : 0 ≤ x.toInt ∧ x.toInt < n) (hj : x.toNatClampNeg = j) (hv : dLg m k j = v) (K : Wp d y q l (.inr (.inl v) :: st) m Q) : Wp d y pc l (.inl x :: .inr (.inr (some k)) :: st) m Q := by
  refine Wp.step hM ha.1 rfl rfl (fun lc h => ⟨lc, h, ?_⟩) K
  rw [← ha.2]
  simp only [cStep, dHp_at, dLk_ok hk, Option.map_some, dC, d_cix hi, cond_true, hj, hv]
  rfl
theorem w_last {k n j : Nat} {x : Int32} {z : Int64} {m' : dM} (hM : tMs[y]? = some M) (ha : dAt M pc q .lastore a b e) (hk : dLk k = some n) (hi : 0 ≤ x.toInt ∧ x.toInt < n) (hj : x.toNatClampNeg = j) (hm : dSetL m k j z = m') (K : Wp d y q l st m' Q) (hK : (Nat.beq k 42 || Nat.beq k 77) = false := by rfl) : Wp d y pc l (.inr (.inl z) :: .inl x :: .inr (.inr (some k)) :: st) m Q := by
  subst hm
  subst hj
  refine Wp.step hM ha.1 rfl rfl (fun lc h => ⟨lc, h, ?_⟩) K
  rw [← ha.2]
  simp only [cStep, dHp_at, dLk_ok hk, Option.map_some, dC, d_cix hi, cond_true]
  rw [dHp_set (m := m) (m' := dSetL m k x.toNatClampNeg z) (fun j hj => ⟨rfl, ?_⟩) rfl (fun s hs => ?_)]
  · rfl
  · funext b
    simp [dSetL, d_beq hj]
  · rw [dLk_ok hk] at hs
    cases hs
    simp only [dC]
    congr 4
    funext b
    unfold vp_updL dLg
    rw [hK]
    by_cases hb : b = x.toNatClampNeg
    · subst hb; simp [dSetL]
    · simp [dSetL, d_beq hb, hb]
def dRs (rs : List Nat) (i : Int) (X : Int) (K : Nat → Prop) : Prop := match rs with
  | [] => True
  | r :: rs => (X = i → K r) ∧ dRs rs (i + 1) X K
theorem dRs_ok : ∀ {rs : List Nat} {i X : Int} {K : Nat → Prop}, dRs rs i X K → ∀ (j : Nat) (r : Nat), rs[j]? = some r → X = i + j → K r
  | [], i, X, K, h, j, r, hj, hx => by simp at hj
  | r0 :: rs, i, X, K, h, 0, r, hj, hx => by
    simp at hj
    subst hj
    exact h.1 (by simpa using hx)
  | r0 :: rs, i, X, K, h, j + 1, r, hj, hx => dRs_ok h.2 j r (by simpa using hj) (by rw [hx]; push_cast; omega)
theorem w_aald {k : Nat} {rs : List Nat} {x : Int32} {X : Int} (hM : tMs[y]? = some M) (ha : dAt M pc q .aaload a b e) (hk : dRk k = some rs) (hX : x.toInt = X) (hi : 0 ≤ X ∧ X < rs.length) (K : dRs rs 0 X (fun r => Wp d y q l (.inr (.inr (some r)) :: st) m Q)) : Wp d y pc l (.inl x :: .inr (.inr (some k)) :: st) m Q := by
  have hc : x.toNatClampNeg < rs.length := by rw [Int32.toNatClampNeg, hX]; omega
  have hr : rs[x.toNatClampNeg]? = some rs[x.toNatClampNeg] := List.getElem?_eq_getElem hc
  have K := dRs_ok K x.toNatClampNeg _ hr (by rw [Int32.toNatClampNeg, hX]; omega)
  refine Wp.step hM ha.1 rfl rfl (fun lc h => ⟨lc, h, ?_⟩) K
  rw [← ha.2]
  subst hX
  simp only [cStep, dHp_at, dRk_ok hk, Option.map_some, dC, d_cix hi, cond_true, hr]
  rfl
theorem w_alen {k n t : Nat} {x : Int32} (hM : tMs[y]? = some M) (ha : dAt M pc q .arraylength a b e) (hk : dAk k = some (t, n)) (hx : Int32.ofNat n = x) (K : Wp d y q l (.inl x :: st) m Q) : Wp d y pc l (.inr (.inr (some k)) :: st) m Q := by
  refine Wp.step hM ha.1 rfl rfl (fun lc h => ⟨lc, h, ?_⟩) K
  rw [← ha.2]
  simp only [cStep, dHp_at, dAk_ok hk, Option.map_some, dC, hx]
  rfl
theorem w_alenL {k n : Nat} {x : Int32} (hM : tMs[y]? = some M) (ha : dAt M pc q .arraylength a b e) (hk : dLk k = some n) (hx : Int32.ofNat n = x) (K : Wp d y q l (.inl x :: st) m Q) : Wp d y pc l (.inr (.inr (some k)) :: st) m Q := by
  refine Wp.step hM ha.1 rfl rfl (fun lc h => ⟨lc, h, ?_⟩) K
  rw [← ha.2]
  simp only [cStep, dHp_at, dLk_ok hk, Option.map_some, dC, hx]
  rfl
theorem w_goto {off : Int} (hM : tMs[y]? = some M) (ha : ∃ c len, eAt M.1 pc = some (pc, .goto off, len, q, b, c, e)) (K : Wp d y q l st m Q) : Wp d y pc l st m Q :=
  Wp.step hM ha rfl rfl (fun lc h => ⟨lc, h, rfl⟩) K
theorem w_icmp_eq {off : Int} {x z : Int32} {X Y : Int} (hM : tMs[y]? = some M) (ha : dAt M pc q (.if_icmp .eq off) a b e) (hx : x.toInt = X) (hz : z.toInt = Y) (K1 : X = Y → Wp d y a l st m Q) (K2 : X ≠ Y → Wp d y q l st m Q) : Wp d y pc l (.inl z :: .inl x :: st) m Q := by
  subst hx
  subst hz
  by_cases hc : cHd .eq x z = true
  · refine Wp.step hM ha.1 rfl rfl (fun lc h => ⟨lc, h, ?_⟩) (K1 (of_decide_eq_true hc))
    simp only [cStep, hc, cond_true]
  · have hc : cHd .eq x z = false := by simpa using hc
    refine Wp.step hM ha.1 rfl rfl (fun lc h => ⟨lc, h, ?_⟩) (K2 (by have := of_decide_eq_false hc; omega))
    rw [← ha.2]
    simp only [cStep, hc, cond_false]
    rfl
theorem w_if_eq {off : Int} {x : Int32} {X : Int} (hM : tMs[y]? = some M) (ha : dAt M pc q (.ifCond .eq off) a b e) (hx : x.toInt = X) (K1 : X = 0 → Wp d y a l st m Q) (K2 : X ≠ 0 → Wp d y q l st m Q) : Wp d y pc l (.inl x :: st) m Q := by
  subst hx
  have e0 : (0 : Int32).toInt = 0 := rfl
  by_cases hc : cHd .eq x 0 = true
  · refine Wp.step hM ha.1 rfl rfl (fun lc h => ⟨lc, h, ?_⟩) (K1 (by have := of_decide_eq_true hc; omega))
    simp only [cStep, hc, cond_true]
  · have hc : cHd .eq x 0 = false := by simpa using hc
    refine Wp.step hM ha.1 rfl rfl (fun lc h => ⟨lc, h, ?_⟩) (K2 (by have := of_decide_eq_false hc; omega))
    rw [← ha.2]
    simp only [cStep, hc, cond_false]
    rfl
theorem w_icmp_ne {off : Int} {x z : Int32} {X Y : Int} (hM : tMs[y]? = some M) (ha : dAt M pc q (.if_icmp .ne off) a b e) (hx : x.toInt = X) (hz : z.toInt = Y) (K1 : X ≠ Y → Wp d y a l st m Q) (K2 : X = Y → Wp d y q l st m Q) : Wp d y pc l (.inl z :: .inl x :: st) m Q := by
  subst hx
  subst hz
  by_cases hc : cHd .ne x z = true
  · refine Wp.step hM ha.1 rfl rfl (fun lc h => ⟨lc, h, ?_⟩) (K1 (of_decide_eq_true hc))
    simp only [cStep, hc, cond_true]
  · have hc : cHd .ne x z = false := by simpa using hc
    refine Wp.step hM ha.1 rfl rfl (fun lc h => ⟨lc, h, ?_⟩) (K2 (by have := of_decide_eq_false hc; omega))
    rw [← ha.2]
    simp only [cStep, hc, cond_false]
    rfl
theorem w_if_ne {off : Int} {x : Int32} {X : Int} (hM : tMs[y]? = some M) (ha : dAt M pc q (.ifCond .ne off) a b e) (hx : x.toInt = X) (K1 : X ≠ 0 → Wp d y a l st m Q) (K2 : X = 0 → Wp d y q l st m Q) : Wp d y pc l (.inl x :: st) m Q := by
  subst hx
  have e0 : (0 : Int32).toInt = 0 := rfl
  by_cases hc : cHd .ne x 0 = true
  · refine Wp.step hM ha.1 rfl rfl (fun lc h => ⟨lc, h, ?_⟩) (K1 (by have := of_decide_eq_true hc; omega))
    simp only [cStep, hc, cond_true]
  · have hc : cHd .ne x 0 = false := by simpa using hc
    refine Wp.step hM ha.1 rfl rfl (fun lc h => ⟨lc, h, ?_⟩) (K2 (by have := of_decide_eq_false hc; omega))
    rw [← ha.2]
    simp only [cStep, hc, cond_false]
    rfl
theorem w_icmp_lt {off : Int} {x z : Int32} {X Y : Int} (hM : tMs[y]? = some M) (ha : dAt M pc q (.if_icmp .lt off) a b e) (hx : x.toInt = X) (hz : z.toInt = Y) (K1 : X < Y → Wp d y a l st m Q) (K2 : Y ≤ X → Wp d y q l st m Q) : Wp d y pc l (.inl z :: .inl x :: st) m Q := by
  subst hx
  subst hz
  by_cases hc : cHd .lt x z = true
  · refine Wp.step hM ha.1 rfl rfl (fun lc h => ⟨lc, h, ?_⟩) (K1 (of_decide_eq_true hc))
    simp only [cStep, hc, cond_true]
  · have hc : cHd .lt x z = false := by simpa using hc
    refine Wp.step hM ha.1 rfl rfl (fun lc h => ⟨lc, h, ?_⟩) (K2 (by have := of_decide_eq_false hc; omega))
    rw [← ha.2]
    simp only [cStep, hc, cond_false]
    rfl
theorem w_if_lt {off : Int} {x : Int32} {X : Int} (hM : tMs[y]? = some M) (ha : dAt M pc q (.ifCond .lt off) a b e) (hx : x.toInt = X) (K1 : X < 0 → Wp d y a l st m Q) (K2 : 0 ≤ X → Wp d y q l st m Q) : Wp d y pc l (.inl x :: st) m Q := by
  subst hx
  have e0 : (0 : Int32).toInt = 0 := rfl
  by_cases hc : cHd .lt x 0 = true
  · refine Wp.step hM ha.1 rfl rfl (fun lc h => ⟨lc, h, ?_⟩) (K1 (by have := of_decide_eq_true hc; omega))
    simp only [cStep, hc, cond_true]
  · have hc : cHd .lt x 0 = false := by simpa using hc
    refine Wp.step hM ha.1 rfl rfl (fun lc h => ⟨lc, h, ?_⟩) (K2 (by have := of_decide_eq_false hc; omega))
    rw [← ha.2]
    simp only [cStep, hc, cond_false]
    rfl
theorem w_icmp_ge {off : Int} {x z : Int32} {X Y : Int} (hM : tMs[y]? = some M) (ha : dAt M pc q (.if_icmp .ge off) a b e) (hx : x.toInt = X) (hz : z.toInt = Y) (K1 : Y ≤ X → Wp d y a l st m Q) (K2 : X < Y → Wp d y q l st m Q) : Wp d y pc l (.inl z :: .inl x :: st) m Q := by
  subst hx
  subst hz
  by_cases hc : cHd .ge x z = true
  · refine Wp.step hM ha.1 rfl rfl (fun lc h => ⟨lc, h, ?_⟩) (K1 (of_decide_eq_true hc))
    simp only [cStep, hc, cond_true]
  · have hc : cHd .ge x z = false := by simpa using hc
    refine Wp.step hM ha.1 rfl rfl (fun lc h => ⟨lc, h, ?_⟩) (K2 (by have := of_decide_eq_false hc; omega))
    rw [← ha.2]
    simp only [cStep, hc, cond_false]
    rfl
theorem w_if_ge {off : Int} {x : Int32} {X : Int} (hM : tMs[y]? = some M) (ha : dAt M pc q (.ifCond .ge off) a b e) (hx : x.toInt = X) (K1 : 0 ≤ X → Wp d y a l st m Q) (K2 : X < 0 → Wp d y q l st m Q) : Wp d y pc l (.inl x :: st) m Q := by
  subst hx
  have e0 : (0 : Int32).toInt = 0 := rfl
  by_cases hc : cHd .ge x 0 = true
  · refine Wp.step hM ha.1 rfl rfl (fun lc h => ⟨lc, h, ?_⟩) (K1 (by have := of_decide_eq_true hc; omega))
    simp only [cStep, hc, cond_true]
  · have hc : cHd .ge x 0 = false := by simpa using hc
    refine Wp.step hM ha.1 rfl rfl (fun lc h => ⟨lc, h, ?_⟩) (K2 (by have := of_decide_eq_false hc; omega))
    rw [← ha.2]
    simp only [cStep, hc, cond_false]
    rfl
theorem w_icmp_gt {off : Int} {x z : Int32} {X Y : Int} (hM : tMs[y]? = some M) (ha : dAt M pc q (.if_icmp .gt off) a b e) (hx : x.toInt = X) (hz : z.toInt = Y) (K1 : Y < X → Wp d y a l st m Q) (K2 : X ≤ Y → Wp d y q l st m Q) : Wp d y pc l (.inl z :: .inl x :: st) m Q := by
  subst hx
  subst hz
  by_cases hc : cHd .gt x z = true
  · refine Wp.step hM ha.1 rfl rfl (fun lc h => ⟨lc, h, ?_⟩) (K1 (of_decide_eq_true hc))
    simp only [cStep, hc, cond_true]
  · have hc : cHd .gt x z = false := by simpa using hc
    refine Wp.step hM ha.1 rfl rfl (fun lc h => ⟨lc, h, ?_⟩) (K2 (by have := of_decide_eq_false hc; omega))
    rw [← ha.2]
    simp only [cStep, hc, cond_false]
    rfl
theorem w_if_gt {off : Int} {x : Int32} {X : Int} (hM : tMs[y]? = some M) (ha : dAt M pc q (.ifCond .gt off) a b e) (hx : x.toInt = X) (K1 : 0 < X → Wp d y a l st m Q) (K2 : X ≤ 0 → Wp d y q l st m Q) : Wp d y pc l (.inl x :: st) m Q := by
  subst hx
  have e0 : (0 : Int32).toInt = 0 := rfl
  by_cases hc : cHd .gt x 0 = true
  · refine Wp.step hM ha.1 rfl rfl (fun lc h => ⟨lc, h, ?_⟩) (K1 (by have := of_decide_eq_true hc; omega))
    simp only [cStep, hc, cond_true]
  · have hc : cHd .gt x 0 = false := by simpa using hc
    refine Wp.step hM ha.1 rfl rfl (fun lc h => ⟨lc, h, ?_⟩) (K2 (by have := of_decide_eq_false hc; omega))
    rw [← ha.2]
    simp only [cStep, hc, cond_false]
    rfl
theorem w_icmp_le {off : Int} {x z : Int32} {X Y : Int} (hM : tMs[y]? = some M) (ha : dAt M pc q (.if_icmp .le off) a b e) (hx : x.toInt = X) (hz : z.toInt = Y) (K1 : X ≤ Y → Wp d y a l st m Q) (K2 : Y < X → Wp d y q l st m Q) : Wp d y pc l (.inl z :: .inl x :: st) m Q := by
  subst hx
  subst hz
  by_cases hc : cHd .le x z = true
  · refine Wp.step hM ha.1 rfl rfl (fun lc h => ⟨lc, h, ?_⟩) (K1 (of_decide_eq_true hc))
    simp only [cStep, hc, cond_true]
  · have hc : cHd .le x z = false := by simpa using hc
    refine Wp.step hM ha.1 rfl rfl (fun lc h => ⟨lc, h, ?_⟩) (K2 (by have := of_decide_eq_false hc; omega))
    rw [← ha.2]
    simp only [cStep, hc, cond_false]
    rfl
theorem w_if_le {off : Int} {x : Int32} {X : Int} (hM : tMs[y]? = some M) (ha : dAt M pc q (.ifCond .le off) a b e) (hx : x.toInt = X) (K1 : X ≤ 0 → Wp d y a l st m Q) (K2 : 0 < X → Wp d y q l st m Q) : Wp d y pc l (.inl x :: st) m Q := by
  subst hx
  have e0 : (0 : Int32).toInt = 0 := rfl
  by_cases hc : cHd .le x 0 = true
  · refine Wp.step hM ha.1 rfl rfl (fun lc h => ⟨lc, h, ?_⟩) (K1 (by have := of_decide_eq_true hc; omega))
    simp only [cStep, hc, cond_true]
  · have hc : cHd .le x 0 = false := by simpa using hc
    refine Wp.step hM ha.1 rfl rfl (fun lc h => ⟨lc, h, ?_⟩) (K2 (by have := of_decide_eq_false hc; omega))
    rw [← ha.2]
    simp only [cStep, hc, cond_false]
    rfl
theorem w_ifnull {off : Int} {k : Nat} {t : Bool} (hM : tMs[y]? = some M) (ha : dAt M pc q (.ifnull off) a b e) (K1 : t = false → Wp d y a l st m Q) (K2 : t = true → Wp d y q l st m Q) : Wp d y pc l (.inr (.inr (cond t (some k) none)) :: st) m Q := by
  cases t with
  | false => exact Wp.step hM ha.1 rfl rfl (fun lc h => ⟨lc, h, rfl⟩) (K1 rfl)
  | true => exact Wp.step hM ha.1 rfl rfl (fun lc h => ⟨lc, h, by rw [← ha.2]; rfl⟩) (K2 rfl)
def dTs (pc : Nat) (offs : List Int) (i : Int) (X : Int) (K : Nat → Prop) : Prop := match offs with
  | [] => True
  | o :: os => (X = i → K ((pc : Int) + o).toNat) ∧ dTs pc os (i + 1) X K
theorem dTs_ok {pc : Nat} : ∀ {os : List Int} {i X : Int} {K : Nat → Prop}, dTs pc os i X K → ∀ (j : Nat) (o : Int), os[j]? = some o → X = i + j → K ((pc : Int) + o).toNat
  | [], i, X, K, h, j, r, hj, hx => by simp at hj
  | r0 :: rs, i, X, K, h, 0, r, hj, hx => by
    simp at hj
    subst hj
    exact h.1 (by simpa using hx)
  | r0 :: rs, i, X, K, h, j + 1, r, hj, hx => dTs_ok h.2 j r (by simpa using hj) (by rw [hx]; push_cast; omega)
def dPos (pc : Nat) (dflt : Int) (offs : List Int) : Bool := decide (0 ≤ (pc : Int) + dflt) && offs.all (fun o => decide (0 ≤ (pc : Int) + o))
theorem w_tsw {dflt lo hi : Int} {offs : Array Int} {x : Int32} {X : Int} (hM : tMs[y]? = some M) (ha : ∃ c len, eAt M.1 pc = some (pc, .tableswitch dflt lo hi offs, len, a, b, c, e)) (hp : dPos pc dflt offs.toList = true) (hn : (offs.toList.length : Int) = hi - lo + 1) (hx : x.toInt = X) (K : dTs pc offs.toList lo X (fun t => Wp d y t l st m Q)) (K2 : X < lo ∨ hi < X → Wp d y ((pc : Int) + dflt).toNat l st m Q) : Wp d y pc l (.inl x :: st) m Q := by
  subst hx
  unfold dPos at hp
  rw [Bool.and_eq_true] at hp
  by_cases hc : lo ≤ x.toInt ∧ x.toInt ≤ hi
  · have hj : (x.toInt - lo).toNat < offs.toList.length := by omega
    have hr : offs.toList[(x.toInt - lo).toNat]? = some offs.toList[(x.toInt - lo).toNat] := List.getElem?_eq_getElem hj
    have K := dTs_ok K _ _ hr (by omega)
    have h0 := List.all_eq_true.mp hp.2 _ (List.mem_of_getElem? hr)
    refine Wp.step hM ha rfl rfl (fun lc h => ⟨lc, h, ?_⟩) K
    have hr2 : offs[(x.toInt - lo).toNat]? = some offs.toList[(x.toInt - lo).toNat] := by rw [← Array.getElem?_toList]; exact hr
    simp only [cStep, decide_eq_true hc.1, decide_eq_true hc.2, Bool.and_true, cond_true, hr2, h0]
  · refine Wp.step hM ha rfl rfl (fun lc h => ⟨lc, h, ?_⟩) (K2 (by omega))
    have h1 : (decide (lo ≤ x.toInt) && decide (x.toInt ≤ hi)) = false := by
      rw [Bool.and_eq_false_iff]
      by_cases h2 : lo ≤ x.toInt
      · exact Or.inr (decide_eq_false (fun h3 => hc ⟨h2, h3⟩))
      · exact Or.inl (decide_eq_false h2)
    simp only [cStep, h1, cond_false, hp.1, cond_true]
theorem Wp.ret {i : Instr} {v : Option cV} (hM : tMs[y]? = some M) (ha : dAt M pc q i a b e) (hv : ∀ (c len : Nat) (S : cS), S.2.2.1 = st → cRet M (pc, i, len, a, b, c, e) S = some v) (K : Q v m) : Wp d y pc l st m Q := by
  intro lc hlc
  obtain ⟨c, len, ha⟩ := ha.1
  exact ⟨v, m, cRun.ret hM ha (hv c len _ rfl) rfl, K⟩
theorem w_retv {Q : dM → Prop} (hM : tMs[y]? = some M) (ha : dAt M pc q .return_ a b e) (hr : M.2.2.2.2.1 = 0) (K : Q m) : Wp d y pc l [] m (qV Q) := by
  refine Wp.ret (v := none) hM ha (fun c len S hS => ?_) ⟨rfl, K⟩
  unfold cRet
  rw [hr, hS]
  rfl
theorem w_reti {Q : Int32 → dM → Prop} {x : Int32} (hM : tMs[y]? = some M) (ha : dAt M pc q .ireturn a b e) (hr : M.2.2.2.2.1 = 1) (K : Q x m) : Wp d y pc l [.inl x] m (qI Q) := by
  refine Wp.ret (v := some (.inl x)) hM ha (fun c len S hS => ?_) ⟨x, rfl, K⟩
  unfold cRet
  rw [hr, hS]
  rfl
theorem w_retz {Q : Int32 → dM → Prop} {x : Int32} (hM : tMs[y]? = some M) (ha : dAt M pc q .ireturn a b e) (hr : M.2.2.2.2.1 = 2) (hx : x = 0 ∨ x = 1) (K : Q x m) : Wp d y pc l [.inl x] m (qI Q) := by
  refine Wp.ret (v := some (.inl x)) hM ha (fun c len S hS => ?_) ⟨x, rfl, K⟩
  unfold cRet
  rw [hr, hS]
  simp only [cB1, decide_eq_true hx, cond_true]
theorem w_retl {Q : Int64 → dM → Prop} {x : Int64} (hM : tMs[y]? = some M) (ha : dAt M pc q .lreturn a b e) (hr : M.2.2.2.2.1 = 3) (K : Q x m) : Wp d y pc l [.inr (.inl x)] m (qL Q) := by
  refine Wp.ret (v := some (.inr (.inl x))) hM ha (fun c len S hS => ?_) ⟨x, rfl, K⟩
  unfold cRet
  rw [hr, hS]
  rfl
theorem w_reta {Q : dM → Prop} {k : Nat} (hM : tMs[y]? = some M) (ha : dAt M pc q .areturn a b e) (hr : M.2.2.2.2.1 = 4) (K : Q m) : Wp d y pc l [.inr (.inr (some k))] m (qR k Q) := by
  refine Wp.ret (v := some (.inr (.inr (some k)))) hM ha (fun c len S hS => ?_) ⟨rfl, K⟩
  unfold cRet
  rw [hr, hS]
  rfl
theorem Wp.blt {i : Instr} {st' : List cV} {m' : dM} (hM : tMs[y]? = some M) (ha : dAt M pc q i a b e) (hq : pc + 3 = q) (hc : cIsC i = true) (hr : cIsR i = false) (hk : Nat.ble 6 a = true) (hb : cBlt a (dHp m) st = some (st', dHp m')) (K : Wp (d + 1) y q l st' m' Q) : Wp (d + 1) y pc l st m Q := by
  intro lc hlc
  obtain ⟨c, len, ha⟩ := ha.1
  obtain ⟨v, m2, h3, h4⟩ := K lc hlc
  exact ⟨v, m2, cRun.blt hM ha (cRet_none hr) hc hk hb (by rw [← hq] at h3; exact h3), h4⟩
theorem w_min {z : Nat} {x w : Int32} (hM : tMs[y]? = some M) (ha : dAt M pc q (.invokestatic z) a b e) (hA : a = 7) (hn : Nat.ble (cCats st) 8 = true) (K : Wp (d + 1) y q l (.inl (if w < x then w else x) :: st) m Q) : Wp (d + 1) y pc l (.inl w :: .inl x :: st) m Q := by
  subst hA
  exact Wp.blt hM ha ha.2 rfl rfl rfl (by simp only [cBlt, hn, cond_true]) K
theorem w_max {z : Nat} {x w : Int32} (hM : tMs[y]? = some M) (ha : dAt M pc q (.invokestatic z) a b e) (hA : a = 8) (hn : Nat.ble (cCats st) 8 = true) (K : Wp (d + 1) y q l (.inl (if x < w then w else x) :: st) m Q) : Wp (d + 1) y pc l (.inl w :: .inl x :: st) m Q := by
  subst hA
  exact Wp.blt hM ha ha.2 rfl rfl rfl (by simp only [cBlt, hn, cond_true]) K
theorem w_copy {z k0 k1 n0 n1 : Nat} {n dp sp : Int32} {N D S : Int} (hM : tMs[y]? = some M) (ha : dAt M pc q (.invokestatic z) a b e) (hA : a = 9) (hn : Nat.ble (cCats st) 8 = true) (h0 : dAk k0 = some (0, n0)) (h1 : dAk k1 = some (0, n1)) (hne : Nat.beq k0 k1 = false) (hN : n.toInt = N) (hD : dp.toInt = D) (hS : sp.toInt = S) (hi : 0 ≤ N ∧ 0 ≤ D ∧ 0 ≤ S ∧ S + N ≤ n0 ∧ D + N ≤ n1) (K : Wp (d + 1) y q l st (dCpy m k0 S.toNat k1 D.toNat N.toNat) Q) : Wp (d + 1) y pc l (.inl n :: .inl dp :: .inr (.inr (some k1)) :: .inl sp :: .inr (.inr (some k0)) :: st) m Q := by
  subst hA
  subst hN
  subst hD
  subst hS
  refine Wp.blt (m' := dCpy m k0 sp.toInt.toNat k1 dp.toInt.toNat n.toInt.toNat) hM ha ha.2 rfl rfl rfl ?_ K
  have hx : (dHp m).set k1 (.inr (.inl (0, n1, va_cpy (m.1 k0) (m.1 k1) sp.toNatClampNeg dp.toNatClampNeg n.toNatClampNeg))) = dHp (dCpy m k0 sp.toInt.toNat k1 dp.toInt.toNat n.toInt.toNat) := by
    refine dHp_set (fun j hj => ⟨?_, rfl⟩) rfl (fun s hs => ?_)
    · funext b
      simp [dCpy, d_beq hj]
    · rw [dAk_ok h1] at hs
      cases hs
      simp only [dC]
      congr 4
      funext b
      simp only [dCpy, Nat.beq_refl, cond_true]
      rfl
  simp only [cBlt, hn, cond_true, cCpy, dHp_at, dAk_ok h0, dAk_ok h1, Option.map_some, dC, Nat.beq_refl, hne, Bool.not_false, Bool.and_true, Bool.true_and, decide_eq_true hi]
  rw [hx]
theorem w_call {i : Instr} {N : eM} {vs rest : List cV} {la : dL} {n : Nat} (hM : tMs[y]? = some M) (ha : dAt M pc q i a b e) (hq : pc + 3 = q) (hc : cIsC i = true) (hr : cIsR i = false) (hk : Nat.ble 6 a = false) (hN : tMs[b]? = some N) (hp : cPop st N.2.2.2.2.2 a = some (vs, rest)) (hn : (Nat.ble (cCats rest) 8 && Nat.beq N.2.2.1 0 && Nat.beq N.2.2.2.1 0 && Nat.ble (cCats vs) N.2.1) = true) (hv : a = 0 → ∃ k vs', vs = .inr (.inr (some k)) :: vs' ∧ dCk k e = true) (hla : dArgs vs ++ List.replicate n none = la) (K : Wp d b 0 la [] m (fun o m' => Wp (d + 1) y q l (o.toList ++ rest) m' Q)) : Wp (d + 1) y pc l st m Q := by
  intro lc hlc
  obtain ⟨c, len, ha⟩ := ha.1
  obtain ⟨v, m2, h3, h4⟩ := K (cArgs 0 vs) (fun i w hw => by
    rw [← hla] at hw
    have := dArgs_ok vs 0 i w n hw
    rwa [Nat.zero_add] at this)
  obtain ⟨v', m3, h5, h6⟩ := h4 lc hlc
  refine ⟨v', m3, cRun.call (N := N) (q := (vs, rest)) hM ha (cRet_none hr) hc hk hN hp ?_ h3 (by rw [← hq] at h5; exact h5), h6⟩
  rw [Bool.and_eq_true]
  refine ⟨hn, ?_⟩
  show cRcv (dHp m) a e vs = true
  unfold cRcv
  split
  · rename_i h0
    obtain ⟨k, vs', rfl, hk2⟩ := hv rfl
    simp only
    unfold dCk at hk2
    rw [dHp_at]
    split at hk2
    · rename_i o ho
      rw [ho]
      exact hk2
    · cases hk2
  · rfl
end DRU
/-! two runs of one thing end alike -/
theorem cRun.same {ms : List eM} {d d' y : Nat} {S : cS} {v v' : Option cV} {h h' : cH} (h1 : cRun ms d y S v h) (h2 : cRun ms d' y S v' h') : v = v' ∧ h = h' := by
  obtain ⟨n1, e1⟩ := h1.deep (Nat.le_max_left d d')
  obtain ⟨n2, e2⟩ := h2.deep (Nat.le_max_right d d')
  have e1 := cEx_le (Nat.le_max_left n1 n2) e1
  have e2 := cEx_le (Nat.le_max_right n1 n2) e2
  rw [e1] at e2
  cases e2
  exact ⟨rfl, rfl⟩
/-- alike in all cells -/
def Sm (m m' : dM) : Prop := dHp m = dHp m'
theorem Sm.row {m m' : dM} (h : Sm m m') {k : Nat} {a : Nat × Nat} (hk : dAk k = some a) : m.1 k = m'.1 k := by
  have e := congrArg (fun l : cH => l[k]?) h
  simp only [dHp_at, dAk_ok hk, Option.map_some, dC] at e
  simpa using e
theorem Sm.fld {m m' : dM} (h : Sm m m') {k a j : Nat} (hk : dFk k a j = some none) : m.1 k j = m'.1 k j := by
  obtain ⟨fs, h1, h2⟩ := dFk_ok hk
  have e := congrArg (fun l : cH => l[k]?) h
  simp only [dHp_at, h1, Option.map_some, dC] at e
  have e2 : dFs m k 0 fs = dFs m' k 0 fs := by simpa using e
  have e3 := congrArg (fun l : List cV => l[j]?) e2
  simp only [dFs_at, h2, Option.map_some, dFv, Nat.zero_add] at e3
  simpa using e3
theorem Wp.and {d d' y pc : Nat} {l : dL} {st : List cV} {m : dM} {Q Q' : Option cV → dM → Prop} (h : Wp d y pc l st m Q) (h' : Wp d' y pc l st m Q') : Wp d y pc l st m (fun v m1 => Q v m1 ∧ ∃ m2, Sm m1 m2 ∧ Q' v m2) := by
  intro lc hlc
  obtain ⟨v, m1, h1, h2⟩ := h lc hlc
  obtain ⟨v', m2, h3, h4⟩ := h' lc hlc
  obtain ⟨e1, e2⟩ := h1.same h3
  subst e1
  exact ⟨v, m1, h1, h2, m2, e2, h4⟩
end
section
/-! WHAT EACH METHOD COMES TO, block by block, printed by wip/p34/vc.py -/
abbrev oI (x : Int32) : Option cV := some (.inl x)
abbrev oL (x : Int64) : Option cV := some (.inr (.inl x))
abbrev oR (k : Nat) : Option cV := some (.inr (.inr (some k)))
theorem alen_10 : Int32.ofNat 10 = (10 : Int32) := by decide
theorem alen_1320 : Int32.ofNat 1320 = (1320 : Int32) := by decide
theorem alen_2000 : Int32.ofNat 2000 = (2000 : Int32) := by decide
theorem alen_406 : Int32.ofNat 406 = (406 : Int32) := by decide
theorem alen_7 : Int32.ofNat 7 = (7 : Int32) := by decide
theorem alen_8 : Int32.ofNat 8 = (8 : Int32) := by decide
theorem alen_9 : Int32.ofNat 9 = (9 : Int32) := by decide
theorem alen_99 : Int32.ofNat 99 = (99 : Int32) := by decide
theorem bipush_m2 : (Int8.ofInt (-2)).toInt32 = (-2 : Int32) := by decide
theorem bipush_10 : (Int8.ofInt (10)).toInt32 = (10 : Int32) := by decide
theorem bipush_100 : (Int8.ofInt (100)).toInt32 = (100 : Int32) := by decide
theorem bipush_11 : (Int8.ofInt (11)).toInt32 = (11 : Int32) := by decide
theorem bipush_12 : (Int8.ofInt (12)).toInt32 = (12 : Int32) := by decide
theorem bipush_122 : (Int8.ofInt (122)).toInt32 = (122 : Int32) := by decide
theorem bipush_13 : (Int8.ofInt (13)).toInt32 = (13 : Int32) := by decide
theorem bipush_14 : (Int8.ofInt (14)).toInt32 = (14 : Int32) := by decide
theorem bipush_15 : (Int8.ofInt (15)).toInt32 = (15 : Int32) := by decide
theorem bipush_16 : (Int8.ofInt (16)).toInt32 = (16 : Int32) := by decide
theorem bipush_19 : (Int8.ofInt (19)).toInt32 = (19 : Int32) := by decide
theorem bipush_20 : (Int8.ofInt (20)).toInt32 = (20 : Int32) := by decide
theorem bipush_21 : (Int8.ofInt (21)).toInt32 = (21 : Int32) := by decide
theorem bipush_22 : (Int8.ofInt (22)).toInt32 = (22 : Int32) := by decide
theorem bipush_23 : (Int8.ofInt (23)).toInt32 = (23 : Int32) := by decide
theorem bipush_24 : (Int8.ofInt (24)).toInt32 = (24 : Int32) := by decide
theorem bipush_25 : (Int8.ofInt (25)).toInt32 = (25 : Int32) := by decide
theorem bipush_26 : (Int8.ofInt (26)).toInt32 = (26 : Int32) := by decide
theorem bipush_30 : (Int8.ofInt (30)).toInt32 = (30 : Int32) := by decide
theorem bipush_31 : (Int8.ofInt (31)).toInt32 = (31 : Int32) := by decide
theorem bipush_32 : (Int8.ofInt (32)).toInt32 = (32 : Int32) := by decide
theorem bipush_33 : (Int8.ofInt (33)).toInt32 = (33 : Int32) := by decide
theorem bipush_40 : (Int8.ofInt (40)).toInt32 = (40 : Int32) := by decide
theorem bipush_41 : (Int8.ofInt (41)).toInt32 = (41 : Int32) := by decide
theorem bipush_42 : (Int8.ofInt (42)).toInt32 = (42 : Int32) := by decide
theorem bipush_43 : (Int8.ofInt (43)).toInt32 = (43 : Int32) := by decide
theorem bipush_45 : (Int8.ofInt (45)).toInt32 = (45 : Int32) := by decide
theorem bipush_47 : (Int8.ofInt (47)).toInt32 = (47 : Int32) := by decide
theorem bipush_48 : (Int8.ofInt (48)).toInt32 = (48 : Int32) := by decide
theorem bipush_55 : (Int8.ofInt (55)).toInt32 = (55 : Int32) := by decide
theorem bipush_56 : (Int8.ofInt (56)).toInt32 = (56 : Int32) := by decide
theorem bipush_57 : (Int8.ofInt (57)).toInt32 = (57 : Int32) := by decide
theorem bipush_58 : (Int8.ofInt (58)).toInt32 = (58 : Int32) := by decide
theorem bipush_59 : (Int8.ofInt (59)).toInt32 = (59 : Int32) := by decide
theorem bipush_6 : (Int8.ofInt (6)).toInt32 = (6 : Int32) := by decide
theorem bipush_60 : (Int8.ofInt (60)).toInt32 = (60 : Int32) := by decide
theorem bipush_61 : (Int8.ofInt (61)).toInt32 = (61 : Int32) := by decide
theorem bipush_63 : (Int8.ofInt (63)).toInt32 = (63 : Int32) := by decide
theorem bipush_7 : (Int8.ofInt (7)).toInt32 = (7 : Int32) := by decide
theorem bipush_72 : (Int8.ofInt (72)).toInt32 = (72 : Int32) := by decide
theorem bipush_8 : (Int8.ofInt (8)).toInt32 = (8 : Int32) := by decide
theorem bipush_9 : (Int8.ofInt (9)).toInt32 = (9 : Int32) := by decide
theorem bipush_97 : (Int8.ofInt (97)).toInt32 = (97 : Int32) := by decide
theorem bipush_99 : (Int8.ofInt (99)).toInt32 = (99 : Int32) := by decide
theorem iconst_m1 : Int32.ofInt (-1) = (-1 : Int32) := by decide
theorem iconst_m8 : Int32.ofInt (-8) = (-8 : Int32) := by decide
theorem iconst_0 : Int32.ofInt (0) = (0 : Int32) := by decide
theorem iconst_1 : Int32.ofInt (1) = (1 : Int32) := by decide
theorem iconst_2 : Int32.ofInt (2) = (2 : Int32) := by decide
theorem iconst_3 : Int32.ofInt (3) = (3 : Int32) := by decide
theorem iconst_4 : Int32.ofInt (4) = (4 : Int32) := by decide
theorem iconst_5 : Int32.ofInt (5) = (5 : Int32) := by decide
theorem lconst_0 : Int64.ofNat ((0 : Fin 2) : Nat) = (0 : Int64) := by decide
theorem ldc_1103515245 : Int32.ofNat 1103515245 = (1103515245 : Int32) := by decide
theorem ldc_1431655765 : Int32.ofNat 1431655765 = (1431655765 : Int32) := by decide
theorem ldc_2147483647 : Int32.ofNat 2147483647 = (2147483647 : Int32) := by decide
theorem ldc_252645135 : Int32.ofNat 252645135 = (252645135 : Int32) := by decide
theorem ldc_858993459 : Int32.ofNat 858993459 = (858993459 : Int32) := by decide
theorem ldc_99999 : Int32.ofNat 99999 = (99999 : Int32) := by decide
theorem ldc_999999 : Int32.ofNat 999999 = (999999 : Int32) := by decide
theorem ldc2_10 : Int64.ofNat 10 = (10 : Int64) := by decide
theorem ldc2_27 : Int64.ofNat 27 = (27 : Int64) := by decide
theorem sipush_m1000 : (Int16.ofInt (-1000)).toInt32 = (-1000 : Int32) := by decide
theorem sipush_m2000 : (Int16.ofInt (-2000)).toInt32 = (-2000 : Int32) := by decide
theorem sipush_12345 : (Int16.ofInt (12345)).toInt32 = (12345 : Int32) := by decide
theorem sipush_129 : (Int16.ofInt (129)).toInt32 = (129 : Int32) := by decide
theorem sipush_130 : (Int16.ofInt (130)).toInt32 = (130 : Int32) := by decide
theorem sipush_200 : (Int16.ofInt (200)).toInt32 = (200 : Int32) := by decide
theorem sipush_2000 : (Int16.ofInt (2000)).toInt32 = (2000 : Int32) := by decide
theorem sipush_201 : (Int16.ofInt (201)).toInt32 = (201 : Int32) := by decide
theorem sipush_2262 : (Int16.ofInt (2262)).toInt32 = (2262 : Int32) := by decide
theorem sipush_255 : (Int16.ofInt (255)).toInt32 = (255 : Int32) := by decide
theorem sipush_400 : (Int16.ofInt (400)).toInt32 = (400 : Int32) := by decide
theorem sipush_420 : (Int16.ofInt (420)).toInt32 = (420 : Int32) := by decide
theorem sipush_999 : (Int16.ofInt (999)).toInt32 = (999 : Int32) := by decide
theorem sipush_9999 : (Int16.ofInt (9999)).toInt32 = (9999 : Int32) := by decide
set_option maxRecDepth 20000 in
theorem hm1 : tMs[1]? = some tM1 := rfl
set_option maxRecDepth 20000 in
theorem hm2 : tMs[2]? = some tM2 := rfl
set_option maxRecDepth 20000 in
theorem hm3 : tMs[3]? = some tM3 := rfl
set_option maxRecDepth 20000 in
theorem hm4 : tMs[4]? = some tM4 := rfl
set_option maxRecDepth 20000 in
theorem hm5 : tMs[5]? = some tM5 := rfl
set_option maxRecDepth 20000 in
theorem hm6 : tMs[6]? = some tM6 := rfl
set_option maxRecDepth 20000 in
theorem hm7 : tMs[7]? = some tM7 := rfl
set_option maxRecDepth 20000 in
theorem hm9 : tMs[9]? = some tM9 := rfl
set_option maxRecDepth 20000 in
theorem hm10 : tMs[10]? = some tM10 := rfl
set_option maxRecDepth 20000 in
theorem hm11 : tMs[11]? = some tM11 := rfl
set_option maxRecDepth 20000 in
theorem hm12 : tMs[12]? = some tM12 := rfl
set_option maxRecDepth 20000 in
theorem hm13 : tMs[13]? = some tM13 := rfl
set_option maxRecDepth 20000 in
theorem hm14 : tMs[14]? = some tM14 := rfl
set_option maxRecDepth 20000 in
theorem hm15 : tMs[15]? = some tM15 := rfl
set_option maxRecDepth 20000 in
theorem hm16 : tMs[16]? = some tM16 := rfl
set_option maxRecDepth 20000 in
theorem hm17 : tMs[17]? = some tM17 := rfl
set_option maxRecDepth 20000 in
theorem hm18 : tMs[18]? = some tM18 := rfl
set_option maxRecDepth 20000 in
theorem hm19 : tMs[19]? = some tM19 := rfl
set_option maxRecDepth 20000 in
theorem hm20 : tMs[20]? = some tM20 := rfl
set_option maxRecDepth 20000 in
theorem hm21 : tMs[21]? = some tM21 := rfl
set_option maxRecDepth 20000 in
theorem hm22 : tMs[22]? = some tM22 := rfl
set_option maxRecDepth 20000 in
theorem hm23 : tMs[23]? = some tM23 := rfl
set_option maxRecDepth 20000 in
theorem hm24 : tMs[24]? = some tM24 := rfl
set_option maxRecDepth 20000 in
theorem hm25 : tMs[25]? = some tM25 := rfl
set_option maxRecDepth 20000 in
theorem hm26 : tMs[26]? = some tM26 := rfl
set_option maxRecDepth 20000 in
theorem hm27 : tMs[27]? = some tM27 := rfl
set_option maxRecDepth 20000 in
theorem hm28 : tMs[28]? = some tM28 := rfl
set_option maxRecDepth 20000 in
theorem hm29 : tMs[29]? = some tM29 := rfl
set_option maxRecDepth 20000 in
theorem hm30 : tMs[30]? = some tM30 := rfl
set_option maxRecDepth 20000 in
theorem hm31 : tMs[31]? = some tM31 := rfl
set_option maxRecDepth 20000 in
theorem hm32 : tMs[32]? = some tM32 := rfl
set_option maxRecDepth 20000 in
theorem hm33 : tMs[33]? = some tM33 := rfl
set_option maxRecDepth 20000 in
theorem hm34 : tMs[34]? = some tM34 := rfl
set_option maxRecDepth 20000 in
theorem hm35 : tMs[35]? = some tM35 := rfl
set_option maxRecDepth 20000 in
theorem hm36 : tMs[36]? = some tM36 := rfl
set_option maxRecDepth 20000 in
theorem hm37 : tMs[37]? = some tM37 := rfl
set_option maxRecDepth 20000 in
theorem hm38 : tMs[38]? = some tM38 := rfl
set_option maxRecDepth 20000 in
theorem hm39 : tMs[39]? = some tM39 := rfl
set_option maxRecDepth 20000 in
theorem hm40 : tMs[40]? = some tM40 := rfl
set_option maxRecDepth 20000 in
theorem hm41 : tMs[41]? = some tM41 := rfl
set_option maxRecDepth 20000 in
theorem hm42 : tMs[42]? = some tM42 := rfl
set_option maxRecDepth 20000 in
theorem hm43 : tMs[43]? = some tM43 := rfl
set_option maxRecDepth 20000 in
theorem hm44 : tMs[44]? = some tM44 := rfl
set_option maxRecDepth 20000 in
theorem hm45 : tMs[45]? = some tM45 := rfl
set_option maxRecDepth 20000 in
theorem hm46 : tMs[46]? = some tM46 := rfl
set_option maxRecDepth 20000 in
theorem hm47 : tMs[47]? = some tM47 := rfl
set_option maxRecDepth 20000 in
theorem hm48 : tMs[48]? = some tM48 := rfl
set_option maxRecDepth 20000 in
theorem hm49 : tMs[49]? = some tM49 := rfl
set_option maxRecDepth 20000 in
theorem hm50 : tMs[50]? = some tM50 := rfl
set_option maxRecDepth 20000 in
theorem hm51 : tMs[51]? = some tM51 := rfl
set_option maxRecDepth 20000 in
theorem hm52 : tMs[52]? = some tM52 := rfl
set_option maxRecDepth 20000 in
theorem hm53 : tMs[53]? = some tM53 := rfl
set_option maxRecDepth 20000 in
theorem hm54 : tMs[54]? = some tM54 := rfl
set_option maxRecDepth 20000 in
theorem hm55 : tMs[55]? = some tM55 := rfl
set_option maxRecDepth 20000 in
theorem hm56 : tMs[56]? = some tM56 := rfl
set_option maxRecDepth 20000 in
theorem hm57 : tMs[57]? = some tM57 := rfl
set_option maxRecDepth 20000 in
theorem hm58 : tMs[58]? = some tM58 := rfl
set_option maxRecDepth 20000 in
theorem hm59 : tMs[59]? = some tM59 := rfl
set_option maxRecDepth 20000 in
theorem hm60 : tMs[60]? = some tM60 := rfl
set_option maxRecDepth 20000 in
theorem hm61 : tMs[61]? = some tM61 := rfl
set_option maxRecDepth 20000 in
theorem hm62 : tMs[62]? = some tM62 := rfl
set_option maxRecDepth 20000 in
theorem hm63 : tMs[63]? = some tM63 := rfl
set_option maxRecDepth 20000 in
theorem hm64 : tMs[64]? = some tM64 := rfl
set_option maxRecDepth 20000 in
theorem hm65 : tMs[65]? = some tM65 := rfl
set_option maxRecDepth 20000 in
theorem hm66 : tMs[66]? = some tM66 := rfl
set_option maxRecDepth 20000 in
theorem hm67 : tMs[67]? = some tM67 := rfl
set_option maxRecDepth 20000 in
theorem hm68 : tMs[68]? = some tM68 := rfl
set_option maxRecDepth 20000 in
theorem hm69 : tMs[69]? = some tM69 := rfl
set_option maxRecDepth 20000 in
theorem hm70 : tMs[70]? = some tM70 := rfl
set_option maxRecDepth 20000 in
theorem hm71 : tMs[71]? = some tM71 := rfl
set_option maxRecDepth 20000 in
theorem hm72 : tMs[72]? = some tM72 := rfl
set_option maxRecDepth 20000 in
theorem hm73 : tMs[73]? = some tM73 := rfl
set_option maxRecDepth 20000 in
theorem hm74 : tMs[74]? = some tM74 := rfl
set_option maxRecDepth 20000 in
theorem hm75 : tMs[75]? = some tM75 := rfl
set_option maxRecDepth 20000 in
theorem hm76 : tMs[76]? = some tM76 := rfl
set_option maxRecDepth 20000 in
theorem hm77 : tMs[77]? = some tM77 := rfl
set_option maxRecDepth 20000 in
theorem hm78 : tMs[78]? = some tM78 := rfl
set_option maxRecDepth 20000 in
theorem hm79 : tMs[79]? = some tM79 := rfl
set_option maxRecDepth 20000 in
theorem hm80 : tMs[80]? = some tM80 := rfl
set_option maxRecDepth 20000 in
theorem hm81 : tMs[81]? = some tM81 := rfl
set_option maxRecDepth 20000 in
theorem hm82 : tMs[82]? = some tM82 := rfl
set_option maxRecDepth 20000 in
theorem hm83 : tMs[83]? = some tM83 := rfl
set_option maxRecDepth 20000 in
theorem hm84 : tMs[84]? = some tM84 := rfl
set_option maxRecDepth 20000 in
theorem hm85 : tMs[85]? = some tM85 := rfl
set_option maxRecDepth 20000 in
theorem hm86 : tMs[86]? = some tM86 := rfl
set_option maxRecDepth 20000 in
theorem hm87 : tMs[87]? = some tM87 := rfl
set_option maxRecDepth 20000 in
theorem hm88 : tMs[88]? = some tM88 := rfl
set_option maxRecDepth 20000 in
theorem hm89 : tMs[89]? = some tM89 := rfl
set_option maxRecDepth 20000 in
theorem hm90 : tMs[90]? = some tM90 := rfl
set_option maxRecDepth 20000 in
theorem hm91 : tMs[91]? = some tM91 := rfl
set_option maxRecDepth 20000 in
theorem hm92 : tMs[92]? = some tM92 := rfl
set_option maxRecDepth 20000 in
theorem hm93 : tMs[93]? = some tM93 := rfl
set_option maxRecDepth 20000 in
theorem hm94 : tMs[94]? = some tM94 := rfl
set_option maxRecDepth 20000 in
theorem hm95 : tMs[95]? = some tM95 := rfl
set_option maxRecDepth 20000 in
theorem hm96 : tMs[96]? = some tM96 := rfl
set_option maxRecDepth 20000 in
theorem hm97 : tMs[97]? = some tM97 := rfl
set_option maxRecDepth 20000 in
theorem hm98 : tMs[98]? = some tM98 := rfl
set_option maxRecDepth 20000 in
theorem hm99 : tMs[99]? = some tM99 := rfl
set_option maxRecDepth 20000 in
theorem hm100 : tMs[100]? = some tM100 := rfl
set_option maxRecDepth 20000 in
theorem hm101 : tMs[101]? = some tM101 := rfl
set_option maxRecDepth 20000 in
theorem hm102 : tMs[102]? = some tM102 := rfl
set_option maxRecDepth 20000 in
theorem hm103 : tMs[103]? = some tM103 := rfl
set_option maxRecDepth 20000 in
theorem hm104 : tMs[104]? = some tM104 := rfl
set_option maxRecDepth 20000 in
theorem hm105 : tMs[105]? = some tM105 := rfl
set_option maxRecDepth 20000 in
theorem hm106 : tMs[106]? = some tM106 := rfl
set_option maxRecDepth 20000 in
theorem hm107 : tMs[107]? = some tM107 := rfl
set_option maxRecDepth 20000 in
theorem hm108 : tMs[108]? = some tM108 := rfl
set_option maxRecDepth 20000 in
theorem hm109 : tMs[109]? = some tM109 := rfl
set_option maxRecDepth 20000 in
theorem hm110 : tMs[110]? = some tM110 := rfl
set_option maxRecDepth 20000 in
theorem hm111 : tMs[111]? = some tM111 := rfl
set_option maxRecDepth 20000 in
theorem hm112 : tMs[112]? = some tM112 := rfl
set_option maxRecDepth 20000 in
theorem hm113 : tMs[113]? = some tM113 := rfl
set_option maxRecDepth 20000 in
theorem hm115 : tMs[115]? = some tM115 := rfl
set_option maxRecDepth 20000 in
theorem hm116 : tMs[116]? = some tM116 := rfl
set_option maxRecDepth 20000 in
theorem hm117 : tMs[117]? = some tM117 := rfl
set_option maxRecDepth 20000 in
theorem hm118 : tMs[118]? = some tM118 := rfl
set_option maxRecDepth 20000 in
theorem hm119 : tMs[119]? = some tM119 := rfl
set_option maxRecDepth 20000 in
theorem hm120 : tMs[120]? = some tM120 := rfl
set_option maxRecDepth 20000 in
theorem hm121 : tMs[121]? = some tM121 := rfl
set_option maxRecDepth 20000 in
theorem hm122 : tMs[122]? = some tM122 := rfl
set_option maxRecDepth 20000 in
theorem hm123 : tMs[123]? = some tM123 := rfl
set_option maxRecDepth 20000 in
theorem hm124 : tMs[124]? = some tM124 := rfl
set_option maxRecDepth 20000 in
theorem hm125 : tMs[125]? = some tM125 := rfl
set_option maxRecDepth 20000 in
theorem hm126 : tMs[126]? = some tM126 := rfl
set_option maxRecDepth 20000 in
theorem hm127 : tMs[127]? = some tM127 := rfl
set_option maxRecDepth 20000 in
theorem hm128 : tMs[128]? = some tM128 := rfl
set_option maxRecDepth 20000 in
theorem hm129 : tMs[129]? = some tM129 := rfl
set_option maxRecDepth 20000 in
theorem hm130 : tMs[130]? = some tM130 := rfl
set_option maxRecDepth 20000 in
theorem hm131 : tMs[131]? = some tM131 := rfl
set_option maxRecDepth 20000 in
theorem hm132 : tMs[132]? = some tM132 := rfl
set_option maxRecDepth 20000 in
theorem hm133 : tMs[133]? = some tM133 := rfl
set_option maxRecDepth 20000 in
theorem hm134 : tMs[134]? = some tM134 := rfl
set_option maxRecDepth 20000 in
theorem hm135 : tMs[135]? = some tM135 := rfl
set_option maxRecDepth 20000 in
theorem hm136 : tMs[136]? = some tM136 := rfl
set_option maxRecDepth 20000 in
theorem hm137 : tMs[137]? = some tM137 := rfl
set_option maxRecDepth 20000 in
theorem hm139 : tMs[139]? = some tM139 := rfl
set_option maxRecDepth 20000 in
theorem hm140 : tMs[140]? = some tM140 := rfl
set_option maxRecDepth 20000 in
theorem hm141 : tMs[141]? = some tM141 := rfl
set_option maxRecDepth 20000 in
theorem hm142 : tMs[142]? = some tM142 := rfl
set_option maxRecDepth 20000 in
theorem hm143 : tMs[143]? = some tM143 := rfl
set_option maxRecDepth 20000 in
theorem hm144 : tMs[144]? = some tM144 := rfl
set_option maxRecDepth 20000 in
theorem hm145 : tMs[145]? = some tM145 := rfl
set_option maxRecDepth 20000 in
theorem hm146 : tMs[146]? = some tM146 := rfl
set_option maxRecDepth 20000 in
theorem hm147 : tMs[147]? = some tM147 := rfl
set_option maxRecDepth 20000 in
theorem hm148 : tMs[148]? = some tM148 := rfl
set_option maxRecDepth 20000 in
theorem hm149 : tMs[149]? = some tM149 := rfl
set_option maxRecDepth 20000 in
theorem hm150 : tMs[150]? = some tM150 := rfl
set_option maxRecDepth 20000 in
theorem hm151 : tMs[151]? = some tM151 := rfl
set_option maxRecDepth 20000 in
theorem hm152 : tMs[152]? = some tM152 := rfl
set_option maxRecDepth 20000 in
theorem hm154 : tMs[154]? = some tM154 := rfl
set_option maxRecDepth 20000 in
theorem hm155 : tMs[155]? = some tM155 := rfl
set_option maxRecDepth 20000 in
theorem hm156 : tMs[156]? = some tM156 := rfl
set_option maxRecDepth 20000 in
theorem hm157 : tMs[157]? = some tM157 := rfl
set_option maxRecDepth 20000 in
theorem hm158 : tMs[158]? = some tM158 := rfl
set_option maxRecDepth 20000 in
theorem hm159 : tMs[159]? = some tM159 := rfl
set_option maxRecDepth 20000 in
theorem hm160 : tMs[160]? = some tM160 := rfl
set_option maxRecDepth 20000 in
theorem hm161 : tMs[161]? = some tM161 := rfl
set_option maxRecDepth 20000 in
theorem hm162 : tMs[162]? = some tM162 := rfl
set_option maxRecDepth 20000 in
theorem hm163 : tMs[163]? = some tM163 := rfl
set_option maxRecDepth 20000 in
theorem hm164 : tMs[164]? = some tM164 := rfl
set_option maxRecDepth 20000 in
theorem hm165 : tMs[165]? = some tM165 := rfl
set_option maxRecDepth 20000 in
theorem hm166 : tMs[166]? = some tM166 := rfl
set_option maxRecDepth 20000 in
theorem hm167 : tMs[167]? = some tM167 := rfl
set_option maxRecDepth 20000 in
theorem hm169 : tMs[169]? = some tM169 := rfl
set_option maxRecDepth 20000 in
theorem hm170 : tMs[170]? = some tM170 := rfl
set_option maxRecDepth 20000 in
theorem hm171 : tMs[171]? = some tM171 := rfl
set_option maxRecDepth 20000 in
theorem hm172 : tMs[172]? = some tM172 := rfl
set_option maxRecDepth 20000 in
theorem hm173 : tMs[173]? = some tM173 := rfl
set_option maxRecDepth 20000 in
theorem hm174 : tMs[174]? = some tM174 := rfl
set_option maxRecDepth 20000 in
theorem hm176 : tMs[176]? = some tM176 := rfl
set_option maxRecDepth 20000 in
theorem hm177 : tMs[177]? = some tM177 := rfl
set_option maxRecDepth 20000 in
theorem hm178 : tMs[178]? = some tM178 := rfl
set_option maxRecDepth 20000 in
theorem hm179 : tMs[179]? = some tM179 := rfl
set_option maxRecDepth 20000 in
theorem hm180 : tMs[180]? = some tM180 := rfl
set_option maxRecDepth 20000 in
theorem hm181 : tMs[181]? = some tM181 := rfl
set_option maxRecDepth 20000 in
theorem hm182 : tMs[182]? = some tM182 := rfl
set_option maxRecDepth 20000 in
theorem hm183 : tMs[183]? = some tM183 := rfl
set_option maxRecDepth 20000 in
theorem hm185 : tMs[185]? = some tM185 := rfl
set_option maxRecDepth 20000 in
theorem hm186 : tMs[186]? = some tM186 := rfl
set_option maxRecDepth 20000 in
theorem hm187 : tMs[187]? = some tM187 := rfl
set_option maxRecDepth 20000 in
theorem hm188 : tMs[188]? = some tM188 := rfl
set_option maxRecDepth 20000 in
theorem hm189 : tMs[189]? = some tM189 := rfl
set_option maxRecDepth 20000 in
theorem hm190 : tMs[190]? = some tM190 := rfl
set_option maxRecDepth 20000 in
theorem hm191 : tMs[191]? = some tM191 := rfl
set_option maxRecDepth 20000 in
theorem hm192 : tMs[192]? = some tM192 := rfl
set_option maxRecDepth 20000 in
theorem hm193 : tMs[193]? = some tM193 := rfl
set_option maxRecDepth 20000 in
theorem hm194 : tMs[194]? = some tM194 := rfl
set_option maxRecDepth 20000 in
theorem hm195 : tMs[195]? = some tM195 := rfl
set_option maxRecDepth 20000 in
theorem hm196 : tMs[196]? = some tM196 := rfl
set_option maxRecDepth 20000 in
theorem hm197 : tMs[197]? = some tM197 := rfl
set_option maxRecDepth 20000 in
theorem hm198 : tMs[198]? = some tM198 := rfl
set_option maxRecDepth 20000 in
theorem hm199 : tMs[199]? = some tM199 := rfl
set_option maxRecDepth 20000 in
theorem hm201 : tMs[201]? = some tM201 := rfl
set_option maxRecDepth 20000 in
theorem hm202 : tMs[202]? = some tM202 := rfl
set_option maxRecDepth 20000 in
theorem hm203 : tMs[203]? = some tM203 := rfl
set_option maxRecDepth 20000 in
theorem hm204 : tMs[204]? = some tM204 := rfl
set_option maxRecDepth 20000 in
theorem hm205 : tMs[205]? = some tM205 := rfl
set_option maxRecDepth 20000 in
theorem hm206 : tMs[206]? = some tM206 := rfl
set_option maxRecDepth 20000 in
theorem hm208 : tMs[208]? = some tM208 := rfl
set_option maxRecDepth 20000 in
theorem hm209 : tMs[209]? = some tM209 := rfl
set_option maxRecDepth 20000 in
theorem hm210 : tMs[210]? = some tM210 := rfl
set_option maxRecDepth 20000 in
theorem hm211 : tMs[211]? = some tM211 := rfl
set_option maxRecDepth 20000 in
theorem hm212 : tMs[212]? = some tM212 := rfl
set_option maxRecDepth 20000 in
theorem hm213 : tMs[213]? = some tM213 := rfl
set_option maxRecDepth 20000 in
theorem hm215 : tMs[215]? = some tM215 := rfl
set_option maxRecDepth 20000 in
theorem hm216 : tMs[216]? = some tM216 := rfl
set_option maxRecDepth 20000 in
theorem hm217 : tMs[217]? = some tM217 := rfl
set_option maxRecDepth 20000 in
theorem hm218 : tMs[218]? = some tM218 := rfl
set_option maxRecDepth 20000 in
theorem hm219 : tMs[219]? = some tM219 := rfl
set_option maxRecDepth 20000 in
theorem hm220 : tMs[220]? = some tM220 := rfl
set_option maxRecDepth 20000 in
theorem hm221 : tMs[221]? = some tM221 := rfl
set_option maxRecDepth 20000 in
theorem hm222 : tMs[222]? = some tM222 := rfl
set_option maxRecDepth 20000 in
theorem hm223 : tMs[223]? = some tM223 := rfl
set_option maxRecDepth 20000 in
theorem hm224 : tMs[224]? = some tM224 := rfl
set_option maxRecDepth 20000 in
theorem hm225 : tMs[225]? = some tM225 := rfl
set_option maxRecDepth 20000 in
theorem hm226 : tMs[226]? = some tM226 := rfl
set_option maxRecDepth 20000 in
theorem hm227 : tMs[227]? = some tM227 := rfl
set_option maxRecDepth 20000 in
theorem hm228 : tMs[228]? = some tM228 := rfl
set_option maxRecDepth 20000 in
theorem hm229 : tMs[229]? = some tM229 := rfl
set_option maxRecDepth 20000 in
theorem hm231 : tMs[231]? = some tM231 := rfl
set_option maxRecDepth 20000 in
theorem hm232 : tMs[232]? = some tM232 := rfl
set_option maxRecDepth 20000 in
theorem hm233 : tMs[233]? = some tM233 := rfl
set_option maxRecDepth 20000 in
theorem hm234 : tMs[234]? = some tM234 := rfl
set_option maxRecDepth 20000 in
theorem hm235 : tMs[235]? = some tM235 := rfl
set_option maxRecDepth 20000 in
theorem hm236 : tMs[236]? = some tM236 := rfl
set_option maxRecDepth 20000 in
theorem hm238 : tMs[238]? = some tM238 := rfl
set_option maxRecDepth 20000 in
theorem hm239 : tMs[239]? = some tM239 := rfl
set_option maxRecDepth 20000 in
theorem hm240 : tMs[240]? = some tM240 := rfl
set_option maxRecDepth 20000 in
theorem hm241 : tMs[241]? = some tM241 := rfl
set_option maxRecDepth 20000 in
theorem hm243 : tMs[243]? = some tM243 := rfl
set_option maxRecDepth 20000 in
theorem hm244 : tMs[244]? = some tM244 := rfl
set_option maxRecDepth 20000 in
theorem hm245 : tMs[245]? = some tM245 := rfl
set_option maxRecDepth 20000 in
theorem hm246 : tMs[246]? = some tM246 := rfl
set_option maxRecDepth 20000 in
theorem hm247 : tMs[247]? = some tM247 := rfl
set_option maxRecDepth 20000 in
theorem hm248 : tMs[248]? = some tM248 := rfl
set_option maxRecDepth 20000 in
theorem hm249 : tMs[249]? = some tM249 := rfl
set_option maxRecDepth 20000 in
theorem hm250 : tMs[250]? = some tM250 := rfl
set_option maxRecDepth 20000 in
theorem hm251 : tMs[251]? = some tM251 := rfl
set_option maxRecDepth 20000 in
theorem hm252 : tMs[252]? = some tM252 := rfl
set_option maxRecDepth 20000 in
theorem hm253 : tMs[253]? = some tM253 := rfl
set_option maxRecDepth 20000 in
theorem hm254 : tMs[254]? = some tM254 := rfl
set_option maxRecDepth 20000 in
theorem hm255 : tMs[255]? = some tM255 := rfl
set_option maxRecDepth 20000 in
theorem hm256 : tMs[256]? = some tM256 := rfl
set_option maxRecDepth 20000 in
theorem hm257 : tMs[257]? = some tM257 := rfl
set_option maxRecDepth 20000 in
theorem hm258 : tMs[258]? = some tM258 := rfl
set_option maxRecDepth 20000 in
theorem hm259 : tMs[259]? = some tM259 := rfl
set_option maxRecDepth 20000 in
theorem hm260 : tMs[260]? = some tM260 := rfl
set_option maxRecDepth 20000 in
theorem hm261 : tMs[261]? = some tM261 := rfl
set_option maxRecDepth 20000 in
theorem hm262 : tMs[262]? = some tM262 := rfl
set_option maxRecDepth 20000 in
theorem hm263 : tMs[263]? = some tM263 := rfl
set_option maxRecDepth 20000 in
theorem hm264 : tMs[264]? = some tM264 := rfl
set_option maxRecDepth 20000 in
theorem hm265 : tMs[265]? = some tM265 := rfl
set_option maxRecDepth 20000 in
theorem hm266 : tMs[266]? = some tM266 := rfl
set_option maxRecDepth 20000 in
theorem hm267 : tMs[267]? = some tM267 := rfl
set_option maxRecDepth 20000 in
theorem hm268 : tMs[268]? = some tM268 := rfl
set_option maxRecDepth 20000 in
theorem hm269 : tMs[269]? = some tM269 := rfl
set_option maxRecDepth 20000 in
theorem hm270 : tMs[270]? = some tM270 := rfl
set_option maxRecDepth 20000 in
theorem hm271 : tMs[271]? = some tM271 := rfl
set_option maxRecDepth 20000 in
theorem hm272 : tMs[272]? = some tM272 := rfl
set_option maxRecDepth 20000 in
theorem hm273 : tMs[273]? = some tM273 := rfl
set_option maxRecDepth 20000 in
theorem hm274 : tMs[274]? = some tM274 := rfl
set_option maxRecDepth 20000 in
theorem hm275 : tMs[275]? = some tM275 := rfl
set_option maxRecDepth 20000 in
theorem hm276 : tMs[276]? = some tM276 := rfl
set_option maxRecDepth 20000 in
theorem hm277 : tMs[277]? = some tM277 := rfl
set_option maxRecDepth 20000 in
theorem hm278 : tMs[278]? = some tM278 := rfl
set_option maxRecDepth 20000 in
theorem hm279 : tMs[279]? = some tM279 := rfl
set_option maxRecDepth 20000 in
theorem hm280 : tMs[280]? = some tM280 := rfl
set_option maxRecDepth 20000 in
theorem hm281 : tMs[281]? = some tM281 := rfl
set_option maxRecDepth 20000 in
theorem hm282 : tMs[282]? = some tM282 := rfl
set_option maxRecDepth 20000 in
theorem hm283 : tMs[283]? = some tM283 := rfl
set_option maxRecDepth 20000 in
theorem hm284 : tMs[284]? = some tM284 := rfl
set_option maxRecDepth 20000 in
theorem hm285 : tMs[285]? = some tM285 := rfl
set_option maxRecDepth 20000 in
theorem hm286 : tMs[286]? = some tM286 := rfl
abbrev c_X11_putBytes_0 (d : Nat) (x1 : Int32) (m : dM) (Q : dM → Prop) : Prop := Wp d 244 0 [oR 0, oI x1, none] [] m (qV Q)
abbrev j_X11_putBytes_0_3 (d : Nat) (x1 : Int32) (x2 : Int32) (m : dM) (Q : dM → Prop) : Prop := Wp d 244 3 [oR 0, oI x1, oI x2] [] m (qV Q)
abbrev j_X11_putBytes_0_46 (d : Nat) (m : dM) (Q : dM → Prop) : Prop := Wp d 244 46 [none, none, none] [] m (qV Q)
abbrev c_X11_feed_0 (d : Nat) (x1 : Int32) (x2 : Int32) (x3 : Int32) (x4 : Int32) (x5 : Int32) (m : dM) (Q : Int32 → dM → Prop) : Prop := Wp d 243 0 [oR 0, oI x1, oI x2, oI x3, oI x4, oI x5] [] m (qI Q)
abbrev c_X12_put_70 (d : Nat) (x1 : Int32) (m : dM) (Q : dM → Prop) : Prop := Wp d 2 0 [oR 70, oI x1, none] [] m (qV Q)
abbrev j_X12_put_70_3 (d : Nat) (x1 : Int32) (x2 : Int32) (m : dM) (Q : dM → Prop) : Prop := Wp d 2 3 [oR 70, oI x1, oI x2] [] m (qV Q)
abbrev c_X12_feed_70 (d : Nat) (x1 : Int32) (x2 : Int32) (x3 : Int32) (x4 : Int32) (x5 : Int32) (m : dM) (Q : Int32 → dM → Prop) : Prop := Wp d 1 0 [oR 70, oI x1, oI x2, oI x3, oI x4, oI x5] [] m (qI Q)
abbrev c_X11_back_0 (d : Nat) (x1 : Int32) (m : dM) (Q : Int32 → dM → Prop) : Prop := Wp d 245 0 [oR 0, oI x1] [] m (qI Q)
abbrev j_X11_back_0_12 (d : Nat) (m : dM) (Q : Int32 → dM → Prop) : Prop := Wp d 245 12 [none, none] [] m (qI Q)
abbrev c_X12_back_70 (d : Nat) (x1 : Int32) (m : dM) (Q : Int32 → dM → Prop) : Prop := Wp d 3 0 [oR 70, oI x1] [] m (qI Q)
abbrev j_X12_back_70_12 (d : Nat) (m : dM) (Q : Int32 → dM → Prop) : Prop := Wp d 3 12 [none, none] [] m (qI Q)
abbrev c_X8_byteAt_38 (d : Nat) (x1 : Int32) (m : dM) (Q : Int32 → dM → Prop) : Prop := Wp d 221 0 [oR 38, oI x1] [] m (qI Q)
abbrev j_X8_byteAt_38_41 (d : Nat) (m : dM) (Q : Int32 → dM → Prop) : Prop := Wp d 221 41 [none, none] [] m (qI Q)
abbrev c_X8_pastBlanks_38 (d : Nat) (x1 : Int32) (m : dM) (Q : Int32 → dM → Prop) : Prop := Wp d 224 0 [oR 38, oI x1, none, none] [] m (qI Q)
abbrev j_X8_pastBlanks_38_2 (d : Nat) (x2 : Int32) (m : dM) (Q : Int32 → dM → Prop) : Prop := Wp d 224 2 [oR 38, none, oI x2, none] [] m (qI Q)
abbrev j_X8_pastBlanks_38_42 (d : Nat) (x2 : Int32) (m : dM) (Q : Int32 → dM → Prop) : Prop := Wp d 224 42 [oR 38, none, oI x2, none] [] m (qI Q)
abbrev c_X8_isLetterAt_38 (d : Nat) (x1 : Int32) (m : dM) (Q : Int32 → dM → Prop) : Prop := Wp d 222 0 [oR 38, oI x1, none] [] m (qI Q)
abbrev j_X8_isLetterAt_38_22 (d : Nat) (m : dM) (Q : Int32 → dM → Prop) : Prop := Wp d 222 22 [none, none, none] [] m (qI Q)
abbrev c_X8_isDigitAt_38 (d : Nat) (x1 : Int32) (m : dM) (Q : Int32 → dM → Prop) : Prop := Wp d 223 0 [oR 38, oI x1, none] [] m (qI Q)
abbrev j_X8_isDigitAt_38_22 (d : Nat) (m : dM) (Q : Int32 → dM → Prop) : Prop := Wp d 223 22 [none, none, none] [] m (qI Q)
abbrev c_X8_signOf (d : Nat) (x0 : Int32) (m : dM) (Q : Int32 → dM → Prop) : Prop := Wp d 226 0 [oI x0] [] m (qI Q)
abbrev c_X8_scanDigits_38 (d : Nat) (x1 : Int32) (x2 : Int32) (m : dM) (Q : Int32 → dM → Prop) : Prop := Wp d 229 0 [oR 38, oI x1, oI x2, none, none, none] [] m (qI Q)
abbrev j_X8_scanDigits_38_5 (d : Nat) (x1 : Int32) (x2 : Int32) (y3 : Int64) (x5 : Int32) (m : dM) (Q : Int32 → dM → Prop) : Prop := Wp d 229 5 [oR 38, oI x1, oI x2, oL y3, none, oI x5] [] m (qI Q)
abbrev j_X8_scanDigits_38_54 (d : Nat) (x1 : Int32) (x2 : Int32) (y3 : Int64) (x5 : Int32) (m : dM) (Q : Int32 → dM → Prop) : Prop := Wp d 229 54 [oR 38, oI x1, oI x2, oL y3, none, oI x5] [] m (qI Q)
abbrev c_X8_withLetter (d : Nat) (y0 : Int64) (x2 : Int32) (m : dM) (Q : Int64 → dM → Prop) : Prop := Wp d 220 0 [oL y0, none, oI x2] [] m (qL Q)
abbrev c_X8_wordOrName_38 (d : Nat) (y1 : Int64) (m : dM) (Q : Int32 → dM → Prop) : Prop := Wp d 228 0 [oR 38, oL y1, none, none] [] m (qI Q)
abbrev j_X8_wordOrName_38_2 (d : Nat) (y1 : Int64) (x3 : Int32) (m : dM) (Q : Int32 → dM → Prop) : Prop := Wp d 228 2 [oR 38, oL y1, none, oI x3] [] m (qI Q)
abbrev c_X8_scanLetters_38 (d : Nat) (x1 : Int32) (x2 : Int32) (m : dM) (Q : Int32 → dM → Prop) : Prop := Wp d 227 0 [oR 38, oI x1, oI x2, none, none, none] [] m (qI Q)
abbrev j_X8_scanLetters_38_5 (d : Nat) (x1 : Int32) (x2 : Int32) (y3 : Int64) (x5 : Int32) (m : dM) (Q : Int32 → dM → Prop) : Prop := Wp d 227 5 [oR 38, oI x1, oI x2, oL y3, none, oI x5] [] m (qI Q)
abbrev j_X8_scanLetters_38_49 (d : Nat) (x1 : Int32) (x2 : Int32) (y3 : Int64) (x5 : Int32) (m : dM) (Q : Int32 → dM → Prop) : Prop := Wp d 227 49 [oR 38, oI x1, oI x2, oL y3, none, oI x5] [] m (qI Q)
abbrev c_X8_scanOne_38 (d : Nat) (x1 : Int32) (x2 : Int32) (m : dM) (Q : Int32 → dM → Prop) : Prop := Wp d 225 0 [oR 38, oI x1, oI x2] [] m (qI Q)
abbrev c_X8_scan_38_1 (d : Nat) (x2 : Int32) (m : dM) (Q : dM → Prop) : Prop := Wp d 215 0 [oR 38, oR 1, oI x2, none, none] [] m (qV Q)
abbrev j_X8_scan_38_1_20 (d : Nat) (x3 : Int32) (x4 : Int32) (m : dM) (Q : dM → Prop) : Prop := Wp d 215 20 [oR 38, none, none, oI x3, oI x4] [] m (qV Q)
abbrev j_X8_scan_38_1_74 (d : Nat) (m : dM) (Q : dM → Prop) : Prop := Wp d 215 74 [none, none, none, none, none] [] m (qV Q)
abbrev c_X4_begin_29 (d : Nat) (x1 : Int32) (m : dM) (Q : dM → Prop) : Prop := Wp d 178 0 [oR 29, oI x1] [] m (qV Q)
abbrev c_X4_put_29 (d : Nat) (x1 : Int32) (m : dM) (Q : dM → Prop) : Prop := Wp d 179 0 [oR 29, oI x1] [] m (qV Q)
abbrev j_X4_put_29_32 (d : Nat) (m : dM) (Q : dM → Prop) : Prop := Wp d 179 32 [none, none] [] m (qV Q)
abbrev c_X4_endPiece_29 (d : Nat) (x1 : Int32) (m : dM) (Q : dM → Prop) : Prop := Wp d 180 0 [oR 29, oI x1] [] m (qV Q)
abbrev j_X4_endPiece_29_38 (d : Nat) (m : dM) (Q : dM → Prop) : Prop := Wp d 180 38 [none, none] [] m (qV Q)
abbrev c_X4_clear_29 (d : Nat) (m : dM) (Q : dM → Prop) : Prop := Wp d 176 0 [oR 29] [] m (qV Q)
abbrev c_X3_clear_20 (d : Nat) (m : dM) (Q : dM → Prop) : Prop := Wp d 169 0 [oR 20] [] m (qV Q)
abbrev c_X2_kind_43 (d : Nat) (m : dM) (Q : Int32 → dM → Prop) : Prop := Wp d 157 0 [oR 43] [] m (qI Q)
abbrev j_X2_kind_43_32 (d : Nat) (m : dM) (Q : Int32 → dM → Prop) : Prop := Wp d 157 32 [none] [] m (qI Q)
abbrev c_X2_step_43 (d : Nat) (m : dM) (Q : Int32 → dM → Prop) : Prop := Wp d 159 0 [oR 43] [] m (qI Q)
abbrev c_X2_fail_43 (d : Nat) (x1 : Int32) (m : dM) (Q : Int32 → dM → Prop) : Prop := Wp d 158 0 [oR 43, oI x1] [] m (qI Q)
abbrev c_X2_need_43 (d : Nat) (x1 : Int32) (m : dM) (Q : Int32 → dM → Prop) : Prop := Wp d 160 0 [oR 43, oI x1] [] m (qI Q)
abbrev c_X2_checkRow_43 (d : Nat) (x1 : Int32) (x2 : Int32) (m : dM) (Q : dM → Prop) : Prop := Wp d 161 0 [oR 43, oI x1, oI x2, none, none] [] m (qV Q)
abbrev j_X2_checkRow_43_8 (d : Nat) (x1 : Int32) (x2 : Int32) (x3 : Int32) (x4 : Int32) (m : dM) (Q : dM → Prop) : Prop := Wp d 161 8 [oR 43, oI x1, oI x2, oI x3, oI x4] [] m (qV Q)
abbrev j_X2_checkRow_43_31 (d : Nat) (x2 : Int32) (x3 : Int32) (m : dM) (Q : dM → Prop) : Prop := Wp d 161 31 [oR 43, none, oI x2, oI x3, none] [] m (qV Q)
abbrev j_X2_checkRow_43_34 (d : Nat) (x2 : Int32) (x3 : Int32) (x4 : Int32) (m : dM) (Q : dM → Prop) : Prop := Wp d 161 34 [oR 43, none, oI x2, oI x3, oI x4] [] m (qV Q)
abbrev j_X2_checkRow_43_57 (d : Nat) (x3 : Int32) (m : dM) (Q : dM → Prop) : Prop := Wp d 161 57 [oR 43, none, none, oI x3, none] [] m (qV Q)
abbrev j_X2_checkRow_43_68 (d : Nat) (m : dM) (Q : dM → Prop) : Prop := Wp d 161 68 [none, none, none, none, none] [] m (qV Q)
abbrev c_X2_checkCounted_43 (d : Nat) (x1 : Int32) (x2 : Int32) (x3 : Int32) (x4 : Int32) (m : dM) (Q : dM → Prop) : Prop := Wp d 162 0 [oR 43, oI x1, oI x2, oI x3, oI x4] [] m (qV Q)
abbrev j_X2_checkCounted_43_20 (d : Nat) (m : dM) (Q : dM → Prop) : Prop := Wp d 162 20 [none, none, none, none, none] [] m (qV Q)
abbrev c_X8_nameAt_38 (d : Nat) (x1 : Int32) (m : dM) (Q : Int64 → dM → Prop) : Prop := Wp d 219 0 [oR 38, oI x1] [] m (qL Q)
abbrev j_X8_nameAt_38_20 (d : Nat) (m : dM) (Q : Int64 → dM → Prop) : Prop := Wp d 219 20 [none, none] [] m (qL Q)
abbrev c_X8_numberAt_38 (d : Nat) (x1 : Int32) (m : dM) (Q : Int32 → dM → Prop) : Prop := Wp d 218 0 [oR 38, oI x1] [] m (qI Q)
abbrev c_X2_unit_43 (d : Nat) (x1 : Int32) (m : dM) (Q : Int32 → dM → Prop) : Prop := Wp d 167 0 [oR 43, oI x1, none] [] m (qI Q)
abbrev j_X2_unit_43_67 (d : Nat) (x1 : Int32) (x2 : Int32) (m : dM) (Q : Int32 → dM → Prop) : Prop := Wp d 167 67 [oR 43, oI x1, oI x2] [] m (qI Q)
abbrev j_X2_unit_43_123 (d : Nat) (m : dM) (Q : Int32 → dM → Prop) : Prop := Wp d 167 123 [none, none, none] [] m (qI Q)
abbrev c_X2_product_43 (d : Nat) (x1 : Int32) (m : dM) (Q : Int32 → dM → Prop) : Prop := Wp d 166 0 [oR 43, oI x1, none, none] [] m (qI Q)
abbrev j_X2_product_43_12 (d : Nat) (x1 : Int32) (x2 : Int32) (m : dM) (Q : Int32 → dM → Prop) : Prop := Wp d 166 12 [oR 43, oI x1, oI x2, none] [] m (qI Q)
abbrev j_X2_product_43_37 (d : Nat) (x1 : Int32) (x2 : Int32) (m : dM) (Q : Int32 → dM → Prop) : Prop := Wp d 166 37 [oR 43, oI x1, oI x2, none] [] m (qI Q)
abbrev j_X2_product_43_67 (d : Nat) (m : dM) (Q : Int32 → dM → Prop) : Prop := Wp d 166 67 [none, none, none, none] [] m (qI Q)
abbrev j_X2_product_43_83 (d : Nat) (m : dM) (Q : Int32 → dM → Prop) : Prop := Wp d 166 83 [none, none, none, none] [] m (qI Q)
abbrev c_X2_sum_43 (d : Nat) (x1 : Int32) (m : dM) (Q : Int32 → dM → Prop) : Prop := Wp d 165 0 [oR 43, oI x1, none, none] [] m (qI Q)
abbrev j_X2_sum_43_12 (d : Nat) (x1 : Int32) (x2 : Int32) (m : dM) (Q : Int32 → dM → Prop) : Prop := Wp d 165 12 [oR 43, oI x1, oI x2, none] [] m (qI Q)
abbrev j_X2_sum_43_37 (d : Nat) (x1 : Int32) (x2 : Int32) (m : dM) (Q : Int32 → dM → Prop) : Prop := Wp d 165 37 [oR 43, oI x1, oI x2, none] [] m (qI Q)
abbrev j_X2_sum_43_67 (d : Nat) (m : dM) (Q : Int32 → dM → Prop) : Prop := Wp d 165 67 [none, none, none, none] [] m (qI Q)
abbrev j_X2_sum_43_83 (d : Nat) (m : dM) (Q : Int32 → dM → Prop) : Prop := Wp d 165 83 [none, none, none, none] [] m (qI Q)
abbrev c_X2_endPiece_43 (d : Nat) (x1 : Int32) (x2 : Int32) (m : dM) (Q : Int32 → dM → Prop) : Prop := Wp d 164 0 [oR 43, oI x1, oI x2] [] m (qI Q)
abbrev c_X2_checkLaw_43 (d : Nat) (x1 : Int32) (m : dM) (Q : Int32 → dM → Prop) : Prop := Wp d 163 0 [oR 43, oI x1, none] [] m (qI Q)
abbrev j_X2_checkLaw_43_24 (d : Nat) (m : dM) (Q : Int32 → dM → Prop) : Prop := Wp d 163 24 [none, none, none] [] m (qI Q)
abbrev j_X2_checkLaw_43_28 (d : Nat) (x1 : Int32) (x2 : Int32) (m : dM) (Q : Int32 → dM → Prop) : Prop := Wp d 163 28 [oR 43, oI x1, oI x2] [] m (qI Q)
abbrev j_X2_checkLaw_43_114 (d : Nat) (m : dM) (Q : Int32 → dM → Prop) : Prop := Wp d 163 114 [none, none, none] [] m (qI Q)
abbrev j_X2_checkLaw_43_122 (d : Nat) (x1 : Int32) (m : dM) (Q : Int32 → dM → Prop) : Prop := Wp d 163 122 [oR 43, oI x1, none] [] m (qI Q)
abbrev j_X2_checkLaw_43_144 (d : Nat) (m : dM) (Q : Int32 → dM → Prop) : Prop := Wp d 163 144 [none, none, none] [] m (qI Q)
abbrev c_X2_checkTold_43 (d : Nat) (x1 : Int32) (m : dM) (Q : dM → Prop) : Prop := Wp d 155 0 [oR 43, oI x1] [] m (qV Q)
abbrev j_X2_checkTold_43_165 (d : Nat) (m : dM) (Q : dM → Prop) : Prop := Wp d 155 165 [none, none] [] m (qV Q)
abbrev c_X2_check_43 (d : Nat) (m : dM) (Q : Int32 → dM → Prop) : Prop := Wp d 154 0 [oR 43, none] [] m (qI Q)
abbrev j_X2_check_43_27 (d : Nat) (x1 : Int32) (m : dM) (Q : Int32 → dM → Prop) : Prop := Wp d 154 27 [oR 43, oI x1] [] m (qI Q)
abbrev j_X2_check_43_64 (d : Nat) (m : dM) (Q : Int32 → dM → Prop) : Prop := Wp d 154 64 [oR 43, none] [] m (qI Q)
abbrev c_X8_placeAt_38 (d : Nat) (x1 : Int32) (m : dM) (Q : Int32 → dM → Prop) : Prop := Wp d 217 0 [oR 38, oI x1] [] m (qI Q)
abbrev j_X8_placeAt_38_20 (d : Nat) (m : dM) (Q : Int32 → dM → Prop) : Prop := Wp d 217 20 [oR 38, none] [] m (qI Q)
abbrev c_X2_faultAt_43 (d : Nat) (m : dM) (Q : Int32 → dM → Prop) : Prop := Wp d 156 0 [oR 43] [] m (qI Q)
abbrev c_X8_kindAt_38 (d : Nat) (x1 : Int32) (m : dM) (Q : Int32 → dM → Prop) : Prop := Wp d 216 0 [oR 38, oI x1] [] m (qI Q)
abbrev j_X8_kindAt_38_20 (d : Nat) (m : dM) (Q : Int32 → dM → Prop) : Prop := Wp d 216 20 [none, none] [] m (qI Q)
abbrev c_X5_indexOf_45 (d : Nat) (x1 : Int32) (y2 : Int64) (m : dM) (Q : Int32 → dM → Prop) : Prop := Wp d 199 0 [oR 45, oI x1, oL y2, none, none] [] m (qI Q)
abbrev j_X5_indexOf_45_3 (d : Nat) (x1 : Int32) (y2 : Int64) (x4 : Int32) (m : dM) (Q : Int32 → dM → Prop) : Prop := Wp d 199 3 [oR 45, oI x1, oL y2, none, oI x4] [] m (qI Q)
abbrev j_X5_indexOf_45_34 (d : Nat) (m : dM) (Q : Int32 → dM → Prop) : Prop := Wp d 199 34 [none, none, none, none, none] [] m (qI Q)
abbrev c_X5_indexOf_46 (d : Nat) (x1 : Int32) (y2 : Int64) (m : dM) (Q : Int32 → dM → Prop) : Prop := Wp d 199 0 [oR 46, oI x1, oL y2, none, none] [] m (qI Q)
abbrev j_X5_indexOf_46_3 (d : Nat) (x1 : Int32) (y2 : Int64) (x4 : Int32) (m : dM) (Q : Int32 → dM → Prop) : Prop := Wp d 199 3 [oR 46, oI x1, oL y2, none, oI x4] [] m (qI Q)
abbrev j_X5_indexOf_46_34 (d : Nat) (m : dM) (Q : Int32 → dM → Prop) : Prop := Wp d 199 34 [none, none, none, none, none] [] m (qI Q)
abbrev c_X5_fail_44 (d : Nat) (x1 : Int32) (m : dM) (Q : Int32 → dM → Prop) : Prop := Wp d 188 0 [oR 44, oI x1] [] m (qI Q)
abbrev c_X5_isNewName_44 (d : Nat) (m : dM) (Q : Int32 → dM → Prop) : Prop := Wp d 197 0 [oR 44, none, none, none] [] m (qI Q)
abbrev j_X5_isNewName_44_50 (d : Nat) (m : dM) (Q : Int32 → dM → Prop) : Prop := Wp d 197 50 [oR 44, none, none, none] [] m (qI Q)
abbrev c_X5_isWithin_44 (d : Nat) (x1 : Int32) (x2 : Int32) (m : dM) (Q : Int32 → dM → Prop) : Prop := Wp d 196 0 [oR 44, oI x1, oI x2, none] [] m (qI Q)
abbrev j_X5_isWithin_44_22 (d : Nat) (m : dM) (Q : Int32 → dM → Prop) : Prop := Wp d 196 22 [oR 44, none, none, none] [] m (qI Q)
abbrev c_X5_takeFlat_44 (d : Nat) (m : dM) (Q : Int32 → dM → Prop) : Prop := Wp d 190 0 [oR 44, none] [] m (qI Q)
abbrev c_X5_flatNamed_44 (d : Nat) (m : dM) (Q : Int32 → dM → Prop) : Prop := Wp d 198 0 [oR 44, none] [] m (qI Q)
abbrev j_X5_flatNamed_44_36 (d : Nat) (x1 : Int32) (m : dM) (Q : Int32 → dM → Prop) : Prop := Wp d 198 36 [none, oI x1] [] m (qI Q)
abbrev c_X3_endsOf_20 (d : Nat) (x1 : Int32) (m : dM) (Q : Int32 → dM → Prop) : Prop := Wp d 172 0 [oR 20, oI x1] [] m (qI Q)
abbrev c_X3_isWired_20 (d : Nat) (x1 : Int32) (x2 : Int32) (m : dM) (Q : Int32 → dM → Prop) : Prop := Wp d 171 0 [oR 20, oI x1, oI x2, none, none] [] m (qI Q)
abbrev j_X3_isWired_20_11 (d : Nat) (x3 : Int32) (x4 : Int32) (m : dM) (Q : Int32 → dM → Prop) : Prop := Wp d 171 11 [oR 20, none, none, oI x3, oI x4] [] m (qI Q)
abbrev c_X5_takeWire_44 (d : Nat) (m : dM) (Q : Int32 → dM → Prop) : Prop := Wp d 191 0 [oR 44, none, none, none] [] m (qI Q)
abbrev j_X5_takeWire_44_71 (d : Nat) (m : dM) (Q : Int32 → dM → Prop) : Prop := Wp d 191 71 [oR 44, none, none, none] [] m (qI Q)
abbrev c_X5_takeUse_44 (d : Nat) (m : dM) (Q : Int32 → dM → Prop) : Prop := Wp d 192 0 [oR 44, none] [] m (qI Q)
abbrev j_X5_takeUse_44_213 (d : Nat) (m : dM) (Q : Int32 → dM → Prop) : Prop := Wp d 192 213 [none, none] [] m (qI Q)
abbrev c_X5_takeSurge_44 (d : Nat) (m : dM) (Q : Int32 → dM → Prop) : Prop := Wp d 193 0 [oR 44] [] m (qI Q)
abbrev j_X5_takeSurge_44_62 (d : Nat) (m : dM) (Q : Int32 → dM → Prop) : Prop := Wp d 193 62 [none] [] m (qI Q)
abbrev c_X5_takeCoins_44 (d : Nat) (m : dM) (Q : Int32 → dM → Prop) : Prop := Wp d 194 0 [oR 44] [] m (qI Q)
abbrev c_X5_takeSeed_44 (d : Nat) (m : dM) (Q : Int32 → dM → Prop) : Prop := Wp d 195 0 [oR 44] [] m (qI Q)
abbrev c_X5_takeTold_44 (d : Nat) (x1 : Int32) (m : dM) (Q : Int32 → dM → Prop) : Prop := Wp d 189 0 [oR 44, oI x1] [] m (qI Q)
abbrev c_X5_skipEnd_44 (d : Nat) (m : dM) (Q : dM → Prop) : Prop := Wp d 187 0 [oR 44] [] m (qV Q)
abbrev j_X5_skipEnd_44_0 (d : Nat) (m : dM) (Q : dM → Prop) : Prop := Wp d 187 0 [oR 44] [] m (qV Q)
abbrev j_X5_skipEnd_44_39 (d : Nat) (m : dM) (Q : dM → Prop) : Prop := Wp d 187 39 [oR 44] [] m (qV Q)
abbrev c_X5_check_44 (d : Nat) (m : dM) (Q : Int32 → dM → Prop) : Prop := Wp d 185 0 [oR 44, none, none] [] m (qI Q)
abbrev j_X5_check_44_12 (d : Nat) (x1 : Int32) (m : dM) (Q : Int32 → dM → Prop) : Prop := Wp d 185 12 [oR 44, oI x1, none] [] m (qI Q)
abbrev j_X5_check_44_76 (d : Nat) (x1 : Int32) (m : dM) (Q : Int32 → dM → Prop) : Prop := Wp d 185 76 [oR 44, oI x1, none] [] m (qI Q)
abbrev j_X5_check_44_82 (d : Nat) (m : dM) (Q : Int32 → dM → Prop) : Prop := Wp d 185 82 [oR 44, none, none] [] m (qI Q)
abbrev c_X5_faultAt_44 (d : Nat) (m : dM) (Q : Int32 → dM → Prop) : Prop := Wp d 186 0 [oR 44] [] m (qI Q)
abbrev c_X4_copy_11_29 (d : Nat) (m : dM) (Q : dM → Prop) : Prop := Wp d 177 0 [oR 11, oR 29, none] [] m (qV Q)
abbrev j_X4_copy_11_29_27 (d : Nat) (x2 : Int32) (m : dM) (Q : dM → Prop) : Prop := Wp d 177 27 [oR 11, oR 29, oI x2] [] m (qV Q)
abbrev c_X3_copy_2_20 (d : Nat) (m : dM) (Q : dM → Prop) : Prop := Wp d 170 0 [oR 2, oR 20] [] m (qV Q)
abbrev c_X10_houseIsNew_57 (d : Nat) (m : dM) (Q : dM → Prop) : Prop := Wp d 238 0 [oR 57] [] m (qV Q)
abbrev c_X0_houseIsNew_54 (d : Nat) (m : dM) (Q : dM → Prop) : Prop := Wp d 115 0 [oR 54] [] m (qV Q)
abbrev c_J7_fill_49 (d : Nat) (x1 : Int32) (m : dM) (Q : dM → Prop) : Prop := Wp d 286 0 [oR 49, oI x1, none, none] [] m (qV Q)
abbrev j_J7_fill_49_5 (d : Nat) (x1 : Int32) (x2 : Int32) (x3 : Int32) (m : dM) (Q : dM → Prop) : Prop := Wp d 286 5 [oR 49, oI x1, oI x2, oI x3] [] m (qV Q)
abbrev c_J7_fill_50 (d : Nat) (x1 : Int32) (m : dM) (Q : dM → Prop) : Prop := Wp d 286 0 [oR 50, oI x1, none, none] [] m (qV Q)
abbrev j_J7_fill_50_5 (d : Nat) (x1 : Int32) (x2 : Int32) (x3 : Int32) (m : dM) (Q : dM → Prop) : Prop := Wp d 286 5 [oR 50, oI x1, oI x2, oI x3] [] m (qV Q)
abbrev c_X7_begin_47_2 (d : Nat) (m : dM) (Q : dM → Prop) : Prop := Wp d 208 0 [oR 47, oR 2] [] m (qV Q)
abbrev c_X6_clear_51 (d : Nat) (m : dM) (Q : dM → Prop) : Prop := Wp d 201 0 [oR 51] [] m (qV Q)
abbrev c_X6_clearSlots_51 (d : Nat) (m : dM) (Q : dM → Prop) : Prop := Wp d 202 0 [oR 51] [] m (qV Q)
abbrev c_X9_clear_67 (d : Nat) (m : dM) (Q : dM → Prop) : Prop := Wp d 231 0 [oR 67] [] m (qV Q)
abbrev c_X11_read_0 (d : Nat) (m : dM) (Q : Int32 → dM → Prop) : Prop := Wp d 246 0 [oR 0, none] [] m (qI Q)
abbrev j_X11_read_0_69 (d : Nat) (x1 : Int32) (m : dM) (Q : Int32 → dM → Prop) : Prop := Wp d 246 69 [oR 0, oI x1] [] m (qI Q)
abbrev j_X11_read_0_123 (d : Nat) (x1 : Int32) (m : dM) (Q : Int32 → dM → Prop) : Prop := Wp d 246 123 [none, oI x1] [] m (qI Q)
abbrev c_X12_byteAt_70 (d : Nat) (x1 : Int32) (m : dM) (Q : Int32 → dM → Prop) : Prop := Wp d 4 0 [oR 70, oI x1] [] m (qI Q)
abbrev c_X12_isLetter (d : Nat) (x0 : Int32) (m : dM) (Q : Int32 → dM → Prop) : Prop := Wp d 6 0 [oI x0] [] m (qI Q)
abbrev j_X12_isLetter_16 (d : Nat) (m : dM) (Q : Int32 → dM → Prop) : Prop := Wp d 6 16 [none] [] m (qI Q)
abbrev c_X12_isDigit (d : Nat) (x0 : Int32) (m : dM) (Q : Int32 → dM → Prop) : Prop := Wp d 5 0 [oI x0] [] m (qI Q)
abbrev j_X12_isDigit_16 (d : Nat) (m : dM) (Q : Int32 → dM → Prop) : Prop := Wp d 5 16 [none] [] m (qI Q)
abbrev c_X12_token_70 (d : Nat) (x1 : Int32) (x2 : Int32) (x3 : Int32) (y4 : Int64) (m : dM) (Q : dM → Prop) : Prop := Wp d 9 0 [oR 70, oI x1, oI x2, oI x3, oL y4, none] [] m (qV Q)
abbrev c_X12_sign_70 (d : Nat) (x1 : Int32) (x2 : Int32) (x3 : Int32) (m : dM) (Q : Int32 → dM → Prop) : Prop := Wp d 11 0 [oR 70, oI x1, oI x2, oI x3, none] [] m (qI Q)
abbrev j_X12_sign_70_55 (d : Nat) (x1 : Int32) (x2 : Int32) (x4 : Int32) (m : dM) (Q : Int32 → dM → Prop) : Prop := Wp d 11 55 [oR 70, oI x1, oI x2, none, oI x4] [] m (qI Q)
abbrev j_X12_sign_70_65 (d : Nat) (x1 : Int32) (x2 : Int32) (x4 : Int32) (m : dM) (Q : Int32 → dM → Prop) : Prop := Wp d 11 65 [oR 70, oI x1, oI x2, none, oI x4] [] m (qI Q)
abbrev j_X12_sign_70_75 (d : Nat) (x1 : Int32) (x2 : Int32) (x4 : Int32) (m : dM) (Q : Int32 → dM → Prop) : Prop := Wp d 11 75 [oR 70, oI x1, oI x2, none, oI x4] [] m (qI Q)
abbrev j_X12_sign_70_85 (d : Nat) (x1 : Int32) (x2 : Int32) (x4 : Int32) (m : dM) (Q : Int32 → dM → Prop) : Prop := Wp d 11 85 [oR 70, oI x1, oI x2, none, oI x4] [] m (qI Q)
abbrev j_X12_sign_70_95 (d : Nat) (x1 : Int32) (x4 : Int32) (m : dM) (Q : Int32 → dM → Prop) : Prop := Wp d 11 95 [oR 70, oI x1, none, none, oI x4] [] m (qI Q)
abbrev c_X12_appends (d : Nat) (y0 : Int64) (x2 : Int32) (m : dM) (Q : Int64 → dM → Prop) : Prop := Wp d 7 0 [oL y0, none, oI x2] [] m (qL Q)
abbrev c_X12_cutsUp_70 (d : Nat) (m : dM) (Q : dM → Prop) : Prop := Wp d 10 0 [oR 70, none, none, none, none, none, none, none] [] m (qV Q)
abbrev j_X12_cutsUp_70_7 (d : Nat) (x1 : Int32) (m : dM) (Q : dM → Prop) : Prop := Wp d 10 7 [oR 70, oI x1, none, none, none, none, none, none] [] m (qV Q)
abbrev j_X12_cutsUp_70_67 (d : Nat) (x1 : Int32) (m : dM) (Q : dM → Prop) : Prop := Wp d 10 67 [oR 70, oI x1, none, none, none, none, none, none] [] m (qV Q)
abbrev j_X12_cutsUp_70_85 (d : Nat) (x1 : Int32) (x3 : Int32) (y4 : Int64) (m : dM) (Q : dM → Prop) : Prop := Wp d 10 85 [oR 70, oI x1, none, oI x3, oL y4, none, none, none] [] m (qV Q)
abbrev j_X12_cutsUp_70_118 (d : Nat) (x1 : Int32) (x3 : Int32) (y4 : Int64) (m : dM) (Q : dM → Prop) : Prop := Wp d 10 118 [oR 70, oI x1, none, oI x3, oL y4, none, none, none] [] m (qV Q)
abbrev j_X12_cutsUp_70_146 (d : Nat) (x1 : Int32) (x3 : Int32) (y4 : Int64) (x6 : Int32) (x7 : Int32) (m : dM) (Q : dM → Prop) : Prop := Wp d 10 146 [oR 70, oI x1, none, oI x3, oL y4, none, oI x6, oI x7] [] m (qV Q)
abbrev j_X12_cutsUp_70_173 (d : Nat) (x1 : Int32) (x3 : Int32) (y4 : Int64) (x6 : Int32) (x7 : Int32) (m : dM) (Q : dM → Prop) : Prop := Wp d 10 173 [oR 70, oI x1, none, oI x3, oL y4, none, oI x6, oI x7] [] m (qV Q)
abbrev j_X12_cutsUp_70_179 (d : Nat) (x1 : Int32) (x3 : Int32) (y4 : Int64) (x6 : Int32) (m : dM) (Q : dM → Prop) : Prop := Wp d 10 179 [oR 70, oI x1, none, oI x3, oL y4, none, oI x6, none] [] m (qV Q)
abbrev j_X12_cutsUp_70_208 (d : Nat) (x1 : Int32) (x3 : Int32) (x4 : Int32) (m : dM) (Q : dM → Prop) : Prop := Wp d 10 208 [oR 70, oI x1, none, oI x3, oI x4, none, none, none] [] m (qV Q)
abbrev j_X12_cutsUp_70_244 (d : Nat) (x1 : Int32) (x3 : Int32) (x4 : Int32) (m : dM) (Q : dM → Prop) : Prop := Wp d 10 244 [oR 70, oI x1, none, oI x3, oI x4, none, none, none] [] m (qV Q)
abbrev j_X12_cutsUp_70_291 (d : Nat) (x1 : Int32) (m : dM) (Q : dM → Prop) : Prop := Wp d 10 291 [oR 70, oI x1, none, none, none, none, none, none] [] m (qV Q)
abbrev c_X12_plain_70 (d : Nat) (x1 : Int32) (m : dM) (Q : dM → Prop) : Prop := Wp d 17 0 [oR 70, oI x1, none] [] m (qV Q)
abbrev j_X12_plain_70_52 (d : Nat) (x1 : Int32) (x2 : Int32) (m : dM) (Q : dM → Prop) : Prop := Wp d 17 52 [oR 70, oI x1, oI x2] [] m (qV Q)
abbrev c_X12_is_70 (d : Nat) (x1 : Int32) (m : dM) (Q : Int32 → dM → Prop) : Prop := Wp d 12 0 [oR 70, oI x1] [] m (qI Q)
abbrev j_X12_is_70_24 (d : Nat) (m : dM) (Q : Int32 → dM → Prop) : Prop := Wp d 12 24 [none, none] [] m (qI Q)
abbrev c_X12_fail_70 (d : Nat) (x1 : Int32) (m : dM) (Q : dM → Prop) : Prop := Wp d 13 0 [oR 70, oI x1] [] m (qV Q)
abbrev c_X12_goesOn_70 (d : Nat) (m : dM) (Q : dM → Prop) : Prop := Wp d 15 0 [oR 70] [] m (qV Q)
abbrev j_X12_goesOn_70_28 (d : Nat) (m : dM) (Q : dM → Prop) : Prop := Wp d 15 28 [none] [] m (qV Q)
abbrev c_X12_roomFor_70 (d : Nat) (x1 : Int32) (x2 : Int32) (m : dM) (Q : dM → Prop) : Prop := Wp d 20 0 [oR 70, oI x1, oI x2] [] m (qV Q)
abbrev j_X12_roomFor_70_10 (d : Nat) (m : dM) (Q : dM → Prop) : Prop := Wp d 20 10 [oR 70, none, none] [] m (qV Q)
abbrev j_X12_roomFor_70_21 (d : Nat) (m : dM) (Q : dM → Prop) : Prop := Wp d 20 21 [none, none, none] [] m (qV Q)
abbrev c_X12_must_70 (d : Nat) (x1 : Int32) (m : dM) (Q : dM → Prop) : Prop := Wp d 16 0 [oR 70, oI x1] [] m (qV Q)
abbrev j_X12_must_70_20 (d : Nat) (m : dM) (Q : dM → Prop) : Prop := Wp d 16 20 [none, none] [] m (qV Q)
abbrev c_X12_wrong_70 (d : Nat) (x1 : Int32) (x2 : Int32) (m : dM) (Q : dM → Prop) : Prop := Wp d 14 0 [oR 70, oI x1, oI x2, none] [] m (qV Q)
abbrev j_X12_wrong_70_45 (d : Nat) (m : dM) (Q : dM → Prop) : Prop := Wp d 14 45 [none, none, none, none] [] m (qV Q)
abbrev j_X12_wrong_70_46 (d : Nat) (x1 : Int32) (x3 : Int32) (m : dM) (Q : dM → Prop) : Prop := Wp d 14 46 [oR 70, oI x1, none, oI x3] [] m (qV Q)
abbrev c_X12_named_70 (d : Nat) (m : dM) (Q : Int32 → dM → Prop) : Prop := Wp d 22 0 [oR 70, none, none] [] m (qI Q)
abbrev j_X12_named_70_12 (d : Nat) (x1 : Int32) (x2 : Int32) (m : dM) (Q : Int32 → dM → Prop) : Prop := Wp d 22 12 [oR 70, oI x1, oI x2] [] m (qI Q)
abbrev j_X12_named_70_49 (d : Nat) (x1 : Int32) (x2 : Int32) (m : dM) (Q : Int32 → dM → Prop) : Prop := Wp d 22 49 [oR 70, oI x1, oI x2] [] m (qI Q)
abbrev j_X12_named_70_55 (d : Nat) (x1 : Int32) (m : dM) (Q : Int32 → dM → Prop) : Prop := Wp d 22 55 [none, oI x1, none] [] m (qI Q)
abbrev c_X12_bounded_70 (d : Nat) (x1 : Int32) (x2 : Int32) (m : dM) (Q : Int32 → dM → Prop) : Prop := Wp d 25 0 [oR 70, oI x1, oI x2, none] [] m (qI Q)
abbrev j_X12_bounded_70_15 (d : Nat) (x1 : Int32) (m : dM) (Q : Int32 → dM → Prop) : Prop := Wp d 25 15 [oR 70, oI x1, none, none] [] m (qI Q)
abbrev j_X12_bounded_70_42 (d : Nat) (x3 : Int32) (m : dM) (Q : Int32 → dM → Prop) : Prop := Wp d 25 42 [oR 70, none, none, oI x3] [] m (qI Q)
abbrev j_X12_bounded_70_51 (d : Nat) (x3 : Int32) (m : dM) (Q : Int32 → dM → Prop) : Prop := Wp d 25 51 [oR 70, none, none, oI x3] [] m (qI Q)
abbrev c_X12_endsName_70 (d : Nat) (x1 : Int32) (x2 : Int32) (m : dM) (Q : dM → Prop) : Prop := Wp d 23 0 [oR 70, oI x1, oI x2] [] m (qV Q)
abbrev c_X12_knownFlat_70 (d : Nat) (m : dM) (Q : Int32 → dM → Prop) : Prop := Wp d 24 0 [oR 70, none, none] [] m (qI Q)
abbrev j_X12_knownFlat_70_21 (d : Nat) (x1 : Int32) (x2 : Int32) (m : dM) (Q : Int32 → dM → Prop) : Prop := Wp d 24 21 [oR 70, oI x1, oI x2] [] m (qI Q)
abbrev j_X12_knownFlat_70_61 (d : Nat) (x1 : Int32) (x2 : Int32) (m : dM) (Q : Int32 → dM → Prop) : Prop := Wp d 24 61 [oR 70, oI x1, oI x2] [] m (qI Q)
abbrev c_X12_areWired_70 (d : Nat) (x1 : Int32) (x2 : Int32) (m : dM) (Q : Int32 → dM → Prop) : Prop := Wp d 26 0 [oR 70, oI x1, oI x2, none] [] m (qI Q)
abbrev j_X12_areWired_70_8 (d : Nat) (x1 : Int32) (x2 : Int32) (x3 : Int32) (m : dM) (Q : Int32 → dM → Prop) : Prop := Wp d 26 8 [oR 70, oI x1, oI x2, oI x3] [] m (qI Q)
abbrev j_X12_areWired_70_49 (d : Nat) (x1 : Int32) (x2 : Int32) (x3 : Int32) (m : dM) (Q : Int32 → dM → Prop) : Prop := Wp d 26 49 [oR 70, oI x1, oI x2, oI x3] [] m (qI Q)
abbrev j_X12_areWired_70_69 (d : Nat) (m : dM) (Q : Int32 → dM → Prop) : Prop := Wp d 26 69 [none, none, none, none] [] m (qI Q)
abbrev j_X12_areWired_70_71 (d : Nat) (x1 : Int32) (x2 : Int32) (x3 : Int32) (m : dM) (Q : Int32 → dM → Prop) : Prop := Wp d 26 71 [oR 70, oI x1, oI x2, oI x3] [] m (qI Q)
abbrev c_X12_tellWire_70 (d : Nat) (m : dM) (Q : dM → Prop) : Prop := Wp d 27 0 [oR 70, none, none, none, none] [] m (qV Q)
abbrev j_X12_tellWire_70_66 (d : Nat) (x1 : Int32) (x2 : Int32) (x3 : Int32) (x4 : Int32) (m : dM) (Q : dM → Prop) : Prop := Wp d 27 66 [oR 70, oI x1, oI x2, oI x3, oI x4] [] m (qV Q)
abbrev j_X12_tellWire_70_72 (d : Nat) (x1 : Int32) (x2 : Int32) (x4 : Int32) (m : dM) (Q : dM → Prop) : Prop := Wp d 27 72 [oR 70, oI x1, oI x2, none, oI x4] [] m (qV Q)
abbrev j_X12_tellWire_70_125 (d : Nat) (m : dM) (Q : dM → Prop) : Prop := Wp d 27 125 [none, none, none, none, none] [] m (qV Q)
abbrev c_X12_tellUse_70 (d : Nat) (m : dM) (Q : dM → Prop) : Prop := Wp d 28 0 [oR 70, none, none] [] m (qV Q)
abbrev j_X12_tellUse_70_118 (d : Nat) (m : dM) (Q : dM → Prop) : Prop := Wp d 28 118 [none, none, none] [] m (qV Q)
abbrev c_X12_emit_70 (d : Nat) (x1 : Int32) (x2 : Int32) (m : dM) (Q : dM → Prop) : Prop := Wp d 31 0 [oR 70, oI x1, oI x2] [] m (qV Q)
abbrev c_X12_unit_70 (d : Nat) (m : dM) (Q : dM → Prop) : Prop := Wp d 34 0 [oR 70] [] m (qV Q)
abbrev j_X12_unit_70_88 (d : Nat) (m : dM) (Q : dM → Prop) : Prop := Wp d 34 88 [oR 70] [] m (qV Q)
abbrev j_X12_unit_70_93 (d : Nat) (m : dM) (Q : dM → Prop) : Prop := Wp d 34 93 [none] [] m (qV Q)
abbrev c_X12_comesOut_70 (d : Nat) (x1 : Int32) (m : dM) (Q : dM → Prop) : Prop := Wp d 32 0 [oR 70, oI x1, none] [] m (qV Q)
abbrev j_X12_comesOut_70_0 (d : Nat) (x1 : Int32) (m : dM) (Q : dM → Prop) : Prop := Wp d 32 0 [oR 70, oI x1, none] [] m (qV Q)
abbrev j_X12_comesOut_70_41 (d : Nat) (m : dM) (Q : dM → Prop) : Prop := Wp d 32 41 [none, none, none] [] m (qV Q)
abbrev j_X12_comesOut_70_42 (d : Nat) (x1 : Int32) (x2 : Int32) (m : dM) (Q : dM → Prop) : Prop := Wp d 32 42 [oR 70, oI x1, oI x2] [] m (qV Q)
abbrev c_X12_expression_70 (d : Nat) (m : dM) (Q : dM → Prop) : Prop := Wp d 33 0 [oR 70, none, none] [] m (qV Q)
abbrev j_X12_expression_70_12 (d : Nat) (x1 : Int32) (x2 : Int32) (m : dM) (Q : dM → Prop) : Prop := Wp d 33 12 [oR 70, oI x1, oI x2] [] m (qV Q)
abbrev j_X12_expression_70_23 (d : Nat) (x1 : Int32) (m : dM) (Q : dM → Prop) : Prop := Wp d 33 23 [oR 70, oI x1, none] [] m (qV Q)
abbrev j_X12_expression_70_46 (d : Nat) (x1 : Int32) (m : dM) (Q : dM → Prop) : Prop := Wp d 33 46 [oR 70, oI x1, none] [] m (qV Q)
abbrev j_X12_expression_70_96 (d : Nat) (x1 : Int32) (m : dM) (Q : dM → Prop) : Prop := Wp d 33 96 [oR 70, oI x1, none] [] m (qV Q)
abbrev j_X12_expression_70_145 (d : Nat) (x1 : Int32) (m : dM) (Q : dM → Prop) : Prop := Wp d 33 145 [oR 70, oI x1, none] [] m (qV Q)
abbrev j_X12_expression_70_181 (d : Nat) (x1 : Int32) (m : dM) (Q : dM → Prop) : Prop := Wp d 33 181 [oR 70, oI x1, none] [] m (qV Q)
abbrev j_X12_expression_70_204 (d : Nat) (m : dM) (Q : dM → Prop) : Prop := Wp d 33 204 [oR 70, none, none] [] m (qV Q)
abbrev j_X12_expression_70_272 (d : Nat) (m : dM) (Q : dM → Prop) : Prop := Wp d 33 272 [none, none, none] [] m (qV Q)
abbrev c_X12_term_70 (d : Nat) (m : dM) (Q : dM → Prop) : Prop := Wp d 30 0 [oR 70] [] m (qV Q)
abbrev j_X12_term_70_24 (d : Nat) (m : dM) (Q : dM → Prop) : Prop := Wp d 30 24 [oR 70] [] m (qV Q)
abbrev c_X12_tellLaw_70 (d : Nat) (x1 : Int32) (m : dM) (Q : dM → Prop) : Prop := Wp d 29 0 [oR 70, oI x1, none, none] [] m (qV Q)
abbrev j_X12_tellLaw_70_12 (d : Nat) (x1 : Int32) (x2 : Int32) (x3 : Int32) (m : dM) (Q : dM → Prop) : Prop := Wp d 29 12 [oR 70, oI x1, oI x2, oI x3] [] m (qV Q)
abbrev j_X12_tellLaw_70_38 (d : Nat) (x1 : Int32) (x2 : Int32) (x3 : Int32) (m : dM) (Q : dM → Prop) : Prop := Wp d 29 38 [oR 70, oI x1, oI x2, oI x3] [] m (qV Q)
abbrev j_X12_tellLaw_70_110 (d : Nat) (x1 : Int32) (x2 : Int32) (x3 : Int32) (m : dM) (Q : dM → Prop) : Prop := Wp d 29 110 [oR 70, oI x1, oI x2, oI x3] [] m (qV Q)
abbrev j_X12_tellLaw_70_129 (d : Nat) (x1 : Int32) (x2 : Int32) (m : dM) (Q : dM → Prop) : Prop := Wp d 29 129 [oR 70, oI x1, oI x2, none] [] m (qV Q)
abbrev c_X12_tellOne_70 (d : Nat) (m : dM) (Q : dM → Prop) : Prop := Wp d 21 0 [oR 70, none] [] m (qV Q)
abbrev j_X12_tellOne_70_349 (d : Nat) (x1 : Int32) (m : dM) (Q : dM → Prop) : Prop := Wp d 21 349 [oR 70, oI x1] [] m (qV Q)
abbrev j_X12_tellOne_70_354 (d : Nat) (x1 : Int32) (m : dM) (Q : dM → Prop) : Prop := Wp d 21 354 [oR 70, oI x1] [] m (qV Q)
abbrev j_X12_tellOne_70_371 (d : Nat) (m : dM) (Q : dM → Prop) : Prop := Wp d 21 371 [none, none] [] m (qV Q)
abbrev c_X12_begins_70 (d : Nat) (m : dM) (Q : dM → Prop) : Prop := Wp d 42 0 [oR 70, none] [] m (qV Q)
abbrev j_X12_begins_70_2 (d : Nat) (x1 : Int32) (m : dM) (Q : dM → Prop) : Prop := Wp d 42 2 [oR 70, oI x1] [] m (qV Q)
abbrev j_X12_begins_70_23 (d : Nat) (x1 : Int32) (m : dM) (Q : dM → Prop) : Prop := Wp d 42 23 [oR 70, oI x1] [] m (qV Q)
abbrev j_X12_begins_70_64 (d : Nat) (x1 : Int32) (m : dM) (Q : dM → Prop) : Prop := Wp d 42 64 [oR 70, oI x1] [] m (qV Q)
abbrev c_X12_keepsRow_70 (d : Nat) (m : dM) (Q : dM → Prop) : Prop := Wp d 43 0 [oR 70, none] [] m (qV Q)
abbrev j_X12_keepsRow_70_2 (d : Nat) (x1 : Int32) (m : dM) (Q : dM → Prop) : Prop := Wp d 43 2 [oR 70, oI x1] [] m (qV Q)
abbrev c_X12_read_70 (d : Nat) (m : dM) (Q : Int32 → dM → Prop) : Prop := Wp d 18 0 [oR 70, none] [] m (qI Q)
abbrev j_X12_read_70_10 (d : Nat) (x1 : Int32) (m : dM) (Q : Int32 → dM → Prop) : Prop := Wp d 18 10 [oR 70, oI x1] [] m (qI Q)
abbrev j_X12_read_70_112 (d : Nat) (m : dM) (Q : Int32 → dM → Prop) : Prop := Wp d 18 112 [oR 70, none] [] m (qI Q)
abbrev j_X12_read_70_134 (d : Nat) (m : dM) (Q : Int32 → dM → Prop) : Prop := Wp d 18 134 [oR 70, none] [] m (qI Q)
abbrev j_X12_read_70_219 (d : Nat) (x1 : Int32) (m : dM) (Q : Int32 → dM → Prop) : Prop := Wp d 18 219 [oR 70, oI x1] [] m (qI Q)
abbrev c_X11_place_0 (d : Nat) (m : dM) (Q : Int32 → dM → Prop) : Prop := Wp d 247 0 [oR 0] [] m (qI Q)
abbrev c_X12_place_70 (d : Nat) (m : dM) (Q : Int32 → dM → Prop) : Prop := Wp d 19 0 [oR 70] [] m (qI Q)
abbrev c_X11_isFlat_0 (d : Nat) (x1 : Int32) (m : dM) (Q : Int32 → dM → Prop) : Prop := Wp d 248 0 [oR 0, oI x1] [] m (qI Q)
abbrev j_X11_isFlat_0_19 (d : Nat) (m : dM) (Q : Int32 → dM → Prop) : Prop := Wp d 248 19 [none, none] [] m (qI Q)
abbrev c_J7_fill_59 (d : Nat) (x1 : Int32) (m : dM) (Q : dM → Prop) : Prop := Wp d 286 0 [oR 59, oI x1, none, none] [] m (qV Q)
abbrev j_J7_fill_59_5 (d : Nat) (x1 : Int32) (x2 : Int32) (x3 : Int32) (m : dM) (Q : dM → Prop) : Prop := Wp d 286 5 [oR 59, oI x1, oI x2, oI x3] [] m (qV Q)
abbrev c_J7_fill_60 (d : Nat) (x1 : Int32) (m : dM) (Q : dM → Prop) : Prop := Wp d 286 0 [oR 60, oI x1, none, none] [] m (qV Q)
abbrev j_J7_fill_60_5 (d : Nat) (x1 : Int32) (x2 : Int32) (x3 : Int32) (m : dM) (Q : dM → Prop) : Prop := Wp d 286 5 [oR 60, oI x1, oI x2, oI x3] [] m (qV Q)
abbrev c_X11_has (d : Nat) (x0 : Int32) (x1 : Int32) (m : dM) (Q : Int32 → dM → Prop) : Prop := Wp d 283 0 [oI x0, oI x1] [] m (qI Q)
abbrev c_X10_reachBy_57 (d : Nat) (x1 : Int32) (x2 : Int32) (m : dM) (Q : dM → Prop) : Prop := Wp d 240 0 [oR 57, oI x1, oI x2, none, none, none] [] m (qV Q)
abbrev j_X10_reachBy_57_151 (d : Nat) (m : dM) (Q : dM → Prop) : Prop := Wp d 240 151 [none, none, none, none, none, none] [] m (qV Q)
abbrev c_X10_lay_57 (d : Nat) (x1 : Int32) (m : dM) (Q : dM → Prop) : Prop := Wp d 239 0 [oR 57, oI x1, none, none, none] [] m (qV Q)
abbrev j_X10_lay_57_58 (d : Nat) (x1 : Int32) (x2 : Int32) (m : dM) (Q : dM → Prop) : Prop := Wp d 239 58 [oR 57, oI x1, oI x2, none, none] [] m (qV Q)
abbrev j_X10_lay_57_77 (d : Nat) (x1 : Int32) (x2 : Int32) (x3 : Int32) (x4 : Int32) (m : dM) (Q : dM → Prop) : Prop := Wp d 239 77 [oR 57, oI x1, oI x2, oI x3, oI x4] [] m (qV Q)
abbrev j_X10_lay_57_105 (d : Nat) (x1 : Int32) (x2 : Int32) (x3 : Int32) (x4 : Int32) (m : dM) (Q : dM → Prop) : Prop := Wp d 239 105 [oR 57, oI x1, oI x2, oI x3, oI x4] [] m (qV Q)
abbrev j_X10_lay_57_128 (d : Nat) (m : dM) (Q : dM → Prop) : Prop := Wp d 239 128 [none, none, none, none, none] [] m (qV Q)
abbrev c_X0_waysNow_54_47 (d : Nat) (m : dM) (Q : dM → Prop) : Prop := Wp d 116 0 [oR 54, oR 47] [] m (qR 57 Q)
abbrev c_X7_hourOfDay_47 (d : Nat) (m : dM) (Q : Int32 → dM → Prop) : Prop := Wp d 212 0 [oR 47] [] m (qI Q)
abbrev c_X7_day_47 (d : Nat) (m : dM) (Q : Int32 → dM → Prop) : Prop := Wp d 213 0 [oR 47] [] m (qI Q)
abbrev c_J7_fill_55 (d : Nat) (x1 : Int32) (m : dM) (Q : dM → Prop) : Prop := Wp d 286 0 [oR 55, oI x1, none, none] [] m (qV Q)
abbrev j_J7_fill_55_5 (d : Nat) (x1 : Int32) (x2 : Int32) (x3 : Int32) (m : dM) (Q : dM → Prop) : Prop := Wp d 286 5 [oR 55, oI x1, oI x2, oI x3] [] m (qV Q)
abbrev c_X0_setVars_54 (d : Nat) (x1 : Int32) (x2 : Int32) (x3 : Int32) (m : dM) (Q : dM → Prop) : Prop := Wp d 125 0 [oR 54, oI x1, oI x2, oI x3] [] m (qV Q)
abbrev c_X4_worked_11 (d : Nat) (x1 : Int32) (x2 : Int32) (x3 : Int32) (m : dM) (Q : Int32 → dM → Prop) : Prop := Wp d 183 0 [oR 11, oI x1, oI x2, oI x3] [] m (qI Q)
abbrev c_X4_pieceTells_11_55 (d : Nat) (x1 : Int32) (x2 : Int32) (m : dM) (Q : Int32 → dM → Prop) : Prop := Wp d 182 0 [oR 11, oI x1, oI x2, oR 55, none, none, none, none] [] m (qI Q)
abbrev j_X4_pieceTells_11_55_10 (d : Nat) (m : dM) (Q : Int32 → dM → Prop) : Prop := Wp d 182 10 [none, none, none, none, none, none, none, none] [] m (qI Q)
abbrev j_X4_pieceTells_11_55_37 (d : Nat) (x4 : Int32) (x5 : Int32) (x6 : Int32) (m : dM) (Q : Int32 → dM → Prop) : Prop := Wp d 182 37 [oR 11, none, none, oR 55, oI x4, oI x5, oI x6, none] [] m (qI Q)
abbrev j_X4_pieceTells_11_55_150 (d : Nat) (x4 : Int32) (x5 : Int32) (x6 : Int32) (m : dM) (Q : Int32 → dM → Prop) : Prop := Wp d 182 150 [oR 11, none, none, oR 55, oI x4, oI x5, oI x6, none] [] m (qI Q)
abbrev j_X4_pieceTells_11_55_156 (d : Nat) (m : dM) (Q : Int32 → dM → Prop) : Prop := Wp d 182 156 [oR 11, none, none, none, none, none, none, none] [] m (qI Q)
abbrev c_X4_tells_11_55 (d : Nat) (x1 : Int32) (m : dM) (Q : Int32 → dM → Prop) : Prop := Wp d 181 0 [oR 11, oI x1, oR 55, none, none, none, none] [] m (qI Q)
abbrev j_X4_tells_11_55_17 (d : Nat) (x1 : Int32) (x3 : Int32) (x4 : Int32) (m : dM) (Q : Int32 → dM → Prop) : Prop := Wp d 181 17 [oR 11, oI x1, oR 55, oI x3, oI x4, none, none] [] m (qI Q)
abbrev j_X4_tells_11_55_93 (d : Nat) (x1 : Int32) (x3 : Int32) (m : dM) (Q : Int32 → dM → Prop) : Prop := Wp d 181 93 [oR 11, oI x1, oR 55, oI x3, none, none, none] [] m (qI Q)
abbrev c_X0_held (d : Nat) (x0 : Int32) (m : dM) (Q : Int32 → dM → Prop) : Prop := Wp d 126 0 [oI x0] [] m (qI Q)
abbrev c_X0_quarrelOf_54_47 (d : Nat) (x2 : Int32) (m : dM) (Q : Int32 → dM → Prop) : Prop := Wp d 127 0 [oR 54, oR 47, oI x2] [] m (qI Q)
abbrev c_X0_usesAt_54_47 (d : Nat) (x2 : Int32) (m : dM) (Q : Int32 → dM → Prop) : Prop := Wp d 118 0 [oR 54, oR 47, oI x2, none, none, none] [] m (qI Q)
abbrev j_X0_usesAt_54_47_16 (d : Nat) (x2 : Int32) (x3 : Int32) (x4 : Int32) (m : dM) (Q : Int32 → dM → Prop) : Prop := Wp d 118 16 [oR 54, oR 47, oI x2, oI x3, oI x4, none] [] m (qI Q)
abbrev j_X0_usesAt_54_47_60 (d : Nat) (x2 : Int32) (x3 : Int32) (x4 : Int32) (m : dM) (Q : Int32 → dM → Prop) : Prop := Wp d 118 60 [oR 54, oR 47, oI x2, oI x3, oI x4, none] [] m (qI Q)
abbrev j_X0_usesAt_54_47_110 (d : Nat) (x2 : Int32) (x3 : Int32) (x4 : Int32) (m : dM) (Q : Int32 → dM → Prop) : Prop := Wp d 118 110 [oR 54, oR 47, oI x2, oI x3, oI x4, none] [] m (qI Q)
abbrev c_X0_usesNow_54_47 (d : Nat) (m : dM) (Q : Int32 → dM → Prop) : Prop := Wp d 117 0 [oR 54, oR 47] [] m (qI Q)
abbrev c_X0_ampsOf_54 (d : Nat) (x1 : Int32) (x2 : Int32) (m : dM) (Q : Int32 → dM → Prop) : Prop := Wp d 119 0 [oR 54, oI x1, oI x2, none, none] [] m (qI Q)
abbrev j_X0_ampsOf_54_5 (d : Nat) (x1 : Int32) (x2 : Int32) (x3 : Int32) (x4 : Int32) (m : dM) (Q : Int32 → dM → Prop) : Prop := Wp d 119 5 [oR 54, oI x1, oI x2, oI x3, oI x4] [] m (qI Q)
abbrev c_X11_flat_0 (d : Nat) (x1 : Int32) (x2 : Int32) (m : dM) (Q : Int32 → dM → Prop) : Prop := Wp d 251 0 [oR 0, oI x1, oI x2, none] [] m (qI Q)
abbrev c_X12_in (d : Nat) (x0 : Int32) (x1 : Int32) (x2 : Int32) (m : dM) (Q : Int32 → dM → Prop) : Prop := Wp d 36 0 [oI x0, oI x1, oI x2] [] m (qI Q)
abbrev j_X12_in_14 (d : Nat) (m : dM) (Q : Int32 → dM → Prop) : Prop := Wp d 36 14 [none, none, none] [] m (qI Q)
abbrev c_X12_isFlat_70 (d : Nat) (x1 : Int32) (m : dM) (Q : Int32 → dM → Prop) : Prop := Wp d 39 0 [oR 70, oI x1] [] m (qI Q)
abbrev c_X12_isWire_70 (d : Nat) (x1 : Int32) (m : dM) (Q : Int32 → dM → Prop) : Prop := Wp d 40 0 [oR 70, oI x1] [] m (qI Q)
abbrev c_X12_isWhole_70 (d : Nat) (x1 : Int32) (m : dM) (Q : Int32 → dM → Prop) : Prop := Wp d 47 0 [oR 70, oI x1] [] m (qI Q)
abbrev j_X12_isWhole_70_24 (d : Nat) (m : dM) (Q : Int32 → dM → Prop) : Prop := Wp d 47 24 [none, none] [] m (qI Q)
abbrev c_X12_otherEnd_70 (d : Nat) (x1 : Int32) (x2 : Int32) (m : dM) (Q : Int32 → dM → Prop) : Prop := Wp d 48 0 [oR 70, oI x1, oI x2, none] [] m (qI Q)
abbrev c_X12_wireFrom_70 (d : Nat) (x1 : Int32) (m : dM) (Q : Int32 → dM → Prop) : Prop := Wp d 49 0 [oR 70, oI x1, none, none] [] m (qI Q)
abbrev j_X12_wireFrom_70_2 (d : Nat) (x1 : Int32) (x2 : Int32) (m : dM) (Q : Int32 → dM → Prop) : Prop := Wp d 49 2 [oR 70, oI x1, oI x2, none] [] m (qI Q)
abbrev j_X12_wireFrom_70_56 (d : Nat) (x1 : Int32) (x2 : Int32) (m : dM) (Q : Int32 → dM → Prop) : Prop := Wp d 49 56 [oR 70, oI x1, oI x2, none] [] m (qI Q)
abbrev c_X12_fillsWays_70 (d : Nat) (m : dM) (Q : dM → Prop) : Prop := Wp d 50 0 [oR 70, none, none, none, none] [] m (qV Q)
abbrev j_X12_fillsWays_70_2 (d : Nat) (x1 : Int32) (m : dM) (Q : dM → Prop) : Prop := Wp d 50 2 [oR 70, oI x1, none, none, none] [] m (qV Q)
abbrev j_X12_fillsWays_70_51 (d : Nat) (x1 : Int32) (m : dM) (Q : dM → Prop) : Prop := Wp d 50 51 [oR 70, oI x1, none, none, none] [] m (qV Q)
abbrev j_X12_fillsWays_70_59 (d : Nat) (x1 : Int32) (x2 : Int32) (m : dM) (Q : dM → Prop) : Prop := Wp d 50 59 [oR 70, oI x1, oI x2, none, none] [] m (qV Q)
abbrev j_X12_fillsWays_70_146 (d : Nat) (x1 : Int32) (x2 : Int32) (x3 : Int32) (x4 : Int32) (m : dM) (Q : dM → Prop) : Prop := Wp d 50 146 [oR 70, oI x1, oI x2, oI x3, oI x4] [] m (qV Q)
abbrev j_X12_fillsWays_70_177 (d : Nat) (x1 : Int32) (x2 : Int32) (m : dM) (Q : dM → Prop) : Prop := Wp d 50 177 [oR 70, oI x1, oI x2, none, none] [] m (qV Q)
abbrev j_X12_fillsWays_70_191 (d : Nat) (x1 : Int32) (m : dM) (Q : dM → Prop) : Prop := Wp d 50 191 [oR 70, oI x1, none, none, none] [] m (qV Q)
abbrev j_X12_fillsWays_70_199 (d : Nat) (x1 : Int32) (x2 : Int32) (m : dM) (Q : dM → Prop) : Prop := Wp d 50 199 [oR 70, oI x1, oI x2, none, none] [] m (qV Q)
abbrev j_X12_fillsWays_70_245 (d : Nat) (x1 : Int32) (x2 : Int32) (m : dM) (Q : dM → Prop) : Prop := Wp d 50 245 [oR 70, oI x1, oI x2, none, none] [] m (qV Q)
abbrev c_X12_copies_70 (d : Nat) (m : dM) (Q : dM → Prop) : Prop := Wp d 44 0 [oR 70, none] [] m (qV Q)
abbrev j_X12_copies_70_2 (d : Nat) (x1 : Int32) (m : dM) (Q : dM → Prop) : Prop := Wp d 44 2 [oR 70, oI x1] [] m (qV Q)
abbrev c_X12_isLit_70 (d : Nat) (x1 : Int32) (m : dM) (Q : Int32 → dM → Prop) : Prop := Wp d 51 0 [oR 70, oI x1] [] m (qI Q)
abbrev c_X12_looks_70 (d : Nat) (x1 : Int32) (x2 : Int32) (m : dM) (Q : dM → Prop) : Prop := Wp d 58 0 [oR 70, oI x1, oI x2, none] [] m (qV Q)
abbrev j_X12_looks_70_2 (d : Nat) (x1 : Int32) (x2 : Int32) (x3 : Int32) (m : dM) (Q : dM → Prop) : Prop := Wp d 58 2 [oR 70, oI x1, oI x2, oI x3] [] m (qV Q)
abbrev c_X12_termOf_70 (d : Nat) (x1 : Int32) (x2 : Int32) (m : dM) (Q : Int32 → dM → Prop) : Prop := Wp d 35 0 [oR 70, oI x1, oI x2, none, none, none, none, none] [] m (qI Q)
abbrev j_X12_termOf_70_5 (d : Nat) (x2 : Int32) (x3 : Int32) (x4 : Int32) (m : dM) (Q : Int32 → dM → Prop) : Prop := Wp d 35 5 [oR 70, none, oI x2, oI x3, oI x4, none, none, none] [] m (qI Q)
abbrev j_X12_termOf_70_104 (d : Nat) (x2 : Int32) (x3 : Int32) (x4 : Int32) (x5 : Int32) (x6 : Int32) (x7 : Int32) (m : dM) (Q : Int32 → dM → Prop) : Prop := Wp d 35 104 [oR 70, none, oI x2, oI x3, oI x4, oI x5, oI x6, oI x7] [] m (qI Q)
abbrev j_X12_termOf_70_159 (d : Nat) (x2 : Int32) (x3 : Int32) (x4 : Int32) (m : dM) (Q : Int32 → dM → Prop) : Prop := Wp d 35 159 [oR 70, none, oI x2, oI x3, oI x4, none, none, none] [] m (qI Q)
abbrev c_X12_lawTells_70 (d : Nat) (x1 : Int32) (x2 : Int32) (m : dM) (Q : Int32 → dM → Prop) : Prop := Wp d 59 0 [oR 70, oI x1, oI x2, none, none, none, none] [] m (qI Q)
abbrev j_X12_lawTells_70_39 (d : Nat) (x3 : Int32) (x4 : Int32) (m : dM) (Q : Int32 → dM → Prop) : Prop := Wp d 59 39 [oR 70, none, none, oI x3, oI x4, none, none] [] m (qI Q)
abbrev j_X12_lawTells_70_119 (d : Nat) (x4 : Int32) (m : dM) (Q : Int32 → dM → Prop) : Prop := Wp d 59 119 [oR 70, none, none, none, oI x4, none, none] [] m (qI Q)
abbrev c_X12_within (d : Nat) (x0 : Int32) (x1 : Int32) (x2 : Int32) (m : dM) (Q : Int32 → dM → Prop) : Prop := Wp d 37 0 [oI x0, oI x1, oI x2] [] m (qI Q)
abbrev c_X12_quarrelOf_70 (d : Nat) (x1 : Int32) (m : dM) (Q : Int32 → dM → Prop) : Prop := Wp d 62 0 [oR 70, oI x1] [] m (qI Q)
abbrev c_X12_flatAt_70 (d : Nat) (x1 : Int32) (m : dM) (Q : Int32 → dM → Prop) : Prop := Wp d 53 0 [oR 70, oI x1] [] m (qI Q)
abbrev c_X12_onAt_70 (d : Nat) (x1 : Int32) (m : dM) (Q : Int32 → dM → Prop) : Prop := Wp d 55 0 [oR 70, oI x1, none, none] [] m (qI Q)
abbrev j_X12_onAt_70_4 (d : Nat) (x1 : Int32) (x2 : Int32) (x3 : Int32) (m : dM) (Q : Int32 → dM → Prop) : Prop := Wp d 55 4 [oR 70, oI x1, oI x2, oI x3] [] m (qI Q)
abbrev j_X12_onAt_70_83 (d : Nat) (x1 : Int32) (x2 : Int32) (x3 : Int32) (m : dM) (Q : Int32 → dM → Prop) : Prop := Wp d 55 83 [oR 70, oI x1, oI x2, oI x3] [] m (qI Q)
abbrev c_X12_onNow_70 (d : Nat) (m : dM) (Q : Int32 → dM → Prop) : Prop := Wp d 56 0 [oR 70] [] m (qI Q)
abbrev c_X12_ampsAt_70 (d : Nat) (x1 : Int32) (m : dM) (Q : Int32 → dM → Prop) : Prop := Wp d 54 0 [oR 70, oI x1] [] m (qI Q)
abbrev c_X12_ampsOn_70 (d : Nat) (x1 : Int32) (m : dM) (Q : Int32 → dM → Prop) : Prop := Wp d 70 0 [oR 70, oI x1, none, none, none] [] m (qI Q)
abbrev j_X12_ampsOn_70_10 (d : Nat) (x1 : Int32) (x2 : Int32) (x3 : Int32) (x4 : Int32) (m : dM) (Q : Int32 → dM → Prop) : Prop := Wp d 70 10 [oR 70, oI x1, oI x2, oI x3, oI x4] [] m (qI Q)
abbrev j_X12_ampsOn_70_53 (d : Nat) (x1 : Int32) (x2 : Int32) (x3 : Int32) (x4 : Int32) (m : dM) (Q : Int32 → dM → Prop) : Prop := Wp d 70 53 [oR 70, oI x1, oI x2, oI x3, oI x4] [] m (qI Q)
abbrev c_X12_flat_70 (d : Nat) (x1 : Int32) (x2 : Int32) (m : dM) (Q : Int32 → dM → Prop) : Prop := Wp d 69 0 [oR 70, oI x1, oI x2] [] m (qI Q)
abbrev c_X11_isWire_0 (d : Nat) (x1 : Int32) (m : dM) (Q : Int32 → dM → Prop) : Prop := Wp d 249 0 [oR 0, oI x1] [] m (qI Q)
abbrev j_X11_isWire_0_19 (d : Nat) (m : dM) (Q : Int32 → dM → Prop) : Prop := Wp d 249 19 [none, none] [] m (qI Q)
abbrev c_J7_fill_56 (d : Nat) (x1 : Int32) (m : dM) (Q : dM → Prop) : Prop := Wp d 286 0 [oR 56, oI x1, none, none] [] m (qV Q)
abbrev j_J7_fill_56_5 (d : Nat) (x1 : Int32) (x2 : Int32) (x3 : Int32) (m : dM) (Q : dM → Prop) : Prop := Wp d 286 5 [oR 56, oI x1, oI x2, oI x3] [] m (qV Q)
abbrev c_X0_putOn_54_47 (d : Nat) (x2 : Int32) (m : dM) (Q : dM → Prop) : Prop := Wp d 120 0 [oR 54, oR 47, oI x2, none, none, none] [] m (qV Q)
abbrev j_X0_putOn_54_47_21 (d : Nat) (x2 : Int32) (x3 : Int32) (m : dM) (Q : dM → Prop) : Prop := Wp d 120 21 [oR 54, none, oI x2, oI x3, none, none] [] m (qV Q)
abbrev j_X0_putOn_54_47_66 (d : Nat) (x2 : Int32) (x3 : Int32) (x4 : Int32) (x5 : Int32) (m : dM) (Q : dM → Prop) : Prop := Wp d 120 66 [oR 54, none, oI x2, oI x3, oI x4, oI x5] [] m (qV Q)
abbrev j_X0_putOn_54_47_125 (d : Nat) (x2 : Int32) (x3 : Int32) (m : dM) (Q : dM → Prop) : Prop := Wp d 120 125 [oR 54, none, oI x2, oI x3, none, none] [] m (qV Q)
abbrev c_X0_loadNow_54_47 (d : Nat) (x2 : Int32) (m : dM) (Q : Int32 → dM → Prop) : Prop := Wp d 121 0 [oR 54, oR 47, oI x2] [] m (qI Q)
abbrev c_X0_costOf_54_47 (d : Nat) (x2 : Int32) (m : dM) (Q : Int32 → dM → Prop) : Prop := Wp d 128 0 [oR 54, oR 47, oI x2] [] m (qI Q)
abbrev c_X0_going_54_47 (d : Nat) (x2 : Int32) (x3 : Int32) (m : dM) (Q : Int32 → dM → Prop) : Prop := Wp d 124 0 [oR 54, oR 47, oI x2, oI x3, none, none] [] m (qI Q)
abbrev j_X0_going_54_47_6 (d : Nat) (x2 : Int32) (x3 : Int32) (x4 : Int32) (x5 : Int32) (m : dM) (Q : Int32 → dM → Prop) : Prop := Wp d 124 6 [oR 54, oR 47, oI x2, oI x3, oI x4, oI x5] [] m (qI Q)
abbrev j_X0_going_54_47_119 (d : Nat) (x2 : Int32) (x3 : Int32) (x4 : Int32) (x5 : Int32) (m : dM) (Q : Int32 → dM → Prop) : Prop := Wp d 124 119 [oR 54, oR 47, oI x2, oI x3, oI x4, oI x5] [] m (qI Q)
abbrev c_X0_goingWith_54_47 (d : Nat) (x2 : Int32) (m : dM) (Q : Int32 → dM → Prop) : Prop := Wp d 123 0 [oR 54, oR 47, oI x2] [] m (qI Q)
abbrev c_X0_goingNow_54_47 (d : Nat) (m : dM) (Q : Int32 → dM → Prop) : Prop := Wp d 122 0 [oR 54, oR 47] [] m (qI Q)
abbrev c_X11_wire_0 (d : Nat) (x1 : Int32) (x2 : Int32) (m : dM) (Q : Int32 → dM → Prop) : Prop := Wp d 252 0 [oR 0, oI x1, oI x2] [] m (qI Q)
abbrev c_X12_loadBy_70 (d : Nat) (x1 : Int32) (x2 : Int32) (m : dM) (Q : Int32 → dM → Prop) : Prop := Wp d 57 0 [oR 70, oI x1, oI x2, none, none] [] m (qI Q)
abbrev j_X12_loadBy_70_5 (d : Nat) (x1 : Int32) (x2 : Int32) (x3 : Int32) (x4 : Int32) (m : dM) (Q : Int32 → dM → Prop) : Prop := Wp d 57 5 [oR 70, oI x1, oI x2, oI x3, oI x4] [] m (qI Q)
abbrev j_X12_loadBy_70_57 (d : Nat) (x1 : Int32) (x2 : Int32) (x3 : Int32) (x4 : Int32) (m : dM) (Q : Int32 → dM → Prop) : Prop := Wp d 57 57 [oR 70, oI x1, oI x2, oI x3, oI x4] [] m (qI Q)
abbrev c_X12_costsOf_70 (d : Nat) (x1 : Int32) (m : dM) (Q : Int32 → dM → Prop) : Prop := Wp d 63 0 [oR 70, oI x1] [] m (qI Q)
abbrev c_X12_doesGo_70 (d : Nat) (x1 : Int32) (x2 : Int32) (x3 : Int32) (x4 : Int32) (m : dM) (Q : Int32 → dM → Prop) : Prop := Wp d 60 0 [oR 70, oI x1, oI x2, oI x3, oI x4, none] [] m (qI Q)
abbrev j_X12_doesGo_70_21 (d : Nat) (m : dM) (Q : Int32 → dM → Prop) : Prop := Wp d 60 21 [none, none, none, none, none, none] [] m (qI Q)
abbrev c_X12_wire_70 (d : Nat) (x1 : Int32) (x2 : Int32) (m : dM) (Q : Int32 → dM → Prop) : Prop := Wp d 71 0 [oR 70, oI x1, oI x2] [] m (qI Q)
abbrev c_X11_isUse_0 (d : Nat) (x1 : Int32) (m : dM) (Q : Int32 → dM → Prop) : Prop := Wp d 250 0 [oR 0, oI x1] [] m (qI Q)
abbrev j_X11_isUse_0_19 (d : Nat) (m : dM) (Q : Int32 → dM → Prop) : Prop := Wp d 250 19 [none, none] [] m (qI Q)
abbrev c_X0_payOf_54_47 (d : Nat) (x2 : Int32) (m : dM) (Q : Int32 → dM → Prop) : Prop := Wp d 129 0 [oR 54, oR 47, oI x2] [] m (qI Q)
abbrev c_X11_use_0 (d : Nat) (x1 : Int32) (x2 : Int32) (m : dM) (Q : Int32 → dM → Prop) : Prop := Wp d 253 0 [oR 0, oI x1, oI x2, none] [] m (qI Q)
abbrev c_X12_isUse_70 (d : Nat) (x1 : Int32) (m : dM) (Q : Int32 → dM → Prop) : Prop := Wp d 41 0 [oR 70, oI x1] [] m (qI Q)
abbrev c_X12_paysOf_70 (d : Nat) (x1 : Int32) (m : dM) (Q : Int32 → dM → Prop) : Prop := Wp d 64 0 [oR 70, oI x1] [] m (qI Q)
abbrev c_X12_use_70 (d : Nat) (x1 : Int32) (x2 : Int32) (m : dM) (Q : Int32 → dM → Prop) : Prop := Wp d 72 0 [oR 70, oI x1, oI x2] [] m (qI Q)
abbrev c_X7_writeTo_47_52 (d : Nat) (x2 : Int32) (m : dM) (Q : dM → Prop) : Prop := Wp d 210 0 [oR 47, oR 52, oI x2] [] m (qV Q)
abbrev j_X7_writeTo_47_52_13 (d : Nat) (m : dM) (Q : dM → Prop) : Prop := Wp d 210 13 [none, none, none] [] m (qV Q)
abbrev c_X6_keep_51_47 (d : Nat) (m : dM) (Q : dM → Prop) : Prop := Wp d 203 0 [oR 51, oR 47] [] m (qV Q)
abbrev c_X11_agree_0 (d : Nat) (x1 : Int32) (x2 : Int32) (m : dM) (Q : Int32 → dM → Prop) : Prop := Wp d 254 0 [oR 0, oI x1, oI x2] [] m (qI Q)
abbrev j_X11_agree_0_23 (d : Nat) (m : dM) (Q : Int32 → dM → Prop) : Prop := Wp d 254 23 [none, none, none] [] m (qI Q)
abbrev c_X12_records_70 (d : Nat) (m : dM) (Q : dM → Prop) : Prop := Wp d 73 0 [oR 70, none] [] m (qV Q)
abbrev j_X12_records_70_11 (d : Nat) (x1 : Int32) (m : dM) (Q : dM → Prop) : Prop := Wp d 73 11 [oR 70, oI x1] [] m (qV Q)
abbrev j_X12_records_70_49 (d : Nat) (m : dM) (Q : dM → Prop) : Prop := Wp d 73 49 [oR 70, none] [] m (qV Q)
abbrev j_X12_records_70_51 (d : Nat) (x1 : Int32) (m : dM) (Q : dM → Prop) : Prop := Wp d 73 51 [oR 70, oI x1] [] m (qV Q)
abbrev c_X12_agree_70 (d : Nat) (x1 : Int32) (x2 : Int32) (m : dM) (Q : Int32 → dM → Prop) : Prop := Wp d 74 0 [oR 70, oI x1, oI x2] [] m (qI Q)
abbrev j_X12_agree_70_30 (d : Nat) (m : dM) (Q : Int32 → dM → Prop) : Prop := Wp d 74 30 [none, none, none] [] m (qI Q)
abbrev c_X11_mend_0 (d : Nat) (x1 : Int32) (m : dM) (Q : Int32 → dM → Prop) : Prop := Wp d 255 0 [oR 0, oI x1, none] [] m (qI Q)
abbrev j_X11_mend_0_48 (d : Nat) (m : dM) (Q : Int32 → dM → Prop) : Prop := Wp d 255 48 [none, none, none] [] m (qI Q)
abbrev c_X12_mend_70 (d : Nat) (x1 : Int32) (m : dM) (Q : Int32 → dM → Prop) : Prop := Wp d 75 0 [oR 70, oI x1] [] m (qI Q)
abbrev j_X12_mend_70_41 (d : Nat) (m : dM) (Q : Int32 → dM → Prop) : Prop := Wp d 75 41 [none, none] [] m (qI Q)
abbrev c_X11_thicken_0 (d : Nat) (x1 : Int32) (m : dM) (Q : Int32 → dM → Prop) : Prop := Wp d 256 0 [oR 0, oI x1, none] [] m (qI Q)
abbrev j_X11_thicken_0_62 (d : Nat) (m : dM) (Q : Int32 → dM → Prop) : Prop := Wp d 256 62 [none, none, none] [] m (qI Q)
abbrev c_X12_thicken_70 (d : Nat) (x1 : Int32) (m : dM) (Q : Int32 → dM → Prop) : Prop := Wp d 76 0 [oR 70, oI x1] [] m (qI Q)
abbrev j_X12_thicken_70_53 (d : Nat) (m : dM) (Q : Int32 → dM → Prop) : Prop := Wp d 76 53 [none, none] [] m (qI Q)
abbrev c_X11_pin_0 (d : Nat) (x1 : Int32) (x2 : Int32) (m : dM) (Q : Int32 → dM → Prop) : Prop := Wp d 257 0 [oR 0, oI x1, oI x2] [] m (qI Q)
abbrev j_X11_pin_0_37 (d : Nat) (m : dM) (Q : Int32 → dM → Prop) : Prop := Wp d 257 37 [none, none, none] [] m (qI Q)
abbrev c_X12_pin_70 (d : Nat) (x1 : Int32) (x2 : Int32) (m : dM) (Q : Int32 → dM → Prop) : Prop := Wp d 77 0 [oR 70, oI x1, oI x2] [] m (qI Q)
abbrev j_X12_pin_70_43 (d : Nat) (m : dM) (Q : Int32 → dM → Prop) : Prop := Wp d 77 43 [none, none, none] [] m (qI Q)
abbrev c_X0_takePay_54_47 (d : Nat) (m : dM) (Q : dM → Prop) : Prop := Wp d 135 0 [oR 54, oR 47, none, none] [] m (qV Q)
abbrev j_X0_takePay_54_47_12 (d : Nat) (x2 : Int32) (x3 : Int32) (m : dM) (Q : dM → Prop) : Prop := Wp d 135 12 [oR 54, oR 47, oI x2, oI x3] [] m (qV Q)
abbrev j_X0_takePay_54_47_51 (d : Nat) (x2 : Int32) (x3 : Int32) (m : dM) (Q : dM → Prop) : Prop := Wp d 135 51 [oR 54, oR 47, oI x2, oI x3] [] m (qV Q)
abbrev c_X0_countQuarrels_54_47 (d : Nat) (m : dM) (Q : dM → Prop) : Prop := Wp d 136 0 [oR 54, oR 47, none] [] m (qV Q)
abbrev j_X0_countQuarrels_54_47_13 (d : Nat) (x2 : Int32) (m : dM) (Q : dM → Prop) : Prop := Wp d 136 13 [oR 54, oR 47, oI x2] [] m (qV Q)
abbrev j_X0_countQuarrels_54_47_78 (d : Nat) (x2 : Int32) (m : dM) (Q : dM → Prop) : Prop := Wp d 136 78 [oR 54, oR 47, oI x2] [] m (qV Q)
abbrev c_X0_stirred (d : Nat) (x0 : Int32) (x1 : Int32) (m : dM) (Q : Int32 → dM → Prop) : Prop := Wp d 133 0 [oI x0, oI x1, none] [] m (qI Q)
abbrev c_X0_lot (d : Nat) (x0 : Int32) (x1 : Int32) (x2 : Int32) (m : dM) (Q : Int32 → dM → Prop) : Prop := Wp d 132 0 [oI x0, oI x1, oI x2, none] [] m (qI Q)
abbrev c_X0_isSurge_54 (d : Nat) (x1 : Int32) (x2 : Int32) (m : dM) (Q : Int32 → dM → Prop) : Prop := Wp d 130 0 [oR 54, oI x1, oI x2] [] m (qI Q)
abbrev c_X0_surgeOf_54 (d : Nat) (x1 : Int32) (x2 : Int32) (m : dM) (Q : Int32 → dM → Prop) : Prop := Wp d 131 0 [oR 54, oI x1, oI x2] [] m (qI Q)
abbrev c_X0_passWires_54_47 (d : Nat) (x2 : Int32) (m : dM) (Q : Int32 → dM → Prop) : Prop := Wp d 137 0 [oR 54, oR 47, oI x2, none, none] [] m (qI Q)
abbrev j_X0_passWires_54_47_38 (d : Nat) (x3 : Int32) (x4 : Int32) (m : dM) (Q : Int32 → dM → Prop) : Prop := Wp d 137 38 [oR 54, oR 47, none, oI x3, oI x4] [] m (qI Q)
abbrev j_X0_passWires_54_47_84 (d : Nat) (x3 : Int32) (x4 : Int32) (m : dM) (Q : Int32 → dM → Prop) : Prop := Wp d 137 84 [oR 54, oR 47, none, oI x3, oI x4] [] m (qI Q)
abbrev c_X0_passHour_54_47 (d : Nat) (m : dM) (Q : dM → Prop) : Prop := Wp d 134 0 [oR 54, oR 47] [] m (qV Q)
abbrev c_X11_hours_0 (d : Nat) (x1 : Int32) (m : dM) (Q : Int32 → dM → Prop) : Prop := Wp d 258 0 [oR 0, oI x1, none] [] m (qI Q)
abbrev j_X11_hours_0_10 (d : Nat) (m : dM) (Q : Int32 → dM → Prop) : Prop := Wp d 258 10 [none, none, none] [] m (qI Q)
abbrev j_X11_hours_0_27 (d : Nat) (x1 : Int32) (m : dM) (Q : Int32 → dM → Prop) : Prop := Wp d 258 27 [oR 0, oI x1, none] [] m (qI Q)
abbrev j_X11_hours_0_29 (d : Nat) (x1 : Int32) (x2 : Int32) (m : dM) (Q : Int32 → dM → Prop) : Prop := Wp d 258 29 [oR 0, oI x1, oI x2] [] m (qI Q)
abbrev c_X12_isLong (d : Nat) (x0 : Int32) (m : dM) (Q : Int32 → dM → Prop) : Prop := Wp d 78 0 [oI x0] [] m (qI Q)
abbrev c_X12_goingBits_70 (d : Nat) (x1 : Int32) (x2 : Int32) (x3 : Int32) (m : dM) (Q : Int32 → dM → Prop) : Prop := Wp d 61 0 [oR 70, oI x1, oI x2, oI x3, none, none] [] m (qI Q)
abbrev j_X12_goingBits_70_6 (d : Nat) (x1 : Int32) (x2 : Int32) (x3 : Int32) (x4 : Int32) (x5 : Int32) (m : dM) (Q : Int32 → dM → Prop) : Prop := Wp d 61 6 [oR 70, oI x1, oI x2, oI x3, oI x4, oI x5] [] m (qI Q)
abbrev j_X12_goingBits_70_41 (d : Nat) (x1 : Int32) (x2 : Int32) (x3 : Int32) (x4 : Int32) (x5 : Int32) (m : dM) (Q : Int32 → dM → Prop) : Prop := Wp d 61 41 [oR 70, oI x1, oI x2, oI x3, oI x4, oI x5] [] m (qI Q)
abbrev c_X12_paysAll_70 (d : Nat) (x1 : Int32) (m : dM) (Q : Int32 → dM → Prop) : Prop := Wp d 65 0 [oR 70, oI x1, none, none] [] m (qI Q)
abbrev j_X12_paysAll_70_4 (d : Nat) (x1 : Int32) (x2 : Int32) (x3 : Int32) (m : dM) (Q : Int32 → dM → Prop) : Prop := Wp d 65 4 [oR 70, oI x1, oI x2, oI x3] [] m (qI Q)
abbrev j_X12_paysAll_70_34 (d : Nat) (x1 : Int32) (x2 : Int32) (x3 : Int32) (m : dM) (Q : Int32 → dM → Prop) : Prop := Wp d 65 34 [oR 70, oI x1, oI x2, oI x3] [] m (qI Q)
abbrev c_X12_quarrelsAll_70 (d : Nat) (m : dM) (Q : Int32 → dM → Prop) : Prop := Wp d 66 0 [oR 70, none, none] [] m (qI Q)
abbrev j_X12_quarrelsAll_70_4 (d : Nat) (x1 : Int32) (x2 : Int32) (m : dM) (Q : Int32 → dM → Prop) : Prop := Wp d 66 4 [oR 70, oI x1, oI x2] [] m (qI Q)
abbrev j_X12_quarrelsAll_70_33 (d : Nat) (x1 : Int32) (x2 : Int32) (m : dM) (Q : Int32 → dM → Prop) : Prop := Wp d 66 33 [oR 70, oI x1, oI x2] [] m (qI Q)
abbrev c_X12_mixed (d : Nat) (x0 : Int32) (x1 : Int32) (m : dM) (Q : Int32 → dM → Prop) : Prop := Wp d 45 0 [oI x0, oI x1, none] [] m (qI Q)
abbrev c_X12_isSurge_70 (d : Nat) (m : dM) (Q : Int32 → dM → Prop) : Prop := Wp d 46 0 [oR 70] [] m (qI Q)
abbrev c_X12_hourGoes_70 (d : Nat) (m : dM) (Q : dM → Prop) : Prop := Wp d 67 0 [oR 70, none, none, none, none] [] m (qV Q)
abbrev j_X12_hourGoes_70_111 (d : Nat) (x4 : Int32) (m : dM) (Q : dM → Prop) : Prop := Wp d 67 111 [oR 70, none, none, none, oI x4] [] m (qV Q)
abbrev j_X12_hourGoes_70_169 (d : Nat) (x4 : Int32) (m : dM) (Q : dM → Prop) : Prop := Wp d 67 169 [oR 70, none, none, none, oI x4] [] m (qV Q)
abbrev j_X12_hourGoes_70_256 (d : Nat) (x4 : Int32) (m : dM) (Q : dM → Prop) : Prop := Wp d 67 256 [oR 70, none, none, none, oI x4] [] m (qV Q)
abbrev j_X12_hourGoes_70_284 (d : Nat) (m : dM) (Q : dM → Prop) : Prop := Wp d 67 284 [none, none, none, none, none] [] m (qV Q)
abbrev c_X12_goes_70 (d : Nat) (x1 : Int32) (m : dM) (Q : dM → Prop) : Prop := Wp d 68 0 [oR 70, oI x1, none] [] m (qV Q)
abbrev j_X12_goes_70_2 (d : Nat) (x1 : Int32) (x2 : Int32) (m : dM) (Q : dM → Prop) : Prop := Wp d 68 2 [oR 70, oI x1, oI x2] [] m (qV Q)
abbrev c_X12_hours_70 (d : Nat) (x1 : Int32) (m : dM) (Q : Int32 → dM → Prop) : Prop := Wp d 79 0 [oR 70, oI x1] [] m (qI Q)
abbrev c_X7_readFrom_47_52 (d : Nat) (x2 : Int32) (m : dM) (Q : dM → Prop) : Prop := Wp d 211 0 [oR 47, oR 52, oI x2] [] m (qV Q)
abbrev j_X7_readFrom_47_52_13 (d : Nat) (m : dM) (Q : dM → Prop) : Prop := Wp d 211 13 [none, none, none] [] m (qV Q)
abbrev c_X6_takeBack_51_47 (d : Nat) (m : dM) (Q : Int32 → dM → Prop) : Prop := Wp d 204 0 [oR 51, oR 47] [] m (qI Q)
abbrev c_X11_undo_0 (d : Nat) (m : dM) (Q : Int32 → dM → Prop) : Prop := Wp d 259 0 [oR 0] [] m (qI Q)
abbrev c_X12_undo_70 (d : Nat) (m : dM) (Q : Int32 → dM → Prop) : Prop := Wp d 80 0 [oR 70, none] [] m (qI Q)
abbrev j_X12_undo_70_21 (d : Nat) (x1 : Int32) (m : dM) (Q : Int32 → dM → Prop) : Prop := Wp d 80 21 [oR 70, oI x1] [] m (qI Q)
abbrev c_X10_wireAt_57 (d : Nat) (x1 : Int32) (x2 : Int32) (m : dM) (Q : Int32 → dM → Prop) : Prop := Wp d 241 0 [oR 57, oI x1, oI x2, none, none, none] [] m (qI Q)
abbrev j_X10_wireAt_57_14 (d : Nat) (m : dM) (Q : Int32 → dM → Prop) : Prop := Wp d 241 14 [none, none, none, none, none, none] [] m (qI Q)
abbrev j_X10_wireAt_57_21 (d : Nat) (x2 : Int32) (x3 : Int32) (x4 : Int32) (m : dM) (Q : Int32 → dM → Prop) : Prop := Wp d 241 21 [oR 57, none, oI x2, oI x3, oI x4, none] [] m (qI Q)
abbrev c_X11_way_0 (d : Nat) (x1 : Int32) (x2 : Int32) (m : dM) (Q : Int32 → dM → Prop) : Prop := Wp d 260 0 [oR 0, oI x1, oI x2, none] [] m (qI Q)
abbrev j_X11_way_0_12 (d : Nat) (m : dM) (Q : Int32 → dM → Prop) : Prop := Wp d 260 12 [none, none, none, none] [] m (qI Q)
abbrev c_X12_way_70 (d : Nat) (x1 : Int32) (x2 : Int32) (m : dM) (Q : Int32 → dM → Prop) : Prop := Wp d 81 0 [oR 70, oI x1, oI x2, none, none] [] m (qI Q)
abbrev j_X12_way_70_12 (d : Nat) (m : dM) (Q : Int32 → dM → Prop) : Prop := Wp d 81 12 [none, none, none, none, none] [] m (qI Q)
abbrev j_X12_way_70_46 (d : Nat) (x2 : Int32) (x3 : Int32) (x4 : Int32) (m : dM) (Q : Int32 → dM → Prop) : Prop := Wp d 81 46 [oR 70, none, oI x2, oI x3, oI x4] [] m (qI Q)
abbrev c_X7_copy_62_47 (d : Nat) (m : dM) (Q : dM → Prop) : Prop := Wp d 209 0 [oR 62, oR 47] [] m (qV Q)
abbrev c_X7_hourOfDay_62 (d : Nat) (m : dM) (Q : Int32 → dM → Prop) : Prop := Wp d 212 0 [oR 62] [] m (qI Q)
abbrev c_X0_usesAt_54_62 (d : Nat) (x2 : Int32) (m : dM) (Q : Int32 → dM → Prop) : Prop := Wp d 118 0 [oR 54, oR 62, oI x2, none, none, none] [] m (qI Q)
abbrev j_X0_usesAt_54_62_16 (d : Nat) (x2 : Int32) (x3 : Int32) (x4 : Int32) (m : dM) (Q : Int32 → dM → Prop) : Prop := Wp d 118 16 [oR 54, oR 62, oI x2, oI x3, oI x4, none] [] m (qI Q)
abbrev j_X0_usesAt_54_62_60 (d : Nat) (x2 : Int32) (x3 : Int32) (x4 : Int32) (m : dM) (Q : Int32 → dM → Prop) : Prop := Wp d 118 60 [oR 54, oR 62, oI x2, oI x3, oI x4, none] [] m (qI Q)
abbrev j_X0_usesAt_54_62_110 (d : Nat) (x2 : Int32) (x3 : Int32) (x4 : Int32) (m : dM) (Q : Int32 → dM → Prop) : Prop := Wp d 118 110 [oR 54, oR 62, oI x2, oI x3, oI x4, none] [] m (qI Q)
abbrev c_X0_putOn_54_62 (d : Nat) (x2 : Int32) (m : dM) (Q : dM → Prop) : Prop := Wp d 120 0 [oR 54, oR 62, oI x2, none, none, none] [] m (qV Q)
abbrev j_X0_putOn_54_62_21 (d : Nat) (x2 : Int32) (x3 : Int32) (m : dM) (Q : dM → Prop) : Prop := Wp d 120 21 [oR 54, none, oI x2, oI x3, none, none] [] m (qV Q)
abbrev j_X0_putOn_54_62_66 (d : Nat) (x2 : Int32) (x3 : Int32) (x4 : Int32) (x5 : Int32) (m : dM) (Q : dM → Prop) : Prop := Wp d 120 66 [oR 54, none, oI x2, oI x3, oI x4, oI x5] [] m (qV Q)
abbrev j_X0_putOn_54_62_125 (d : Nat) (x2 : Int32) (x3 : Int32) (m : dM) (Q : dM → Prop) : Prop := Wp d 120 125 [oR 54, none, oI x2, oI x3, none, none] [] m (qV Q)
abbrev c_X7_day_62 (d : Nat) (m : dM) (Q : Int32 → dM → Prop) : Prop := Wp d 213 0 [oR 62] [] m (qI Q)
abbrev c_X0_going_54_62 (d : Nat) (x2 : Int32) (x3 : Int32) (m : dM) (Q : Int32 → dM → Prop) : Prop := Wp d 124 0 [oR 54, oR 62, oI x2, oI x3, none, none] [] m (qI Q)
abbrev j_X0_going_54_62_6 (d : Nat) (x2 : Int32) (x3 : Int32) (x4 : Int32) (x5 : Int32) (m : dM) (Q : Int32 → dM → Prop) : Prop := Wp d 124 6 [oR 54, oR 62, oI x2, oI x3, oI x4, oI x5] [] m (qI Q)
abbrev j_X0_going_54_62_119 (d : Nat) (x2 : Int32) (x3 : Int32) (x4 : Int32) (x5 : Int32) (m : dM) (Q : Int32 → dM → Prop) : Prop := Wp d 124 119 [oR 54, oR 62, oI x2, oI x3, oI x4, oI x5] [] m (qI Q)
abbrev c_X0_passWires_54_62 (d : Nat) (x2 : Int32) (m : dM) (Q : Int32 → dM → Prop) : Prop := Wp d 137 0 [oR 54, oR 62, oI x2, none, none] [] m (qI Q)
abbrev j_X0_passWires_54_62_38 (d : Nat) (x3 : Int32) (x4 : Int32) (m : dM) (Q : Int32 → dM → Prop) : Prop := Wp d 137 38 [oR 54, oR 62, none, oI x3, oI x4] [] m (qI Q)
abbrev j_X0_passWires_54_62_84 (d : Nat) (x3 : Int32) (x4 : Int32) (m : dM) (Q : Int32 → dM → Prop) : Prop := Wp d 137 84 [oR 54, oR 62, none, oI x3, oI x4] [] m (qI Q)
abbrev c_X1_peakOf_61_47 (d : Nat) (x2 : Int32) (x3 : Int32) (x4 : Int32) (m : dM) (Q : Int32 → dM → Prop) : Prop := Wp d 139 0 [oR 61, oR 47, oI x2, oI x3, oI x4, none, none, none] [] m (qI Q)
abbrev j_X1_peakOf_61_47_17 (d : Nat) (x2 : Int32) (x3 : Int32) (x4 : Int32) (x5 : Int32) (x6 : Int32) (x7 : Int32) (m : dM) (Q : Int32 → dM → Prop) : Prop := Wp d 139 17 [oR 61, none, oI x2, oI x3, oI x4, oI x5, oI x6, oI x7] [] m (qI Q)
abbrev j_X1_peakOf_61_47_65 (d : Nat) (x2 : Int32) (x3 : Int32) (x4 : Int32) (x5 : Int32) (x6 : Int32) (x7 : Int32) (m : dM) (Q : Int32 → dM → Prop) : Prop := Wp d 139 65 [oR 61, none, oI x2, oI x3, oI x4, oI x5, oI x6, oI x7] [] m (qI Q)
abbrev c_X11_peak_0 (d : Nat) (x1 : Int32) (x2 : Int32) (x3 : Int32) (m : dM) (Q : Int32 → dM → Prop) : Prop := Wp d 261 0 [oR 0, oI x1, oI x2, oI x3] [] m (qI Q)
abbrev j_X11_peak_0_28 (d : Nat) (m : dM) (Q : Int32 → dM → Prop) : Prop := Wp d 261 28 [none, none, none, none] [] m (qI Q)
abbrev c_X12_copiesStill_70 (d : Nat) (m : dM) (Q : dM → Prop) : Prop := Wp d 82 0 [oR 70] [] m (qV Q)
abbrev c_X12_peak_70 (d : Nat) (x1 : Int32) (x2 : Int32) (x3 : Int32) (m : dM) (Q : Int32 → dM → Prop) : Prop := Wp d 83 0 [oR 70, oI x1, oI x2, oI x3, none, none, none, none] [] m (qI Q)
abbrev j_X12_peak_70_27 (d : Nat) (m : dM) (Q : Int32 → dM → Prop) : Prop := Wp d 83 27 [none, none, none, none, none, none, none, none] [] m (qI Q)
abbrev j_X12_peak_70_42 (d : Nat) (x1 : Int32) (x2 : Int32) (x3 : Int32) (x4 : Int32) (x5 : Int32) (x6 : Int32) (m : dM) (Q : Int32 → dM → Prop) : Prop := Wp d 83 42 [oR 70, oI x1, oI x2, oI x3, oI x4, oI x5, oI x6, none] [] m (qI Q)
abbrev j_X12_peak_70_86 (d : Nat) (x1 : Int32) (x2 : Int32) (x3 : Int32) (x4 : Int32) (x5 : Int32) (x6 : Int32) (m : dM) (Q : Int32 → dM → Prop) : Prop := Wp d 83 86 [oR 70, oI x1, oI x2, oI x3, oI x4, oI x5, oI x6, none] [] m (qI Q)
abbrev c_X1_trialTillGone_61 (d : Nat) (m : dM) (Q : Int32 → dM → Prop) : Prop := Wp d 142 0 [oR 61, none] [] m (qI Q)
abbrev j_X1_trialTillGone_61_7 (d : Nat) (x1 : Int32) (m : dM) (Q : Int32 → dM → Prop) : Prop := Wp d 142 7 [oR 61, oI x1] [] m (qI Q)
abbrev c_X1_firstGone_61_47 (d : Nat) (m : dM) (Q : Int32 → dM → Prop) : Prop := Wp d 140 0 [oR 61, oR 47] [] m (qI Q)
abbrev c_X11_bitAt (d : Nat) (x0 : Int32) (x1 : Int32) (m : dM) (Q : Int32 → dM → Prop) : Prop := Wp d 284 0 [oI x0, oI x1, none, none] [] m (qI Q)
abbrev j_X11_bitAt_4 (d : Nat) (x0 : Int32) (x1 : Int32) (x2 : Int32) (x3 : Int32) (m : dM) (Q : Int32 → dM → Prop) : Prop := Wp d 284 4 [oI x0, oI x1, oI x2, oI x3] [] m (qI Q)
abbrev j_X11_bitAt_28 (d : Nat) (x0 : Int32) (x1 : Int32) (x2 : Int32) (x3 : Int32) (m : dM) (Q : Int32 → dM → Prop) : Prop := Wp d 284 28 [oI x0, oI x1, oI x2, oI x3] [] m (qI Q)
abbrev c_X1_firstWire_61 (d : Nat) (m : dM) (Q : Int32 → dM → Prop) : Prop := Wp d 141 0 [oR 61] [] m (qI Q)
abbrev c_X11_first_0 (d : Nat) (x1 : Int32) (m : dM) (Q : Int32 → dM → Prop) : Prop := Wp d 262 0 [oR 0, oI x1, none] [] m (qI Q)
abbrev j_X11_first_0_9 (d : Nat) (m : dM) (Q : Int32 → dM → Prop) : Prop := Wp d 262 9 [none, none, none] [] m (qI Q)
abbrev c_X12_firstGoing_70 (d : Nat) (m : dM) (Q : Int32 → dM → Prop) : Prop := Wp d 84 0 [oR 70, none] [] m (qI Q)
abbrev j_X12_firstGoing_70_2 (d : Nat) (x1 : Int32) (m : dM) (Q : Int32 → dM → Prop) : Prop := Wp d 84 2 [oR 70, oI x1] [] m (qI Q)
abbrev c_X12_lowestOf (d : Nat) (x0 : Int32) (m : dM) (Q : Int32 → dM → Prop) : Prop := Wp d 85 0 [oI x0, none] [] m (qI Q)
abbrev j_X12_lowestOf_2 (d : Nat) (x0 : Int32) (x1 : Int32) (m : dM) (Q : Int32 → dM → Prop) : Prop := Wp d 85 2 [oI x0, oI x1] [] m (qI Q)
abbrev j_X12_lowestOf_22 (d : Nat) (x1 : Int32) (m : dM) (Q : Int32 → dM → Prop) : Prop := Wp d 85 22 [none, oI x1] [] m (qI Q)
abbrev c_X12_first_70 (d : Nat) (x1 : Int32) (m : dM) (Q : Int32 → dM → Prop) : Prop := Wp d 86 0 [oR 70, oI x1, none] [] m (qI Q)
abbrev c_X1_payOfAll_61 (d : Nat) (x1 : Int32) (m : dM) (Q : Int32 → dM → Prop) : Prop := Wp d 145 0 [oR 61, oI x1, none, none] [] m (qI Q)
abbrev j_X1_payOfAll_61_4 (d : Nat) (x1 : Int32) (x2 : Int32) (x3 : Int32) (m : dM) (Q : Int32 → dM → Prop) : Prop := Wp d 145 4 [oR 61, oI x1, oI x2, oI x3] [] m (qI Q)
abbrev c_X1_bestTogether_61_47 (d : Nat) (m : dM) (Q : Int32 → dM → Prop) : Prop := Wp d 144 0 [oR 61, oR 47, none, none, none, none, none] [] m (qI Q)
abbrev j_X1_bestTogether_61_47_17 (d : Nat) (x2 : Int32) (x3 : Int32) (x4 : Int32) (m : dM) (Q : Int32 → dM → Prop) : Prop := Wp d 144 17 [oR 61, oR 47, oI x2, oI x3, oI x4, none, none] [] m (qI Q)
abbrev j_X1_bestTogether_61_47_89 (d : Nat) (x3 : Int32) (x4 : Int32) (x5 : Int32) (x6 : Int32) (m : dM) (Q : Int32 → dM → Prop) : Prop := Wp d 144 89 [oR 61, oR 47, none, oI x3, oI x4, oI x5, oI x6] [] m (qI Q)
abbrev j_X1_bestTogether_61_47_148 (d : Nat) (x3 : Int32) (x4 : Int32) (x5 : Int32) (x6 : Int32) (m : dM) (Q : Int32 → dM → Prop) : Prop := Wp d 144 148 [oR 61, oR 47, none, oI x3, oI x4, oI x5, oI x6] [] m (qI Q)
abbrev c_X11_together_0 (d : Nat) (x1 : Int32) (m : dM) (Q : Int32 → dM → Prop) : Prop := Wp d 263 0 [oR 0, oI x1, none] [] m (qI Q)
abbrev j_X11_together_0_9 (d : Nat) (m : dM) (Q : Int32 → dM → Prop) : Prop := Wp d 263 9 [none, none, none] [] m (qI Q)
abbrev c_X12_usesLit_70 (d : Nat) (m : dM) (Q : Int32 → dM → Prop) : Prop := Wp d 87 0 [oR 70, none, none] [] m (qI Q)
abbrev j_X12_usesLit_70_4 (d : Nat) (x1 : Int32) (x2 : Int32) (m : dM) (Q : Int32 → dM → Prop) : Prop := Wp d 87 4 [oR 70, oI x1, oI x2] [] m (qI Q)
abbrev j_X12_usesLit_70_35 (d : Nat) (x1 : Int32) (x2 : Int32) (m : dM) (Q : Int32 → dM → Prop) : Prop := Wp d 87 35 [oR 70, oI x1, oI x2] [] m (qI Q)
abbrev c_X12_together_70 (d : Nat) (x1 : Int32) (m : dM) (Q : Int32 → dM → Prop) : Prop := Wp d 88 0 [oR 70, oI x1, none, none, none, none, none] [] m (qI Q)
abbrev j_X12_together_70_28 (d : Nat) (x1 : Int32) (x2 : Int32) (x3 : Int32) (x4 : Int32) (x5 : Int32) (m : dM) (Q : Int32 → dM → Prop) : Prop := Wp d 88 28 [oR 70, oI x1, oI x2, oI x3, oI x4, oI x5, none] [] m (qI Q)
abbrev j_X12_together_70_101 (d : Nat) (x1 : Int32) (x2 : Int32) (x3 : Int32) (x4 : Int32) (x5 : Int32) (m : dM) (Q : Int32 → dM → Prop) : Prop := Wp d 88 101 [oR 70, oI x1, oI x2, oI x3, oI x4, oI x5, none] [] m (qI Q)
abbrev c_X1_firstStart_61_47 (d : Nat) (x2 : Int32) (m : dM) (Q : Int32 → dM → Prop) : Prop := Wp d 146 0 [oR 61, oR 47, oI x2, none, none, none] [] m (qI Q)
abbrev j_X1_firstStart_61_47_28 (d : Nat) (x2 : Int32) (x3 : Int32) (x4 : Int32) (x5 : Int32) (m : dM) (Q : Int32 → dM → Prop) : Prop := Wp d 146 28 [oR 61, oR 47, oI x2, oI x3, oI x4, oI x5] [] m (qI Q)
abbrev c_X11_when_0 (d : Nat) (x1 : Int32) (m : dM) (Q : Int32 → dM → Prop) : Prop := Wp d 264 0 [oR 0, oI x1] [] m (qI Q)
abbrev c_X12_canBegin_70 (d : Nat) (x1 : Int32) (x2 : Int32) (m : dM) (Q : Int32 → dM → Prop) : Prop := Wp d 89 0 [oR 70, oI x1, oI x2, none, none, none] [] m (qI Q)
abbrev j_X12_canBegin_70_33 (d : Nat) (x1 : Int32) (x2 : Int32) (x3 : Int32) (x4 : Int32) (m : dM) (Q : Int32 → dM → Prop) : Prop := Wp d 89 33 [oR 70, oI x1, oI x2, oI x3, oI x4, none] [] m (qI Q)
abbrev j_X12_canBegin_70_75 (d : Nat) (x1 : Int32) (x2 : Int32) (x3 : Int32) (x4 : Int32) (x5 : Int32) (m : dM) (Q : Int32 → dM → Prop) : Prop := Wp d 89 75 [oR 70, oI x1, oI x2, oI x3, oI x4, oI x5] [] m (qI Q)
abbrev c_X12_when_70 (d : Nat) (x1 : Int32) (m : dM) (Q : Int32 → dM → Prop) : Prop := Wp d 90 0 [oR 70, oI x1, none, none] [] m (qI Q)
abbrev j_X12_when_70_46 (d : Nat) (x1 : Int32) (x2 : Int32) (x3 : Int32) (m : dM) (Q : Int32 → dM → Prop) : Prop := Wp d 90 46 [oR 70, oI x1, oI x2, oI x3] [] m (qI Q)
abbrev c_X1_bestThicker_61_47 (d : Nat) (x2 : Int32) (m : dM) (Q : Int32 → dM → Prop) : Prop := Wp d 143 0 [oR 61, oR 47, oI x2, none, none, none, none] [] m (qI Q)
abbrev j_X1_bestThicker_61_47_20 (d : Nat) (x2 : Int32) (x3 : Int32) (x4 : Int32) (x5 : Int32) (m : dM) (Q : Int32 → dM → Prop) : Prop := Wp d 143 20 [oR 61, oR 47, oI x2, oI x3, oI x4, oI x5, none] [] m (qI Q)
abbrev j_X1_bestThicker_61_47_105 (d : Nat) (x2 : Int32) (x3 : Int32) (x4 : Int32) (x5 : Int32) (m : dM) (Q : Int32 → dM → Prop) : Prop := Wp d 143 105 [oR 61, oR 47, oI x2, oI x3, oI x4, oI x5, none] [] m (qI Q)
abbrev j_X1_bestThicker_61_47_111 (d : Nat) (x4 : Int32) (m : dM) (Q : Int32 → dM → Prop) : Prop := Wp d 143 111 [none, none, none, none, oI x4, none, none] [] m (qI Q)
abbrev c_X11_thick_0 (d : Nat) (x1 : Int32) (m : dM) (Q : Int32 → dM → Prop) : Prop := Wp d 265 0 [oR 0, oI x1] [] m (qI Q)
abbrev j_X11_thick_0_11 (d : Nat) (m : dM) (Q : Int32 → dM → Prop) : Prop := Wp d 265 11 [none, none] [] m (qI Q)
abbrev c_X12_thick_70 (d : Nat) (x1 : Int32) (m : dM) (Q : Int32 → dM → Prop) : Prop := Wp d 91 0 [oR 70, oI x1, none, none, none, none] [] m (qI Q)
abbrev j_X12_thick_70_27 (d : Nat) (x1 : Int32) (x2 : Int32) (x3 : Int32) (x4 : Int32) (m : dM) (Q : Int32 → dM → Prop) : Prop := Wp d 91 27 [oR 70, oI x1, oI x2, oI x3, oI x4, none] [] m (qI Q)
abbrev j_X12_thick_70_105 (d : Nat) (x1 : Int32) (x2 : Int32) (x3 : Int32) (x4 : Int32) (m : dM) (Q : Int32 → dM → Prop) : Prop := Wp d 91 105 [oR 70, oI x1, oI x2, oI x3, oI x4, none] [] m (qI Q)
abbrev c_X3_endsOf_2 (d : Nat) (x1 : Int32) (m : dM) (Q : Int32 → dM → Prop) : Prop := Wp d 172 0 [oR 2, oI x1] [] m (qI Q)
abbrev c_X3_litWithout_2 (d : Nat) (x1 : Int32) (m : dM) (Q : Int32 → dM → Prop) : Prop := Wp d 174 0 [oR 2, oI x1, none, none, none, none, none] [] m (qI Q)
abbrev j_X3_litWithout_2_15 (d : Nat) (x1 : Int32) (x2 : Int32) (x3 : Int32) (m : dM) (Q : Int32 → dM → Prop) : Prop := Wp d 174 15 [oR 2, oI x1, oI x2, oI x3, none, none, none] [] m (qI Q)
abbrev j_X3_litWithout_2_29 (d : Nat) (x1 : Int32) (x2 : Int32) (x3 : Int32) (x4 : Int32) (x5 : Int32) (m : dM) (Q : Int32 → dM → Prop) : Prop := Wp d 174 29 [oR 2, oI x1, oI x2, oI x3, oI x4, oI x5, none] [] m (qI Q)
abbrev j_X3_litWithout_2_67 (d : Nat) (x1 : Int32) (x2 : Int32) (x3 : Int32) (x4 : Int32) (x5 : Int32) (m : dM) (Q : Int32 → dM → Prop) : Prop := Wp d 174 67 [oR 2, oI x1, oI x2, oI x3, oI x4, oI x5, none] [] m (qI Q)
abbrev j_X3_litWithout_2_88 (d : Nat) (x2 : Int32) (m : dM) (Q : Int32 → dM → Prop) : Prop := Wp d 174 88 [none, none, oI x2, none, none, none, none] [] m (qI Q)
abbrev c_X1_cutBy_2 (d : Nat) (x1 : Int32) (x2 : Int32) (x3 : Int32) (x4 : Int32) (m : dM) (Q : Int32 → dM → Prop) : Prop := Wp d 148 0 [oR 2, oI x1, oI x2, oI x3, oI x4, none, none] [] m (qI Q)
abbrev j_X1_cutBy_2_26 (d : Nat) (x1 : Int32) (x2 : Int32) (x4 : Int32) (x5 : Int32) (m : dM) (Q : Int32 → dM → Prop) : Prop := Wp d 148 26 [oR 2, oI x1, oI x2, none, oI x4, oI x5, none] [] m (qI Q)
abbrev j_X1_cutBy_2_79 (d : Nat) (x1 : Int32) (x2 : Int32) (x4 : Int32) (x5 : Int32) (m : dM) (Q : Int32 → dM → Prop) : Prop := Wp d 148 79 [oR 2, oI x1, oI x2, none, oI x4, oI x5, none] [] m (qI Q)
abbrev c_X1_leastCut_61_47 (d : Nat) (x2 : Int32) (m : dM) (Q : Int32 → dM → Prop) : Prop := Wp d 147 0 [oR 61, oR 47, oI x2, none, none] [] m (qI Q)
abbrev j_X1_leastCut_61_47_2 (d : Nat) (x2 : Int32) (x3 : Int32) (m : dM) (Q : Int32 → dM → Prop) : Prop := Wp d 147 2 [oR 61, oR 47, oI x2, oI x3, none] [] m (qI Q)
abbrev c_J6_bitCount (d : Nat) (x0 : Int32) (m : dM) (Q : Int32 → dM → Prop) : Prop := Wp d 285 0 [oI x0] [] m (qI Q)
abbrev c_X11_cut_0 (d : Nat) (x1 : Int32) (x2 : Int32) (m : dM) (Q : Int32 → dM → Prop) : Prop := Wp d 266 0 [oR 0, oI x1, oI x2, none] [] m (qI Q)
abbrev j_X11_cut_0_18 (d : Nat) (m : dM) (Q : Int32 → dM → Prop) : Prop := Wp d 266 18 [none, none, none, none] [] m (qI Q)
abbrev c_X12_goneBits_70 (d : Nat) (m : dM) (Q : Int32 → dM → Prop) : Prop := Wp d 93 0 [oR 70, none, none] [] m (qI Q)
abbrev j_X12_goneBits_70_4 (d : Nat) (x1 : Int32) (x2 : Int32) (m : dM) (Q : Int32 → dM → Prop) : Prop := Wp d 93 4 [oR 70, oI x1, oI x2] [] m (qI Q)
abbrev j_X12_goneBits_70_36 (d : Nat) (x1 : Int32) (x2 : Int32) (m : dM) (Q : Int32 → dM → Prop) : Prop := Wp d 93 36 [oR 70, oI x1, oI x2] [] m (qI Q)
abbrev c_X12_ithOf (d : Nat) (x0 : Int32) (x1 : Int32) (m : dM) (Q : Int32 → dM → Prop) : Prop := Wp d 94 0 [oI x0, oI x1, none, none] [] m (qI Q)
abbrev j_X12_ithOf_4 (d : Nat) (x0 : Int32) (x1 : Int32) (x2 : Int32) (x3 : Int32) (m : dM) (Q : Int32 → dM → Prop) : Prop := Wp d 94 4 [oI x0, oI x1, oI x2, oI x3] [] m (qI Q)
abbrev j_X12_ithOf_31 (d : Nat) (x0 : Int32) (x1 : Int32) (x2 : Int32) (x3 : Int32) (m : dM) (Q : Int32 → dM → Prop) : Prop := Wp d 94 31 [oI x0, oI x1, oI x2, oI x3] [] m (qI Q)
abbrev c_X12_bits (d : Nat) (x0 : Int32) (m : dM) (Q : Int32 → dM → Prop) : Prop := Wp d 38 0 [oI x0, none, none] [] m (qI Q)
abbrev j_X12_bits_4 (d : Nat) (x0 : Int32) (x1 : Int32) (x2 : Int32) (m : dM) (Q : Int32 → dM → Prop) : Prop := Wp d 38 4 [oI x0, oI x1, oI x2] [] m (qI Q)
abbrev c_X12_isEarlier (d : Nat) (x0 : Int32) (x1 : Int32) (m : dM) (Q : Int32 → dM → Prop) : Prop := Wp d 95 0 [oI x0, oI x1, none] [] m (qI Q)
abbrev j_X12_isEarlier_2 (d : Nat) (x0 : Int32) (x1 : Int32) (x2 : Int32) (m : dM) (Q : Int32 → dM → Prop) : Prop := Wp d 95 2 [oI x0, oI x1, oI x2] [] m (qI Q)
abbrev c_X12_loses_70 (d : Nat) (x1 : Int32) (m : dM) (Q : dM → Prop) : Prop := Wp d 92 0 [oR 70, oI x1, none] [] m (qV Q)
abbrev j_X12_loses_70_6 (d : Nat) (x1 : Int32) (x2 : Int32) (m : dM) (Q : dM → Prop) : Prop := Wp d 92 6 [oR 70, oI x1, oI x2] [] m (qV Q)
abbrev j_X12_loses_70_31 (d : Nat) (x1 : Int32) (x2 : Int32) (m : dM) (Q : dM → Prop) : Prop := Wp d 92 31 [oR 70, oI x1, oI x2] [] m (qV Q)
abbrev c_X12_cut_70 (d : Nat) (x1 : Int32) (x2 : Int32) (m : dM) (Q : Int32 → dM → Prop) : Prop := Wp d 96 0 [oR 70, oI x1, oI x2, none, none, none] [] m (qI Q)
abbrev j_X12_cut_70_17 (d : Nat) (m : dM) (Q : Int32 → dM → Prop) : Prop := Wp d 96 17 [none, none, none, none, none, none] [] m (qI Q)
abbrev j_X12_cut_70_30 (d : Nat) (x1 : Int32) (x2 : Int32) (x3 : Int32) (x4 : Int32) (x5 : Int32) (m : dM) (Q : Int32 → dM → Prop) : Prop := Wp d 96 30 [oR 70, oI x1, oI x2, oI x3, oI x4, oI x5] [] m (qI Q)
abbrev j_X12_cut_70_109 (d : Nat) (x1 : Int32) (x2 : Int32) (x3 : Int32) (x4 : Int32) (x5 : Int32) (m : dM) (Q : Int32 → dM → Prop) : Prop := Wp d 96 109 [oR 70, oI x1, oI x2, oI x3, oI x4, oI x5] [] m (qI Q)
abbrev j_X12_cut_70_127 (d : Nat) (x1 : Int32) (x2 : Int32) (x3 : Int32) (x4 : Int32) (x5 : Int32) (m : dM) (Q : Int32 → dM → Prop) : Prop := Wp d 96 127 [oR 70, oI x1, oI x2, oI x3, oI x4, oI x5] [] m (qI Q)
abbrev c_X11_share_0 (d : Nat) (x1 : Int32) (x2 : Int32) (m : dM) (Q : Int32 → dM → Prop) : Prop := Wp d 267 0 [oR 0, oI x1, oI x2, none] [] m (qI Q)
abbrev j_X11_share_0_16 (d : Nat) (m : dM) (Q : Int32 → dM → Prop) : Prop := Wp d 267 16 [none, none, none, none] [] m (qI Q)
abbrev c_X12_share_70 (d : Nat) (x1 : Int32) (x2 : Int32) (m : dM) (Q : Int32 → dM → Prop) : Prop := Wp d 97 0 [oR 70, oI x1, oI x2] [] m (qI Q)
abbrev j_X12_share_70_16 (d : Nat) (m : dM) (Q : Int32 → dM → Prop) : Prop := Wp d 97 16 [none, none, none] [] m (qI Q)
abbrev c_X3_allFlats_2 (d : Nat) (m : dM) (Q : Int32 → dM → Prop) : Prop := Wp d 173 0 [oR 2] [] m (qI Q)
abbrev c_X11_without_0 (d : Nat) (x1 : Int32) (m : dM) (Q : Int32 → dM → Prop) : Prop := Wp d 268 0 [oR 0, oI x1] [] m (qI Q)
abbrev c_X12_litBits_70 (d : Nat) (m : dM) (Q : Int32 → dM → Prop) : Prop := Wp d 52 0 [oR 70, none, none] [] m (qI Q)
abbrev j_X12_litBits_70_4 (d : Nat) (x1 : Int32) (x2 : Int32) (m : dM) (Q : Int32 → dM → Prop) : Prop := Wp d 52 4 [oR 70, oI x1, oI x2] [] m (qI Q)
abbrev j_X12_litBits_70_31 (d : Nat) (x1 : Int32) (x2 : Int32) (m : dM) (Q : Int32 → dM → Prop) : Prop := Wp d 52 31 [oR 70, oI x1, oI x2] [] m (qI Q)
abbrev c_X12_darkBits_70 (d : Nat) (m : dM) (Q : Int32 → dM → Prop) : Prop := Wp d 98 0 [oR 70] [] m (qI Q)
abbrev c_X12_without_70 (d : Nat) (x1 : Int32) (m : dM) (Q : Int32 → dM → Prop) : Prop := Wp d 99 0 [oR 70, oI x1] [] m (qI Q)
abbrev c_X11_needed_0 (d : Nat) (m : dM) (Q : Int32 → dM → Prop) : Prop := Wp d 269 0 [oR 0, none, none, none] [] m (qI Q)
abbrev j_X11_needed_0_19 (d : Nat) (x1 : Int32) (x2 : Int32) (x3 : Int32) (m : dM) (Q : Int32 → dM → Prop) : Prop := Wp d 269 19 [oR 0, oI x1, oI x2, oI x3] [] m (qI Q)
abbrev j_X11_needed_0_72 (d : Nat) (x1 : Int32) (x2 : Int32) (x3 : Int32) (m : dM) (Q : Int32 → dM → Prop) : Prop := Wp d 269 72 [oR 0, oI x1, oI x2, oI x3] [] m (qI Q)
abbrev c_X12_needed_70 (d : Nat) (m : dM) (Q : Int32 → dM → Prop) : Prop := Wp d 100 0 [oR 70, none, none, none] [] m (qI Q)
abbrev j_X12_needed_70_13 (d : Nat) (x1 : Int32) (x2 : Int32) (x3 : Int32) (m : dM) (Q : Int32 → dM → Prop) : Prop := Wp d 100 13 [oR 70, oI x1, oI x2, oI x3] [] m (qI Q)
abbrev j_X12_needed_70_63 (d : Nat) (x1 : Int32) (x2 : Int32) (x3 : Int32) (m : dM) (Q : Int32 → dM → Prop) : Prop := Wp d 100 63 [oR 70, oI x1, oI x2, oI x3] [] m (qI Q)
abbrev c_X11_hottest_0 (d : Nat) (x1 : Int32) (m : dM) (Q : Int32 → dM → Prop) : Prop := Wp d 270 0 [oR 0, oI x1, none, none, none, none] [] m (qI Q)
abbrev j_X11_hottest_0_9 (d : Nat) (m : dM) (Q : Int32 → dM → Prop) : Prop := Wp d 270 9 [none, none, none, none, none, none] [] m (qI Q)
abbrev j_X11_hottest_0_42 (d : Nat) (x1 : Int32) (x2 : Int32) (x3 : Int32) (x4 : Int32) (m : dM) (Q : Int32 → dM → Prop) : Prop := Wp d 270 42 [oR 0, oI x1, oI x2, oI x3, oI x4, none] [] m (qI Q)
abbrev j_X11_hottest_0_103 (d : Nat) (x1 : Int32) (x4 : Int32) (x5 : Int32) (m : dM) (Q : Int32 → dM → Prop) : Prop := Wp d 270 103 [oR 0, oI x1, none, none, oI x4, oI x5] [] m (qI Q)
abbrev j_X11_hottest_0_109 (d : Nat) (x1 : Int32) (x2 : Int32) (x3 : Int32) (x4 : Int32) (m : dM) (Q : Int32 → dM → Prop) : Prop := Wp d 270 109 [oR 0, oI x1, oI x2, oI x3, oI x4, none] [] m (qI Q)
abbrev c_X12_hottest_70 (d : Nat) (x1 : Int32) (m : dM) (Q : Int32 → dM → Prop) : Prop := Wp d 101 0 [oR 70, oI x1, none, none, none, none, none] [] m (qI Q)
abbrev j_X12_hottest_70_34 (d : Nat) (x1 : Int32) (x2 : Int32) (x3 : Int32) (x4 : Int32) (x5 : Int32) (m : dM) (Q : Int32 → dM → Prop) : Prop := Wp d 101 34 [oR 70, oI x1, oI x2, oI x3, oI x4, oI x5, none] [] m (qI Q)
abbrev j_X12_hottest_70_88 (d : Nat) (x1 : Int32) (x2 : Int32) (x5 : Int32) (x6 : Int32) (m : dM) (Q : Int32 → dM → Prop) : Prop := Wp d 101 88 [oR 70, oI x1, oI x2, none, none, oI x5, oI x6] [] m (qI Q)
abbrev j_X12_hottest_70_95 (d : Nat) (x1 : Int32) (x2 : Int32) (x3 : Int32) (x4 : Int32) (x5 : Int32) (m : dM) (Q : Int32 → dM → Prop) : Prop := Wp d 101 95 [oR 70, oI x1, oI x2, oI x3, oI x4, oI x5, none] [] m (qI Q)
abbrev c_X1_clashOf_61_47 (d : Nat) (x2 : Int32) (x3 : Int32) (m : dM) (Q : Int32 → dM → Prop) : Prop := Wp d 149 0 [oR 61, oR 47, oI x2, oI x3, none, none] [] m (qI Q)
abbrev j_X1_clashOf_61_47_47 (d : Nat) (m : dM) (Q : Int32 → dM → Prop) : Prop := Wp d 149 47 [none, none, none, none, none, none] [] m (qI Q)
abbrev c_X11_clash_0 (d : Nat) (x1 : Int32) (x2 : Int32) (m : dM) (Q : Int32 → dM → Prop) : Prop := Wp d 271 0 [oR 0, oI x1, oI x2] [] m (qI Q)
abbrev j_X11_clash_0_37 (d : Nat) (m : dM) (Q : Int32 → dM → Prop) : Prop := Wp d 271 37 [none, none, none] [] m (qI Q)
abbrev c_X12_clash_70 (d : Nat) (x1 : Int32) (x2 : Int32) (m : dM) (Q : Int32 → dM → Prop) : Prop := Wp d 102 0 [oR 70, oI x1, oI x2, none] [] m (qI Q)
abbrev j_X12_clash_70_21 (d : Nat) (m : dM) (Q : Int32 → dM → Prop) : Prop := Wp d 102 21 [none, none, none, none] [] m (qI Q)
abbrev j_X12_clash_70_51 (d : Nat) (m : dM) (Q : Int32 → dM → Prop) : Prop := Wp d 102 51 [none, none, none, none] [] m (qI Q)
abbrev c_X0_payOf_54_62 (d : Nat) (x2 : Int32) (m : dM) (Q : Int32 → dM → Prop) : Prop := Wp d 129 0 [oR 54, oR 62, oI x2] [] m (qI Q)
abbrev c_X0_takePay_54_62 (d : Nat) (m : dM) (Q : dM → Prop) : Prop := Wp d 135 0 [oR 54, oR 62, none, none] [] m (qV Q)
abbrev j_X0_takePay_54_62_12 (d : Nat) (x2 : Int32) (x3 : Int32) (m : dM) (Q : dM → Prop) : Prop := Wp d 135 12 [oR 54, oR 62, oI x2, oI x3] [] m (qV Q)
abbrev j_X0_takePay_54_62_51 (d : Nat) (x2 : Int32) (x3 : Int32) (m : dM) (Q : dM → Prop) : Prop := Wp d 135 51 [oR 54, oR 62, oI x2, oI x3] [] m (qV Q)
abbrev c_X0_quarrelOf_54_62 (d : Nat) (x2 : Int32) (m : dM) (Q : Int32 → dM → Prop) : Prop := Wp d 127 0 [oR 54, oR 62, oI x2] [] m (qI Q)
abbrev c_X0_countQuarrels_54_62 (d : Nat) (m : dM) (Q : dM → Prop) : Prop := Wp d 136 0 [oR 54, oR 62, none] [] m (qV Q)
abbrev j_X0_countQuarrels_54_62_13 (d : Nat) (x2 : Int32) (m : dM) (Q : dM → Prop) : Prop := Wp d 136 13 [oR 54, oR 62, oI x2] [] m (qV Q)
abbrev j_X0_countQuarrels_54_62_78 (d : Nat) (x2 : Int32) (m : dM) (Q : dM → Prop) : Prop := Wp d 136 78 [oR 54, oR 62, oI x2] [] m (qV Q)
abbrev c_X0_passHour_54_62 (d : Nat) (m : dM) (Q : dM → Prop) : Prop := Wp d 134 0 [oR 54, oR 62] [] m (qV Q)
abbrev c_X1_after_61_47 (d : Nat) (x2 : Int32) (m : dM) (Q : dM → Prop) : Prop := Wp d 150 0 [oR 61, oR 47, oI x2, none] [] m (qR 62 Q)
abbrev j_X1_after_61_47_10 (d : Nat) (x2 : Int32) (x3 : Int32) (m : dM) (Q : dM → Prop) : Prop := Wp d 150 10 [oR 61, none, oI x2, oI x3] [] m (qR 62 Q)
abbrev c_X11_then_0 (d : Nat) (x1 : Int32) (x2 : Int32) (m : dM) (Q : Int32 → dM → Prop) : Prop := Wp d 272 0 [oR 0, oI x1, oI x2, none] [] m (qI Q)
abbrev j_X11_then_0_19 (d : Nat) (m : dM) (Q : Int32 → dM → Prop) : Prop := Wp d 272 19 [none, none, none, none] [] m (qI Q)
abbrev c_X12_then_70 (d : Nat) (x1 : Int32) (x2 : Int32) (m : dM) (Q : Int32 → dM → Prop) : Prop := Wp d 103 0 [oR 70, oI x1, oI x2, none, none] [] m (qI Q)
abbrev j_X12_then_70_16 (d : Nat) (m : dM) (Q : Int32 → dM → Prop) : Prop := Wp d 103 16 [none, none, none, none, none] [] m (qI Q)
abbrev j_X12_then_70_57 (d : Nat) (x3 : Int32) (x4 : Int32) (m : dM) (Q : Int32 → dM → Prop) : Prop := Wp d 103 57 [oR 70, none, none, oI x3, oI x4] [] m (qI Q)
abbrev c_X11_litIn_0 (d : Nat) (x1 : Int32) (x2 : Int32) (m : dM) (Q : Int32 → dM → Prop) : Prop := Wp d 273 0 [oR 0, oI x1, oI x2] [] m (qI Q)
abbrev j_X11_litIn_0_18 (d : Nat) (m : dM) (Q : Int32 → dM → Prop) : Prop := Wp d 273 18 [none, none, none] [] m (qI Q)
abbrev c_X12_litIn_70 (d : Nat) (x1 : Int32) (x2 : Int32) (m : dM) (Q : Int32 → dM → Prop) : Prop := Wp d 104 0 [oR 70, oI x1, oI x2] [] m (qI Q)
abbrev j_X12_litIn_70_15 (d : Nat) (m : dM) (Q : Int32 → dM → Prop) : Prop := Wp d 104 15 [none, none, none] [] m (qI Q)
abbrev c_X1_isCalm_61_47 (d : Nat) (x2 : Int32) (x3 : Int32) (m : dM) (Q : Int32 → dM → Prop) : Prop := Wp d 152 0 [oR 61, oR 47, oI x2, oI x3, none] [] m (qI Q)
abbrev j_X1_isCalm_61_47_11 (d : Nat) (x2 : Int32) (x3 : Int32) (x4 : Int32) (m : dM) (Q : Int32 → dM → Prop) : Prop := Wp d 152 11 [oR 61, none, oI x2, oI x3, oI x4] [] m (qI Q)
abbrev c_X1_calmSeeds_61_47 (d : Nat) (x2 : Int32) (x3 : Int32) (m : dM) (Q : Int32 → dM → Prop) : Prop := Wp d 151 0 [oR 61, oR 47, oI x2, oI x3, none, none] [] m (qI Q)
abbrev j_X1_calmSeeds_61_47_6 (d : Nat) (x2 : Int32) (x3 : Int32) (x4 : Int32) (x5 : Int32) (m : dM) (Q : Int32 → dM → Prop) : Prop := Wp d 151 6 [oR 61, oR 47, oI x2, oI x3, oI x4, oI x5] [] m (qI Q)
abbrev c_X11_year_0 (d : Nat) (x1 : Int32) (x2 : Int32) (m : dM) (Q : Int32 → dM → Prop) : Prop := Wp d 274 0 [oR 0, oI x1, oI x2] [] m (qI Q)
abbrev j_X11_year_0_21 (d : Nat) (m : dM) (Q : Int32 → dM → Prop) : Prop := Wp d 274 21 [none, none, none] [] m (qI Q)
abbrev c_X12_year_70 (d : Nat) (x1 : Int32) (x2 : Int32) (m : dM) (Q : Int32 → dM → Prop) : Prop := Wp d 105 0 [oR 70, oI x1, oI x2, none, none, none, none] [] m (qI Q)
abbrev j_X12_year_70_17 (d : Nat) (m : dM) (Q : Int32 → dM → Prop) : Prop := Wp d 105 17 [none, none, none, none, none, none, none] [] m (qI Q)
abbrev j_X12_year_70_24 (d : Nat) (x1 : Int32) (x2 : Int32) (x3 : Int32) (x4 : Int32) (m : dM) (Q : Int32 → dM → Prop) : Prop := Wp d 105 24 [oR 70, oI x1, oI x2, oI x3, oI x4, none, none] [] m (qI Q)
abbrev j_X12_year_70_51 (d : Nat) (x1 : Int32) (x2 : Int32) (x3 : Int32) (x4 : Int32) (x5 : Int32) (x6 : Int32) (m : dM) (Q : Int32 → dM → Prop) : Prop := Wp d 105 51 [oR 70, oI x1, oI x2, oI x3, oI x4, oI x5, oI x6] [] m (qI Q)
abbrev j_X12_year_70_71 (d : Nat) (x1 : Int32) (x2 : Int32) (x3 : Int32) (x4 : Int32) (x5 : Int32) (x6 : Int32) (m : dM) (Q : Int32 → dM → Prop) : Prop := Wp d 105 71 [oR 70, oI x1, oI x2, oI x3, oI x4, oI x5, oI x6] [] m (qI Q)
abbrev j_X12_year_70_85 (d : Nat) (x1 : Int32) (x2 : Int32) (x3 : Int32) (x4 : Int32) (m : dM) (Q : Int32 → dM → Prop) : Prop := Wp d 105 85 [oR 70, oI x1, oI x2, oI x3, oI x4, none, none] [] m (qI Q)
abbrev c_X9_add_67 (d : Nat) (x1 : Int32) (x2 : Int32) (m : dM) (Q : Int32 → dM → Prop) : Prop := Wp d 232 0 [oR 67, oI x1, oI x2] [] m (qI Q)
abbrev c_X11_tell_0 (d : Nat) (x1 : Int32) (x2 : Int32) (m : dM) (Q : Int32 → dM → Prop) : Prop := Wp d 275 0 [oR 0, oI x1, oI x2] [] m (qI Q)
abbrev c_X12_tell_70 (d : Nat) (x1 : Int32) (x2 : Int32) (m : dM) (Q : Int32 → dM → Prop) : Prop := Wp d 106 0 [oR 70, oI x1, oI x2] [] m (qI Q)
abbrev j_X12_tell_70_17 (d : Nat) (m : dM) (Q : Int32 → dM → Prop) : Prop := Wp d 106 17 [none, none, none] [] m (qI Q)
abbrev c_X11_forget_0 (d : Nat) (m : dM) (Q : Int32 → dM → Prop) : Prop := Wp d 276 0 [oR 0, none] [] m (qI Q)
abbrev c_X12_forget_70 (d : Nat) (m : dM) (Q : Int32 → dM → Prop) : Prop := Wp d 107 0 [oR 70, none] [] m (qI Q)
abbrev c_X9_isSo_67 (d : Nat) (x1 : Int32) (x2 : Int32) (m : dM) (Q : Int32 → dM → Prop) : Prop := Wp d 234 0 [oR 67, oI x1, oI x2, none] [] m (qI Q)
abbrev j_X9_isSo_67_2 (d : Nat) (x1 : Int32) (x2 : Int32) (x3 : Int32) (m : dM) (Q : Int32 → dM → Prop) : Prop := Wp d 234 2 [oR 67, oI x1, oI x2, oI x3] [] m (qI Q)
abbrev j_X9_isSo_67_42 (d : Nat) (m : dM) (Q : Int32 → dM → Prop) : Prop := Wp d 234 42 [none, none, none, none] [] m (qI Q)
abbrev c_X9_suspects_67 (d : Nat) (x1 : Int32) (x2 : Int32) (m : dM) (Q : Int32 → dM → Prop) : Prop := Wp d 233 0 [oR 67, oI x1, oI x2, none, none] [] m (qI Q)
abbrev j_X9_suspects_67_5 (d : Nat) (x1 : Int32) (x2 : Int32) (x3 : Int32) (x4 : Int32) (m : dM) (Q : Int32 → dM → Prop) : Prop := Wp d 233 5 [oR 67, oI x1, oI x2, oI x3, oI x4] [] m (qI Q)
abbrev j_X9_suspects_67_54 (d : Nat) (x1 : Int32) (x2 : Int32) (x3 : Int32) (x4 : Int32) (m : dM) (Q : Int32 → dM → Prop) : Prop := Wp d 233 54 [oR 67, oI x1, oI x2, oI x3, oI x4] [] m (qI Q)
abbrev c_X11_went_0 (d : Nat) (x1 : Int32) (x2 : Int32) (m : dM) (Q : Int32 → dM → Prop) : Prop := Wp d 277 0 [oR 0, oI x1, oI x2, none] [] m (qI Q)
abbrev j_X11_went_0_24 (d : Nat) (m : dM) (Q : Int32 → dM → Prop) : Prop := Wp d 277 24 [none, none, none, none] [] m (qI Q)
abbrev c_X12_wentBits_70 (d : Nat) (x1 : Int32) (m : dM) (Q : Int32 → dM → Prop) : Prop := Wp d 108 0 [oR 70, oI x1, none, none, none, none] [] m (qI Q)
abbrev j_X12_wentBits_70_4 (d : Nat) (x1 : Int32) (x2 : Int32) (x3 : Int32) (m : dM) (Q : Int32 → dM → Prop) : Prop := Wp d 108 4 [oR 70, oI x1, oI x2, oI x3, none, none] [] m (qI Q)
abbrev j_X12_wentBits_70_56 (d : Nat) (x1 : Int32) (x2 : Int32) (x3 : Int32) (x4 : Int32) (x5 : Int32) (m : dM) (Q : Int32 → dM → Prop) : Prop := Wp d 108 56 [oR 70, oI x1, oI x2, oI x3, oI x4, oI x5] [] m (qI Q)
abbrev j_X12_wentBits_70_91 (d : Nat) (x1 : Int32) (x2 : Int32) (x3 : Int32) (x4 : Int32) (x5 : Int32) (m : dM) (Q : Int32 → dM → Prop) : Prop := Wp d 108 91 [oR 70, oI x1, oI x2, oI x3, oI x4, oI x5] [] m (qI Q)
abbrev j_X12_wentBits_70_108 (d : Nat) (x1 : Int32) (x2 : Int32) (x3 : Int32) (m : dM) (Q : Int32 → dM → Prop) : Prop := Wp d 108 108 [oR 70, oI x1, oI x2, oI x3, none, none] [] m (qI Q)
abbrev c_X12_went_70 (d : Nat) (x1 : Int32) (x2 : Int32) (m : dM) (Q : Int32 → dM → Prop) : Prop := Wp d 109 0 [oR 70, oI x1, oI x2, none] [] m (qI Q)
abbrev j_X12_went_70_21 (d : Nat) (m : dM) (Q : Int32 → dM → Prop) : Prop := Wp d 109 21 [none, none, none, none] [] m (qI Q)
abbrev c_X9_leftAtWorst_67 (d : Nat) (x1 : Int32) (x2 : Int32) (x3 : Int32) (m : dM) (Q : Int32 → dM → Prop) : Prop := Wp d 236 0 [oR 67, oI x1, oI x2, oI x3, none, none] [] m (qI Q)
abbrev j_X9_leftAtWorst_67_6 (d : Nat) (x1 : Int32) (x2 : Int32) (x3 : Int32) (x4 : Int32) (x5 : Int32) (m : dM) (Q : Int32 → dM → Prop) : Prop := Wp d 236 6 [oR 67, oI x1, oI x2, oI x3, oI x4, oI x5] [] m (qI Q)
abbrev c_X9_bestQuestion_67 (d : Nat) (x1 : Int32) (x2 : Int32) (m : dM) (Q : Int32 → dM → Prop) : Prop := Wp d 235 0 [oR 67, oI x1, oI x2, none, none, none, none, none] [] m (qI Q)
abbrev j_X9_bestQuestion_67_18 (d : Nat) (x1 : Int32) (x3 : Int32) (x4 : Int32) (x5 : Int32) (x6 : Int32) (m : dM) (Q : Int32 → dM → Prop) : Prop := Wp d 235 18 [oR 67, oI x1, none, oI x3, oI x4, oI x5, oI x6, none] [] m (qI Q)
abbrev j_X9_bestQuestion_67_59 (d : Nat) (x1 : Int32) (x3 : Int32) (x4 : Int32) (x5 : Int32) (x6 : Int32) (m : dM) (Q : Int32 → dM → Prop) : Prop := Wp d 235 59 [oR 67, oI x1, none, oI x3, oI x4, oI x5, oI x6, none] [] m (qI Q)
abbrev j_X9_bestQuestion_67_65 (d : Nat) (x4 : Int32) (m : dM) (Q : Int32 → dM → Prop) : Prop := Wp d 235 65 [none, none, none, none, oI x4, none, none, none] [] m (qI Q)
abbrev c_X11_ask_0 (d : Nat) (x1 : Int32) (m : dM) (Q : Int32 → dM → Prop) : Prop := Wp d 278 0 [oR 0, oI x1] [] m (qI Q)
abbrev j_X11_ask_0_15 (d : Nat) (m : dM) (Q : Int32 → dM → Prop) : Prop := Wp d 278 15 [none, none] [] m (qI Q)
abbrev c_X12_ask_70 (d : Nat) (x1 : Int32) (m : dM) (Q : Int32 → dM → Prop) : Prop := Wp d 110 0 [oR 70, oI x1, none, none, none, none, none, none] [] m (qI Q)
abbrev j_X12_ask_70_29 (d : Nat) (x2 : Int32) (x3 : Int32) (x4 : Int32) (x5 : Int32) (m : dM) (Q : Int32 → dM → Prop) : Prop := Wp d 110 29 [oR 70, none, oI x2, oI x3, oI x4, oI x5, none, none] [] m (qI Q)
abbrev j_X12_ask_70_53 (d : Nat) (x2 : Int32) (x3 : Int32) (x4 : Int32) (x5 : Int32) (x6 : Int32) (x7 : Int32) (m : dM) (Q : Int32 → dM → Prop) : Prop := Wp d 110 53 [oR 70, none, oI x2, oI x3, oI x4, oI x5, oI x6, oI x7] [] m (qI Q)
abbrev j_X12_ask_70_94 (d : Nat) (x2 : Int32) (x3 : Int32) (x4 : Int32) (x5 : Int32) (x6 : Int32) (x7 : Int32) (m : dM) (Q : Int32 → dM → Prop) : Prop := Wp d 110 94 [oR 70, none, oI x2, oI x3, oI x4, oI x5, oI x6, oI x7] [] m (qI Q)
abbrev j_X12_ask_70_140 (d : Nat) (x2 : Int32) (x5 : Int32) (x7 : Int32) (m : dM) (Q : Int32 → dM → Prop) : Prop := Wp d 110 140 [oR 70, none, oI x2, none, none, oI x5, none, oI x7] [] m (qI Q)
abbrev j_X12_ask_70_147 (d : Nat) (x2 : Int32) (x3 : Int32) (x4 : Int32) (x5 : Int32) (m : dM) (Q : Int32 → dM → Prop) : Prop := Wp d 110 147 [oR 70, none, oI x2, oI x3, oI x4, oI x5, none, none] [] m (qI Q)
abbrev j_X12_ask_70_153 (d : Nat) (x3 : Int32) (m : dM) (Q : Int32 → dM → Prop) : Prop := Wp d 110 153 [none, none, none, oI x3, none, none, none, none] [] m (qI Q)
abbrev c_X7_writeTo_47_53 (d : Nat) (x2 : Int32) (m : dM) (Q : dM → Prop) : Prop := Wp d 210 0 [oR 47, oR 53, oI x2] [] m (qV Q)
abbrev j_X7_writeTo_47_53_13 (d : Nat) (m : dM) (Q : dM → Prop) : Prop := Wp d 210 13 [none, none, none] [] m (qV Q)
abbrev c_X6_store_51_47 (d : Nat) (x1 : Int32) (m : dM) (Q : Int32 → dM → Prop) : Prop := Wp d 205 0 [oR 51, oI x1, oR 47] [] m (qI Q)
abbrev j_X6_store_51_47_9 (d : Nat) (m : dM) (Q : Int32 → dM → Prop) : Prop := Wp d 205 9 [none, none, none] [] m (qI Q)
abbrev c_X11_hold_0 (d : Nat) (x1 : Int32) (m : dM) (Q : Int32 → dM → Prop) : Prop := Wp d 279 0 [oR 0, oI x1] [] m (qI Q)
abbrev c_X12_hold_70 (d : Nat) (x1 : Int32) (m : dM) (Q : Int32 → dM → Prop) : Prop := Wp d 111 0 [oR 70, oI x1, none] [] m (qI Q)
abbrev j_X12_hold_70_20 (d : Nat) (x1 : Int32) (x2 : Int32) (m : dM) (Q : Int32 → dM → Prop) : Prop := Wp d 111 20 [oR 70, oI x1, oI x2] [] m (qI Q)
abbrev c_X7_readFrom_47_53 (d : Nat) (x2 : Int32) (m : dM) (Q : dM → Prop) : Prop := Wp d 211 0 [oR 47, oR 53, oI x2] [] m (qV Q)
abbrev j_X7_readFrom_47_53_13 (d : Nat) (m : dM) (Q : dM → Prop) : Prop := Wp d 211 13 [none, none, none] [] m (qV Q)
abbrev c_X6_fetch_51_47 (d : Nat) (x1 : Int32) (m : dM) (Q : Int32 → dM → Prop) : Prop := Wp d 206 0 [oR 51, oI x1, oR 47] [] m (qI Q)
abbrev j_X6_fetch_51_47_20 (d : Nat) (m : dM) (Q : Int32 → dM → Prop) : Prop := Wp d 206 20 [none, none, none] [] m (qI Q)
abbrev c_X11_restore_0 (d : Nat) (x1 : Int32) (m : dM) (Q : Int32 → dM → Prop) : Prop := Wp d 280 0 [oR 0, oI x1] [] m (qI Q)
abbrev c_X12_restore_70 (d : Nat) (x1 : Int32) (m : dM) (Q : Int32 → dM → Prop) : Prop := Wp d 112 0 [oR 70, oI x1, none] [] m (qI Q)
abbrev j_X12_restore_70_18 (d : Nat) (m : dM) (Q : Int32 → dM → Prop) : Prop := Wp d 112 18 [none, none, none] [] m (qI Q)
abbrev j_X12_restore_70_22 (d : Nat) (x1 : Int32) (x2 : Int32) (m : dM) (Q : Int32 → dM → Prop) : Prop := Wp d 112 22 [oR 70, oI x1, oI x2] [] m (qI Q)
abbrev c_X11_wholeRatings_0 (d : Nat) (m : dM) (Q : Int32 → dM → Prop) : Prop := Wp d 282 0 [oR 0, none, none] [] m (qI Q)
abbrev j_X11_wholeRatings_0_4 (d : Nat) (x1 : Int32) (x2 : Int32) (m : dM) (Q : Int32 → dM → Prop) : Prop := Wp d 282 4 [oR 0, oI x1, oI x2] [] m (qI Q)
abbrev c_X11_count_0 (d : Nat) (x1 : Int32) (m : dM) (Q : Int32 → dM → Prop) : Prop := Wp d 281 0 [oR 0, oI x1] [] m (qI Q)
abbrev c_X12_count_70 (d : Nat) (x1 : Int32) (m : dM) (Q : Int32 → dM → Prop) : Prop := Wp d 113 0 [oR 70, oI x1, none, none] [] m (qI Q)
abbrev j_X12_count_70_228 (d : Nat) (x2 : Int32) (x3 : Int32) (m : dM) (Q : Int32 → dM → Prop) : Prop := Wp d 113 228 [oR 70, none, oI x2, oI x3] [] m (qI Q)
abbrev j_X12_count_70_265 (d : Nat) (x2 : Int32) (x3 : Int32) (m : dM) (Q : Int32 → dM → Prop) : Prop := Wp d 113 265 [oR 70, none, oI x2, oI x3] [] m (qI Q)
abbrev j_X12_count_70_295 (d : Nat) (x2 : Int32) (x3 : Int32) (m : dM) (Q : Int32 → dM → Prop) : Prop := Wp d 113 295 [oR 70, none, oI x2, oI x3] [] m (qI Q)
end
section
theorem v_X11_putBytes_0 {d : Nat} {x1 : Int32} {m : dM} {Q : dM → Prop} (h : j_X11_putBytes_0_3 (d + 1) x1 (24 : Int32) m Q) : c_X11_putBytes_0 (d + 1) x1 m Q := by
  refine w_bipush (q := 2) hm244 ⟨⟨_, _, rfl⟩, rfl⟩ bipush_24 ?_
  refine w_istore_n (q := 3) (l' := [oR 0, oI x1, oI (24 : Int32)]) hm244 ⟨⟨_, _, rfl⟩, rfl⟩ rfl rfl rfl ?_
  exact h
theorem v_X11_putBytes_0_3 {d : Nat} {x1 : Int32} {x2 : Int32} {m : dM} {Q : dM → Prop} (h : ((x2.toInt < 0 → j_X11_putBytes_0_46 (d + 1) m Q) ∧ (0 ≤ x2.toInt → ((2000 ≤ (m.1 0 1).toInt → j_X11_putBytes_0_46 (d + 1) m Q) ∧ ((m.1 0 1).toInt < 2000 → ((0 ≤ (m.1 0 1).toInt ∧ (m.1 0 1).toInt < 2000) ∧ j_X11_putBytes_0_3 (d + 1) x1 (x2 + (-8 : Int32)) (dSet (dSet m 1 (m.1 0 1).toNatClampNeg (x1.toUInt32 >>> (x2.toUInt32 &&& Int32.toUInt32 31)).toInt32.toInt8.toInt32.toInt8.toInt32) 0 1 ((m.1 0 1) + (1 : Int32))) Q)))))) : j_X11_putBytes_0_3 (d + 1) x1 x2 m Q := by
  refine w_iload_n (q := 4) hm244 ⟨⟨_, _, rfl⟩, rfl⟩ rfl ?_
  refine w_if_lt (q := 7) (X := x2.toInt) hm244 ⟨⟨_, _, rfl⟩, rfl⟩ rfl (fun hc => ?_) (fun hc => ?_)
  · have h := h.1 hc
    exact Wp.wk [false, false, false] h
  · have h := h.2 hc
    refine w_aload_n (q := 8) hm244 ⟨⟨_, _, rfl⟩, rfl⟩ rfl ?_
    refine w_getf (q := 11) (v := (m.1 0 1)) hm244 ⟨⟨_, _, rfl⟩, rfl⟩ rfl rfl ?_
    refine w_sipush (q := 14) hm244 ⟨⟨_, _, rfl⟩, rfl⟩ sipush_2000 ?_
    refine w_icmp_ge (q := 17) (X := (m.1 0 1).toInt) (Y := 2000) hm244 ⟨⟨_, _, rfl⟩, rfl⟩ rfl (by decide) (fun hc => ?_) (fun hc => ?_)
    · have h := h.1 hc
      exact Wp.wk [false, false, false] h
    · have h := h.2 hc
      refine w_aload_n (q := 18) hm244 ⟨⟨_, _, rfl⟩, rfl⟩ rfl ?_
      refine w_getr (q := 21) hm244 ⟨⟨_, _, rfl⟩, rfl⟩ rfl ?_
      refine w_aload_n (q := 22) hm244 ⟨⟨_, _, rfl⟩, rfl⟩ rfl ?_
      refine w_getf (q := 25) (v := (m.1 0 1)) hm244 ⟨⟨_, _, rfl⟩, rfl⟩ rfl rfl ?_
      refine w_iload_n (q := 26) hm244 ⟨⟨_, _, rfl⟩, rfl⟩ rfl ?_
      refine w_iload_n (q := 27) hm244 ⟨⟨_, _, rfl⟩, rfl⟩ rfl ?_
      refine w_iushr (q := 28) hm244 ⟨⟨_, _, rfl⟩, rfl⟩ ?_
      refine w_i2b (q := 29) hm244 ⟨⟨_, _, rfl⟩, rfl⟩ ?_
      obtain ⟨hi, h⟩ := h
      refine w_bast (q := 30) hm244 ⟨⟨_, _, rfl⟩, rfl⟩ rfl hi rfl rfl ?_
      refine w_aload_n (q := 31) hm244 ⟨⟨_, _, rfl⟩, rfl⟩ rfl ?_
      refine w_dup (q := 32) hm244 ⟨⟨_, _, rfl⟩, rfl⟩ rfl ?_
      refine w_getf (q := 35) (v := (m.1 0 1)) hm244 ⟨⟨_, _, rfl⟩, rfl⟩ rfl rfl ?_
      refine w_iconst (q := 36) hm244 ⟨⟨_, _, rfl⟩, rfl⟩ iconst_1 ?_
      refine w_iadd (q := 37) hm244 ⟨⟨_, _, rfl⟩, rfl⟩ ?_
      refine w_putf (q := 40) hm244 ⟨⟨_, _, rfl⟩, rfl⟩ rfl rfl rfl ?_
      refine w_iinc (q := 43) (l' := [oR 0, oI x1, oI (x2 + (-8 : Int32))]) hm244 ⟨⟨_, _, rfl⟩, rfl⟩ rfl rfl rfl iconst_m8 rfl ?_
      refine w_goto (q := 3) hm244 ⟨_, _, rfl⟩ ?_
      exact h
theorem v_X11_putBytes_0_46 {d : Nat} {m : dM} {Q : dM → Prop} (h : Q m) : j_X11_putBytes_0_46 (d + 1) m Q := by
  exact w_retv hm244 ⟨⟨_, _, rfl⟩, rfl⟩ rfl h
theorem v_X11_feed_0 {d : Nat} {x1 : Int32} {x2 : Int32} {x3 : Int32} {x4 : Int32} {x5 : Int32} {m : dM} {Q : Int32 → dM → Prop} (h : ((((m.1 0 1) + (20 : Int32)).toInt ≤ 2000 → c_X11_putBytes_0 d x1 m (fun m1 => c_X11_putBytes_0 d x2 m1 (fun m2 => c_X11_putBytes_0 d x3 m2 (fun m3 => c_X11_putBytes_0 d x4 m3 (fun m4 => c_X11_putBytes_0 d x5 m4 (fun m5 => Q (m5.1 0 1) m5)))))) ∧ (2000 < ((m.1 0 1) + (20 : Int32)).toInt → Q (-1 : Int32) m))) : c_X11_feed_0 (d + 1) x1 x2 x3 x4 x5 m Q := by
  refine w_aload_n (q := 1) hm243 ⟨⟨_, _, rfl⟩, rfl⟩ rfl ?_
  refine w_getf (q := 4) (v := (m.1 0 1)) hm243 ⟨⟨_, _, rfl⟩, rfl⟩ rfl rfl ?_
  refine w_bipush (q := 6) hm243 ⟨⟨_, _, rfl⟩, rfl⟩ bipush_20 ?_
  refine w_iadd (q := 7) hm243 ⟨⟨_, _, rfl⟩, rfl⟩ ?_
  refine w_sipush (q := 10) hm243 ⟨⟨_, _, rfl⟩, rfl⟩ sipush_2000 ?_
  refine w_icmp_le (q := 13) (X := ((m.1 0 1) + (20 : Int32)).toInt) (Y := 2000) hm243 ⟨⟨_, _, rfl⟩, rfl⟩ rfl (by decide) (fun hc => ?_) (fun hc => ?_)
  · have h := h.1 hc
    refine w_aload_n (q := 16) hm243 ⟨⟨_, _, rfl⟩, rfl⟩ rfl ?_
    refine w_iload_n (q := 17) hm243 ⟨⟨_, _, rfl⟩, rfl⟩ rfl ?_
    refine w_call (q := 20) (n := 1) (vs := [.inr (.inr (some 0)), .inl x1]) (rest := []) (la := [oR 0, oI x1, none]) hm243 ⟨⟨_, _, rfl⟩, rfl⟩ rfl rfl rfl rfl hm244 rfl rfl (fun _ => ⟨_, _, rfl, rfl⟩) rfl (Wp.mono h ?_)
    rintro _ m1 ⟨rfl, h⟩
    change Wp _ _ 20 _ [] _ _
    refine w_aload_n (q := 21) hm243 ⟨⟨_, _, rfl⟩, rfl⟩ rfl ?_
    refine w_iload_n (q := 22) hm243 ⟨⟨_, _, rfl⟩, rfl⟩ rfl ?_
    refine w_call (q := 25) (n := 1) (vs := [.inr (.inr (some 0)), .inl x2]) (rest := []) (la := [oR 0, oI x2, none]) hm243 ⟨⟨_, _, rfl⟩, rfl⟩ rfl rfl rfl rfl hm244 rfl rfl (fun _ => ⟨_, _, rfl, rfl⟩) rfl (Wp.mono h ?_)
    rintro _ m2 ⟨rfl, h⟩
    change Wp _ _ 25 _ [] _ _
    refine w_aload_n (q := 26) hm243 ⟨⟨_, _, rfl⟩, rfl⟩ rfl ?_
    refine w_iload_n (q := 27) hm243 ⟨⟨_, _, rfl⟩, rfl⟩ rfl ?_
    refine w_call (q := 30) (n := 1) (vs := [.inr (.inr (some 0)), .inl x3]) (rest := []) (la := [oR 0, oI x3, none]) hm243 ⟨⟨_, _, rfl⟩, rfl⟩ rfl rfl rfl rfl hm244 rfl rfl (fun _ => ⟨_, _, rfl, rfl⟩) rfl (Wp.mono h ?_)
    rintro _ m3 ⟨rfl, h⟩
    change Wp _ _ 30 _ [] _ _
    refine w_aload_n (q := 31) hm243 ⟨⟨_, _, rfl⟩, rfl⟩ rfl ?_
    refine w_iload (q := 33) hm243 ⟨⟨_, _, rfl⟩, rfl⟩ rfl ?_
    refine w_call (q := 36) (n := 1) (vs := [.inr (.inr (some 0)), .inl x4]) (rest := []) (la := [oR 0, oI x4, none]) hm243 ⟨⟨_, _, rfl⟩, rfl⟩ rfl rfl rfl rfl hm244 rfl rfl (fun _ => ⟨_, _, rfl, rfl⟩) rfl (Wp.mono h ?_)
    rintro _ m4 ⟨rfl, h⟩
    change Wp _ _ 36 _ [] _ _
    refine w_aload_n (q := 37) hm243 ⟨⟨_, _, rfl⟩, rfl⟩ rfl ?_
    refine w_iload (q := 39) hm243 ⟨⟨_, _, rfl⟩, rfl⟩ rfl ?_
    refine w_call (q := 42) (n := 1) (vs := [.inr (.inr (some 0)), .inl x5]) (rest := []) (la := [oR 0, oI x5, none]) hm243 ⟨⟨_, _, rfl⟩, rfl⟩ rfl rfl rfl rfl hm244 rfl rfl (fun _ => ⟨_, _, rfl, rfl⟩) rfl (Wp.mono h ?_)
    rintro _ m5 ⟨rfl, h⟩
    change Wp _ _ 42 _ [] _ _
    refine w_aload_n (q := 43) hm243 ⟨⟨_, _, rfl⟩, rfl⟩ rfl ?_
    refine w_getf (q := 46) (v := (m5.1 0 1)) hm243 ⟨⟨_, _, rfl⟩, rfl⟩ rfl rfl ?_
    exact w_reti hm243 ⟨⟨_, _, rfl⟩, rfl⟩ rfl h
  · have h := h.2 hc
    refine w_iconst (q := 14) hm243 ⟨⟨_, _, rfl⟩, rfl⟩ iconst_m1 ?_
    exact w_reti hm243 ⟨⟨_, _, rfl⟩, rfl⟩ rfl h
theorem v_X12_put_70 {d : Nat} {x1 : Int32} {m : dM} {Q : dM → Prop} (h : j_X12_put_70_3 (d + 1) x1 (24 : Int32) m Q) : c_X12_put_70 (d + 1) x1 m Q := by
  refine w_bipush (q := 2) hm2 ⟨⟨_, _, rfl⟩, rfl⟩ bipush_24 ?_
  refine w_istore_n (q := 3) (l' := [oR 70, oI x1, oI (24 : Int32)]) hm2 ⟨⟨_, _, rfl⟩, rfl⟩ rfl rfl rfl ?_
  exact h
theorem v_X12_put_70_3 {d : Nat} {x1 : Int32} {x2 : Int32} {m : dM} {Q : dM → Prop} (h : ((x2.toInt < 0 → Q m) ∧ (0 ≤ x2.toInt → ((0 ≤ (m.1 70 2).toInt ∧ (m.1 70 2).toInt < 2000) ∧ j_X12_put_70_3 (d + 1) x1 (x2 + (-8 : Int32)) (dSet (dSet m 71 (m.1 70 2).toNatClampNeg (x1 >>> (x2 &&& 31)).toInt8.toInt32.toInt8.toInt32) 70 2 ((m.1 70 2) + (1 : Int32))) Q)))) : j_X12_put_70_3 (d + 1) x1 x2 m Q := by
  refine w_iload_n (q := 4) hm2 ⟨⟨_, _, rfl⟩, rfl⟩ rfl ?_
  refine w_if_lt (q := 7) (X := x2.toInt) hm2 ⟨⟨_, _, rfl⟩, rfl⟩ rfl (fun hc => ?_) (fun hc => ?_)
  · have h := h.1 hc
    exact w_retv hm2 ⟨⟨_, _, rfl⟩, rfl⟩ rfl h
  · have h := h.2 hc
    refine w_aload_n (q := 8) hm2 ⟨⟨_, _, rfl⟩, rfl⟩ rfl ?_
    refine w_getr (q := 11) hm2 ⟨⟨_, _, rfl⟩, rfl⟩ rfl ?_
    refine w_aload_n (q := 12) hm2 ⟨⟨_, _, rfl⟩, rfl⟩ rfl ?_
    refine w_getf (q := 15) (v := (m.1 70 2)) hm2 ⟨⟨_, _, rfl⟩, rfl⟩ rfl rfl ?_
    refine w_iload_n (q := 16) hm2 ⟨⟨_, _, rfl⟩, rfl⟩ rfl ?_
    refine w_iload_n (q := 17) hm2 ⟨⟨_, _, rfl⟩, rfl⟩ rfl ?_
    refine w_ishr (q := 18) hm2 ⟨⟨_, _, rfl⟩, rfl⟩ ?_
    refine w_i2b (q := 19) hm2 ⟨⟨_, _, rfl⟩, rfl⟩ ?_
    obtain ⟨hi, h⟩ := h
    refine w_bast (q := 20) hm2 ⟨⟨_, _, rfl⟩, rfl⟩ rfl hi rfl rfl ?_
    refine w_aload_n (q := 21) hm2 ⟨⟨_, _, rfl⟩, rfl⟩ rfl ?_
    refine w_dup (q := 22) hm2 ⟨⟨_, _, rfl⟩, rfl⟩ rfl ?_
    refine w_getf (q := 25) (v := (m.1 70 2)) hm2 ⟨⟨_, _, rfl⟩, rfl⟩ rfl rfl ?_
    refine w_iconst (q := 26) hm2 ⟨⟨_, _, rfl⟩, rfl⟩ iconst_1 ?_
    refine w_iadd (q := 27) hm2 ⟨⟨_, _, rfl⟩, rfl⟩ ?_
    refine w_putf (q := 30) hm2 ⟨⟨_, _, rfl⟩, rfl⟩ rfl rfl rfl ?_
    refine w_iinc (q := 33) (l' := [oR 70, oI x1, oI (x2 + (-8 : Int32))]) hm2 ⟨⟨_, _, rfl⟩, rfl⟩ rfl rfl rfl iconst_m8 rfl ?_
    refine w_goto (q := 3) hm2 ⟨_, _, rfl⟩ ?_
    exact h
theorem v_X12_feed_70 {d : Nat} {x1 : Int32} {x2 : Int32} {x3 : Int32} {x4 : Int32} {x5 : Int32} {m : dM} {Q : Int32 → dM → Prop} (h : ((((m.1 70 2) + (20 : Int32)).toInt ≤ 2000 → c_X12_put_70 d x1 m (fun m1 => c_X12_put_70 d x2 m1 (fun m2 => c_X12_put_70 d x3 m2 (fun m3 => c_X12_put_70 d x4 m3 (fun m4 => c_X12_put_70 d x5 m4 (fun m5 => Q (m5.1 70 2) m5)))))) ∧ (2000 < ((m.1 70 2) + (20 : Int32)).toInt → Q (-1 : Int32) m))) : c_X12_feed_70 (d + 1) x1 x2 x3 x4 x5 m Q := by
  refine w_aload_n (q := 1) hm1 ⟨⟨_, _, rfl⟩, rfl⟩ rfl ?_
  refine w_getf (q := 4) (v := (m.1 70 2)) hm1 ⟨⟨_, _, rfl⟩, rfl⟩ rfl rfl ?_
  refine w_bipush (q := 6) hm1 ⟨⟨_, _, rfl⟩, rfl⟩ bipush_20 ?_
  refine w_iadd (q := 7) hm1 ⟨⟨_, _, rfl⟩, rfl⟩ ?_
  refine w_sipush (q := 10) hm1 ⟨⟨_, _, rfl⟩, rfl⟩ sipush_2000 ?_
  refine w_icmp_le (q := 13) (X := ((m.1 70 2) + (20 : Int32)).toInt) (Y := 2000) hm1 ⟨⟨_, _, rfl⟩, rfl⟩ rfl (by decide) (fun hc => ?_) (fun hc => ?_)
  · have h := h.1 hc
    refine w_aload_n (q := 16) hm1 ⟨⟨_, _, rfl⟩, rfl⟩ rfl ?_
    refine w_iload_n (q := 17) hm1 ⟨⟨_, _, rfl⟩, rfl⟩ rfl ?_
    refine w_call (q := 20) (n := 1) (vs := [.inr (.inr (some 70)), .inl x1]) (rest := []) (la := [oR 70, oI x1, none]) hm1 ⟨⟨_, _, rfl⟩, rfl⟩ rfl rfl rfl rfl hm2 rfl rfl (fun _ => ⟨_, _, rfl, rfl⟩) rfl (Wp.mono h ?_)
    rintro _ m1 ⟨rfl, h⟩
    change Wp _ _ 20 _ [] _ _
    refine w_aload_n (q := 21) hm1 ⟨⟨_, _, rfl⟩, rfl⟩ rfl ?_
    refine w_iload_n (q := 22) hm1 ⟨⟨_, _, rfl⟩, rfl⟩ rfl ?_
    refine w_call (q := 25) (n := 1) (vs := [.inr (.inr (some 70)), .inl x2]) (rest := []) (la := [oR 70, oI x2, none]) hm1 ⟨⟨_, _, rfl⟩, rfl⟩ rfl rfl rfl rfl hm2 rfl rfl (fun _ => ⟨_, _, rfl, rfl⟩) rfl (Wp.mono h ?_)
    rintro _ m2 ⟨rfl, h⟩
    change Wp _ _ 25 _ [] _ _
    refine w_aload_n (q := 26) hm1 ⟨⟨_, _, rfl⟩, rfl⟩ rfl ?_
    refine w_iload_n (q := 27) hm1 ⟨⟨_, _, rfl⟩, rfl⟩ rfl ?_
    refine w_call (q := 30) (n := 1) (vs := [.inr (.inr (some 70)), .inl x3]) (rest := []) (la := [oR 70, oI x3, none]) hm1 ⟨⟨_, _, rfl⟩, rfl⟩ rfl rfl rfl rfl hm2 rfl rfl (fun _ => ⟨_, _, rfl, rfl⟩) rfl (Wp.mono h ?_)
    rintro _ m3 ⟨rfl, h⟩
    change Wp _ _ 30 _ [] _ _
    refine w_aload_n (q := 31) hm1 ⟨⟨_, _, rfl⟩, rfl⟩ rfl ?_
    refine w_iload (q := 33) hm1 ⟨⟨_, _, rfl⟩, rfl⟩ rfl ?_
    refine w_call (q := 36) (n := 1) (vs := [.inr (.inr (some 70)), .inl x4]) (rest := []) (la := [oR 70, oI x4, none]) hm1 ⟨⟨_, _, rfl⟩, rfl⟩ rfl rfl rfl rfl hm2 rfl rfl (fun _ => ⟨_, _, rfl, rfl⟩) rfl (Wp.mono h ?_)
    rintro _ m4 ⟨rfl, h⟩
    change Wp _ _ 36 _ [] _ _
    refine w_aload_n (q := 37) hm1 ⟨⟨_, _, rfl⟩, rfl⟩ rfl ?_
    refine w_iload (q := 39) hm1 ⟨⟨_, _, rfl⟩, rfl⟩ rfl ?_
    refine w_call (q := 42) (n := 1) (vs := [.inr (.inr (some 70)), .inl x5]) (rest := []) (la := [oR 70, oI x5, none]) hm1 ⟨⟨_, _, rfl⟩, rfl⟩ rfl rfl rfl rfl hm2 rfl rfl (fun _ => ⟨_, _, rfl, rfl⟩) rfl (Wp.mono h ?_)
    rintro _ m5 ⟨rfl, h⟩
    change Wp _ _ 42 _ [] _ _
    refine w_aload_n (q := 43) hm1 ⟨⟨_, _, rfl⟩, rfl⟩ rfl ?_
    refine w_getf (q := 46) (v := (m5.1 70 2)) hm1 ⟨⟨_, _, rfl⟩, rfl⟩ rfl rfl ?_
    exact w_reti hm1 ⟨⟨_, _, rfl⟩, rfl⟩ rfl h
  · have h := h.2 hc
    refine w_iconst (q := 14) hm1 ⟨⟨_, _, rfl⟩, rfl⟩ iconst_m1 ?_
    exact w_reti hm1 ⟨⟨_, _, rfl⟩, rfl⟩ rfl h
theorem v_X11_back_0 {d : Nat} {x1 : Int32} {m : dM} {Q : Int32 → dM → Prop} (h : ((x1.toInt < 0 → j_X11_back_0_12 (d + 1) m Q) ∧ (0 ≤ x1.toInt → ((x1.toInt ≤ (m.1 0 1).toInt → Q ((m.1 0 1) - x1) (dSet m 0 1 ((m.1 0 1) - x1))) ∧ ((m.1 0 1).toInt < x1.toInt → j_X11_back_0_12 (d + 1) m Q))))) : c_X11_back_0 (d + 1) x1 m Q := by
  refine w_iload_n (q := 1) hm245 ⟨⟨_, _, rfl⟩, rfl⟩ rfl ?_
  refine w_if_lt (q := 4) (X := x1.toInt) hm245 ⟨⟨_, _, rfl⟩, rfl⟩ rfl (fun hc => ?_) (fun hc => ?_)
  · have h := h.1 hc
    exact Wp.wk [false, false] h
  · have h := h.2 hc
    refine w_iload_n (q := 5) hm245 ⟨⟨_, _, rfl⟩, rfl⟩ rfl ?_
    refine w_aload_n (q := 6) hm245 ⟨⟨_, _, rfl⟩, rfl⟩ rfl ?_
    refine w_getf (q := 9) (v := (m.1 0 1)) hm245 ⟨⟨_, _, rfl⟩, rfl⟩ rfl rfl ?_
    refine w_icmp_le (q := 12) (X := x1.toInt) (Y := (m.1 0 1).toInt) hm245 ⟨⟨_, _, rfl⟩, rfl⟩ rfl rfl (fun hc => ?_) (fun hc => ?_)
    · have h := h.1 hc
      refine w_aload_n (q := 15) hm245 ⟨⟨_, _, rfl⟩, rfl⟩ rfl ?_
      refine w_dup (q := 16) hm245 ⟨⟨_, _, rfl⟩, rfl⟩ rfl ?_
      refine w_getf (q := 19) (v := (m.1 0 1)) hm245 ⟨⟨_, _, rfl⟩, rfl⟩ rfl rfl ?_
      refine w_iload_n (q := 20) hm245 ⟨⟨_, _, rfl⟩, rfl⟩ rfl ?_
      refine w_isub (q := 21) hm245 ⟨⟨_, _, rfl⟩, rfl⟩ ?_
      refine w_putf (q := 24) hm245 ⟨⟨_, _, rfl⟩, rfl⟩ rfl rfl rfl ?_
      refine w_aload_n (q := 25) hm245 ⟨⟨_, _, rfl⟩, rfl⟩ rfl ?_
      refine w_getf (q := 28) (v := ((m.1 0 1) - x1)) hm245 ⟨⟨_, _, rfl⟩, rfl⟩ rfl rfl ?_
      exact w_reti hm245 ⟨⟨_, _, rfl⟩, rfl⟩ rfl h
    · have h := h.2 hc
      exact Wp.wk [false, false] h
theorem v_X11_back_0_12 {d : Nat} {m : dM} {Q : Int32 → dM → Prop} (h : Q (-1 : Int32) m) : j_X11_back_0_12 (d + 1) m Q := by
  refine w_iconst (q := 13) hm245 ⟨⟨_, _, rfl⟩, rfl⟩ iconst_m1 ?_
  exact w_reti hm245 ⟨⟨_, _, rfl⟩, rfl⟩ rfl h
theorem v_X12_back_70 {d : Nat} {x1 : Int32} {m : dM} {Q : Int32 → dM → Prop} (h : ((x1.toInt < 0 → j_X12_back_70_12 (d + 1) m Q) ∧ (0 ≤ x1.toInt → ((x1.toInt ≤ (m.1 70 2).toInt → Q ((m.1 70 2) - x1) (dSet m 70 2 ((m.1 70 2) - x1))) ∧ ((m.1 70 2).toInt < x1.toInt → j_X12_back_70_12 (d + 1) m Q))))) : c_X12_back_70 (d + 1) x1 m Q := by
  refine w_iload_n (q := 1) hm3 ⟨⟨_, _, rfl⟩, rfl⟩ rfl ?_
  refine w_if_lt (q := 4) (X := x1.toInt) hm3 ⟨⟨_, _, rfl⟩, rfl⟩ rfl (fun hc => ?_) (fun hc => ?_)
  · have h := h.1 hc
    exact Wp.wk [false, false] h
  · have h := h.2 hc
    refine w_iload_n (q := 5) hm3 ⟨⟨_, _, rfl⟩, rfl⟩ rfl ?_
    refine w_aload_n (q := 6) hm3 ⟨⟨_, _, rfl⟩, rfl⟩ rfl ?_
    refine w_getf (q := 9) (v := (m.1 70 2)) hm3 ⟨⟨_, _, rfl⟩, rfl⟩ rfl rfl ?_
    refine w_icmp_le (q := 12) (X := x1.toInt) (Y := (m.1 70 2).toInt) hm3 ⟨⟨_, _, rfl⟩, rfl⟩ rfl rfl (fun hc => ?_) (fun hc => ?_)
    · have h := h.1 hc
      refine w_aload_n (q := 15) hm3 ⟨⟨_, _, rfl⟩, rfl⟩ rfl ?_
      refine w_dup (q := 16) hm3 ⟨⟨_, _, rfl⟩, rfl⟩ rfl ?_
      refine w_getf (q := 19) (v := (m.1 70 2)) hm3 ⟨⟨_, _, rfl⟩, rfl⟩ rfl rfl ?_
      refine w_iload_n (q := 20) hm3 ⟨⟨_, _, rfl⟩, rfl⟩ rfl ?_
      refine w_isub (q := 21) hm3 ⟨⟨_, _, rfl⟩, rfl⟩ ?_
      refine w_putf (q := 24) hm3 ⟨⟨_, _, rfl⟩, rfl⟩ rfl rfl rfl ?_
      refine w_aload_n (q := 25) hm3 ⟨⟨_, _, rfl⟩, rfl⟩ rfl ?_
      refine w_getf (q := 28) (v := ((m.1 70 2) - x1)) hm3 ⟨⟨_, _, rfl⟩, rfl⟩ rfl rfl ?_
      exact w_reti hm3 ⟨⟨_, _, rfl⟩, rfl⟩ rfl h
    · have h := h.2 hc
      exact Wp.wk [false, false] h
theorem v_X12_back_70_12 {d : Nat} {m : dM} {Q : Int32 → dM → Prop} (h : Q (-1 : Int32) m) : j_X12_back_70_12 (d + 1) m Q := by
  refine w_iconst (q := 13) hm3 ⟨⟨_, _, rfl⟩, rfl⟩ iconst_m1 ?_
  exact w_reti hm3 ⟨⟨_, _, rfl⟩, rfl⟩ rfl h
theorem v_X8_byteAt_38 {d : Nat} {x1 : Int32} {m : dM} {Q : Int32 → dM → Prop} (h : ((m.2.2 = false → j_X8_byteAt_38_41 (d + 1) m Q) ∧ (m.2.2 = true → ((x1.toInt < 0 → j_X8_byteAt_38_41 (d + 1) m Q) ∧ (0 ≤ x1.toInt → (((m.1 38 5).toInt ≤ x1.toInt → j_X8_byteAt_38_41 (d + 1) m Q) ∧ (x1.toInt < (m.1 38 5).toInt → ((2000 ≤ x1.toInt → j_X8_byteAt_38_41 (d + 1) m Q) ∧ (x1.toInt < 2000 → ((0 ≤ x1.toInt ∧ x1.toInt < 2000) ∧ Q ((m.1 1 x1.toNatClampNeg) &&& (255 : Int32)) m)))))))))) : c_X8_byteAt_38 (d + 1) x1 m Q := by
  refine w_aload_n (q := 1) hm221 ⟨⟨_, _, rfl⟩, rfl⟩ rfl ?_
  refine w_gett (q := 4) hm221 ⟨⟨_, _, rfl⟩, rfl⟩ rfl ?_
  refine w_ifnull (q := 7) hm221 ⟨⟨_, _, rfl⟩, rfl⟩ (fun hc => ?_) (fun htx => ?_)
  · have h := h.1 hc
    exact Wp.wk [false, false] h
  · have h := h.2 htx
    refine w_iload_n (q := 8) hm221 ⟨⟨_, _, rfl⟩, rfl⟩ rfl ?_
    refine w_if_lt (q := 11) (X := x1.toInt) hm221 ⟨⟨_, _, rfl⟩, rfl⟩ rfl (fun hc => ?_) (fun hc => ?_)
    · have h := h.1 hc
      exact Wp.wk [false, false] h
    · have h := h.2 hc
      refine w_iload_n (q := 12) hm221 ⟨⟨_, _, rfl⟩, rfl⟩ rfl ?_
      refine w_aload_n (q := 13) hm221 ⟨⟨_, _, rfl⟩, rfl⟩ rfl ?_
      refine w_getf (q := 16) (v := (m.1 38 5)) hm221 ⟨⟨_, _, rfl⟩, rfl⟩ rfl rfl ?_
      refine w_icmp_ge (q := 19) (X := x1.toInt) (Y := (m.1 38 5).toInt) hm221 ⟨⟨_, _, rfl⟩, rfl⟩ rfl rfl (fun hc => ?_) (fun hc => ?_)
      · have h := h.1 hc
        exact Wp.wk [false, false] h
      · have h := h.2 hc
        refine w_iload_n (q := 20) hm221 ⟨⟨_, _, rfl⟩, rfl⟩ rfl ?_
        refine w_aload_n (q := 21) hm221 ⟨⟨_, _, rfl⟩, rfl⟩ rfl ?_
        refine w_gettT (q := 24) hm221 ⟨⟨_, _, rfl⟩, rfl⟩ rfl htx ?_
        refine w_alen (q := 25) hm221 ⟨⟨_, _, rfl⟩, rfl⟩ rfl alen_2000 ?_
        refine w_icmp_ge (q := 28) (X := x1.toInt) (Y := 2000) hm221 ⟨⟨_, _, rfl⟩, rfl⟩ rfl (by decide) (fun hc => ?_) (fun hc => ?_)
        · have h := h.1 hc
          exact Wp.wk [false, false] h
        · have h := h.2 hc
          refine w_aload_n (q := 29) hm221 ⟨⟨_, _, rfl⟩, rfl⟩ rfl ?_
          refine w_gettT (q := 32) hm221 ⟨⟨_, _, rfl⟩, rfl⟩ rfl htx ?_
          refine w_iload_n (q := 33) hm221 ⟨⟨_, _, rfl⟩, rfl⟩ rfl ?_
          obtain ⟨hi, h⟩ := h
          refine w_bald (q := 34) (v := (m.1 1 x1.toNatClampNeg)) hm221 ⟨⟨_, _, rfl⟩, rfl⟩ rfl hi rfl rfl ?_
          refine w_sipush (q := 37) hm221 ⟨⟨_, _, rfl⟩, rfl⟩ sipush_255 ?_
          refine w_iand (q := 38) hm221 ⟨⟨_, _, rfl⟩, rfl⟩ ?_
          refine w_goto (q := 42) hm221 ⟨_, _, rfl⟩ ?_
          exact w_reti hm221 ⟨⟨_, _, rfl⟩, rfl⟩ rfl h
theorem v_X8_byteAt_38_41 {d : Nat} {m : dM} {Q : Int32 → dM → Prop} (h : Q (0 : Int32) m) : j_X8_byteAt_38_41 (d + 1) m Q := by
  refine w_iconst (q := 42) hm221 ⟨⟨_, _, rfl⟩, rfl⟩ iconst_0 ?_
  exact w_reti hm221 ⟨⟨_, _, rfl⟩, rfl⟩ rfl h
theorem v_X8_pastBlanks_38 {d : Nat} {x1 : Int32} {m : dM} {Q : Int32 → dM → Prop} (h : j_X8_pastBlanks_38_2 (d + 1) x1 m Q) : c_X8_pastBlanks_38 (d + 1) x1 m Q := by
  refine w_iload_n (q := 1) hm224 ⟨⟨_, _, rfl⟩, rfl⟩ rfl ?_
  refine w_istore_n (q := 2) (l' := [oR 38, oI x1, oI x1, none]) hm224 ⟨⟨_, _, rfl⟩, rfl⟩ rfl rfl rfl ?_
  exact Wp.wk [true, false, true, false] h
theorem v_X8_pastBlanks_38_2 {d : Nat} {x2 : Int32} {m : dM} {Q : Int32 → dM → Prop} (h : (((m.1 38 5).toInt ≤ x2.toInt → Q (m.1 38 5) m) ∧ (x2.toInt < (m.1 38 5).toInt → c_X8_byteAt_38 d x2 m (fun r1 m1 => ((r1.toInt = 9 → j_X8_pastBlanks_38_42 (d + 1) x2 m1 Q) ∧ (r1.toInt ≠ 9 → ((r1.toInt = 10 → j_X8_pastBlanks_38_42 (d + 1) x2 m1 Q) ∧ (r1.toInt ≠ 10 → ((r1.toInt = 13 → j_X8_pastBlanks_38_42 (d + 1) x2 m1 Q) ∧ (r1.toInt ≠ 13 → ((r1.toInt = 32 → j_X8_pastBlanks_38_42 (d + 1) x2 m1 Q) ∧ (r1.toInt ≠ 32 → Q x2 m1)))))))))))) : j_X8_pastBlanks_38_2 (d + 1) x2 m Q := by
  refine w_iload_n (q := 3) hm224 ⟨⟨_, _, rfl⟩, rfl⟩ rfl ?_
  refine w_aload_n (q := 4) hm224 ⟨⟨_, _, rfl⟩, rfl⟩ rfl ?_
  refine w_getf (q := 7) (v := (m.1 38 5)) hm224 ⟨⟨_, _, rfl⟩, rfl⟩ rfl rfl ?_
  refine w_icmp_ge (q := 10) (X := x2.toInt) (Y := (m.1 38 5).toInt) hm224 ⟨⟨_, _, rfl⟩, rfl⟩ rfl rfl (fun hc => ?_) (fun hc => ?_)
  · have h := h.1 hc
    refine w_aload_n (q := 49) hm224 ⟨⟨_, _, rfl⟩, rfl⟩ rfl ?_
    refine w_getf (q := 52) (v := (m.1 38 5)) hm224 ⟨⟨_, _, rfl⟩, rfl⟩ rfl rfl ?_
    exact w_reti hm224 ⟨⟨_, _, rfl⟩, rfl⟩ rfl h
  · have h := h.2 hc
    refine w_aload_n (q := 11) hm224 ⟨⟨_, _, rfl⟩, rfl⟩ rfl ?_
    refine w_iload_n (q := 12) hm224 ⟨⟨_, _, rfl⟩, rfl⟩ rfl ?_
    refine w_call (q := 15) (n := 0) (vs := [.inr (.inr (some 38)), .inl x2]) (rest := []) (la := [oR 38, oI x2]) hm224 ⟨⟨_, _, rfl⟩, rfl⟩ rfl rfl rfl rfl hm221 rfl rfl (fun _ => ⟨_, _, rfl, rfl⟩) rfl (Wp.mono h ?_)
    rintro _ m1 ⟨r1, rfl, h⟩
    change Wp _ _ 15 _ [.inl r1] _ _
    refine w_istore_n (q := 16) (l' := [oR 38, none, oI x2, oI r1]) hm224 ⟨⟨_, _, rfl⟩, rfl⟩ rfl rfl rfl ?_
    refine w_iload_n (q := 17) hm224 ⟨⟨_, _, rfl⟩, rfl⟩ rfl ?_
    refine w_bipush (q := 19) hm224 ⟨⟨_, _, rfl⟩, rfl⟩ bipush_9 ?_
    refine w_icmp_eq (q := 22) (X := r1.toInt) (Y := 9) hm224 ⟨⟨_, _, rfl⟩, rfl⟩ rfl (by decide) (fun hc => ?_) (fun hc => ?_)
    · have h := h.1 hc
      exact Wp.wk [true, false, true, false] h
    · have h := h.2 hc
      refine w_iload_n (q := 23) hm224 ⟨⟨_, _, rfl⟩, rfl⟩ rfl ?_
      refine w_bipush (q := 25) hm224 ⟨⟨_, _, rfl⟩, rfl⟩ bipush_10 ?_
      refine w_icmp_eq (q := 28) (X := r1.toInt) (Y := 10) hm224 ⟨⟨_, _, rfl⟩, rfl⟩ rfl (by decide) (fun hc => ?_) (fun hc => ?_)
      · have h := h.1 hc
        exact Wp.wk [true, false, true, false] h
      · have h := h.2 hc
        refine w_iload_n (q := 29) hm224 ⟨⟨_, _, rfl⟩, rfl⟩ rfl ?_
        refine w_bipush (q := 31) hm224 ⟨⟨_, _, rfl⟩, rfl⟩ bipush_13 ?_
        refine w_icmp_eq (q := 34) (X := r1.toInt) (Y := 13) hm224 ⟨⟨_, _, rfl⟩, rfl⟩ rfl (by decide) (fun hc => ?_) (fun hc => ?_)
        · have h := h.1 hc
          exact Wp.wk [true, false, true, false] h
        · have h := h.2 hc
          refine w_iload_n (q := 35) hm224 ⟨⟨_, _, rfl⟩, rfl⟩ rfl ?_
          refine w_bipush (q := 37) hm224 ⟨⟨_, _, rfl⟩, rfl⟩ bipush_32 ?_
          refine w_icmp_eq (q := 40) (X := r1.toInt) (Y := 32) hm224 ⟨⟨_, _, rfl⟩, rfl⟩ rfl (by decide) (fun hc => ?_) (fun hc => ?_)
          · have h := h.1 hc
            exact Wp.wk [true, false, true, false] h
          · have h := h.2 hc
            refine w_iload_n (q := 41) hm224 ⟨⟨_, _, rfl⟩, rfl⟩ rfl ?_
            exact w_reti hm224 ⟨⟨_, _, rfl⟩, rfl⟩ rfl h
theorem v_X8_pastBlanks_38_42 {d : Nat} {x2 : Int32} {m : dM} {Q : Int32 → dM → Prop} (h : j_X8_pastBlanks_38_2 (d + 1) (x2 + (1 : Int32)) m Q) : j_X8_pastBlanks_38_42 (d + 1) x2 m Q := by
  refine w_iinc (q := 45) (l' := [oR 38, none, oI (x2 + (1 : Int32)), none]) hm224 ⟨⟨_, _, rfl⟩, rfl⟩ rfl rfl rfl iconst_1 rfl ?_
  refine w_goto (q := 2) hm224 ⟨_, _, rfl⟩ ?_
  exact h
theorem v_X8_isLetterAt_38 {d : Nat} {x1 : Int32} {m : dM} {Q : Int32 → dM → Prop} (h : c_X8_byteAt_38 d x1 m (fun r1 m1 => ((r1.toInt < 97 → j_X8_isLetterAt_38_22 (d + 1) m1 Q) ∧ (97 ≤ r1.toInt → ((122 < r1.toInt → j_X8_isLetterAt_38_22 (d + 1) m1 Q) ∧ (r1.toInt ≤ 122 → Q (1 : Int32) m1)))))) : c_X8_isLetterAt_38 (d + 1) x1 m Q := by
  refine w_aload_n (q := 1) hm222 ⟨⟨_, _, rfl⟩, rfl⟩ rfl ?_
  refine w_iload_n (q := 2) hm222 ⟨⟨_, _, rfl⟩, rfl⟩ rfl ?_
  refine w_call (q := 5) (n := 0) (vs := [.inr (.inr (some 38)), .inl x1]) (rest := []) (la := [oR 38, oI x1]) hm222 ⟨⟨_, _, rfl⟩, rfl⟩ rfl rfl rfl rfl hm221 rfl rfl (fun _ => ⟨_, _, rfl, rfl⟩) rfl (Wp.mono h ?_)
  rintro _ m1 ⟨r1, rfl, h⟩
  change Wp _ _ 5 _ [.inl r1] _ _
  refine w_istore_n (q := 6) (l' := [oR 38, oI x1, oI r1]) hm222 ⟨⟨_, _, rfl⟩, rfl⟩ rfl rfl rfl ?_
  refine w_iload_n (q := 7) hm222 ⟨⟨_, _, rfl⟩, rfl⟩ rfl ?_
  refine w_bipush (q := 9) hm222 ⟨⟨_, _, rfl⟩, rfl⟩ bipush_97 ?_
  refine w_icmp_lt (q := 12) (X := r1.toInt) (Y := 97) hm222 ⟨⟨_, _, rfl⟩, rfl⟩ rfl (by decide) (fun hc => ?_) (fun hc => ?_)
  · have h := h.1 hc
    exact Wp.wk [false, false, false] h
  · have h := h.2 hc
    refine w_iload_n (q := 13) hm222 ⟨⟨_, _, rfl⟩, rfl⟩ rfl ?_
    refine w_bipush (q := 15) hm222 ⟨⟨_, _, rfl⟩, rfl⟩ bipush_122 ?_
    refine w_icmp_gt (q := 18) (X := r1.toInt) (Y := 122) hm222 ⟨⟨_, _, rfl⟩, rfl⟩ rfl (by decide) (fun hc => ?_) (fun hc => ?_)
    · have h := h.1 hc
      exact Wp.wk [false, false, false] h
    · have h := h.2 hc
      refine w_iconst (q := 19) hm222 ⟨⟨_, _, rfl⟩, rfl⟩ iconst_1 ?_
      refine w_goto (q := 23) hm222 ⟨_, _, rfl⟩ ?_
      exact w_retz hm222 ⟨⟨_, _, rfl⟩, rfl⟩ rfl (by decide) h
theorem v_X8_isLetterAt_38_22 {d : Nat} {m : dM} {Q : Int32 → dM → Prop} (h : Q (0 : Int32) m) : j_X8_isLetterAt_38_22 (d + 1) m Q := by
  refine w_iconst (q := 23) hm222 ⟨⟨_, _, rfl⟩, rfl⟩ iconst_0 ?_
  exact w_retz hm222 ⟨⟨_, _, rfl⟩, rfl⟩ rfl (by decide) h
theorem v_X8_isDigitAt_38 {d : Nat} {x1 : Int32} {m : dM} {Q : Int32 → dM → Prop} (h : c_X8_byteAt_38 d x1 m (fun r1 m1 => ((r1.toInt < 48 → j_X8_isDigitAt_38_22 (d + 1) m1 Q) ∧ (48 ≤ r1.toInt → ((57 < r1.toInt → j_X8_isDigitAt_38_22 (d + 1) m1 Q) ∧ (r1.toInt ≤ 57 → Q (1 : Int32) m1)))))) : c_X8_isDigitAt_38 (d + 1) x1 m Q := by
  refine w_aload_n (q := 1) hm223 ⟨⟨_, _, rfl⟩, rfl⟩ rfl ?_
  refine w_iload_n (q := 2) hm223 ⟨⟨_, _, rfl⟩, rfl⟩ rfl ?_
  refine w_call (q := 5) (n := 0) (vs := [.inr (.inr (some 38)), .inl x1]) (rest := []) (la := [oR 38, oI x1]) hm223 ⟨⟨_, _, rfl⟩, rfl⟩ rfl rfl rfl rfl hm221 rfl rfl (fun _ => ⟨_, _, rfl, rfl⟩) rfl (Wp.mono h ?_)
  rintro _ m1 ⟨r1, rfl, h⟩
  change Wp _ _ 5 _ [.inl r1] _ _
  refine w_istore_n (q := 6) (l' := [oR 38, oI x1, oI r1]) hm223 ⟨⟨_, _, rfl⟩, rfl⟩ rfl rfl rfl ?_
  refine w_iload_n (q := 7) hm223 ⟨⟨_, _, rfl⟩, rfl⟩ rfl ?_
  refine w_bipush (q := 9) hm223 ⟨⟨_, _, rfl⟩, rfl⟩ bipush_48 ?_
  refine w_icmp_lt (q := 12) (X := r1.toInt) (Y := 48) hm223 ⟨⟨_, _, rfl⟩, rfl⟩ rfl (by decide) (fun hc => ?_) (fun hc => ?_)
  · have h := h.1 hc
    exact Wp.wk [false, false, false] h
  · have h := h.2 hc
    refine w_iload_n (q := 13) hm223 ⟨⟨_, _, rfl⟩, rfl⟩ rfl ?_
    refine w_bipush (q := 15) hm223 ⟨⟨_, _, rfl⟩, rfl⟩ bipush_57 ?_
    refine w_icmp_gt (q := 18) (X := r1.toInt) (Y := 57) hm223 ⟨⟨_, _, rfl⟩, rfl⟩ rfl (by decide) (fun hc => ?_) (fun hc => ?_)
    · have h := h.1 hc
      exact Wp.wk [false, false, false] h
    · have h := h.2 hc
      refine w_iconst (q := 19) hm223 ⟨⟨_, _, rfl⟩, rfl⟩ iconst_1 ?_
      refine w_goto (q := 23) hm223 ⟨_, _, rfl⟩ ?_
      exact w_retz hm223 ⟨⟨_, _, rfl⟩, rfl⟩ rfl (by decide) h
theorem v_X8_isDigitAt_38_22 {d : Nat} {m : dM} {Q : Int32 → dM → Prop} (h : Q (0 : Int32) m) : j_X8_isDigitAt_38_22 (d + 1) m Q := by
  refine w_iconst (q := 23) hm223 ⟨⟨_, _, rfl⟩, rfl⟩ iconst_0 ?_
  exact w_retz hm223 ⟨⟨_, _, rfl⟩, rfl⟩ rfl (by decide) h
theorem v_X8_signOf {d : Nat} {x0 : Int32} {m : dM} {Q : Int32 → dM → Prop} (h : ((x0.toInt = 40 → Q x0 m) ∧ (x0.toInt = 41 → Q x0 m) ∧ (x0.toInt = 42 → Q x0 m) ∧ (x0.toInt = 43 → Q x0 m) ∧ (x0.toInt = 44 → Q (25 : Int32) m) ∧ (x0.toInt = 45 → Q x0 m) ∧ (x0.toInt = 46 → Q (25 : Int32) m) ∧ (x0.toInt = 47 → Q x0 m) ∧ (x0.toInt = 48 → Q (25 : Int32) m) ∧ (x0.toInt = 49 → Q (25 : Int32) m) ∧ (x0.toInt = 50 → Q (25 : Int32) m) ∧ (x0.toInt = 51 → Q (25 : Int32) m) ∧ (x0.toInt = 52 → Q (25 : Int32) m) ∧ (x0.toInt = 53 → Q (25 : Int32) m) ∧ (x0.toInt = 54 → Q (25 : Int32) m) ∧ (x0.toInt = 55 → Q (25 : Int32) m) ∧ (x0.toInt = 56 → Q (25 : Int32) m) ∧ (x0.toInt = 57 → Q (25 : Int32) m) ∧ (x0.toInt = 58 → Q (25 : Int32) m) ∧ (x0.toInt = 59 → Q x0 m) ∧ (x0.toInt = 60 → Q x0 m) ∧ (x0.toInt = 61 → Q x0 m) ∧ (x0.toInt < 40 ∨ 61 < x0.toInt → Q (25 : Int32) m))) : c_X8_signOf (d + 1) x0 m Q := by
  refine w_iload_n (q := 1) hm226 ⟨⟨_, _, rfl⟩, rfl⟩ rfl ?_
  refine w_tsw (X := x0.toInt) hm226 ⟨_, _, rfl⟩ (by decide) (by decide) rfl ((And.intro (fun hc => ?_) (And.intro (fun hc => ?_) (And.intro (fun hc => ?_) (And.intro (fun hc => ?_) (And.intro (fun hc => ?_) (And.intro (fun hc => ?_) (And.intro (fun hc => ?_) (And.intro (fun hc => ?_) (And.intro (fun hc => ?_) (And.intro (fun hc => ?_) (And.intro (fun hc => ?_) (And.intro (fun hc => ?_) (And.intro (fun hc => ?_) (And.intro (fun hc => ?_) (And.intro (fun hc => ?_) (And.intro (fun hc => ?_) (And.intro (fun hc => ?_) (And.intro (fun hc => ?_) (And.intro (fun hc => ?_) (And.intro (fun hc => ?_) (And.intro (fun hc => ?_) (And.intro (fun hc => ?_) trivial))))))))))))))))))))))) (fun hc => ?_)
  · have h := (h.1) hc
    change Wp _ _ 104 _ _ _ _
    refine w_iload_n (q := 105) hm226 ⟨⟨_, _, rfl⟩, rfl⟩ rfl ?_
    exact w_reti hm226 ⟨⟨_, _, rfl⟩, rfl⟩ rfl h
  · have h := (h.2.1) hc
    change Wp _ _ 104 _ _ _ _
    refine w_iload_n (q := 105) hm226 ⟨⟨_, _, rfl⟩, rfl⟩ rfl ?_
    exact w_reti hm226 ⟨⟨_, _, rfl⟩, rfl⟩ rfl h
  · have h := (h.2.2.1) hc
    change Wp _ _ 104 _ _ _ _
    refine w_iload_n (q := 105) hm226 ⟨⟨_, _, rfl⟩, rfl⟩ rfl ?_
    exact w_reti hm226 ⟨⟨_, _, rfl⟩, rfl⟩ rfl h
  · have h := (h.2.2.2.1) hc
    change Wp _ _ 104 _ _ _ _
    refine w_iload_n (q := 105) hm226 ⟨⟨_, _, rfl⟩, rfl⟩ rfl ?_
    exact w_reti hm226 ⟨⟨_, _, rfl⟩, rfl⟩ rfl h
  · have h := (h.2.2.2.2.1) hc
    change Wp _ _ 106 _ _ _ _
    refine w_bipush (q := 108) hm226 ⟨⟨_, _, rfl⟩, rfl⟩ bipush_25 ?_
    exact w_reti hm226 ⟨⟨_, _, rfl⟩, rfl⟩ rfl h
  · have h := (h.2.2.2.2.2.1) hc
    change Wp _ _ 104 _ _ _ _
    refine w_iload_n (q := 105) hm226 ⟨⟨_, _, rfl⟩, rfl⟩ rfl ?_
    exact w_reti hm226 ⟨⟨_, _, rfl⟩, rfl⟩ rfl h
  · have h := (h.2.2.2.2.2.2.1) hc
    change Wp _ _ 106 _ _ _ _
    refine w_bipush (q := 108) hm226 ⟨⟨_, _, rfl⟩, rfl⟩ bipush_25 ?_
    exact w_reti hm226 ⟨⟨_, _, rfl⟩, rfl⟩ rfl h
  · have h := (h.2.2.2.2.2.2.2.1) hc
    change Wp _ _ 104 _ _ _ _
    refine w_iload_n (q := 105) hm226 ⟨⟨_, _, rfl⟩, rfl⟩ rfl ?_
    exact w_reti hm226 ⟨⟨_, _, rfl⟩, rfl⟩ rfl h
  · have h := (h.2.2.2.2.2.2.2.2.1) hc
    change Wp _ _ 106 _ _ _ _
    refine w_bipush (q := 108) hm226 ⟨⟨_, _, rfl⟩, rfl⟩ bipush_25 ?_
    exact w_reti hm226 ⟨⟨_, _, rfl⟩, rfl⟩ rfl h
  · have h := (h.2.2.2.2.2.2.2.2.2.1) hc
    change Wp _ _ 106 _ _ _ _
    refine w_bipush (q := 108) hm226 ⟨⟨_, _, rfl⟩, rfl⟩ bipush_25 ?_
    exact w_reti hm226 ⟨⟨_, _, rfl⟩, rfl⟩ rfl h
  · have h := (h.2.2.2.2.2.2.2.2.2.2.1) hc
    change Wp _ _ 106 _ _ _ _
    refine w_bipush (q := 108) hm226 ⟨⟨_, _, rfl⟩, rfl⟩ bipush_25 ?_
    exact w_reti hm226 ⟨⟨_, _, rfl⟩, rfl⟩ rfl h
  · have h := (h.2.2.2.2.2.2.2.2.2.2.2.1) hc
    change Wp _ _ 106 _ _ _ _
    refine w_bipush (q := 108) hm226 ⟨⟨_, _, rfl⟩, rfl⟩ bipush_25 ?_
    exact w_reti hm226 ⟨⟨_, _, rfl⟩, rfl⟩ rfl h
  · have h := (h.2.2.2.2.2.2.2.2.2.2.2.2.1) hc
    change Wp _ _ 106 _ _ _ _
    refine w_bipush (q := 108) hm226 ⟨⟨_, _, rfl⟩, rfl⟩ bipush_25 ?_
    exact w_reti hm226 ⟨⟨_, _, rfl⟩, rfl⟩ rfl h
  · have h := (h.2.2.2.2.2.2.2.2.2.2.2.2.2.1) hc
    change Wp _ _ 106 _ _ _ _
    refine w_bipush (q := 108) hm226 ⟨⟨_, _, rfl⟩, rfl⟩ bipush_25 ?_
    exact w_reti hm226 ⟨⟨_, _, rfl⟩, rfl⟩ rfl h
  · have h := (h.2.2.2.2.2.2.2.2.2.2.2.2.2.2.1) hc
    change Wp _ _ 106 _ _ _ _
    refine w_bipush (q := 108) hm226 ⟨⟨_, _, rfl⟩, rfl⟩ bipush_25 ?_
    exact w_reti hm226 ⟨⟨_, _, rfl⟩, rfl⟩ rfl h
  · have h := (h.2.2.2.2.2.2.2.2.2.2.2.2.2.2.2.1) hc
    change Wp _ _ 106 _ _ _ _
    refine w_bipush (q := 108) hm226 ⟨⟨_, _, rfl⟩, rfl⟩ bipush_25 ?_
    exact w_reti hm226 ⟨⟨_, _, rfl⟩, rfl⟩ rfl h
  · have h := (h.2.2.2.2.2.2.2.2.2.2.2.2.2.2.2.2.1) hc
    change Wp _ _ 106 _ _ _ _
    refine w_bipush (q := 108) hm226 ⟨⟨_, _, rfl⟩, rfl⟩ bipush_25 ?_
    exact w_reti hm226 ⟨⟨_, _, rfl⟩, rfl⟩ rfl h
  · have h := (h.2.2.2.2.2.2.2.2.2.2.2.2.2.2.2.2.2.1) hc
    change Wp _ _ 106 _ _ _ _
    refine w_bipush (q := 108) hm226 ⟨⟨_, _, rfl⟩, rfl⟩ bipush_25 ?_
    exact w_reti hm226 ⟨⟨_, _, rfl⟩, rfl⟩ rfl h
  · have h := (h.2.2.2.2.2.2.2.2.2.2.2.2.2.2.2.2.2.2.1) hc
    change Wp _ _ 106 _ _ _ _
    refine w_bipush (q := 108) hm226 ⟨⟨_, _, rfl⟩, rfl⟩ bipush_25 ?_
    exact w_reti hm226 ⟨⟨_, _, rfl⟩, rfl⟩ rfl h
  · have h := (h.2.2.2.2.2.2.2.2.2.2.2.2.2.2.2.2.2.2.2.1) hc
    change Wp _ _ 104 _ _ _ _
    refine w_iload_n (q := 105) hm226 ⟨⟨_, _, rfl⟩, rfl⟩ rfl ?_
    exact w_reti hm226 ⟨⟨_, _, rfl⟩, rfl⟩ rfl h
  · have h := (h.2.2.2.2.2.2.2.2.2.2.2.2.2.2.2.2.2.2.2.2.1) hc
    change Wp _ _ 104 _ _ _ _
    refine w_iload_n (q := 105) hm226 ⟨⟨_, _, rfl⟩, rfl⟩ rfl ?_
    exact w_reti hm226 ⟨⟨_, _, rfl⟩, rfl⟩ rfl h
  · have h := (h.2.2.2.2.2.2.2.2.2.2.2.2.2.2.2.2.2.2.2.2.2.1) hc
    change Wp _ _ 104 _ _ _ _
    refine w_iload_n (q := 105) hm226 ⟨⟨_, _, rfl⟩, rfl⟩ rfl ?_
    exact w_reti hm226 ⟨⟨_, _, rfl⟩, rfl⟩ rfl h
  · have h := (h.2.2.2.2.2.2.2.2.2.2.2.2.2.2.2.2.2.2.2.2.2.2) hc
    change Wp _ _ 106 _ _ _ _
    refine w_bipush (q := 108) hm226 ⟨⟨_, _, rfl⟩, rfl⟩ bipush_25 ?_
    exact w_reti hm226 ⟨⟨_, _, rfl⟩, rfl⟩ rfl h
theorem v_X8_scanDigits_38 {d : Nat} {x1 : Int32} {x2 : Int32} {m : dM} {Q : Int32 → dM → Prop} (h : j_X8_scanDigits_38_5 (d + 1) x1 x2 (0 : Int64) x2 m Q) : c_X8_scanDigits_38 (d + 1) x1 x2 m Q := by
  refine w_lconst (q := 1) hm229 ⟨⟨_, _, rfl⟩, rfl⟩ lconst_0 ?_
  refine w_lstore_n (q := 2) (l' := [oR 38, oI x1, oI x2, oL (0 : Int64), none, none]) hm229 ⟨⟨_, _, rfl⟩, rfl⟩ rfl rfl rfl ?_
  refine w_iload_n (q := 3) hm229 ⟨⟨_, _, rfl⟩, rfl⟩ rfl ?_
  refine w_istore (q := 5) (l' := [oR 38, oI x1, oI x2, oL (0 : Int64), none, oI x2]) hm229 ⟨⟨_, _, rfl⟩, rfl⟩ rfl rfl rfl ?_
  exact h
theorem v_X8_scanDigits_38_5 {d : Nat} {x1 : Int32} {x2 : Int32} {y3 : Int64} {x5 : Int32} {m : dM} {Q : Int32 → dM → Prop} (h : (((m.1 38 5).toInt ≤ x5.toInt → j_X8_scanDigits_38_54 (d + 1) x1 x2 y3 x5 m Q) ∧ (x5.toInt < (m.1 38 5).toInt → ((4 < (x5 - x2).toInt → j_X8_scanDigits_38_54 (d + 1) x1 x2 y3 x5 m Q) ∧ ((x5 - x2).toInt ≤ 4 → c_X8_isDigitAt_38 d x5 m (fun r1 m1 => ((r1.toInt = 0 → j_X8_scanDigits_38_54 (d + 1) x1 x2 y3 x5 m1 Q) ∧ (r1.toInt ≠ 0 → c_X8_byteAt_38 d x5 m1 (fun r2 m2 => j_X8_scanDigits_38_5 (d + 1) x1 x2 ((y3 * (10 : Int64)) + (r2 - (48 : Int32)).toInt64) (x5 + (1 : Int32)) m2 Q))))))))) : j_X8_scanDigits_38_5 (d + 1) x1 x2 y3 x5 m Q := by
  refine w_iload (q := 7) hm229 ⟨⟨_, _, rfl⟩, rfl⟩ rfl ?_
  refine w_aload_n (q := 8) hm229 ⟨⟨_, _, rfl⟩, rfl⟩ rfl ?_
  refine w_getf (q := 11) (v := (m.1 38 5)) hm229 ⟨⟨_, _, rfl⟩, rfl⟩ rfl rfl ?_
  refine w_icmp_ge (q := 14) (X := x5.toInt) (Y := (m.1 38 5).toInt) hm229 ⟨⟨_, _, rfl⟩, rfl⟩ rfl rfl (fun hc => ?_) (fun hc => ?_)
  · have h := h.1 hc
    exact h
  · have h := h.2 hc
    refine w_iload (q := 16) hm229 ⟨⟨_, _, rfl⟩, rfl⟩ rfl ?_
    refine w_iload_n (q := 17) hm229 ⟨⟨_, _, rfl⟩, rfl⟩ rfl ?_
    refine w_isub (q := 18) hm229 ⟨⟨_, _, rfl⟩, rfl⟩ ?_
    refine w_iconst (q := 19) hm229 ⟨⟨_, _, rfl⟩, rfl⟩ iconst_4 ?_
    refine w_icmp_gt (q := 22) (X := (x5 - x2).toInt) (Y := 4) hm229 ⟨⟨_, _, rfl⟩, rfl⟩ rfl (by decide) (fun hc => ?_) (fun hc => ?_)
    · have h := h.1 hc
      exact h
    · have h := h.2 hc
      refine w_aload_n (q := 23) hm229 ⟨⟨_, _, rfl⟩, rfl⟩ rfl ?_
      refine w_iload (q := 25) hm229 ⟨⟨_, _, rfl⟩, rfl⟩ rfl ?_
      refine w_call (q := 28) (n := 1) (vs := [.inr (.inr (some 38)), .inl x5]) (rest := []) (la := [oR 38, oI x5, none]) hm229 ⟨⟨_, _, rfl⟩, rfl⟩ rfl rfl rfl rfl hm223 rfl rfl (fun _ => ⟨_, _, rfl, rfl⟩) rfl (Wp.mono h ?_)
      rintro _ m1 ⟨r1, rfl, h⟩
      change Wp _ _ 28 _ [.inl r1] _ _
      refine w_if_eq (q := 31) (X := r1.toInt) hm229 ⟨⟨_, _, rfl⟩, rfl⟩ rfl (fun hc => ?_) (fun hc => ?_)
      · have h := h.1 hc
        exact h
      · have h := h.2 hc
        refine w_lload_n (q := 32) hm229 ⟨⟨_, _, rfl⟩, rfl⟩ rfl ?_
        refine w_ldc2_w (q := 35) hm229 ⟨⟨_, _, rfl⟩, rfl⟩ ldc2_10 ?_
        refine w_lmul (q := 36) hm229 ⟨⟨_, _, rfl⟩, rfl⟩ ?_
        refine w_aload_n (q := 37) hm229 ⟨⟨_, _, rfl⟩, rfl⟩ rfl ?_
        refine w_iload (q := 39) hm229 ⟨⟨_, _, rfl⟩, rfl⟩ rfl ?_
        refine w_call (q := 42) (n := 0) (vs := [.inr (.inr (some 38)), .inl x5]) (rest := [.inr (.inl (y3 * (10 : Int64)))]) (la := [oR 38, oI x5]) hm229 ⟨⟨_, _, rfl⟩, rfl⟩ rfl rfl rfl rfl hm221 rfl rfl (fun _ => ⟨_, _, rfl, rfl⟩) rfl (Wp.mono h ?_)
        rintro _ m2 ⟨r2, rfl, h⟩
        change Wp _ _ 42 _ [.inl r2, .inr (.inl (y3 * (10 : Int64)))] _ _
        refine w_bipush (q := 44) hm229 ⟨⟨_, _, rfl⟩, rfl⟩ bipush_48 ?_
        refine w_isub (q := 45) hm229 ⟨⟨_, _, rfl⟩, rfl⟩ ?_
        refine w_i2l (q := 46) hm229 ⟨⟨_, _, rfl⟩, rfl⟩ ?_
        refine w_ladd (q := 47) hm229 ⟨⟨_, _, rfl⟩, rfl⟩ ?_
        refine w_lstore_n (q := 48) (l' := [oR 38, oI x1, oI x2, oL ((y3 * (10 : Int64)) + (r2 - (48 : Int32)).toInt64), none, oI x5]) hm229 ⟨⟨_, _, rfl⟩, rfl⟩ rfl rfl rfl ?_
        refine w_iinc (q := 51) (l' := [oR 38, oI x1, oI x2, oL ((y3 * (10 : Int64)) + (r2 - (48 : Int32)).toInt64), none, oI (x5 + (1 : Int32))]) hm229 ⟨⟨_, _, rfl⟩, rfl⟩ rfl rfl rfl iconst_1 rfl ?_
        refine w_goto (q := 5) hm229 ⟨_, _, rfl⟩ ?_
        exact h
theorem v_X8_scanDigits_38_54 {d : Nat} {x1 : Int32} {x2 : Int32} {y3 : Int64} {x5 : Int32} {m : dM} {Q : Int32 → dM → Prop} (h : ((0 ≤ x1.toInt ∧ x1.toInt < 401) ∧ (((x5 - x2).toInt ≤ 4 → ((0 ≤ x1.toInt ∧ x1.toInt < 401) ∧ Q x5 (dSet (dSetL m 41 x1.toNatClampNeg y3) 39 x1.toNatClampNeg (23 : Int32)))) ∧ (4 < (x5 - x2).toInt → ((0 ≤ x1.toInt ∧ x1.toInt < 401) ∧ Q x5 (dSet (dSetL m 41 x1.toNatClampNeg y3) 39 x1.toNatClampNeg (25 : Int32))))))) : j_X8_scanDigits_38_54 (d + 1) x1 x2 y3 x5 m Q := by
  refine w_aload_n (q := 55) hm229 ⟨⟨_, _, rfl⟩, rfl⟩ rfl ?_
  refine w_getr (q := 58) hm229 ⟨⟨_, _, rfl⟩, rfl⟩ rfl ?_
  refine w_iload_n (q := 59) hm229 ⟨⟨_, _, rfl⟩, rfl⟩ rfl ?_
  refine w_lload_n (q := 60) hm229 ⟨⟨_, _, rfl⟩, rfl⟩ rfl ?_
  obtain ⟨hi, h⟩ := h
  refine w_last (q := 61) hm229 ⟨⟨_, _, rfl⟩, rfl⟩ rfl hi rfl rfl ?_
  refine w_aload_n (q := 62) hm229 ⟨⟨_, _, rfl⟩, rfl⟩ rfl ?_
  refine w_getr (q := 65) hm229 ⟨⟨_, _, rfl⟩, rfl⟩ rfl ?_
  refine w_iload_n (q := 66) hm229 ⟨⟨_, _, rfl⟩, rfl⟩ rfl ?_
  refine w_iload (q := 68) hm229 ⟨⟨_, _, rfl⟩, rfl⟩ rfl ?_
  refine w_iload_n (q := 69) hm229 ⟨⟨_, _, rfl⟩, rfl⟩ rfl ?_
  refine w_isub (q := 70) hm229 ⟨⟨_, _, rfl⟩, rfl⟩ ?_
  refine w_iconst (q := 71) hm229 ⟨⟨_, _, rfl⟩, rfl⟩ iconst_4 ?_
  refine w_icmp_le (q := 74) (X := (x5 - x2).toInt) (Y := 4) hm229 ⟨⟨_, _, rfl⟩, rfl⟩ rfl (by decide) (fun hc => ?_) (fun hc => ?_)
  · have h := h.1 hc
    refine w_bipush (q := 81) hm229 ⟨⟨_, _, rfl⟩, rfl⟩ bipush_23 ?_
    obtain ⟨hi, h⟩ := h
    refine w_iast (q := 82) hm229 ⟨⟨_, _, rfl⟩, rfl⟩ rfl hi rfl rfl ?_
    refine w_iload (q := 84) hm229 ⟨⟨_, _, rfl⟩, rfl⟩ rfl ?_
    exact w_reti hm229 ⟨⟨_, _, rfl⟩, rfl⟩ rfl h
  · have h := h.2 hc
    refine w_bipush (q := 76) hm229 ⟨⟨_, _, rfl⟩, rfl⟩ bipush_25 ?_
    refine w_goto (q := 81) hm229 ⟨_, _, rfl⟩ ?_
    obtain ⟨hi, h⟩ := h
    refine w_iast (q := 82) hm229 ⟨⟨_, _, rfl⟩, rfl⟩ rfl hi rfl rfl ?_
    refine w_iload (q := 84) hm229 ⟨⟨_, _, rfl⟩, rfl⟩ rfl ?_
    exact w_reti hm229 ⟨⟨_, _, rfl⟩, rfl⟩ rfl h
theorem v_X8_withLetter {d : Nat} {y0 : Int64} {x2 : Int32} {m : dM} {Q : Int64 → dM → Prop} (h : Q ((y0 * (27 : Int64)) + ((x2 - (97 : Int32)) + (1 : Int32)).toInt64) m) : c_X8_withLetter (d + 1) y0 x2 m Q := by
  refine w_lload_n (q := 1) hm220 ⟨⟨_, _, rfl⟩, rfl⟩ rfl ?_
  refine w_ldc2_w (q := 4) hm220 ⟨⟨_, _, rfl⟩, rfl⟩ ldc2_27 ?_
  refine w_lmul (q := 5) hm220 ⟨⟨_, _, rfl⟩, rfl⟩ ?_
  refine w_iload_n (q := 6) hm220 ⟨⟨_, _, rfl⟩, rfl⟩ rfl ?_
  refine w_bipush (q := 8) hm220 ⟨⟨_, _, rfl⟩, rfl⟩ bipush_97 ?_
  refine w_isub (q := 9) hm220 ⟨⟨_, _, rfl⟩, rfl⟩ ?_
  refine w_iconst (q := 10) hm220 ⟨⟨_, _, rfl⟩, rfl⟩ iconst_1 ?_
  refine w_iadd (q := 11) hm220 ⟨⟨_, _, rfl⟩, rfl⟩ ?_
  refine w_i2l (q := 12) hm220 ⟨⟨_, _, rfl⟩, rfl⟩ ?_
  refine w_ladd (q := 13) hm220 ⟨⟨_, _, rfl⟩, rfl⟩ ?_
  exact w_retl hm220 ⟨⟨_, _, rfl⟩, rfl⟩ rfl h
theorem v_X8_wordOrName_38 {d : Nat} {y1 : Int64} {m : dM} {Q : Int32 → dM → Prop} (h : j_X8_wordOrName_38_2 (d + 1) y1 (0 : Int32) m Q) : c_X8_wordOrName_38 (d + 1) y1 m Q := by
  refine w_iconst (q := 1) hm228 ⟨⟨_, _, rfl⟩, rfl⟩ iconst_0 ?_
  refine w_istore_n (q := 2) (l' := [oR 38, oL y1, none, oI (0 : Int32)]) hm228 ⟨⟨_, _, rfl⟩, rfl⟩ rfl rfl rfl ?_
  exact h
theorem v_X8_wordOrName_38_2 {d : Nat} {y1 : Int64} {x3 : Int32} {m : dM} {Q : Int32 → dM → Prop} (h : ((22 ≤ x3.toInt → Q (22 : Int32) m) ∧ (x3.toInt < 22 → ((0 ≤ x3.toInt ∧ x3.toInt < 22) ∧ (((lg_cmp (tKv x3.toNatClampNeg) y1).toInt ≠ 0 → j_X8_wordOrName_38_2 (d + 1) y1 (x3 + (1 : Int32)) m Q) ∧ ((lg_cmp (tKv x3.toNatClampNeg) y1).toInt = 0 → Q x3 m)))))) : j_X8_wordOrName_38_2 (d + 1) y1 x3 m Q := by
  refine w_iload_n (q := 3) hm228 ⟨⟨_, _, rfl⟩, rfl⟩ rfl ?_
  refine w_bipush (q := 5) hm228 ⟨⟨_, _, rfl⟩, rfl⟩ bipush_22 ?_
  refine w_icmp_ge (q := 8) (X := x3.toInt) (Y := 22) hm228 ⟨⟨_, _, rfl⟩, rfl⟩ rfl (by decide) (fun hc => ?_) (fun hc => ?_)
  · have h := h.1 hc
    refine w_bipush (q := 29) hm228 ⟨⟨_, _, rfl⟩, rfl⟩ bipush_22 ?_
    exact w_reti hm228 ⟨⟨_, _, rfl⟩, rfl⟩ rfl h
  · have h := h.2 hc
    refine w_aload_n (q := 9) hm228 ⟨⟨_, _, rfl⟩, rfl⟩ rfl ?_
    refine w_getr (q := 12) hm228 ⟨⟨_, _, rfl⟩, rfl⟩ rfl ?_
    refine w_iload_n (q := 13) hm228 ⟨⟨_, _, rfl⟩, rfl⟩ rfl ?_
    obtain ⟨hi, h⟩ := h
    refine w_lald (q := 14) (v := (tKv x3.toNatClampNeg)) hm228 ⟨⟨_, _, rfl⟩, rfl⟩ rfl hi rfl rfl ?_
    refine w_lload_n (q := 15) hm228 ⟨⟨_, _, rfl⟩, rfl⟩ rfl ?_
    refine w_lcmp (q := 16) hm228 ⟨⟨_, _, rfl⟩, rfl⟩ ?_
    refine w_if_ne (q := 19) (X := (lg_cmp (tKv x3.toNatClampNeg) y1).toInt) hm228 ⟨⟨_, _, rfl⟩, rfl⟩ rfl (fun hc => ?_) (fun hc => ?_)
    · have h := h.1 hc
      refine w_iinc (q := 24) (l' := [oR 38, oL y1, none, oI (x3 + (1 : Int32))]) hm228 ⟨⟨_, _, rfl⟩, rfl⟩ rfl rfl rfl iconst_1 rfl ?_
      refine w_goto (q := 2) hm228 ⟨_, _, rfl⟩ ?_
      exact h
    · have h := h.2 hc
      refine w_iload_n (q := 20) hm228 ⟨⟨_, _, rfl⟩, rfl⟩ rfl ?_
      exact w_reti hm228 ⟨⟨_, _, rfl⟩, rfl⟩ rfl h
theorem v_X8_scanLetters_38 {d : Nat} {x1 : Int32} {x2 : Int32} {m : dM} {Q : Int32 → dM → Prop} (h : j_X8_scanLetters_38_5 (d + 1) x1 x2 (0 : Int64) x2 m Q) : c_X8_scanLetters_38 (d + 1) x1 x2 m Q := by
  refine w_lconst (q := 1) hm227 ⟨⟨_, _, rfl⟩, rfl⟩ lconst_0 ?_
  refine w_lstore_n (q := 2) (l' := [oR 38, oI x1, oI x2, oL (0 : Int64), none, none]) hm227 ⟨⟨_, _, rfl⟩, rfl⟩ rfl rfl rfl ?_
  refine w_iload_n (q := 3) hm227 ⟨⟨_, _, rfl⟩, rfl⟩ rfl ?_
  refine w_istore (q := 5) (l' := [oR 38, oI x1, oI x2, oL (0 : Int64), none, oI x2]) hm227 ⟨⟨_, _, rfl⟩, rfl⟩ rfl rfl rfl ?_
  exact h
theorem v_X8_scanLetters_38_5 {d : Nat} {x1 : Int32} {x2 : Int32} {y3 : Int64} {x5 : Int32} {m : dM} {Q : Int32 → dM → Prop} (h : (((m.1 38 5).toInt ≤ x5.toInt → j_X8_scanLetters_38_49 (d + 1) x1 x2 y3 x5 m Q) ∧ (x5.toInt < (m.1 38 5).toInt → ((8 < (x5 - x2).toInt → j_X8_scanLetters_38_49 (d + 1) x1 x2 y3 x5 m Q) ∧ ((x5 - x2).toInt ≤ 8 → c_X8_isLetterAt_38 d x5 m (fun r1 m1 => ((r1.toInt = 0 → j_X8_scanLetters_38_49 (d + 1) x1 x2 y3 x5 m1 Q) ∧ (r1.toInt ≠ 0 → c_X8_byteAt_38 d x5 m1 (fun r2 m2 => c_X8_withLetter d y3 r2 m2 (fun r3 m3 => j_X8_scanLetters_38_5 (d + 1) x1 x2 r3 (x5 + (1 : Int32)) m3 Q)))))))))) : j_X8_scanLetters_38_5 (d + 1) x1 x2 y3 x5 m Q := by
  refine w_iload (q := 7) hm227 ⟨⟨_, _, rfl⟩, rfl⟩ rfl ?_
  refine w_aload_n (q := 8) hm227 ⟨⟨_, _, rfl⟩, rfl⟩ rfl ?_
  refine w_getf (q := 11) (v := (m.1 38 5)) hm227 ⟨⟨_, _, rfl⟩, rfl⟩ rfl rfl ?_
  refine w_icmp_ge (q := 14) (X := x5.toInt) (Y := (m.1 38 5).toInt) hm227 ⟨⟨_, _, rfl⟩, rfl⟩ rfl rfl (fun hc => ?_) (fun hc => ?_)
  · have h := h.1 hc
    exact h
  · have h := h.2 hc
    refine w_iload (q := 16) hm227 ⟨⟨_, _, rfl⟩, rfl⟩ rfl ?_
    refine w_iload_n (q := 17) hm227 ⟨⟨_, _, rfl⟩, rfl⟩ rfl ?_
    refine w_isub (q := 18) hm227 ⟨⟨_, _, rfl⟩, rfl⟩ ?_
    refine w_bipush (q := 20) hm227 ⟨⟨_, _, rfl⟩, rfl⟩ bipush_8 ?_
    refine w_icmp_gt (q := 23) (X := (x5 - x2).toInt) (Y := 8) hm227 ⟨⟨_, _, rfl⟩, rfl⟩ rfl (by decide) (fun hc => ?_) (fun hc => ?_)
    · have h := h.1 hc
      exact h
    · have h := h.2 hc
      refine w_aload_n (q := 24) hm227 ⟨⟨_, _, rfl⟩, rfl⟩ rfl ?_
      refine w_iload (q := 26) hm227 ⟨⟨_, _, rfl⟩, rfl⟩ rfl ?_
      refine w_call (q := 29) (n := 1) (vs := [.inr (.inr (some 38)), .inl x5]) (rest := []) (la := [oR 38, oI x5, none]) hm227 ⟨⟨_, _, rfl⟩, rfl⟩ rfl rfl rfl rfl hm222 rfl rfl (fun _ => ⟨_, _, rfl, rfl⟩) rfl (Wp.mono h ?_)
      rintro _ m1 ⟨r1, rfl, h⟩
      change Wp _ _ 29 _ [.inl r1] _ _
      refine w_if_eq (q := 32) (X := r1.toInt) hm227 ⟨⟨_, _, rfl⟩, rfl⟩ rfl (fun hc => ?_) (fun hc => ?_)
      · have h := h.1 hc
        exact h
      · have h := h.2 hc
        refine w_lload_n (q := 33) hm227 ⟨⟨_, _, rfl⟩, rfl⟩ rfl ?_
        refine w_aload_n (q := 34) hm227 ⟨⟨_, _, rfl⟩, rfl⟩ rfl ?_
        refine w_iload (q := 36) hm227 ⟨⟨_, _, rfl⟩, rfl⟩ rfl ?_
        refine w_call (q := 39) (n := 0) (vs := [.inr (.inr (some 38)), .inl x5]) (rest := [.inr (.inl y3)]) (la := [oR 38, oI x5]) hm227 ⟨⟨_, _, rfl⟩, rfl⟩ rfl rfl rfl rfl hm221 rfl rfl (fun _ => ⟨_, _, rfl, rfl⟩) rfl (Wp.mono h ?_)
        rintro _ m2 ⟨r2, rfl, h⟩
        change Wp _ _ 39 _ [.inl r2, .inr (.inl y3)] _ _
        refine w_call (q := 42) (n := 0) (vs := [.inr (.inl y3), .inl r2]) (rest := []) (la := [oL y3, none, oI r2]) hm227 ⟨⟨_, _, rfl⟩, rfl⟩ rfl rfl rfl rfl hm220 rfl rfl (fun hz => absurd hz (by decide)) rfl (Wp.mono h ?_)
        rintro _ m3 ⟨r3, rfl, h⟩
        change Wp _ _ 42 _ [.inr (.inl r3)] _ _
        refine w_lstore_n (q := 43) (l' := [oR 38, oI x1, oI x2, oL r3, none, oI x5]) hm227 ⟨⟨_, _, rfl⟩, rfl⟩ rfl rfl rfl ?_
        refine w_iinc (q := 46) (l' := [oR 38, oI x1, oI x2, oL r3, none, oI (x5 + (1 : Int32))]) hm227 ⟨⟨_, _, rfl⟩, rfl⟩ rfl rfl rfl iconst_1 rfl ?_
        refine w_goto (q := 5) hm227 ⟨_, _, rfl⟩ ?_
        exact h
theorem v_X8_scanLetters_38_49 {d : Nat} {x1 : Int32} {x2 : Int32} {y3 : Int64} {x5 : Int32} {m : dM} {Q : Int32 → dM → Prop} (h : ((0 ≤ x1.toInt ∧ x1.toInt < 401) ∧ (((x5 - x2).toInt ≤ 8 → c_X8_wordOrName_38 d y3 (dSetL m 41 x1.toNatClampNeg y3) (fun r1 m1 => ((0 ≤ x1.toInt ∧ x1.toInt < 401) ∧ Q x5 (dSet m1 39 x1.toNatClampNeg r1)))) ∧ (8 < (x5 - x2).toInt → ((0 ≤ x1.toInt ∧ x1.toInt < 401) ∧ Q x5 (dSet (dSetL m 41 x1.toNatClampNeg y3) 39 x1.toNatClampNeg (25 : Int32))))))) : j_X8_scanLetters_38_49 (d + 1) x1 x2 y3 x5 m Q := by
  refine w_aload_n (q := 50) hm227 ⟨⟨_, _, rfl⟩, rfl⟩ rfl ?_
  refine w_getr (q := 53) hm227 ⟨⟨_, _, rfl⟩, rfl⟩ rfl ?_
  refine w_iload_n (q := 54) hm227 ⟨⟨_, _, rfl⟩, rfl⟩ rfl ?_
  refine w_lload_n (q := 55) hm227 ⟨⟨_, _, rfl⟩, rfl⟩ rfl ?_
  obtain ⟨hi, h⟩ := h
  refine w_last (q := 56) hm227 ⟨⟨_, _, rfl⟩, rfl⟩ rfl hi rfl rfl ?_
  refine w_aload_n (q := 57) hm227 ⟨⟨_, _, rfl⟩, rfl⟩ rfl ?_
  refine w_getr (q := 60) hm227 ⟨⟨_, _, rfl⟩, rfl⟩ rfl ?_
  refine w_iload_n (q := 61) hm227 ⟨⟨_, _, rfl⟩, rfl⟩ rfl ?_
  refine w_iload (q := 63) hm227 ⟨⟨_, _, rfl⟩, rfl⟩ rfl ?_
  refine w_iload_n (q := 64) hm227 ⟨⟨_, _, rfl⟩, rfl⟩ rfl ?_
  refine w_isub (q := 65) hm227 ⟨⟨_, _, rfl⟩, rfl⟩ ?_
  refine w_bipush (q := 67) hm227 ⟨⟨_, _, rfl⟩, rfl⟩ bipush_8 ?_
  refine w_icmp_le (q := 70) (X := (x5 - x2).toInt) (Y := 8) hm227 ⟨⟨_, _, rfl⟩, rfl⟩ rfl (by decide) (fun hc => ?_) (fun hc => ?_)
  · have h := h.1 hc
    refine w_aload_n (q := 76) hm227 ⟨⟨_, _, rfl⟩, rfl⟩ rfl ?_
    refine w_lload_n (q := 77) hm227 ⟨⟨_, _, rfl⟩, rfl⟩ rfl ?_
    refine w_call (q := 80) (n := 1) (vs := [.inr (.inr (some 38)), .inr (.inl y3)]) (rest := [.inl x1, .inr (.inr (some 39))]) (la := [oR 38, oL y3, none, none]) hm227 ⟨⟨_, _, rfl⟩, rfl⟩ rfl rfl rfl rfl hm228 rfl rfl (fun _ => ⟨_, _, rfl, rfl⟩) rfl (Wp.mono h ?_)
    rintro _ m1 ⟨r1, rfl, h⟩
    change Wp _ _ 80 _ [.inl r1, .inl x1, .inr (.inr (some 39))] _ _
    obtain ⟨hi, h⟩ := h
    refine w_iast (q := 81) hm227 ⟨⟨_, _, rfl⟩, rfl⟩ rfl hi rfl rfl ?_
    refine w_iload (q := 83) hm227 ⟨⟨_, _, rfl⟩, rfl⟩ rfl ?_
    exact w_reti hm227 ⟨⟨_, _, rfl⟩, rfl⟩ rfl h
  · have h := h.2 hc
    refine w_bipush (q := 72) hm227 ⟨⟨_, _, rfl⟩, rfl⟩ bipush_25 ?_
    refine w_goto (q := 80) hm227 ⟨_, _, rfl⟩ ?_
    obtain ⟨hi, h⟩ := h
    refine w_iast (q := 81) hm227 ⟨⟨_, _, rfl⟩, rfl⟩ rfl hi rfl rfl ?_
    refine w_iload (q := 83) hm227 ⟨⟨_, _, rfl⟩, rfl⟩ rfl ?_
    exact w_reti hm227 ⟨⟨_, _, rfl⟩, rfl⟩ rfl h
theorem v_X8_scanOne_38 {d : Nat} {x1 : Int32} {x2 : Int32} {m : dM} {Q : Int32 → dM → Prop} (h : ((x2.toInt < (m.1 38 5).toInt → c_X8_isLetterAt_38 d x2 m (fun r1 m1 => ((r1.toInt = 0 → c_X8_isDigitAt_38 d x2 m1 (fun r2 m2 => ((r2.toInt = 0 → c_X8_byteAt_38 d x2 m2 (fun r3 m3 => c_X8_signOf d r3 m3 (fun r4 m4 => ((0 ≤ x1.toInt ∧ x1.toInt < 401) ∧ Q (x2 + (1 : Int32)) (dSet m4 39 x1.toNatClampNeg r4))))) ∧ (r2.toInt ≠ 0 → c_X8_scanDigits_38 d x1 x2 m2 (fun r5 m5 => Q r5 m5))))) ∧ (r1.toInt ≠ 0 → c_X8_scanLetters_38 d x1 x2 m1 (fun r6 m6 => Q r6 m6))))) ∧ ((m.1 38 5).toInt ≤ x2.toInt → ((0 ≤ x1.toInt ∧ x1.toInt < 401) ∧ Q x2 (dSet m 39 x1.toNatClampNeg (24 : Int32)))))) : c_X8_scanOne_38 (d + 1) x1 x2 m Q := by
  refine w_iload_n (q := 1) hm225 ⟨⟨_, _, rfl⟩, rfl⟩ rfl ?_
  refine w_aload_n (q := 2) hm225 ⟨⟨_, _, rfl⟩, rfl⟩ rfl ?_
  refine w_getf (q := 5) (v := (m.1 38 5)) hm225 ⟨⟨_, _, rfl⟩, rfl⟩ rfl rfl ?_
  refine w_icmp_lt (q := 8) (X := x2.toInt) (Y := (m.1 38 5).toInt) hm225 ⟨⟨_, _, rfl⟩, rfl⟩ rfl rfl (fun hc => ?_) (fun hc => ?_)
  · have h := h.1 hc
    refine w_aload_n (q := 19) hm225 ⟨⟨_, _, rfl⟩, rfl⟩ rfl ?_
    refine w_iload_n (q := 20) hm225 ⟨⟨_, _, rfl⟩, rfl⟩ rfl ?_
    refine w_call (q := 23) (n := 1) (vs := [.inr (.inr (some 38)), .inl x2]) (rest := []) (la := [oR 38, oI x2, none]) hm225 ⟨⟨_, _, rfl⟩, rfl⟩ rfl rfl rfl rfl hm222 rfl rfl (fun _ => ⟨_, _, rfl, rfl⟩) rfl (Wp.mono h ?_)
    rintro _ m1 ⟨r1, rfl, h⟩
    change Wp _ _ 23 _ [.inl r1] _ _
    refine w_if_eq (q := 26) (X := r1.toInt) hm225 ⟨⟨_, _, rfl⟩, rfl⟩ rfl (fun hc => ?_) (fun hc => ?_)
    · have h := h.1 hc
      refine w_aload_n (q := 34) hm225 ⟨⟨_, _, rfl⟩, rfl⟩ rfl ?_
      refine w_iload_n (q := 35) hm225 ⟨⟨_, _, rfl⟩, rfl⟩ rfl ?_
      refine w_call (q := 38) (n := 1) (vs := [.inr (.inr (some 38)), .inl x2]) (rest := []) (la := [oR 38, oI x2, none]) hm225 ⟨⟨_, _, rfl⟩, rfl⟩ rfl rfl rfl rfl hm223 rfl rfl (fun _ => ⟨_, _, rfl, rfl⟩) rfl (Wp.mono h ?_)
      rintro _ m2 ⟨r2, rfl, h⟩
      change Wp _ _ 38 _ [.inl r2] _ _
      refine w_if_eq (q := 41) (X := r2.toInt) hm225 ⟨⟨_, _, rfl⟩, rfl⟩ rfl (fun hc => ?_) (fun hc => ?_)
      · have h := h.1 hc
        refine w_aload_n (q := 49) hm225 ⟨⟨_, _, rfl⟩, rfl⟩ rfl ?_
        refine w_getr (q := 52) hm225 ⟨⟨_, _, rfl⟩, rfl⟩ rfl ?_
        refine w_iload_n (q := 53) hm225 ⟨⟨_, _, rfl⟩, rfl⟩ rfl ?_
        refine w_aload_n (q := 54) hm225 ⟨⟨_, _, rfl⟩, rfl⟩ rfl ?_
        refine w_iload_n (q := 55) hm225 ⟨⟨_, _, rfl⟩, rfl⟩ rfl ?_
        refine w_call (q := 58) (n := 0) (vs := [.inr (.inr (some 38)), .inl x2]) (rest := [.inl x1, .inr (.inr (some 39))]) (la := [oR 38, oI x2]) hm225 ⟨⟨_, _, rfl⟩, rfl⟩ rfl rfl rfl rfl hm221 rfl rfl (fun _ => ⟨_, _, rfl, rfl⟩) rfl (Wp.mono h ?_)
        rintro _ m3 ⟨r3, rfl, h⟩
        change Wp _ _ 58 _ [.inl r3, .inl x1, .inr (.inr (some 39))] _ _
        refine w_call (q := 61) (n := 0) (vs := [.inl r3]) (rest := [.inl x1, .inr (.inr (some 39))]) (la := [oI r3]) hm225 ⟨⟨_, _, rfl⟩, rfl⟩ rfl rfl rfl rfl hm226 rfl rfl (fun hz => absurd hz (by decide)) rfl (Wp.mono h ?_)
        rintro _ m4 ⟨r4, rfl, h⟩
        change Wp _ _ 61 _ [.inl r4, .inl x1, .inr (.inr (some 39))] _ _
        obtain ⟨hi, h⟩ := h
        refine w_iast (q := 62) hm225 ⟨⟨_, _, rfl⟩, rfl⟩ rfl hi rfl rfl ?_
        refine w_iload_n (q := 63) hm225 ⟨⟨_, _, rfl⟩, rfl⟩ rfl ?_
        refine w_iconst (q := 64) hm225 ⟨⟨_, _, rfl⟩, rfl⟩ iconst_1 ?_
        refine w_iadd (q := 65) hm225 ⟨⟨_, _, rfl⟩, rfl⟩ ?_
        exact w_reti hm225 ⟨⟨_, _, rfl⟩, rfl⟩ rfl h
      · have h := h.2 hc
        refine w_aload_n (q := 42) hm225 ⟨⟨_, _, rfl⟩, rfl⟩ rfl ?_
        refine w_iload_n (q := 43) hm225 ⟨⟨_, _, rfl⟩, rfl⟩ rfl ?_
        refine w_iload_n (q := 44) hm225 ⟨⟨_, _, rfl⟩, rfl⟩ rfl ?_
        refine w_call (q := 47) (n := 3) (vs := [.inr (.inr (some 38)), .inl x1, .inl x2]) (rest := []) (la := [oR 38, oI x1, oI x2, none, none, none]) hm225 ⟨⟨_, _, rfl⟩, rfl⟩ rfl rfl rfl rfl hm229 rfl rfl (fun _ => ⟨_, _, rfl, rfl⟩) rfl (Wp.mono h ?_)
        rintro _ m5 ⟨r5, rfl, h⟩
        change Wp _ _ 47 _ [.inl r5] _ _
        exact w_reti hm225 ⟨⟨_, _, rfl⟩, rfl⟩ rfl h
    · have h := h.2 hc
      refine w_aload_n (q := 27) hm225 ⟨⟨_, _, rfl⟩, rfl⟩ rfl ?_
      refine w_iload_n (q := 28) hm225 ⟨⟨_, _, rfl⟩, rfl⟩ rfl ?_
      refine w_iload_n (q := 29) hm225 ⟨⟨_, _, rfl⟩, rfl⟩ rfl ?_
      refine w_call (q := 32) (n := 3) (vs := [.inr (.inr (some 38)), .inl x1, .inl x2]) (rest := []) (la := [oR 38, oI x1, oI x2, none, none, none]) hm225 ⟨⟨_, _, rfl⟩, rfl⟩ rfl rfl rfl rfl hm227 rfl rfl (fun _ => ⟨_, _, rfl, rfl⟩) rfl (Wp.mono h ?_)
      rintro _ m6 ⟨r6, rfl, h⟩
      change Wp _ _ 32 _ [.inl r6] _ _
      exact w_reti hm225 ⟨⟨_, _, rfl⟩, rfl⟩ rfl h
  · have h := h.2 hc
    refine w_aload_n (q := 9) hm225 ⟨⟨_, _, rfl⟩, rfl⟩ rfl ?_
    refine w_getr (q := 12) hm225 ⟨⟨_, _, rfl⟩, rfl⟩ rfl ?_
    refine w_iload_n (q := 13) hm225 ⟨⟨_, _, rfl⟩, rfl⟩ rfl ?_
    refine w_bipush (q := 15) hm225 ⟨⟨_, _, rfl⟩, rfl⟩ bipush_24 ?_
    obtain ⟨hi, h⟩ := h
    refine w_iast (q := 16) hm225 ⟨⟨_, _, rfl⟩, rfl⟩ rfl hi rfl rfl ?_
    refine w_iload_n (q := 17) hm225 ⟨⟨_, _, rfl⟩, rfl⟩ rfl ?_
    exact w_reti hm225 ⟨⟨_, _, rfl⟩, rfl⟩ rfl h
theorem v_X8_scan_38_1 {d : Nat} {x2 : Int32} {m : dM} {Q : dM → Prop} (h : j_X8_scan_38_1_20 (d + 1) (0 : Int32) (0 : Int32) (dSet (dTx m) 38 5 (if (2000 : Int32) < x2 then (2000 : Int32) else x2)) Q) : c_X8_scan_38_1 (d + 1) x2 m Q := by
  refine w_aload_n (q := 1) hm215 ⟨⟨_, _, rfl⟩, rfl⟩ rfl ?_
  refine w_aload_n (q := 2) hm215 ⟨⟨_, _, rfl⟩, rfl⟩ rfl ?_
  refine w_putt (q := 5) hm215 ⟨⟨_, _, rfl⟩, rfl⟩ rfl rfl rfl rfl ?_
  refine w_aload_n (q := 6) hm215 ⟨⟨_, _, rfl⟩, rfl⟩ rfl ?_
  refine w_iload_n (q := 7) hm215 ⟨⟨_, _, rfl⟩, rfl⟩ rfl ?_
  refine w_aload_n (q := 8) hm215 ⟨⟨_, _, rfl⟩, rfl⟩ rfl ?_
  refine w_alen (q := 9) hm215 ⟨⟨_, _, rfl⟩, rfl⟩ rfl alen_2000 ?_
  refine w_min (q := 12) hm215 ⟨⟨_, _, rfl⟩, rfl⟩ rfl rfl ?_
  refine w_putf (q := 15) hm215 ⟨⟨_, _, rfl⟩, rfl⟩ rfl rfl rfl ?_
  refine w_iconst (q := 16) hm215 ⟨⟨_, _, rfl⟩, rfl⟩ iconst_0 ?_
  refine w_istore_n (q := 17) (l' := [oR 38, oR 1, oI x2, oI (0 : Int32), none]) hm215 ⟨⟨_, _, rfl⟩, rfl⟩ rfl rfl rfl ?_
  refine w_iconst (q := 18) hm215 ⟨⟨_, _, rfl⟩, rfl⟩ iconst_0 ?_
  refine w_istore (q := 20) (l' := [oR 38, oR 1, oI x2, oI (0 : Int32), oI (0 : Int32)]) hm215 ⟨⟨_, _, rfl⟩, rfl⟩ rfl rfl rfl ?_
  exact Wp.wk [true, false, false, true, true] h
theorem v_X8_scan_38_1_20 {d : Nat} {x3 : Int32} {x4 : Int32} {m : dM} {Q : dM → Prop} (h : ((400 < x4.toInt → Q m) ∧ (x4.toInt ≤ 400 → c_X8_pastBlanks_38 d x3 m (fun r1 m1 => ((0 ≤ x4.toInt ∧ x4.toInt < 401) ∧ c_X8_scanOne_38 d x4 r1 (dSet m1 40 x4.toNatClampNeg r1) (fun r2 m2 => ((0 ≤ x4.toInt ∧ x4.toInt < 401) ∧ (((m2.1 39 x4.toNatClampNeg).toInt = 24 → j_X8_scan_38_1_74 (d + 1) m2 Q) ∧ ((m2.1 39 x4.toNatClampNeg).toInt ≠ 24 → ((0 ≤ x4.toInt ∧ x4.toInt < 401) ∧ (((m2.1 39 x4.toNatClampNeg).toInt ≠ 25 → j_X8_scan_38_1_20 (d + 1) r2 (x4 + (1 : Int32)) m2 Q) ∧ ((m2.1 39 x4.toNatClampNeg).toInt = 25 → j_X8_scan_38_1_74 (d + 1) m2 Q)))))))))))) : j_X8_scan_38_1_20 (d + 1) x3 x4 m Q := by
  refine w_iload (q := 22) hm215 ⟨⟨_, _, rfl⟩, rfl⟩ rfl ?_
  refine w_sipush (q := 25) hm215 ⟨⟨_, _, rfl⟩, rfl⟩ sipush_400 ?_
  refine w_icmp_gt (q := 28) (X := x4.toInt) (Y := 400) hm215 ⟨⟨_, _, rfl⟩, rfl⟩ rfl (by decide) (fun hc => ?_) (fun hc => ?_)
  · have h := h.1 hc
    exact w_retv hm215 ⟨⟨_, _, rfl⟩, rfl⟩ rfl h
  · have h := h.2 hc
    refine w_aload_n (q := 29) hm215 ⟨⟨_, _, rfl⟩, rfl⟩ rfl ?_
    refine w_iload_n (q := 30) hm215 ⟨⟨_, _, rfl⟩, rfl⟩ rfl ?_
    refine w_call (q := 33) (n := 2) (vs := [.inr (.inr (some 38)), .inl x3]) (rest := []) (la := [oR 38, oI x3, none, none]) hm215 ⟨⟨_, _, rfl⟩, rfl⟩ rfl rfl rfl rfl hm224 rfl rfl (fun _ => ⟨_, _, rfl, rfl⟩) rfl (Wp.mono h ?_)
    rintro _ m1 ⟨r1, rfl, h⟩
    change Wp _ _ 33 _ [.inl r1] _ _
    refine w_istore_n (q := 34) (l' := [oR 38, none, none, oI r1, oI x4]) hm215 ⟨⟨_, _, rfl⟩, rfl⟩ rfl rfl rfl ?_
    refine w_aload_n (q := 35) hm215 ⟨⟨_, _, rfl⟩, rfl⟩ rfl ?_
    refine w_getr (q := 38) hm215 ⟨⟨_, _, rfl⟩, rfl⟩ rfl ?_
    refine w_iload (q := 40) hm215 ⟨⟨_, _, rfl⟩, rfl⟩ rfl ?_
    refine w_iload_n (q := 41) hm215 ⟨⟨_, _, rfl⟩, rfl⟩ rfl ?_
    obtain ⟨hi, h⟩ := h
    refine w_iast (q := 42) hm215 ⟨⟨_, _, rfl⟩, rfl⟩ rfl hi rfl rfl ?_
    refine w_aload_n (q := 43) hm215 ⟨⟨_, _, rfl⟩, rfl⟩ rfl ?_
    refine w_iload (q := 45) hm215 ⟨⟨_, _, rfl⟩, rfl⟩ rfl ?_
    refine w_iload_n (q := 46) hm215 ⟨⟨_, _, rfl⟩, rfl⟩ rfl ?_
    refine w_call (q := 49) (n := 0) (vs := [.inr (.inr (some 38)), .inl x4, .inl r1]) (rest := []) (la := [oR 38, oI x4, oI r1]) hm215 ⟨⟨_, _, rfl⟩, rfl⟩ rfl rfl rfl rfl hm225 rfl rfl (fun _ => ⟨_, _, rfl, rfl⟩) rfl (Wp.mono h ?_)
    rintro _ m2 ⟨r2, rfl, h⟩
    change Wp _ _ 49 _ [.inl r2] _ _
    refine w_istore_n (q := 50) (l' := [oR 38, none, none, oI r2, oI x4]) hm215 ⟨⟨_, _, rfl⟩, rfl⟩ rfl rfl rfl ?_
    refine w_aload_n (q := 51) hm215 ⟨⟨_, _, rfl⟩, rfl⟩ rfl ?_
    refine w_getr (q := 54) hm215 ⟨⟨_, _, rfl⟩, rfl⟩ rfl ?_
    refine w_iload (q := 56) hm215 ⟨⟨_, _, rfl⟩, rfl⟩ rfl ?_
    obtain ⟨hi, h⟩ := h
    refine w_iald (q := 57) (v := (m2.1 39 x4.toNatClampNeg)) hm215 ⟨⟨_, _, rfl⟩, rfl⟩ rfl hi rfl rfl ?_
    refine w_bipush (q := 59) hm215 ⟨⟨_, _, rfl⟩, rfl⟩ bipush_24 ?_
    refine w_icmp_eq (q := 62) (X := (m2.1 39 x4.toNatClampNeg).toInt) (Y := 24) hm215 ⟨⟨_, _, rfl⟩, rfl⟩ rfl (by decide) (fun hc => ?_) (fun hc => ?_)
    · have h := h.1 hc
      exact Wp.wk [false, false, false, false, false] h
    · have h := h.2 hc
      refine w_aload_n (q := 63) hm215 ⟨⟨_, _, rfl⟩, rfl⟩ rfl ?_
      refine w_getr (q := 66) hm215 ⟨⟨_, _, rfl⟩, rfl⟩ rfl ?_
      refine w_iload (q := 68) hm215 ⟨⟨_, _, rfl⟩, rfl⟩ rfl ?_
      obtain ⟨hi, h⟩ := h
      refine w_iald (q := 69) (v := (m2.1 39 x4.toNatClampNeg)) hm215 ⟨⟨_, _, rfl⟩, rfl⟩ rfl hi rfl rfl ?_
      refine w_bipush (q := 71) hm215 ⟨⟨_, _, rfl⟩, rfl⟩ bipush_25 ?_
      refine w_icmp_ne (q := 74) (X := (m2.1 39 x4.toNatClampNeg).toInt) (Y := 25) hm215 ⟨⟨_, _, rfl⟩, rfl⟩ rfl (by decide) (fun hc => ?_) (fun hc => ?_)
      · have h := h.1 hc
        refine w_iinc (q := 78) (l' := [oR 38, none, none, oI r2, oI (x4 + (1 : Int32))]) hm215 ⟨⟨_, _, rfl⟩, rfl⟩ rfl rfl rfl iconst_1 rfl ?_
        refine w_goto (q := 20) hm215 ⟨_, _, rfl⟩ ?_
        exact h
      · have h := h.2 hc
        exact Wp.wk [false, false, false, false, false] h
theorem v_X8_scan_38_1_74 {d : Nat} {m : dM} {Q : dM → Prop} (h : Q m) : j_X8_scan_38_1_74 (d + 1) m Q := by
  exact w_retv hm215 ⟨⟨_, _, rfl⟩, rfl⟩ rfl h
theorem v_X4_begin_29 {d : Nat} {x1 : Int32} {m : dM} {Q : dM → Prop} (h : ((0 ≤ x1.toInt ∧ x1.toInt < 4) ∧ ((0 ≤ x1.toInt ∧ x1.toInt < 4) ∧ (x1.toInt = 0 → Q (dSet (dSet m 36 x1.toNatClampNeg (0 : Int32)) 32 0 (m.1 29 1))) ∧ (x1.toInt = 1 → Q (dSet (dSet m 36 x1.toNatClampNeg (0 : Int32)) 33 0 (m.1 29 1))) ∧ (x1.toInt = 2 → Q (dSet (dSet m 36 x1.toNatClampNeg (0 : Int32)) 34 0 (m.1 29 1))) ∧ (x1.toInt = 3 → Q (dSet (dSet m 36 x1.toNatClampNeg (0 : Int32)) 35 0 (m.1 29 1)))))) : c_X4_begin_29 (d + 1) x1 m Q := by
  refine w_aload_n (q := 1) hm178 ⟨⟨_, _, rfl⟩, rfl⟩ rfl ?_
  refine w_getr (q := 4) hm178 ⟨⟨_, _, rfl⟩, rfl⟩ rfl ?_
  refine w_iload_n (q := 5) hm178 ⟨⟨_, _, rfl⟩, rfl⟩ rfl ?_
  refine w_iconst (q := 6) hm178 ⟨⟨_, _, rfl⟩, rfl⟩ iconst_0 ?_
  obtain ⟨hi, h⟩ := h
  refine w_iast (q := 7) hm178 ⟨⟨_, _, rfl⟩, rfl⟩ rfl hi rfl rfl ?_
  refine w_aload_n (q := 8) hm178 ⟨⟨_, _, rfl⟩, rfl⟩ rfl ?_
  refine w_getr (q := 11) hm178 ⟨⟨_, _, rfl⟩, rfl⟩ rfl ?_
  refine w_iload_n (q := 12) hm178 ⟨⟨_, _, rfl⟩, rfl⟩ rfl ?_
  obtain ⟨hi, h⟩ := h
  refine w_aald (q := 13) hm178 ⟨⟨_, _, rfl⟩, rfl⟩ rfl rfl hi ((And.intro (fun hc => ?_) (And.intro (fun hc => ?_) (And.intro (fun hc => ?_) (And.intro (fun hc => ?_) trivial)))))
  · have h := (h.1) hc
    refine w_iconst (q := 14) hm178 ⟨⟨_, _, rfl⟩, rfl⟩ iconst_0 ?_
    refine w_aload_n (q := 15) hm178 ⟨⟨_, _, rfl⟩, rfl⟩ rfl ?_
    refine w_getf (q := 18) (v := (m.1 29 1)) hm178 ⟨⟨_, _, rfl⟩, rfl⟩ rfl rfl ?_
    refine w_iast (q := 19) (j := 0) hm178 ⟨⟨_, _, rfl⟩, rfl⟩ rfl (by decide) (by decide) rfl ?_
    exact w_retv hm178 ⟨⟨_, _, rfl⟩, rfl⟩ rfl h
  · have h := (h.2.1) hc
    refine w_iconst (q := 14) hm178 ⟨⟨_, _, rfl⟩, rfl⟩ iconst_0 ?_
    refine w_aload_n (q := 15) hm178 ⟨⟨_, _, rfl⟩, rfl⟩ rfl ?_
    refine w_getf (q := 18) (v := (m.1 29 1)) hm178 ⟨⟨_, _, rfl⟩, rfl⟩ rfl rfl ?_
    refine w_iast (q := 19) (j := 0) hm178 ⟨⟨_, _, rfl⟩, rfl⟩ rfl (by decide) (by decide) rfl ?_
    exact w_retv hm178 ⟨⟨_, _, rfl⟩, rfl⟩ rfl h
  · have h := (h.2.2.1) hc
    refine w_iconst (q := 14) hm178 ⟨⟨_, _, rfl⟩, rfl⟩ iconst_0 ?_
    refine w_aload_n (q := 15) hm178 ⟨⟨_, _, rfl⟩, rfl⟩ rfl ?_
    refine w_getf (q := 18) (v := (m.1 29 1)) hm178 ⟨⟨_, _, rfl⟩, rfl⟩ rfl rfl ?_
    refine w_iast (q := 19) (j := 0) hm178 ⟨⟨_, _, rfl⟩, rfl⟩ rfl (by decide) (by decide) rfl ?_
    exact w_retv hm178 ⟨⟨_, _, rfl⟩, rfl⟩ rfl h
  · have h := (h.2.2.2) hc
    refine w_iconst (q := 14) hm178 ⟨⟨_, _, rfl⟩, rfl⟩ iconst_0 ?_
    refine w_aload_n (q := 15) hm178 ⟨⟨_, _, rfl⟩, rfl⟩ rfl ?_
    refine w_getf (q := 18) (v := (m.1 29 1)) hm178 ⟨⟨_, _, rfl⟩, rfl⟩ rfl rfl ?_
    refine w_iast (q := 19) (j := 0) hm178 ⟨⟨_, _, rfl⟩, rfl⟩ rfl (by decide) (by decide) rfl ?_
    exact w_retv hm178 ⟨⟨_, _, rfl⟩, rfl⟩ rfl h
theorem v_X4_put_29 {d : Nat} {x1 : Int32} {m : dM} {Q : dM → Prop} (h : ((406 ≤ (m.1 29 1).toInt → j_X4_put_29_32 (d + 1) m Q) ∧ ((m.1 29 1).toInt < 406 → ((0 ≤ (m.1 29 1).toInt ∧ (m.1 29 1).toInt < 406) ∧ j_X4_put_29_32 (d + 1) (dSet (dSet m 30 (m.1 29 1).toNatClampNeg x1) 29 1 ((m.1 29 1) + (1 : Int32))) Q)))) : c_X4_put_29 (d + 1) x1 m Q := by
  refine w_aload_n (q := 1) hm179 ⟨⟨_, _, rfl⟩, rfl⟩ rfl ?_
  refine w_getf (q := 4) (v := (m.1 29 1)) hm179 ⟨⟨_, _, rfl⟩, rfl⟩ rfl rfl ?_
  refine w_aload_n (q := 5) hm179 ⟨⟨_, _, rfl⟩, rfl⟩ rfl ?_
  refine w_getr (q := 8) hm179 ⟨⟨_, _, rfl⟩, rfl⟩ rfl ?_
  refine w_alen (q := 9) hm179 ⟨⟨_, _, rfl⟩, rfl⟩ rfl alen_406 ?_
  refine w_icmp_ge (q := 12) (X := (m.1 29 1).toInt) (Y := 406) hm179 ⟨⟨_, _, rfl⟩, rfl⟩ rfl (by decide) (fun hc => ?_) (fun hc => ?_)
  · have h := h.1 hc
    exact Wp.wk [false, false] h
  · have h := h.2 hc
    refine w_aload_n (q := 13) hm179 ⟨⟨_, _, rfl⟩, rfl⟩ rfl ?_
    refine w_getr (q := 16) hm179 ⟨⟨_, _, rfl⟩, rfl⟩ rfl ?_
    refine w_aload_n (q := 17) hm179 ⟨⟨_, _, rfl⟩, rfl⟩ rfl ?_
    refine w_getf (q := 20) (v := (m.1 29 1)) hm179 ⟨⟨_, _, rfl⟩, rfl⟩ rfl rfl ?_
    refine w_iload_n (q := 21) hm179 ⟨⟨_, _, rfl⟩, rfl⟩ rfl ?_
    obtain ⟨hi, h⟩ := h
    refine w_iast (q := 22) hm179 ⟨⟨_, _, rfl⟩, rfl⟩ rfl hi rfl rfl ?_
    refine w_aload_n (q := 23) hm179 ⟨⟨_, _, rfl⟩, rfl⟩ rfl ?_
    refine w_dup (q := 24) hm179 ⟨⟨_, _, rfl⟩, rfl⟩ rfl ?_
    refine w_getf (q := 27) (v := (m.1 29 1)) hm179 ⟨⟨_, _, rfl⟩, rfl⟩ rfl rfl ?_
    refine w_iconst (q := 28) hm179 ⟨⟨_, _, rfl⟩, rfl⟩ iconst_1 ?_
    refine w_iadd (q := 29) hm179 ⟨⟨_, _, rfl⟩, rfl⟩ ?_
    refine w_putf (q := 32) hm179 ⟨⟨_, _, rfl⟩, rfl⟩ rfl rfl rfl ?_
    exact Wp.wk [false, false] h
theorem v_X4_put_29_32 {d : Nat} {m : dM} {Q : dM → Prop} (h : Q m) : j_X4_put_29_32 (d + 1) m Q := by
  exact w_retv hm179 ⟨⟨_, _, rfl⟩, rfl⟩ rfl h
theorem v_X4_endPiece_29 {d : Nat} {x1 : Int32} {m : dM} {Q : dM → Prop} (h : ((0 ≤ x1.toInt ∧ x1.toInt < 4) ∧ ((13 ≤ (m.1 36 x1.toNatClampNeg).toInt → j_X4_endPiece_29_38 (d + 1) m Q) ∧ ((m.1 36 x1.toNatClampNeg).toInt < 13 → ((0 ≤ x1.toInt ∧ x1.toInt < 4) ∧ ((0 ≤ x1.toInt ∧ x1.toInt < 4) ∧ ((0 ≤ x1.toInt ∧ x1.toInt < 4) ∧ (x1.toInt = 0 → ((0 ≤ x1.toInt ∧ x1.toInt < 4) ∧ ((0 ≤ ((m.1 36 x1.toNatClampNeg) + (1 : Int32)).toInt ∧ ((m.1 36 x1.toNatClampNeg) + (1 : Int32)).toInt < 14) ∧ j_X4_endPiece_29_38 (d + 1) (dSet (dSet m 36 x1.toNatClampNeg ((m.1 36 x1.toNatClampNeg) + (1 : Int32))) 32 ((m.1 36 x1.toNatClampNeg) + (1 : Int32)).toNatClampNeg (m.1 29 1)) Q))) ∧ (x1.toInt = 1 → ((0 ≤ x1.toInt ∧ x1.toInt < 4) ∧ ((0 ≤ ((m.1 36 x1.toNatClampNeg) + (1 : Int32)).toInt ∧ ((m.1 36 x1.toNatClampNeg) + (1 : Int32)).toInt < 14) ∧ j_X4_endPiece_29_38 (d + 1) (dSet (dSet m 36 x1.toNatClampNeg ((m.1 36 x1.toNatClampNeg) + (1 : Int32))) 33 ((m.1 36 x1.toNatClampNeg) + (1 : Int32)).toNatClampNeg (m.1 29 1)) Q))) ∧ (x1.toInt = 2 → ((0 ≤ x1.toInt ∧ x1.toInt < 4) ∧ ((0 ≤ ((m.1 36 x1.toNatClampNeg) + (1 : Int32)).toInt ∧ ((m.1 36 x1.toNatClampNeg) + (1 : Int32)).toInt < 14) ∧ j_X4_endPiece_29_38 (d + 1) (dSet (dSet m 36 x1.toNatClampNeg ((m.1 36 x1.toNatClampNeg) + (1 : Int32))) 34 ((m.1 36 x1.toNatClampNeg) + (1 : Int32)).toNatClampNeg (m.1 29 1)) Q))) ∧ (x1.toInt = 3 → ((0 ≤ x1.toInt ∧ x1.toInt < 4) ∧ ((0 ≤ ((m.1 36 x1.toNatClampNeg) + (1 : Int32)).toInt ∧ ((m.1 36 x1.toNatClampNeg) + (1 : Int32)).toInt < 14) ∧ j_X4_endPiece_29_38 (d + 1) (dSet (dSet m 36 x1.toNatClampNeg ((m.1 36 x1.toNatClampNeg) + (1 : Int32))) 35 ((m.1 36 x1.toNatClampNeg) + (1 : Int32)).toNatClampNeg (m.1 29 1)) Q)))))))))) : c_X4_endPiece_29 (d + 1) x1 m Q := by
  refine w_aload_n (q := 1) hm180 ⟨⟨_, _, rfl⟩, rfl⟩ rfl ?_
  refine w_getr (q := 4) hm180 ⟨⟨_, _, rfl⟩, rfl⟩ rfl ?_
  refine w_iload_n (q := 5) hm180 ⟨⟨_, _, rfl⟩, rfl⟩ rfl ?_
  obtain ⟨hi, h⟩ := h
  refine w_iald (q := 6) (v := (m.1 36 x1.toNatClampNeg)) hm180 ⟨⟨_, _, rfl⟩, rfl⟩ rfl hi rfl rfl ?_
  refine w_bipush (q := 8) hm180 ⟨⟨_, _, rfl⟩, rfl⟩ bipush_13 ?_
  refine w_icmp_ge (q := 11) (X := (m.1 36 x1.toNatClampNeg).toInt) (Y := 13) hm180 ⟨⟨_, _, rfl⟩, rfl⟩ rfl (by decide) (fun hc => ?_) (fun hc => ?_)
  · have h := h.1 hc
    exact Wp.wk [false, false] h
  · have h := h.2 hc
    refine w_aload_n (q := 12) hm180 ⟨⟨_, _, rfl⟩, rfl⟩ rfl ?_
    refine w_getr (q := 15) hm180 ⟨⟨_, _, rfl⟩, rfl⟩ rfl ?_
    refine w_iload_n (q := 16) hm180 ⟨⟨_, _, rfl⟩, rfl⟩ rfl ?_
    refine w_dup2 (q := 17) hm180 ⟨⟨_, _, rfl⟩, rfl⟩ rfl ?_
    obtain ⟨hi, h⟩ := h
    refine w_iald (q := 18) (v := (m.1 36 x1.toNatClampNeg)) hm180 ⟨⟨_, _, rfl⟩, rfl⟩ rfl hi rfl rfl ?_
    refine w_iconst (q := 19) hm180 ⟨⟨_, _, rfl⟩, rfl⟩ iconst_1 ?_
    refine w_iadd (q := 20) hm180 ⟨⟨_, _, rfl⟩, rfl⟩ ?_
    obtain ⟨hi, h⟩ := h
    refine w_iast (q := 21) hm180 ⟨⟨_, _, rfl⟩, rfl⟩ rfl hi rfl rfl ?_
    refine w_aload_n (q := 22) hm180 ⟨⟨_, _, rfl⟩, rfl⟩ rfl ?_
    refine w_getr (q := 25) hm180 ⟨⟨_, _, rfl⟩, rfl⟩ rfl ?_
    refine w_iload_n (q := 26) hm180 ⟨⟨_, _, rfl⟩, rfl⟩ rfl ?_
    obtain ⟨hi, h⟩ := h
    refine w_aald (q := 27) hm180 ⟨⟨_, _, rfl⟩, rfl⟩ rfl rfl hi ((And.intro (fun hc => ?_) (And.intro (fun hc => ?_) (And.intro (fun hc => ?_) (And.intro (fun hc => ?_) trivial)))))
    · have h := (h.1) hc
      refine w_aload_n (q := 28) hm180 ⟨⟨_, _, rfl⟩, rfl⟩ rfl ?_
      refine w_getr (q := 31) hm180 ⟨⟨_, _, rfl⟩, rfl⟩ rfl ?_
      refine w_iload_n (q := 32) hm180 ⟨⟨_, _, rfl⟩, rfl⟩ rfl ?_
      obtain ⟨hi, h⟩ := h
      refine w_iald (q := 33) (v := ((m.1 36 x1.toNatClampNeg) + (1 : Int32))) hm180 ⟨⟨_, _, rfl⟩, rfl⟩ rfl hi rfl (dSet_s m 36 x1.toNatClampNeg ((m.1 36 x1.toNatClampNeg) + (1 : Int32))) ?_
      refine w_aload_n (q := 34) hm180 ⟨⟨_, _, rfl⟩, rfl⟩ rfl ?_
      refine w_getf (q := 37) (v := (m.1 29 1)) hm180 ⟨⟨_, _, rfl⟩, rfl⟩ rfl rfl ?_
      obtain ⟨hi, h⟩ := h
      refine w_iast (q := 38) hm180 ⟨⟨_, _, rfl⟩, rfl⟩ rfl hi rfl rfl ?_
      exact Wp.wk [false, false] h
    · have h := (h.2.1) hc
      refine w_aload_n (q := 28) hm180 ⟨⟨_, _, rfl⟩, rfl⟩ rfl ?_
      refine w_getr (q := 31) hm180 ⟨⟨_, _, rfl⟩, rfl⟩ rfl ?_
      refine w_iload_n (q := 32) hm180 ⟨⟨_, _, rfl⟩, rfl⟩ rfl ?_
      obtain ⟨hi, h⟩ := h
      refine w_iald (q := 33) (v := ((m.1 36 x1.toNatClampNeg) + (1 : Int32))) hm180 ⟨⟨_, _, rfl⟩, rfl⟩ rfl hi rfl (dSet_s m 36 x1.toNatClampNeg ((m.1 36 x1.toNatClampNeg) + (1 : Int32))) ?_
      refine w_aload_n (q := 34) hm180 ⟨⟨_, _, rfl⟩, rfl⟩ rfl ?_
      refine w_getf (q := 37) (v := (m.1 29 1)) hm180 ⟨⟨_, _, rfl⟩, rfl⟩ rfl rfl ?_
      obtain ⟨hi, h⟩ := h
      refine w_iast (q := 38) hm180 ⟨⟨_, _, rfl⟩, rfl⟩ rfl hi rfl rfl ?_
      exact Wp.wk [false, false] h
    · have h := (h.2.2.1) hc
      refine w_aload_n (q := 28) hm180 ⟨⟨_, _, rfl⟩, rfl⟩ rfl ?_
      refine w_getr (q := 31) hm180 ⟨⟨_, _, rfl⟩, rfl⟩ rfl ?_
      refine w_iload_n (q := 32) hm180 ⟨⟨_, _, rfl⟩, rfl⟩ rfl ?_
      obtain ⟨hi, h⟩ := h
      refine w_iald (q := 33) (v := ((m.1 36 x1.toNatClampNeg) + (1 : Int32))) hm180 ⟨⟨_, _, rfl⟩, rfl⟩ rfl hi rfl (dSet_s m 36 x1.toNatClampNeg ((m.1 36 x1.toNatClampNeg) + (1 : Int32))) ?_
      refine w_aload_n (q := 34) hm180 ⟨⟨_, _, rfl⟩, rfl⟩ rfl ?_
      refine w_getf (q := 37) (v := (m.1 29 1)) hm180 ⟨⟨_, _, rfl⟩, rfl⟩ rfl rfl ?_
      obtain ⟨hi, h⟩ := h
      refine w_iast (q := 38) hm180 ⟨⟨_, _, rfl⟩, rfl⟩ rfl hi rfl rfl ?_
      exact Wp.wk [false, false] h
    · have h := (h.2.2.2) hc
      refine w_aload_n (q := 28) hm180 ⟨⟨_, _, rfl⟩, rfl⟩ rfl ?_
      refine w_getr (q := 31) hm180 ⟨⟨_, _, rfl⟩, rfl⟩ rfl ?_
      refine w_iload_n (q := 32) hm180 ⟨⟨_, _, rfl⟩, rfl⟩ rfl ?_
      obtain ⟨hi, h⟩ := h
      refine w_iald (q := 33) (v := ((m.1 36 x1.toNatClampNeg) + (1 : Int32))) hm180 ⟨⟨_, _, rfl⟩, rfl⟩ rfl hi rfl (dSet_s m 36 x1.toNatClampNeg ((m.1 36 x1.toNatClampNeg) + (1 : Int32))) ?_
      refine w_aload_n (q := 34) hm180 ⟨⟨_, _, rfl⟩, rfl⟩ rfl ?_
      refine w_getf (q := 37) (v := (m.1 29 1)) hm180 ⟨⟨_, _, rfl⟩, rfl⟩ rfl rfl ?_
      obtain ⟨hi, h⟩ := h
      refine w_iast (q := 38) hm180 ⟨⟨_, _, rfl⟩, rfl⟩ rfl hi rfl rfl ?_
      exact Wp.wk [false, false] h
theorem v_X4_endPiece_29_38 {d : Nat} {m : dM} {Q : dM → Prop} (h : Q m) : j_X4_endPiece_29_38 (d + 1) m Q := by
  exact w_retv hm180 ⟨⟨_, _, rfl⟩, rfl⟩ rfl h
theorem v_X4_clear_29 {d : Nat} {m : dM} {Q : dM → Prop} (h : c_X4_begin_29 d (0 : Int32) (dSet m 29 1 (0 : Int32)) (fun m1 => c_X4_put_29 d (4 : Int32) m1 (fun m2 => c_X4_put_29 d (5 : Int32) m2 (fun m3 => c_X4_put_29 d (1 : Int32) m3 (fun m4 => c_X4_endPiece_29 d (0 : Int32) m4 (fun m5 => c_X4_begin_29 d (1 : Int32) m5 (fun m6 => c_X4_put_29 d (13 : Int32) m6 (fun m7 => c_X4_endPiece_29 d (1 : Int32) m7 (fun m8 => c_X4_begin_29 d (2 : Int32) m8 (fun m9 => c_X4_put_29 d (5 : Int32) m9 (fun m10 => c_X4_endPiece_29 d (2 : Int32) m10 (fun m11 => c_X4_begin_29 d (3 : Int32) m11 (fun m12 => c_X4_put_29 d (9 : Int32) m12 (fun m13 => c_X4_endPiece_29 d (3 : Int32) m13 (fun m14 => Q m14))))))))))))))) : c_X4_clear_29 (d + 1) m Q := by
  refine w_aload_n (q := 1) hm176 ⟨⟨_, _, rfl⟩, rfl⟩ rfl ?_
  refine w_iconst (q := 2) hm176 ⟨⟨_, _, rfl⟩, rfl⟩ iconst_0 ?_
  refine w_putf (q := 5) hm176 ⟨⟨_, _, rfl⟩, rfl⟩ rfl rfl rfl ?_
  refine w_aload_n (q := 6) hm176 ⟨⟨_, _, rfl⟩, rfl⟩ rfl ?_
  refine w_iconst (q := 7) hm176 ⟨⟨_, _, rfl⟩, rfl⟩ iconst_0 ?_
  refine w_call (q := 10) (n := 0) (vs := [.inr (.inr (some 29)), .inl (0 : Int32)]) (rest := []) (la := [oR 29, oI (0 : Int32)]) hm176 ⟨⟨_, _, rfl⟩, rfl⟩ rfl rfl rfl rfl hm178 rfl rfl (fun _ => ⟨_, _, rfl, rfl⟩) rfl (Wp.mono h ?_)
  rintro _ m1 ⟨rfl, h⟩
  change Wp _ _ 10 _ [] _ _
  refine w_aload_n (q := 11) hm176 ⟨⟨_, _, rfl⟩, rfl⟩ rfl ?_
  refine w_iconst (q := 12) hm176 ⟨⟨_, _, rfl⟩, rfl⟩ iconst_4 ?_
  refine w_call (q := 15) (n := 0) (vs := [.inr (.inr (some 29)), .inl (4 : Int32)]) (rest := []) (la := [oR 29, oI (4 : Int32)]) hm176 ⟨⟨_, _, rfl⟩, rfl⟩ rfl rfl rfl rfl hm179 rfl rfl (fun _ => ⟨_, _, rfl, rfl⟩) rfl (Wp.mono h ?_)
  rintro _ m2 ⟨rfl, h⟩
  change Wp _ _ 15 _ [] _ _
  refine w_aload_n (q := 16) hm176 ⟨⟨_, _, rfl⟩, rfl⟩ rfl ?_
  refine w_iconst (q := 17) hm176 ⟨⟨_, _, rfl⟩, rfl⟩ iconst_5 ?_
  refine w_call (q := 20) (n := 0) (vs := [.inr (.inr (some 29)), .inl (5 : Int32)]) (rest := []) (la := [oR 29, oI (5 : Int32)]) hm176 ⟨⟨_, _, rfl⟩, rfl⟩ rfl rfl rfl rfl hm179 rfl rfl (fun _ => ⟨_, _, rfl, rfl⟩) rfl (Wp.mono h ?_)
  rintro _ m3 ⟨rfl, h⟩
  change Wp _ _ 20 _ [] _ _
  refine w_aload_n (q := 21) hm176 ⟨⟨_, _, rfl⟩, rfl⟩ rfl ?_
  refine w_iconst (q := 22) hm176 ⟨⟨_, _, rfl⟩, rfl⟩ iconst_1 ?_
  refine w_call (q := 25) (n := 0) (vs := [.inr (.inr (some 29)), .inl (1 : Int32)]) (rest := []) (la := [oR 29, oI (1 : Int32)]) hm176 ⟨⟨_, _, rfl⟩, rfl⟩ rfl rfl rfl rfl hm179 rfl rfl (fun _ => ⟨_, _, rfl, rfl⟩) rfl (Wp.mono h ?_)
  rintro _ m4 ⟨rfl, h⟩
  change Wp _ _ 25 _ [] _ _
  refine w_aload_n (q := 26) hm176 ⟨⟨_, _, rfl⟩, rfl⟩ rfl ?_
  refine w_iconst (q := 27) hm176 ⟨⟨_, _, rfl⟩, rfl⟩ iconst_0 ?_
  refine w_call (q := 30) (n := 0) (vs := [.inr (.inr (some 29)), .inl (0 : Int32)]) (rest := []) (la := [oR 29, oI (0 : Int32)]) hm176 ⟨⟨_, _, rfl⟩, rfl⟩ rfl rfl rfl rfl hm180 rfl rfl (fun _ => ⟨_, _, rfl, rfl⟩) rfl (Wp.mono h ?_)
  rintro _ m5 ⟨rfl, h⟩
  change Wp _ _ 30 _ [] _ _
  refine w_aload_n (q := 31) hm176 ⟨⟨_, _, rfl⟩, rfl⟩ rfl ?_
  refine w_iconst (q := 32) hm176 ⟨⟨_, _, rfl⟩, rfl⟩ iconst_1 ?_
  refine w_call (q := 35) (n := 0) (vs := [.inr (.inr (some 29)), .inl (1 : Int32)]) (rest := []) (la := [oR 29, oI (1 : Int32)]) hm176 ⟨⟨_, _, rfl⟩, rfl⟩ rfl rfl rfl rfl hm178 rfl rfl (fun _ => ⟨_, _, rfl, rfl⟩) rfl (Wp.mono h ?_)
  rintro _ m6 ⟨rfl, h⟩
  change Wp _ _ 35 _ [] _ _
  refine w_aload_n (q := 36) hm176 ⟨⟨_, _, rfl⟩, rfl⟩ rfl ?_
  refine w_bipush (q := 38) hm176 ⟨⟨_, _, rfl⟩, rfl⟩ bipush_13 ?_
  refine w_call (q := 41) (n := 0) (vs := [.inr (.inr (some 29)), .inl (13 : Int32)]) (rest := []) (la := [oR 29, oI (13 : Int32)]) hm176 ⟨⟨_, _, rfl⟩, rfl⟩ rfl rfl rfl rfl hm179 rfl rfl (fun _ => ⟨_, _, rfl, rfl⟩) rfl (Wp.mono h ?_)
  rintro _ m7 ⟨rfl, h⟩
  change Wp _ _ 41 _ [] _ _
  refine w_aload_n (q := 42) hm176 ⟨⟨_, _, rfl⟩, rfl⟩ rfl ?_
  refine w_iconst (q := 43) hm176 ⟨⟨_, _, rfl⟩, rfl⟩ iconst_1 ?_
  refine w_call (q := 46) (n := 0) (vs := [.inr (.inr (some 29)), .inl (1 : Int32)]) (rest := []) (la := [oR 29, oI (1 : Int32)]) hm176 ⟨⟨_, _, rfl⟩, rfl⟩ rfl rfl rfl rfl hm180 rfl rfl (fun _ => ⟨_, _, rfl, rfl⟩) rfl (Wp.mono h ?_)
  rintro _ m8 ⟨rfl, h⟩
  change Wp _ _ 46 _ [] _ _
  refine w_aload_n (q := 47) hm176 ⟨⟨_, _, rfl⟩, rfl⟩ rfl ?_
  refine w_iconst (q := 48) hm176 ⟨⟨_, _, rfl⟩, rfl⟩ iconst_2 ?_
  refine w_call (q := 51) (n := 0) (vs := [.inr (.inr (some 29)), .inl (2 : Int32)]) (rest := []) (la := [oR 29, oI (2 : Int32)]) hm176 ⟨⟨_, _, rfl⟩, rfl⟩ rfl rfl rfl rfl hm178 rfl rfl (fun _ => ⟨_, _, rfl, rfl⟩) rfl (Wp.mono h ?_)
  rintro _ m9 ⟨rfl, h⟩
  change Wp _ _ 51 _ [] _ _
  refine w_aload_n (q := 52) hm176 ⟨⟨_, _, rfl⟩, rfl⟩ rfl ?_
  refine w_iconst (q := 53) hm176 ⟨⟨_, _, rfl⟩, rfl⟩ iconst_5 ?_
  refine w_call (q := 56) (n := 0) (vs := [.inr (.inr (some 29)), .inl (5 : Int32)]) (rest := []) (la := [oR 29, oI (5 : Int32)]) hm176 ⟨⟨_, _, rfl⟩, rfl⟩ rfl rfl rfl rfl hm179 rfl rfl (fun _ => ⟨_, _, rfl, rfl⟩) rfl (Wp.mono h ?_)
  rintro _ m10 ⟨rfl, h⟩
  change Wp _ _ 56 _ [] _ _
  refine w_aload_n (q := 57) hm176 ⟨⟨_, _, rfl⟩, rfl⟩ rfl ?_
  refine w_iconst (q := 58) hm176 ⟨⟨_, _, rfl⟩, rfl⟩ iconst_2 ?_
  refine w_call (q := 61) (n := 0) (vs := [.inr (.inr (some 29)), .inl (2 : Int32)]) (rest := []) (la := [oR 29, oI (2 : Int32)]) hm176 ⟨⟨_, _, rfl⟩, rfl⟩ rfl rfl rfl rfl hm180 rfl rfl (fun _ => ⟨_, _, rfl, rfl⟩) rfl (Wp.mono h ?_)
  rintro _ m11 ⟨rfl, h⟩
  change Wp _ _ 61 _ [] _ _
  refine w_aload_n (q := 62) hm176 ⟨⟨_, _, rfl⟩, rfl⟩ rfl ?_
  refine w_iconst (q := 63) hm176 ⟨⟨_, _, rfl⟩, rfl⟩ iconst_3 ?_
  refine w_call (q := 66) (n := 0) (vs := [.inr (.inr (some 29)), .inl (3 : Int32)]) (rest := []) (la := [oR 29, oI (3 : Int32)]) hm176 ⟨⟨_, _, rfl⟩, rfl⟩ rfl rfl rfl rfl hm178 rfl rfl (fun _ => ⟨_, _, rfl, rfl⟩) rfl (Wp.mono h ?_)
  rintro _ m12 ⟨rfl, h⟩
  change Wp _ _ 66 _ [] _ _
  refine w_aload_n (q := 67) hm176 ⟨⟨_, _, rfl⟩, rfl⟩ rfl ?_
  refine w_bipush (q := 69) hm176 ⟨⟨_, _, rfl⟩, rfl⟩ bipush_9 ?_
  refine w_call (q := 72) (n := 0) (vs := [.inr (.inr (some 29)), .inl (9 : Int32)]) (rest := []) (la := [oR 29, oI (9 : Int32)]) hm176 ⟨⟨_, _, rfl⟩, rfl⟩ rfl rfl rfl rfl hm179 rfl rfl (fun _ => ⟨_, _, rfl, rfl⟩) rfl (Wp.mono h ?_)
  rintro _ m13 ⟨rfl, h⟩
  change Wp _ _ 72 _ [] _ _
  refine w_aload_n (q := 73) hm176 ⟨⟨_, _, rfl⟩, rfl⟩ rfl ?_
  refine w_iconst (q := 74) hm176 ⟨⟨_, _, rfl⟩, rfl⟩ iconst_3 ?_
  refine w_call (q := 77) (n := 0) (vs := [.inr (.inr (some 29)), .inl (3 : Int32)]) (rest := []) (la := [oR 29, oI (3 : Int32)]) hm176 ⟨⟨_, _, rfl⟩, rfl⟩ rfl rfl rfl rfl hm180 rfl rfl (fun _ => ⟨_, _, rfl, rfl⟩) rfl (Wp.mono h ?_)
  rintro _ m14 ⟨rfl, h⟩
  change Wp _ _ 77 _ [] _ _
  exact w_retv hm176 ⟨⟨_, _, rfl⟩, rfl⟩ rfl h
theorem v_X3_clear_20 {d : Nat} {m : dM} {Q : dM → Prop} (h : c_X4_clear_29 d (dSet (dSet (dSet (dSet (dSet (dSet (dSet m 20 0 (0 : Int32)) 20 1 (0 : Int32)) 20 2 (0 : Int32)) 20 3 (0 : Int32)) 20 4 (0 : Int32)) 20 5 (100 : Int32)) 20 6 (0 : Int32)) (fun m1 => Q m1)) : c_X3_clear_20 (d + 1) m Q := by
  refine w_aload_n (q := 1) hm169 ⟨⟨_, _, rfl⟩, rfl⟩ rfl ?_
  refine w_iconst (q := 2) hm169 ⟨⟨_, _, rfl⟩, rfl⟩ iconst_0 ?_
  refine w_putf (q := 5) hm169 ⟨⟨_, _, rfl⟩, rfl⟩ rfl rfl rfl ?_
  refine w_aload_n (q := 6) hm169 ⟨⟨_, _, rfl⟩, rfl⟩ rfl ?_
  refine w_iconst (q := 7) hm169 ⟨⟨_, _, rfl⟩, rfl⟩ iconst_0 ?_
  refine w_putf (q := 10) hm169 ⟨⟨_, _, rfl⟩, rfl⟩ rfl rfl rfl ?_
  refine w_aload_n (q := 11) hm169 ⟨⟨_, _, rfl⟩, rfl⟩ rfl ?_
  refine w_iconst (q := 12) hm169 ⟨⟨_, _, rfl⟩, rfl⟩ iconst_0 ?_
  refine w_putf (q := 15) hm169 ⟨⟨_, _, rfl⟩, rfl⟩ rfl rfl rfl ?_
  refine w_aload_n (q := 16) hm169 ⟨⟨_, _, rfl⟩, rfl⟩ rfl ?_
  refine w_iconst (q := 17) hm169 ⟨⟨_, _, rfl⟩, rfl⟩ iconst_0 ?_
  refine w_putf (q := 20) hm169 ⟨⟨_, _, rfl⟩, rfl⟩ rfl rfl rfl ?_
  refine w_aload_n (q := 21) hm169 ⟨⟨_, _, rfl⟩, rfl⟩ rfl ?_
  refine w_iconst (q := 22) hm169 ⟨⟨_, _, rfl⟩, rfl⟩ iconst_0 ?_
  refine w_putf (q := 25) hm169 ⟨⟨_, _, rfl⟩, rfl⟩ rfl rfl rfl ?_
  refine w_aload_n (q := 26) hm169 ⟨⟨_, _, rfl⟩, rfl⟩ rfl ?_
  refine w_bipush (q := 28) hm169 ⟨⟨_, _, rfl⟩, rfl⟩ bipush_100 ?_
  refine w_putf (q := 31) hm169 ⟨⟨_, _, rfl⟩, rfl⟩ rfl rfl rfl ?_
  refine w_aload_n (q := 32) hm169 ⟨⟨_, _, rfl⟩, rfl⟩ rfl ?_
  refine w_iconst (q := 33) hm169 ⟨⟨_, _, rfl⟩, rfl⟩ iconst_0 ?_
  refine w_putf (q := 36) hm169 ⟨⟨_, _, rfl⟩, rfl⟩ rfl rfl rfl ?_
  refine w_aload_n (q := 37) hm169 ⟨⟨_, _, rfl⟩, rfl⟩ rfl ?_
  refine w_getr (q := 40) hm169 ⟨⟨_, _, rfl⟩, rfl⟩ rfl ?_
  refine w_call (q := 43) (n := 0) (vs := [.inr (.inr (some 29))]) (rest := []) (la := [oR 29]) hm169 ⟨⟨_, _, rfl⟩, rfl⟩ rfl rfl rfl rfl hm176 rfl rfl (fun _ => ⟨_, _, rfl, rfl⟩) rfl (Wp.mono h ?_)
  rintro _ m1 ⟨rfl, h⟩
  change Wp _ _ 43 _ [] _ _
  exact w_retv hm169 ⟨⟨_, _, rfl⟩, rfl⟩ rfl h
theorem v_X2_kind_43 {d : Nat} {m : dM} {Q : Int32 → dM → Prop} (h : (((m.1 43 2).toInt < 0 → j_X2_kind_43_32 (d + 1) m Q) ∧ (0 ≤ (m.1 43 2).toInt → ((400 < (m.1 43 2).toInt → j_X2_kind_43_32 (d + 1) m Q) ∧ ((m.1 43 2).toInt ≤ 400 → ((0 ≤ (m.1 43 2).toInt ∧ (m.1 43 2).toInt < 401) ∧ Q (m.1 39 (m.1 43 2).toNatClampNeg) m)))))) : c_X2_kind_43 (d + 1) m Q := by
  refine w_aload_n (q := 1) hm157 ⟨⟨_, _, rfl⟩, rfl⟩ rfl ?_
  refine w_getf (q := 4) (v := (m.1 43 2)) hm157 ⟨⟨_, _, rfl⟩, rfl⟩ rfl rfl ?_
  refine w_if_lt (q := 7) (X := (m.1 43 2).toInt) hm157 ⟨⟨_, _, rfl⟩, rfl⟩ rfl (fun hc => ?_) (fun hc => ?_)
  · have h := h.1 hc
    exact Wp.wk [false] h
  · have h := h.2 hc
    refine w_aload_n (q := 8) hm157 ⟨⟨_, _, rfl⟩, rfl⟩ rfl ?_
    refine w_getf (q := 11) (v := (m.1 43 2)) hm157 ⟨⟨_, _, rfl⟩, rfl⟩ rfl rfl ?_
    refine w_sipush (q := 14) hm157 ⟨⟨_, _, rfl⟩, rfl⟩ sipush_400 ?_
    refine w_icmp_gt (q := 17) (X := (m.1 43 2).toInt) (Y := 400) hm157 ⟨⟨_, _, rfl⟩, rfl⟩ rfl (by decide) (fun hc => ?_) (fun hc => ?_)
    · have h := h.1 hc
      exact Wp.wk [false] h
    · have h := h.2 hc
      refine w_aload_n (q := 18) hm157 ⟨⟨_, _, rfl⟩, rfl⟩ rfl ?_
      refine w_getr (q := 21) hm157 ⟨⟨_, _, rfl⟩, rfl⟩ rfl ?_
      refine w_getr (q := 24) hm157 ⟨⟨_, _, rfl⟩, rfl⟩ rfl ?_
      refine w_aload_n (q := 25) hm157 ⟨⟨_, _, rfl⟩, rfl⟩ rfl ?_
      refine w_getf (q := 28) (v := (m.1 43 2)) hm157 ⟨⟨_, _, rfl⟩, rfl⟩ rfl rfl ?_
      obtain ⟨hi, h⟩ := h
      refine w_iald (q := 29) (v := (m.1 39 (m.1 43 2).toNatClampNeg)) hm157 ⟨⟨_, _, rfl⟩, rfl⟩ rfl hi rfl rfl ?_
      refine w_goto (q := 34) hm157 ⟨_, _, rfl⟩ ?_
      exact w_reti hm157 ⟨⟨_, _, rfl⟩, rfl⟩ rfl h
theorem v_X2_kind_43_32 {d : Nat} {m : dM} {Q : Int32 → dM → Prop} (h : Q (24 : Int32) m) : j_X2_kind_43_32 (d + 1) m Q := by
  refine w_bipush (q := 34) hm157 ⟨⟨_, _, rfl⟩, rfl⟩ bipush_24 ?_
  exact w_reti hm157 ⟨⟨_, _, rfl⟩, rfl⟩ rfl h
theorem v_X2_step_43 {d : Nat} {m : dM} {Q : Int32 → dM → Prop} (h : (((m.1 43 2).toInt < 400 → Q (1 : Int32) (dSet m 43 2 ((m.1 43 2) + (1 : Int32)))) ∧ (400 ≤ (m.1 43 2).toInt → Q (0 : Int32) (dSet m 43 3 (2 : Int32))))) : c_X2_step_43 (d + 1) m Q := by
  refine w_aload_n (q := 1) hm159 ⟨⟨_, _, rfl⟩, rfl⟩ rfl ?_
  refine w_getf (q := 4) (v := (m.1 43 2)) hm159 ⟨⟨_, _, rfl⟩, rfl⟩ rfl rfl ?_
  refine w_sipush (q := 7) hm159 ⟨⟨_, _, rfl⟩, rfl⟩ sipush_400 ?_
  refine w_icmp_lt (q := 10) (X := (m.1 43 2).toInt) (Y := 400) hm159 ⟨⟨_, _, rfl⟩, rfl⟩ rfl (by decide) (fun hc => ?_) (fun hc => ?_)
  · have h := h.1 hc
    refine w_aload_n (q := 18) hm159 ⟨⟨_, _, rfl⟩, rfl⟩ rfl ?_
    refine w_dup (q := 19) hm159 ⟨⟨_, _, rfl⟩, rfl⟩ rfl ?_
    refine w_getf (q := 22) (v := (m.1 43 2)) hm159 ⟨⟨_, _, rfl⟩, rfl⟩ rfl rfl ?_
    refine w_iconst (q := 23) hm159 ⟨⟨_, _, rfl⟩, rfl⟩ iconst_1 ?_
    refine w_iadd (q := 24) hm159 ⟨⟨_, _, rfl⟩, rfl⟩ ?_
    refine w_putf (q := 27) hm159 ⟨⟨_, _, rfl⟩, rfl⟩ rfl rfl rfl ?_
    refine w_iconst (q := 28) hm159 ⟨⟨_, _, rfl⟩, rfl⟩ iconst_1 ?_
    exact w_retz hm159 ⟨⟨_, _, rfl⟩, rfl⟩ rfl (by decide) h
  · have h := h.2 hc
    refine w_aload_n (q := 11) hm159 ⟨⟨_, _, rfl⟩, rfl⟩ rfl ?_
    refine w_iconst (q := 12) hm159 ⟨⟨_, _, rfl⟩, rfl⟩ iconst_2 ?_
    refine w_putf (q := 15) hm159 ⟨⟨_, _, rfl⟩, rfl⟩ rfl rfl rfl ?_
    refine w_iconst (q := 16) hm159 ⟨⟨_, _, rfl⟩, rfl⟩ iconst_0 ?_
    exact w_retz hm159 ⟨⟨_, _, rfl⟩, rfl⟩ rfl (by decide) h
theorem v_X2_fail_43 {d : Nat} {x1 : Int32} {m : dM} {Q : Int32 → dM → Prop} (h : Q (0 : Int32) (dSet m 43 3 x1)) : c_X2_fail_43 (d + 1) x1 m Q := by
  refine w_aload_n (q := 1) hm158 ⟨⟨_, _, rfl⟩, rfl⟩ rfl ?_
  refine w_iload_n (q := 2) hm158 ⟨⟨_, _, rfl⟩, rfl⟩ rfl ?_
  refine w_putf (q := 5) hm158 ⟨⟨_, _, rfl⟩, rfl⟩ rfl rfl rfl ?_
  refine w_iconst (q := 6) hm158 ⟨⟨_, _, rfl⟩, rfl⟩ iconst_0 ?_
  exact w_retz hm158 ⟨⟨_, _, rfl⟩, rfl⟩ rfl (by decide) h
theorem v_X2_need_43 {d : Nat} {x1 : Int32} {m : dM} {Q : Int32 → dM → Prop} (h : c_X2_kind_43 d m (fun r1 m1 => ((r1.toInt ≠ x1.toInt → c_X2_fail_43 d (1 : Int32) m1 (fun r2 m2 => (r2 = 0 ∨ r2 = 1) ∧ Q r2 m2)) ∧ (r1.toInt = x1.toInt → c_X2_step_43 d m1 (fun r3 m3 => (r3 = 0 ∨ r3 = 1) ∧ Q r3 m3))))) : c_X2_need_43 (d + 1) x1 m Q := by
  refine w_aload_n (q := 1) hm160 ⟨⟨_, _, rfl⟩, rfl⟩ rfl ?_
  refine w_call (q := 4) (n := 0) (vs := [.inr (.inr (some 43))]) (rest := []) (la := [oR 43]) hm160 ⟨⟨_, _, rfl⟩, rfl⟩ rfl rfl rfl rfl hm157 rfl rfl (fun _ => ⟨_, _, rfl, rfl⟩) rfl (Wp.mono h ?_)
  rintro _ m1 ⟨r1, rfl, h⟩
  change Wp _ _ 4 _ [.inl r1] _ _
  refine w_iload_n (q := 5) hm160 ⟨⟨_, _, rfl⟩, rfl⟩ rfl ?_
  refine w_icmp_ne (q := 8) (X := r1.toInt) (Y := x1.toInt) hm160 ⟨⟨_, _, rfl⟩, rfl⟩ rfl rfl (fun hc => ?_) (fun hc => ?_)
  · have h := h.1 hc
    refine w_aload_n (q := 16) hm160 ⟨⟨_, _, rfl⟩, rfl⟩ rfl ?_
    refine w_iconst (q := 17) hm160 ⟨⟨_, _, rfl⟩, rfl⟩ iconst_1 ?_
    refine w_call (q := 20) (n := 0) (vs := [.inr (.inr (some 43)), .inl (1 : Int32)]) (rest := []) (la := [oR 43, oI (1 : Int32)]) hm160 ⟨⟨_, _, rfl⟩, rfl⟩ rfl rfl rfl rfl hm158 rfl rfl (fun _ => ⟨_, _, rfl, rfl⟩) rfl (Wp.mono h ?_)
    rintro _ m2 ⟨r2, rfl, h⟩
    change Wp _ _ 20 _ [.inl r2] _ _
    exact w_retz hm160 ⟨⟨_, _, rfl⟩, rfl⟩ rfl h.1 h.2
  · have h := h.2 hc
    refine w_aload_n (q := 9) hm160 ⟨⟨_, _, rfl⟩, rfl⟩ rfl ?_
    refine w_call (q := 12) (n := 0) (vs := [.inr (.inr (some 43))]) (rest := []) (la := [oR 43]) hm160 ⟨⟨_, _, rfl⟩, rfl⟩ rfl rfl rfl rfl hm159 rfl rfl (fun _ => ⟨_, _, rfl, rfl⟩) rfl (Wp.mono h ?_)
    rintro _ m3 ⟨r3, rfl, h⟩
    change Wp _ _ 12 _ [.inl r3] _ _
    refine w_goto (q := 20) hm160 ⟨_, _, rfl⟩ ?_
    exact w_retz hm160 ⟨⟨_, _, rfl⟩, rfl⟩ rfl h.1 h.2
theorem v_X2_checkRow_43 {d : Nat} {x1 : Int32} {x2 : Int32} {m : dM} {Q : dM → Prop} (h : c_X2_step_43 d m (fun r1 m1 => j_X2_checkRow_43_8 (d + 1) x1 x2 r1 (0 : Int32) m1 Q)) : c_X2_checkRow_43 (d + 1) x1 x2 m Q := by
  refine w_aload_n (q := 1) hm161 ⟨⟨_, _, rfl⟩, rfl⟩ rfl ?_
  refine w_call (q := 4) (n := 0) (vs := [.inr (.inr (some 43))]) (rest := []) (la := [oR 43]) hm161 ⟨⟨_, _, rfl⟩, rfl⟩ rfl rfl rfl rfl hm159 rfl rfl (fun _ => ⟨_, _, rfl, rfl⟩) rfl (Wp.mono h ?_)
  rintro _ m1 ⟨r1, rfl, h⟩
  change Wp _ _ 4 _ [.inl r1] _ _
  refine w_istore_n (q := 5) (l' := [oR 43, oI x1, oI x2, oI r1, none]) hm161 ⟨⟨_, _, rfl⟩, rfl⟩ rfl rfl rfl ?_
  refine w_iconst (q := 6) hm161 ⟨⟨_, _, rfl⟩, rfl⟩ iconst_0 ?_
  refine w_istore (q := 8) (l' := [oR 43, oI x1, oI x2, oI r1, oI (0 : Int32)]) hm161 ⟨⟨_, _, rfl⟩, rfl⟩ rfl rfl rfl ?_
  exact h
theorem v_X2_checkRow_43_8 {d : Nat} {x1 : Int32} {x2 : Int32} {x3 : Int32} {x4 : Int32} {m : dM} {Q : dM → Prop} (h : ((x1.toInt ≤ x4.toInt → j_X2_checkRow_43_31 (d + 1) x2 x3 m Q) ∧ (x4.toInt < x1.toInt → ((x3.toInt = 0 → j_X2_checkRow_43_31 (d + 1) x2 x3 m Q) ∧ (x3.toInt ≠ 0 → c_X2_need_43 d (22 : Int32) m (fun r1 m1 => j_X2_checkRow_43_8 (d + 1) x1 x2 r1 (x4 + (1 : Int32)) m1 Q)))))) : j_X2_checkRow_43_8 (d + 1) x1 x2 x3 x4 m Q := by
  refine w_iload (q := 10) hm161 ⟨⟨_, _, rfl⟩, rfl⟩ rfl ?_
  refine w_iload_n (q := 11) hm161 ⟨⟨_, _, rfl⟩, rfl⟩ rfl ?_
  refine w_icmp_ge (q := 14) (X := x4.toInt) (Y := x1.toInt) hm161 ⟨⟨_, _, rfl⟩, rfl⟩ rfl rfl (fun hc => ?_) (fun hc => ?_)
  · have h := h.1 hc
    exact Wp.wk [true, false, true, true, false] h
  · have h := h.2 hc
    refine w_iload_n (q := 15) hm161 ⟨⟨_, _, rfl⟩, rfl⟩ rfl ?_
    refine w_if_eq (q := 18) (X := x3.toInt) hm161 ⟨⟨_, _, rfl⟩, rfl⟩ rfl (fun hc => ?_) (fun hc => ?_)
    · have h := h.1 hc
      exact Wp.wk [true, false, true, true, false] h
    · have h := h.2 hc
      refine w_aload_n (q := 19) hm161 ⟨⟨_, _, rfl⟩, rfl⟩ rfl ?_
      refine w_bipush (q := 21) hm161 ⟨⟨_, _, rfl⟩, rfl⟩ bipush_22 ?_
      refine w_call (q := 24) (n := 0) (vs := [.inr (.inr (some 43)), .inl (22 : Int32)]) (rest := []) (la := [oR 43, oI (22 : Int32)]) hm161 ⟨⟨_, _, rfl⟩, rfl⟩ rfl rfl rfl rfl hm160 rfl rfl (fun _ => ⟨_, _, rfl, rfl⟩) rfl (Wp.mono h ?_)
      rintro _ m1 ⟨r1, rfl, h⟩
      change Wp _ _ 24 _ [.inl r1] _ _
      refine w_istore_n (q := 25) (l' := [oR 43, oI x1, oI x2, oI r1, oI x4]) hm161 ⟨⟨_, _, rfl⟩, rfl⟩ rfl rfl rfl ?_
      refine w_iinc (q := 28) (l' := [oR 43, oI x1, oI x2, oI r1, oI (x4 + (1 : Int32))]) hm161 ⟨⟨_, _, rfl⟩, rfl⟩ rfl rfl rfl iconst_1 rfl ?_
      refine w_goto (q := 8) hm161 ⟨_, _, rfl⟩ ?_
      exact h
theorem v_X2_checkRow_43_31 {d : Nat} {x2 : Int32} {x3 : Int32} {m : dM} {Q : dM → Prop} (h : j_X2_checkRow_43_34 (d + 1) x2 x3 (0 : Int32) m Q) : j_X2_checkRow_43_31 (d + 1) x2 x3 m Q := by
  refine w_iconst (q := 32) hm161 ⟨⟨_, _, rfl⟩, rfl⟩ iconst_0 ?_
  refine w_istore (q := 34) (l' := [oR 43, none, oI x2, oI x3, oI (0 : Int32)]) hm161 ⟨⟨_, _, rfl⟩, rfl⟩ rfl rfl rfl ?_
  exact h
theorem v_X2_checkRow_43_34 {d : Nat} {x2 : Int32} {x3 : Int32} {x4 : Int32} {m : dM} {Q : dM → Prop} (h : ((x2.toInt ≤ x4.toInt → j_X2_checkRow_43_57 (d + 1) x3 m Q) ∧ (x4.toInt < x2.toInt → ((x3.toInt = 0 → j_X2_checkRow_43_57 (d + 1) x3 m Q) ∧ (x3.toInt ≠ 0 → c_X2_need_43 d (23 : Int32) m (fun r1 m1 => j_X2_checkRow_43_34 (d + 1) x2 r1 (x4 + (1 : Int32)) m1 Q)))))) : j_X2_checkRow_43_34 (d + 1) x2 x3 x4 m Q := by
  refine w_iload (q := 36) hm161 ⟨⟨_, _, rfl⟩, rfl⟩ rfl ?_
  refine w_iload_n (q := 37) hm161 ⟨⟨_, _, rfl⟩, rfl⟩ rfl ?_
  refine w_icmp_ge (q := 40) (X := x4.toInt) (Y := x2.toInt) hm161 ⟨⟨_, _, rfl⟩, rfl⟩ rfl rfl (fun hc => ?_) (fun hc => ?_)
  · have h := h.1 hc
    exact Wp.wk [true, false, false, true, false] h
  · have h := h.2 hc
    refine w_iload_n (q := 41) hm161 ⟨⟨_, _, rfl⟩, rfl⟩ rfl ?_
    refine w_if_eq (q := 44) (X := x3.toInt) hm161 ⟨⟨_, _, rfl⟩, rfl⟩ rfl (fun hc => ?_) (fun hc => ?_)
    · have h := h.1 hc
      exact Wp.wk [true, false, false, true, false] h
    · have h := h.2 hc
      refine w_aload_n (q := 45) hm161 ⟨⟨_, _, rfl⟩, rfl⟩ rfl ?_
      refine w_bipush (q := 47) hm161 ⟨⟨_, _, rfl⟩, rfl⟩ bipush_23 ?_
      refine w_call (q := 50) (n := 0) (vs := [.inr (.inr (some 43)), .inl (23 : Int32)]) (rest := []) (la := [oR 43, oI (23 : Int32)]) hm161 ⟨⟨_, _, rfl⟩, rfl⟩ rfl rfl rfl rfl hm160 rfl rfl (fun _ => ⟨_, _, rfl, rfl⟩) rfl (Wp.mono h ?_)
      rintro _ m1 ⟨r1, rfl, h⟩
      change Wp _ _ 50 _ [.inl r1] _ _
      refine w_istore_n (q := 51) (l' := [oR 43, none, oI x2, oI r1, oI x4]) hm161 ⟨⟨_, _, rfl⟩, rfl⟩ rfl rfl rfl ?_
      refine w_iinc (q := 54) (l' := [oR 43, none, oI x2, oI r1, oI (x4 + (1 : Int32))]) hm161 ⟨⟨_, _, rfl⟩, rfl⟩ rfl rfl rfl iconst_1 rfl ?_
      refine w_goto (q := 34) hm161 ⟨_, _, rfl⟩ ?_
      exact h
theorem v_X2_checkRow_43_57 {d : Nat} {x3 : Int32} {m : dM} {Q : dM → Prop} (h : ((x3.toInt = 0 → j_X2_checkRow_43_68 (d + 1) m Q) ∧ (x3.toInt ≠ 0 → c_X2_need_43 d (59 : Int32) m (fun r1 m1 => j_X2_checkRow_43_68 (d + 1) m1 Q)))) : j_X2_checkRow_43_57 (d + 1) x3 m Q := by
  refine w_iload_n (q := 58) hm161 ⟨⟨_, _, rfl⟩, rfl⟩ rfl ?_
  refine w_if_eq (q := 61) (X := x3.toInt) hm161 ⟨⟨_, _, rfl⟩, rfl⟩ rfl (fun hc => ?_) (fun hc => ?_)
  · have h := h.1 hc
    exact Wp.wk [false, false, false, false, false] h
  · have h := h.2 hc
    refine w_aload_n (q := 62) hm161 ⟨⟨_, _, rfl⟩, rfl⟩ rfl ?_
    refine w_bipush (q := 64) hm161 ⟨⟨_, _, rfl⟩, rfl⟩ bipush_59 ?_
    refine w_call (q := 67) (n := 0) (vs := [.inr (.inr (some 43)), .inl (59 : Int32)]) (rest := []) (la := [oR 43, oI (59 : Int32)]) hm161 ⟨⟨_, _, rfl⟩, rfl⟩ rfl rfl rfl rfl hm160 rfl rfl (fun _ => ⟨_, _, rfl, rfl⟩) rfl (Wp.mono h ?_)
    rintro _ m1 ⟨r1, rfl, h⟩
    change Wp _ _ 67 _ [.inl r1] _ _
    refine w_pop (q := 68) hm161 ⟨⟨_, _, rfl⟩, rfl⟩ rfl ?_
    exact Wp.wk [false, false, false, false, false] h
theorem v_X2_checkRow_43_68 {d : Nat} {m : dM} {Q : dM → Prop} (h : Q m) : j_X2_checkRow_43_68 (d + 1) m Q := by
  exact w_retv hm161 ⟨⟨_, _, rfl⟩, rfl⟩ rfl h
end
section
theorem v_X2_checkCounted_43 {d : Nat} {x1 : Int32} {x2 : Int32} {x3 : Int32} {x4 : Int32} {m : dM} {Q : dM → Prop} (h : ((x1.toInt ≤ x2.toInt → c_X2_checkRow_43 d x3 x4 m (fun m1 => j_X2_checkCounted_43_20 (d + 1) m1 Q)) ∧ (x2.toInt < x1.toInt → j_X2_checkCounted_43_20 (d + 1) (dSet m 43 3 (2 : Int32)) Q))) : c_X2_checkCounted_43 (d + 1) x1 x2 x3 x4 m Q := by
  refine w_iload_n (q := 1) hm162 ⟨⟨_, _, rfl⟩, rfl⟩ rfl ?_
  refine w_iload_n (q := 2) hm162 ⟨⟨_, _, rfl⟩, rfl⟩ rfl ?_
  refine w_icmp_le (q := 5) (X := x1.toInt) (Y := x2.toInt) hm162 ⟨⟨_, _, rfl⟩, rfl⟩ rfl rfl (fun hc => ?_) (fun hc => ?_)
  · have h := h.1 hc
    refine w_aload_n (q := 14) hm162 ⟨⟨_, _, rfl⟩, rfl⟩ rfl ?_
    refine w_iload_n (q := 15) hm162 ⟨⟨_, _, rfl⟩, rfl⟩ rfl ?_
    refine w_iload (q := 17) hm162 ⟨⟨_, _, rfl⟩, rfl⟩ rfl ?_
    refine w_call (q := 20) (n := 2) (vs := [.inr (.inr (some 43)), .inl x3, .inl x4]) (rest := []) (la := [oR 43, oI x3, oI x4, none, none]) hm162 ⟨⟨_, _, rfl⟩, rfl⟩ rfl rfl rfl rfl hm161 rfl rfl (fun _ => ⟨_, _, rfl, rfl⟩) rfl (Wp.mono h ?_)
    rintro _ m1 ⟨rfl, h⟩
    change Wp _ _ 20 _ [] _ _
    exact Wp.wk [false, false, false, false, false] h
  · have h := h.2 hc
    refine w_aload_n (q := 6) hm162 ⟨⟨_, _, rfl⟩, rfl⟩ rfl ?_
    refine w_iconst (q := 7) hm162 ⟨⟨_, _, rfl⟩, rfl⟩ iconst_2 ?_
    refine w_putf (q := 10) hm162 ⟨⟨_, _, rfl⟩, rfl⟩ rfl rfl rfl ?_
    refine w_goto (q := 20) hm162 ⟨_, _, rfl⟩ ?_
    exact Wp.wk [false, false, false, false, false] h
theorem v_X2_checkCounted_43_20 {d : Nat} {m : dM} {Q : dM → Prop} (h : Q m) : j_X2_checkCounted_43_20 (d + 1) m Q := by
  exact w_retv hm162 ⟨⟨_, _, rfl⟩, rfl⟩ rfl h
theorem v_X8_nameAt_38 {d : Nat} {x1 : Int32} {m : dM} {Q : Int64 → dM → Prop} (h : ((x1.toInt < 0 → j_X8_nameAt_38_20 (d + 1) m Q) ∧ (0 ≤ x1.toInt → ((400 < x1.toInt → j_X8_nameAt_38_20 (d + 1) m Q) ∧ (x1.toInt ≤ 400 → ((0 ≤ x1.toInt ∧ x1.toInt < 401) ∧ Q (m.2.1 41 x1.toNatClampNeg) m)))))) : c_X8_nameAt_38 (d + 1) x1 m Q := by
  refine w_iload_n (q := 1) hm219 ⟨⟨_, _, rfl⟩, rfl⟩ rfl ?_
  refine w_if_lt (q := 4) (X := x1.toInt) hm219 ⟨⟨_, _, rfl⟩, rfl⟩ rfl (fun hc => ?_) (fun hc => ?_)
  · have h := h.1 hc
    exact Wp.wk [false, false] h
  · have h := h.2 hc
    refine w_iload_n (q := 5) hm219 ⟨⟨_, _, rfl⟩, rfl⟩ rfl ?_
    refine w_sipush (q := 8) hm219 ⟨⟨_, _, rfl⟩, rfl⟩ sipush_400 ?_
    refine w_icmp_gt (q := 11) (X := x1.toInt) (Y := 400) hm219 ⟨⟨_, _, rfl⟩, rfl⟩ rfl (by decide) (fun hc => ?_) (fun hc => ?_)
    · have h := h.1 hc
      exact Wp.wk [false, false] h
    · have h := h.2 hc
      refine w_aload_n (q := 12) hm219 ⟨⟨_, _, rfl⟩, rfl⟩ rfl ?_
      refine w_getr (q := 15) hm219 ⟨⟨_, _, rfl⟩, rfl⟩ rfl ?_
      refine w_iload_n (q := 16) hm219 ⟨⟨_, _, rfl⟩, rfl⟩ rfl ?_
      obtain ⟨hi, h⟩ := h
      refine w_lald (q := 17) (v := (m.2.1 41 x1.toNatClampNeg)) hm219 ⟨⟨_, _, rfl⟩, rfl⟩ rfl hi rfl rfl ?_
      refine w_goto (q := 21) hm219 ⟨_, _, rfl⟩ ?_
      exact w_retl hm219 ⟨⟨_, _, rfl⟩, rfl⟩ rfl h
theorem v_X8_nameAt_38_20 {d : Nat} {m : dM} {Q : Int64 → dM → Prop} (h : Q (0 : Int64) m) : j_X8_nameAt_38_20 (d + 1) m Q := by
  refine w_lconst (q := 21) hm219 ⟨⟨_, _, rfl⟩, rfl⟩ lconst_0 ?_
  exact w_retl hm219 ⟨⟨_, _, rfl⟩, rfl⟩ rfl h
theorem v_X8_numberAt_38 {d : Nat} {x1 : Int32} {m : dM} {Q : Int32 → dM → Prop} (h : c_X8_nameAt_38 d x1 m (fun r1 m1 => Q r1.toInt32 m1)) : c_X8_numberAt_38 (d + 1) x1 m Q := by
  refine w_aload_n (q := 1) hm218 ⟨⟨_, _, rfl⟩, rfl⟩ rfl ?_
  refine w_iload_n (q := 2) hm218 ⟨⟨_, _, rfl⟩, rfl⟩ rfl ?_
  refine w_call (q := 5) (n := 0) (vs := [.inr (.inr (some 38)), .inl x1]) (rest := []) (la := [oR 38, oI x1]) hm218 ⟨⟨_, _, rfl⟩, rfl⟩ rfl rfl rfl rfl hm219 rfl rfl (fun _ => ⟨_, _, rfl, rfl⟩) rfl (Wp.mono h ?_)
  rintro _ m1 ⟨r1, rfl, h⟩
  change Wp _ _ 5 _ [.inr (.inl r1)] _ _
  refine w_l2i (q := 6) hm218 ⟨⟨_, _, rfl⟩, rfl⟩ ?_
  exact w_reti hm218 ⟨⟨_, _, rfl⟩, rfl⟩ rfl h
theorem v_X2_unit_43 {d : Nat} {x1 : Int32} {m : dM} {Q : Int32 → dM → Prop} (h : c_X2_kind_43 d m (fun r1 m1 => ((r1.toInt ≠ 23 → ((r1.toInt < 13 → j_X2_unit_43_67 (d + 1) x1 r1 m1 Q) ∧ (13 ≤ r1.toInt → ((21 < r1.toInt → j_X2_unit_43_67 (d + 1) x1 r1 m1 Q) ∧ (r1.toInt ≤ 21 → c_X4_put_29 d (((4 : Int32) + r1) - (13 : Int32)) m1 (fun m2 => c_X2_step_43 d m2 (fun r3 m3 => (r3 = 0 ∨ r3 = 1) ∧ Q r3 m3))))))) ∧ (r1.toInt = 23 → c_X8_numberAt_38 d (m1.1 43 2) m1 (fun r4 m4 => c_X4_put_29 d ((13 : Int32) + r4) m4 (fun m5 => c_X2_step_43 d m5 (fun r6 m6 => (r6 = 0 ∨ r6 = 1) ∧ Q r6 m6))))))) : c_X2_unit_43 (d + 1) x1 m Q := by
  refine w_aload_n (q := 1) hm167 ⟨⟨_, _, rfl⟩, rfl⟩ rfl ?_
  refine w_call (q := 4) (n := 0) (vs := [.inr (.inr (some 43))]) (rest := []) (la := [oR 43]) hm167 ⟨⟨_, _, rfl⟩, rfl⟩ rfl rfl rfl rfl hm157 rfl rfl (fun _ => ⟨_, _, rfl, rfl⟩) rfl (Wp.mono h ?_)
  rintro _ m1 ⟨r1, rfl, h⟩
  change Wp _ _ 4 _ [.inl r1] _ _
  refine w_istore_n (q := 5) (l' := [oR 43, oI x1, oI r1]) hm167 ⟨⟨_, _, rfl⟩, rfl⟩ rfl rfl rfl ?_
  refine w_iload_n (q := 6) hm167 ⟨⟨_, _, rfl⟩, rfl⟩ rfl ?_
  refine w_bipush (q := 8) hm167 ⟨⟨_, _, rfl⟩, rfl⟩ bipush_23 ?_
  refine w_icmp_ne (q := 11) (X := r1.toInt) (Y := 23) hm167 ⟨⟨_, _, rfl⟩, rfl⟩ rfl (by decide) (fun hc => ?_) (fun hc => ?_)
  · have h := h.1 hc
    refine w_iload_n (q := 38) hm167 ⟨⟨_, _, rfl⟩, rfl⟩ rfl ?_
    refine w_bipush (q := 40) hm167 ⟨⟨_, _, rfl⟩, rfl⟩ bipush_13 ?_
    refine w_icmp_lt (q := 43) (X := r1.toInt) (Y := 13) hm167 ⟨⟨_, _, rfl⟩, rfl⟩ rfl (by decide) (fun hc => ?_) (fun hc => ?_)
    · have h := h.1 hc
      exact h
    · have h := h.2 hc
      refine w_iload_n (q := 44) hm167 ⟨⟨_, _, rfl⟩, rfl⟩ rfl ?_
      refine w_bipush (q := 46) hm167 ⟨⟨_, _, rfl⟩, rfl⟩ bipush_21 ?_
      refine w_icmp_gt (q := 49) (X := r1.toInt) (Y := 21) hm167 ⟨⟨_, _, rfl⟩, rfl⟩ rfl (by decide) (fun hc => ?_) (fun hc => ?_)
      · have h := h.1 hc
        exact h
      · have h := h.2 hc
        refine w_aload_n (q := 50) hm167 ⟨⟨_, _, rfl⟩, rfl⟩ rfl ?_
        refine w_getr (q := 53) hm167 ⟨⟨_, _, rfl⟩, rfl⟩ rfl ?_
        refine w_iconst (q := 54) hm167 ⟨⟨_, _, rfl⟩, rfl⟩ iconst_4 ?_
        refine w_iload_n (q := 55) hm167 ⟨⟨_, _, rfl⟩, rfl⟩ rfl ?_
        refine w_iadd (q := 56) hm167 ⟨⟨_, _, rfl⟩, rfl⟩ ?_
        refine w_bipush (q := 58) hm167 ⟨⟨_, _, rfl⟩, rfl⟩ bipush_13 ?_
        refine w_isub (q := 59) hm167 ⟨⟨_, _, rfl⟩, rfl⟩ ?_
        refine w_call (q := 62) (n := 0) (vs := [.inr (.inr (some 29)), .inl (((4 : Int32) + r1) - (13 : Int32))]) (rest := []) (la := [oR 29, oI (((4 : Int32) + r1) - (13 : Int32))]) hm167 ⟨⟨_, _, rfl⟩, rfl⟩ rfl rfl rfl rfl hm179 rfl rfl (fun _ => ⟨_, _, rfl, rfl⟩) rfl (Wp.mono h ?_)
        rintro _ m2 ⟨rfl, h⟩
        change Wp _ _ 62 _ [] _ _
        refine w_aload_n (q := 63) hm167 ⟨⟨_, _, rfl⟩, rfl⟩ rfl ?_
        refine w_call (q := 66) (n := 0) (vs := [.inr (.inr (some 43))]) (rest := []) (la := [oR 43]) hm167 ⟨⟨_, _, rfl⟩, rfl⟩ rfl rfl rfl rfl hm159 rfl rfl (fun _ => ⟨_, _, rfl, rfl⟩) rfl (Wp.mono h ?_)
        rintro _ m3 ⟨r3, rfl, h⟩
        change Wp _ _ 66 _ [.inl r3] _ _
        exact w_retz hm167 ⟨⟨_, _, rfl⟩, rfl⟩ rfl h.1 h.2
  · have h := h.2 hc
    refine w_aload_n (q := 12) hm167 ⟨⟨_, _, rfl⟩, rfl⟩ rfl ?_
    refine w_getr (q := 15) hm167 ⟨⟨_, _, rfl⟩, rfl⟩ rfl ?_
    refine w_bipush (q := 17) hm167 ⟨⟨_, _, rfl⟩, rfl⟩ bipush_13 ?_
    refine w_aload_n (q := 18) hm167 ⟨⟨_, _, rfl⟩, rfl⟩ rfl ?_
    refine w_getr (q := 21) hm167 ⟨⟨_, _, rfl⟩, rfl⟩ rfl ?_
    refine w_aload_n (q := 22) hm167 ⟨⟨_, _, rfl⟩, rfl⟩ rfl ?_
    refine w_getf (q := 25) (v := (m1.1 43 2)) hm167 ⟨⟨_, _, rfl⟩, rfl⟩ rfl rfl ?_
    refine w_call (q := 28) (n := 0) (vs := [.inr (.inr (some 38)), .inl (m1.1 43 2)]) (rest := [.inl (13 : Int32), .inr (.inr (some 29))]) (la := [oR 38, oI (m1.1 43 2)]) hm167 ⟨⟨_, _, rfl⟩, rfl⟩ rfl rfl rfl rfl hm218 rfl rfl (fun _ => ⟨_, _, rfl, rfl⟩) rfl (Wp.mono h ?_)
    rintro _ m4 ⟨r4, rfl, h⟩
    change Wp _ _ 28 _ [.inl r4, .inl (13 : Int32), .inr (.inr (some 29))] _ _
    refine w_iadd (q := 29) hm167 ⟨⟨_, _, rfl⟩, rfl⟩ ?_
    refine w_call (q := 32) (n := 0) (vs := [.inr (.inr (some 29)), .inl ((13 : Int32) + r4)]) (rest := []) (la := [oR 29, oI ((13 : Int32) + r4)]) hm167 ⟨⟨_, _, rfl⟩, rfl⟩ rfl rfl rfl rfl hm179 rfl rfl (fun _ => ⟨_, _, rfl, rfl⟩) rfl (Wp.mono h ?_)
    rintro _ m5 ⟨rfl, h⟩
    change Wp _ _ 32 _ [] _ _
    refine w_aload_n (q := 33) hm167 ⟨⟨_, _, rfl⟩, rfl⟩ rfl ?_
    refine w_call (q := 36) (n := 0) (vs := [.inr (.inr (some 43))]) (rest := []) (la := [oR 43]) hm167 ⟨⟨_, _, rfl⟩, rfl⟩ rfl rfl rfl rfl hm159 rfl rfl (fun _ => ⟨_, _, rfl, rfl⟩) rfl (Wp.mono h ?_)
    rintro _ m6 ⟨r6, rfl, h⟩
    change Wp _ _ 36 _ [.inl r6] _ _
    exact w_retz hm167 ⟨⟨_, _, rfl⟩, rfl⟩ rfl h.1 h.2
theorem v_X2_unit_43_67 {d : Nat} {x1 : Int32} {x2 : Int32} {m : dM} {Q : Int32 → dM → Prop} (h : ((x2.toInt = 40 → ((x1.toInt < 6 → c_X2_step_43 d m (fun r1 m1 => ((r1.toInt = 0 → j_X2_unit_43_123 (d + 1) m1 Q) ∧ (r1.toInt ≠ 0 → c_X2_sum_43 d (x1 + (1 : Int32)) m1 (fun r2 m2 => ((r2.toInt = 0 → j_X2_unit_43_123 (d + 1) m2 Q) ∧ (r2.toInt ≠ 0 → c_X2_need_43 d (41 : Int32) m2 (fun r3 m3 => ((r3.toInt = 0 → j_X2_unit_43_123 (d + 1) m3 Q) ∧ (r3.toInt ≠ 0 → Q (1 : Int32) m3)))))))))) ∧ (6 ≤ x1.toInt → c_X2_fail_43 d (2 : Int32) m (fun r4 m4 => (r4 = 0 ∨ r4 = 1) ∧ Q r4 m4)))) ∧ (x2.toInt ≠ 40 → c_X2_fail_43 d (1 : Int32) m (fun r5 m5 => (r5 = 0 ∨ r5 = 1) ∧ Q r5 m5)))) : j_X2_unit_43_67 (d + 1) x1 x2 m Q := by
  refine w_iload_n (q := 68) hm167 ⟨⟨_, _, rfl⟩, rfl⟩ rfl ?_
  refine w_bipush (q := 70) hm167 ⟨⟨_, _, rfl⟩, rfl⟩ bipush_40 ?_
  refine w_icmp_eq (q := 73) (X := x2.toInt) (Y := 40) hm167 ⟨⟨_, _, rfl⟩, rfl⟩ rfl (by decide) (fun hc => ?_) (fun hc => ?_)
  · have h := h.1 hc
    refine w_iload_n (q := 80) hm167 ⟨⟨_, _, rfl⟩, rfl⟩ rfl ?_
    refine w_bipush (q := 82) hm167 ⟨⟨_, _, rfl⟩, rfl⟩ bipush_6 ?_
    refine w_icmp_lt (q := 85) (X := x1.toInt) (Y := 6) hm167 ⟨⟨_, _, rfl⟩, rfl⟩ rfl (by decide) (fun hc => ?_) (fun hc => ?_)
    · have h := h.1 hc
      refine w_aload_n (q := 94) hm167 ⟨⟨_, _, rfl⟩, rfl⟩ rfl ?_
      refine w_call (q := 97) (n := 0) (vs := [.inr (.inr (some 43))]) (rest := []) (la := [oR 43]) hm167 ⟨⟨_, _, rfl⟩, rfl⟩ rfl rfl rfl rfl hm159 rfl rfl (fun _ => ⟨_, _, rfl, rfl⟩) rfl (Wp.mono h ?_)
      rintro _ m1 ⟨r1, rfl, h⟩
      change Wp _ _ 97 _ [.inl r1] _ _
      refine w_if_eq (q := 100) (X := r1.toInt) hm167 ⟨⟨_, _, rfl⟩, rfl⟩ rfl (fun hc => ?_) (fun hc => ?_)
      · have h := h.1 hc
        exact Wp.wk [false, false, false] h
      · have h := h.2 hc
        refine w_aload_n (q := 101) hm167 ⟨⟨_, _, rfl⟩, rfl⟩ rfl ?_
        refine w_iload_n (q := 102) hm167 ⟨⟨_, _, rfl⟩, rfl⟩ rfl ?_
        refine w_iconst (q := 103) hm167 ⟨⟨_, _, rfl⟩, rfl⟩ iconst_1 ?_
        refine w_iadd (q := 104) hm167 ⟨⟨_, _, rfl⟩, rfl⟩ ?_
        refine w_call (q := 107) (n := 2) (vs := [.inr (.inr (some 43)), .inl (x1 + (1 : Int32))]) (rest := []) (la := [oR 43, oI (x1 + (1 : Int32)), none, none]) hm167 ⟨⟨_, _, rfl⟩, rfl⟩ rfl rfl rfl rfl hm165 rfl rfl (fun _ => ⟨_, _, rfl, rfl⟩) rfl (Wp.mono h ?_)
        rintro _ m2 ⟨r2, rfl, h⟩
        change Wp _ _ 107 _ [.inl r2] _ _
        refine w_if_eq (q := 110) (X := r2.toInt) hm167 ⟨⟨_, _, rfl⟩, rfl⟩ rfl (fun hc => ?_) (fun hc => ?_)
        · have h := h.1 hc
          exact Wp.wk [false, false, false] h
        · have h := h.2 hc
          refine w_aload_n (q := 111) hm167 ⟨⟨_, _, rfl⟩, rfl⟩ rfl ?_
          refine w_bipush (q := 113) hm167 ⟨⟨_, _, rfl⟩, rfl⟩ bipush_41 ?_
          refine w_call (q := 116) (n := 0) (vs := [.inr (.inr (some 43)), .inl (41 : Int32)]) (rest := []) (la := [oR 43, oI (41 : Int32)]) hm167 ⟨⟨_, _, rfl⟩, rfl⟩ rfl rfl rfl rfl hm160 rfl rfl (fun _ => ⟨_, _, rfl, rfl⟩) rfl (Wp.mono h ?_)
          rintro _ m3 ⟨r3, rfl, h⟩
          change Wp _ _ 116 _ [.inl r3] _ _
          refine w_if_eq (q := 119) (X := r3.toInt) hm167 ⟨⟨_, _, rfl⟩, rfl⟩ rfl (fun hc => ?_) (fun hc => ?_)
          · have h := h.1 hc
            exact Wp.wk [false, false, false] h
          · have h := h.2 hc
            refine w_iconst (q := 120) hm167 ⟨⟨_, _, rfl⟩, rfl⟩ iconst_1 ?_
            refine w_goto (q := 124) hm167 ⟨_, _, rfl⟩ ?_
            exact w_retz hm167 ⟨⟨_, _, rfl⟩, rfl⟩ rfl (by decide) h
    · have h := h.2 hc
      refine w_aload_n (q := 86) hm167 ⟨⟨_, _, rfl⟩, rfl⟩ rfl ?_
      refine w_iconst (q := 87) hm167 ⟨⟨_, _, rfl⟩, rfl⟩ iconst_2 ?_
      refine w_call (q := 90) (n := 0) (vs := [.inr (.inr (some 43)), .inl (2 : Int32)]) (rest := []) (la := [oR 43, oI (2 : Int32)]) hm167 ⟨⟨_, _, rfl⟩, rfl⟩ rfl rfl rfl rfl hm158 rfl rfl (fun _ => ⟨_, _, rfl, rfl⟩) rfl (Wp.mono h ?_)
      rintro _ m4 ⟨r4, rfl, h⟩
      change Wp _ _ 90 _ [.inl r4] _ _
      refine w_goto (q := 124) hm167 ⟨_, _, rfl⟩ ?_
      exact w_retz hm167 ⟨⟨_, _, rfl⟩, rfl⟩ rfl h.1 h.2
  · have h := h.2 hc
    refine w_aload_n (q := 74) hm167 ⟨⟨_, _, rfl⟩, rfl⟩ rfl ?_
    refine w_iconst (q := 75) hm167 ⟨⟨_, _, rfl⟩, rfl⟩ iconst_1 ?_
    refine w_call (q := 78) (n := 0) (vs := [.inr (.inr (some 43)), .inl (1 : Int32)]) (rest := []) (la := [oR 43, oI (1 : Int32)]) hm167 ⟨⟨_, _, rfl⟩, rfl⟩ rfl rfl rfl rfl hm158 rfl rfl (fun _ => ⟨_, _, rfl, rfl⟩) rfl (Wp.mono h ?_)
    rintro _ m5 ⟨r5, rfl, h⟩
    change Wp _ _ 78 _ [.inl r5] _ _
    exact w_retz hm167 ⟨⟨_, _, rfl⟩, rfl⟩ rfl h.1 h.2
theorem v_X2_unit_43_123 {d : Nat} {m : dM} {Q : Int32 → dM → Prop} (h : Q (0 : Int32) m) : j_X2_unit_43_123 (d + 1) m Q := by
  refine w_iconst (q := 124) hm167 ⟨⟨_, _, rfl⟩, rfl⟩ iconst_0 ?_
  exact w_retz hm167 ⟨⟨_, _, rfl⟩, rfl⟩ rfl (by decide) h
theorem v_X2_product_43 {d : Nat} {x1 : Int32} {m : dM} {Q : Int32 → dM → Prop} (h : c_X2_unit_43 d x1 m (fun r1 m1 => ((r1.toInt ≠ 0 → j_X2_product_43_12 (d + 1) x1 (0 : Int32) m1 Q) ∧ (r1.toInt = 0 → Q (0 : Int32) m1)))) : c_X2_product_43 (d + 1) x1 m Q := by
  refine w_aload_n (q := 1) hm166 ⟨⟨_, _, rfl⟩, rfl⟩ rfl ?_
  refine w_iload_n (q := 2) hm166 ⟨⟨_, _, rfl⟩, rfl⟩ rfl ?_
  refine w_call (q := 5) (n := 1) (vs := [.inr (.inr (some 43)), .inl x1]) (rest := []) (la := [oR 43, oI x1, none]) hm166 ⟨⟨_, _, rfl⟩, rfl⟩ rfl rfl rfl rfl hm167 rfl rfl (fun _ => ⟨_, _, rfl, rfl⟩) rfl (Wp.mono h ?_)
  rintro _ m1 ⟨r1, rfl, h⟩
  change Wp _ _ 5 _ [.inl r1] _ _
  refine w_if_ne (q := 8) (X := r1.toInt) hm166 ⟨⟨_, _, rfl⟩, rfl⟩ rfl (fun hc => ?_) (fun hc => ?_)
  · have h := h.1 hc
    refine w_iconst (q := 11) hm166 ⟨⟨_, _, rfl⟩, rfl⟩ iconst_0 ?_
    refine w_istore_n (q := 12) (l' := [oR 43, oI x1, oI (0 : Int32), none]) hm166 ⟨⟨_, _, rfl⟩, rfl⟩ rfl rfl rfl ?_
    exact h
  · have h := h.2 hc
    refine w_iconst (q := 9) hm166 ⟨⟨_, _, rfl⟩, rfl⟩ iconst_0 ?_
    exact w_retz hm166 ⟨⟨_, _, rfl⟩, rfl⟩ rfl (by decide) h
theorem v_X2_product_43_12 {d : Nat} {x1 : Int32} {x2 : Int32} {m : dM} {Q : Int32 → dM → Prop} (h : ((400 ≤ x2.toInt → j_X2_product_43_83 (d + 1) m Q) ∧ (x2.toInt < 400 → c_X2_kind_43 d m (fun r1 m1 => ((r1.toInt = 42 → j_X2_product_43_37 (d + 1) x1 x2 m1 Q) ∧ (r1.toInt ≠ 42 → c_X2_kind_43 d m1 (fun r2 m2 => ((r2.toInt ≠ 47 → j_X2_product_43_83 (d + 1) m2 Q) ∧ (r2.toInt = 47 → j_X2_product_43_37 (d + 1) x1 x2 m2 Q))))))))) : j_X2_product_43_12 (d + 1) x1 x2 m Q := by
  refine w_iload_n (q := 13) hm166 ⟨⟨_, _, rfl⟩, rfl⟩ rfl ?_
  refine w_sipush (q := 16) hm166 ⟨⟨_, _, rfl⟩, rfl⟩ sipush_400 ?_
  refine w_icmp_ge (q := 19) (X := x2.toInt) (Y := 400) hm166 ⟨⟨_, _, rfl⟩, rfl⟩ rfl (by decide) (fun hc => ?_) (fun hc => ?_)
  · have h := h.1 hc
    exact Wp.wk [false, false, false, false] h
  · have h := h.2 hc
    refine w_aload_n (q := 20) hm166 ⟨⟨_, _, rfl⟩, rfl⟩ rfl ?_
    refine w_call (q := 23) (n := 0) (vs := [.inr (.inr (some 43))]) (rest := []) (la := [oR 43]) hm166 ⟨⟨_, _, rfl⟩, rfl⟩ rfl rfl rfl rfl hm157 rfl rfl (fun _ => ⟨_, _, rfl, rfl⟩) rfl (Wp.mono h ?_)
    rintro _ m1 ⟨r1, rfl, h⟩
    change Wp _ _ 23 _ [.inl r1] _ _
    refine w_bipush (q := 25) hm166 ⟨⟨_, _, rfl⟩, rfl⟩ bipush_42 ?_
    refine w_icmp_eq (q := 28) (X := r1.toInt) (Y := 42) hm166 ⟨⟨_, _, rfl⟩, rfl⟩ rfl (by decide) (fun hc => ?_) (fun hc => ?_)
    · have h := h.1 hc
      exact h
    · have h := h.2 hc
      refine w_aload_n (q := 29) hm166 ⟨⟨_, _, rfl⟩, rfl⟩ rfl ?_
      refine w_call (q := 32) (n := 0) (vs := [.inr (.inr (some 43))]) (rest := []) (la := [oR 43]) hm166 ⟨⟨_, _, rfl⟩, rfl⟩ rfl rfl rfl rfl hm157 rfl rfl (fun _ => ⟨_, _, rfl, rfl⟩) rfl (Wp.mono h ?_)
      rintro _ m2 ⟨r2, rfl, h⟩
      change Wp _ _ 32 _ [.inl r2] _ _
      refine w_bipush (q := 34) hm166 ⟨⟨_, _, rfl⟩, rfl⟩ bipush_47 ?_
      refine w_icmp_ne (q := 37) (X := r2.toInt) (Y := 47) hm166 ⟨⟨_, _, rfl⟩, rfl⟩ rfl (by decide) (fun hc => ?_) (fun hc => ?_)
      · have h := h.1 hc
        exact Wp.wk [false, false, false, false] h
      · have h := h.2 hc
        exact h
theorem v_X2_product_43_37 {d : Nat} {x1 : Int32} {x2 : Int32} {m : dM} {Q : Int32 → dM → Prop} (h : c_X2_kind_43 d m (fun r1 m1 => ((r1.toInt ≠ 42 → c_X2_step_43 d m1 (fun r2 m2 => ((r2.toInt = 0 → j_X2_product_43_67 (d + 1) m2 Q) ∧ (r2.toInt ≠ 0 → c_X2_unit_43 d x1 m2 (fun r3 m3 => ((r3.toInt ≠ 0 → c_X4_put_29 d (3 : Int32) m3 (fun m4 => j_X2_product_43_12 (d + 1) x1 (x2 + (1 : Int32)) m4 Q)) ∧ (r3.toInt = 0 → j_X2_product_43_67 (d + 1) m3 Q))))))) ∧ (r1.toInt = 42 → c_X2_step_43 d m1 (fun r5 m5 => ((r5.toInt = 0 → j_X2_product_43_67 (d + 1) m5 Q) ∧ (r5.toInt ≠ 0 → c_X2_unit_43 d x1 m5 (fun r6 m6 => ((r6.toInt ≠ 0 → c_X4_put_29 d (2 : Int32) m6 (fun m7 => j_X2_product_43_12 (d + 1) x1 (x2 + (1 : Int32)) m7 Q)) ∧ (r6.toInt = 0 → j_X2_product_43_67 (d + 1) m6 Q)))))))))) : j_X2_product_43_37 (d + 1) x1 x2 m Q := by
  refine w_aload_n (q := 38) hm166 ⟨⟨_, _, rfl⟩, rfl⟩ rfl ?_
  refine w_call (q := 41) (n := 0) (vs := [.inr (.inr (some 43))]) (rest := []) (la := [oR 43]) hm166 ⟨⟨_, _, rfl⟩, rfl⟩ rfl rfl rfl rfl hm157 rfl rfl (fun _ => ⟨_, _, rfl, rfl⟩) rfl (Wp.mono h ?_)
  rintro _ m1 ⟨r1, rfl, h⟩
  change Wp _ _ 41 _ [.inl r1] _ _
  refine w_bipush (q := 43) hm166 ⟨⟨_, _, rfl⟩, rfl⟩ bipush_42 ?_
  refine w_icmp_ne (q := 46) (X := r1.toInt) (Y := 42) hm166 ⟨⟨_, _, rfl⟩, rfl⟩ rfl (by decide) (fun hc => ?_) (fun hc => ?_)
  · have h := h.1 hc
    refine w_iconst (q := 51) hm166 ⟨⟨_, _, rfl⟩, rfl⟩ iconst_3 ?_
    refine w_istore_n (q := 52) (l' := [oR 43, oI x1, oI x2, oI (3 : Int32)]) hm166 ⟨⟨_, _, rfl⟩, rfl⟩ rfl rfl rfl ?_
    refine w_aload_n (q := 53) hm166 ⟨⟨_, _, rfl⟩, rfl⟩ rfl ?_
    refine w_call (q := 56) (n := 0) (vs := [.inr (.inr (some 43))]) (rest := []) (la := [oR 43]) hm166 ⟨⟨_, _, rfl⟩, rfl⟩ rfl rfl rfl rfl hm159 rfl rfl (fun _ => ⟨_, _, rfl, rfl⟩) rfl (Wp.mono h ?_)
    rintro _ m2 ⟨r2, rfl, h⟩
    change Wp _ _ 56 _ [.inl r2] _ _
    refine w_if_eq (q := 59) (X := r2.toInt) hm166 ⟨⟨_, _, rfl⟩, rfl⟩ rfl (fun hc => ?_) (fun hc => ?_)
    · have h := h.1 hc
      exact Wp.wk [false, false, false, false] h
    · have h := h.2 hc
      refine w_aload_n (q := 60) hm166 ⟨⟨_, _, rfl⟩, rfl⟩ rfl ?_
      refine w_iload_n (q := 61) hm166 ⟨⟨_, _, rfl⟩, rfl⟩ rfl ?_
      refine w_call (q := 64) (n := 1) (vs := [.inr (.inr (some 43)), .inl x1]) (rest := []) (la := [oR 43, oI x1, none]) hm166 ⟨⟨_, _, rfl⟩, rfl⟩ rfl rfl rfl rfl hm167 rfl rfl (fun _ => ⟨_, _, rfl, rfl⟩) rfl (Wp.mono h ?_)
      rintro _ m3 ⟨r3, rfl, h⟩
      change Wp _ _ 64 _ [.inl r3] _ _
      refine w_if_ne (q := 67) (X := r3.toInt) hm166 ⟨⟨_, _, rfl⟩, rfl⟩ rfl (fun hc => ?_) (fun hc => ?_)
      · have h := h.1 hc
        refine w_aload_n (q := 70) hm166 ⟨⟨_, _, rfl⟩, rfl⟩ rfl ?_
        refine w_getr (q := 73) hm166 ⟨⟨_, _, rfl⟩, rfl⟩ rfl ?_
        refine w_iload_n (q := 74) hm166 ⟨⟨_, _, rfl⟩, rfl⟩ rfl ?_
        refine w_call (q := 77) (n := 0) (vs := [.inr (.inr (some 29)), .inl (3 : Int32)]) (rest := []) (la := [oR 29, oI (3 : Int32)]) hm166 ⟨⟨_, _, rfl⟩, rfl⟩ rfl rfl rfl rfl hm179 rfl rfl (fun _ => ⟨_, _, rfl, rfl⟩) rfl (Wp.mono h ?_)
        rintro _ m4 ⟨rfl, h⟩
        change Wp _ _ 77 _ [] _ _
        refine w_iinc (q := 80) (l' := [oR 43, oI x1, oI (x2 + (1 : Int32)), oI (3 : Int32)]) hm166 ⟨⟨_, _, rfl⟩, rfl⟩ rfl rfl rfl iconst_1 rfl ?_
        refine w_goto (q := 12) hm166 ⟨_, _, rfl⟩ ?_
        exact Wp.wk [true, true, true, false] h
      · have h := h.2 hc
        exact Wp.wk [false, false, false, false] h
  · have h := h.2 hc
    refine w_iconst (q := 47) hm166 ⟨⟨_, _, rfl⟩, rfl⟩ iconst_2 ?_
    refine w_goto (q := 51) hm166 ⟨_, _, rfl⟩ ?_
    refine w_istore_n (q := 52) (l' := [oR 43, oI x1, oI x2, oI (2 : Int32)]) hm166 ⟨⟨_, _, rfl⟩, rfl⟩ rfl rfl rfl ?_
    refine w_aload_n (q := 53) hm166 ⟨⟨_, _, rfl⟩, rfl⟩ rfl ?_
    refine w_call (q := 56) (n := 0) (vs := [.inr (.inr (some 43))]) (rest := []) (la := [oR 43]) hm166 ⟨⟨_, _, rfl⟩, rfl⟩ rfl rfl rfl rfl hm159 rfl rfl (fun _ => ⟨_, _, rfl, rfl⟩) rfl (Wp.mono h ?_)
    rintro _ m5 ⟨r5, rfl, h⟩
    change Wp _ _ 56 _ [.inl r5] _ _
    refine w_if_eq (q := 59) (X := r5.toInt) hm166 ⟨⟨_, _, rfl⟩, rfl⟩ rfl (fun hc => ?_) (fun hc => ?_)
    · have h := h.1 hc
      exact Wp.wk [false, false, false, false] h
    · have h := h.2 hc
      refine w_aload_n (q := 60) hm166 ⟨⟨_, _, rfl⟩, rfl⟩ rfl ?_
      refine w_iload_n (q := 61) hm166 ⟨⟨_, _, rfl⟩, rfl⟩ rfl ?_
      refine w_call (q := 64) (n := 1) (vs := [.inr (.inr (some 43)), .inl x1]) (rest := []) (la := [oR 43, oI x1, none]) hm166 ⟨⟨_, _, rfl⟩, rfl⟩ rfl rfl rfl rfl hm167 rfl rfl (fun _ => ⟨_, _, rfl, rfl⟩) rfl (Wp.mono h ?_)
      rintro _ m6 ⟨r6, rfl, h⟩
      change Wp _ _ 64 _ [.inl r6] _ _
      refine w_if_ne (q := 67) (X := r6.toInt) hm166 ⟨⟨_, _, rfl⟩, rfl⟩ rfl (fun hc => ?_) (fun hc => ?_)
      · have h := h.1 hc
        refine w_aload_n (q := 70) hm166 ⟨⟨_, _, rfl⟩, rfl⟩ rfl ?_
        refine w_getr (q := 73) hm166 ⟨⟨_, _, rfl⟩, rfl⟩ rfl ?_
        refine w_iload_n (q := 74) hm166 ⟨⟨_, _, rfl⟩, rfl⟩ rfl ?_
        refine w_call (q := 77) (n := 0) (vs := [.inr (.inr (some 29)), .inl (2 : Int32)]) (rest := []) (la := [oR 29, oI (2 : Int32)]) hm166 ⟨⟨_, _, rfl⟩, rfl⟩ rfl rfl rfl rfl hm179 rfl rfl (fun _ => ⟨_, _, rfl, rfl⟩) rfl (Wp.mono h ?_)
        rintro _ m7 ⟨rfl, h⟩
        change Wp _ _ 77 _ [] _ _
        refine w_iinc (q := 80) (l' := [oR 43, oI x1, oI (x2 + (1 : Int32)), oI (2 : Int32)]) hm166 ⟨⟨_, _, rfl⟩, rfl⟩ rfl rfl rfl iconst_1 rfl ?_
        refine w_goto (q := 12) hm166 ⟨_, _, rfl⟩ ?_
        exact Wp.wk [true, true, true, false] h
      · have h := h.2 hc
        exact Wp.wk [false, false, false, false] h
theorem v_X2_product_43_67 {d : Nat} {m : dM} {Q : Int32 → dM → Prop} (h : Q (0 : Int32) m) : j_X2_product_43_67 (d + 1) m Q := by
  refine w_iconst (q := 68) hm166 ⟨⟨_, _, rfl⟩, rfl⟩ iconst_0 ?_
  exact w_retz hm166 ⟨⟨_, _, rfl⟩, rfl⟩ rfl (by decide) h
theorem v_X2_product_43_83 {d : Nat} {m : dM} {Q : Int32 → dM → Prop} (h : Q (1 : Int32) m) : j_X2_product_43_83 (d + 1) m Q := by
  refine w_iconst (q := 84) hm166 ⟨⟨_, _, rfl⟩, rfl⟩ iconst_1 ?_
  exact w_retz hm166 ⟨⟨_, _, rfl⟩, rfl⟩ rfl (by decide) h
theorem v_X2_sum_43 {d : Nat} {x1 : Int32} {m : dM} {Q : Int32 → dM → Prop} (h : c_X2_product_43 d x1 m (fun r1 m1 => ((r1.toInt ≠ 0 → j_X2_sum_43_12 (d + 1) x1 (0 : Int32) m1 Q) ∧ (r1.toInt = 0 → Q (0 : Int32) m1)))) : c_X2_sum_43 (d + 1) x1 m Q := by
  refine w_aload_n (q := 1) hm165 ⟨⟨_, _, rfl⟩, rfl⟩ rfl ?_
  refine w_iload_n (q := 2) hm165 ⟨⟨_, _, rfl⟩, rfl⟩ rfl ?_
  refine w_call (q := 5) (n := 2) (vs := [.inr (.inr (some 43)), .inl x1]) (rest := []) (la := [oR 43, oI x1, none, none]) hm165 ⟨⟨_, _, rfl⟩, rfl⟩ rfl rfl rfl rfl hm166 rfl rfl (fun _ => ⟨_, _, rfl, rfl⟩) rfl (Wp.mono h ?_)
  rintro _ m1 ⟨r1, rfl, h⟩
  change Wp _ _ 5 _ [.inl r1] _ _
  refine w_if_ne (q := 8) (X := r1.toInt) hm165 ⟨⟨_, _, rfl⟩, rfl⟩ rfl (fun hc => ?_) (fun hc => ?_)
  · have h := h.1 hc
    refine w_iconst (q := 11) hm165 ⟨⟨_, _, rfl⟩, rfl⟩ iconst_0 ?_
    refine w_istore_n (q := 12) (l' := [oR 43, oI x1, oI (0 : Int32), none]) hm165 ⟨⟨_, _, rfl⟩, rfl⟩ rfl rfl rfl ?_
    exact h
  · have h := h.2 hc
    refine w_iconst (q := 9) hm165 ⟨⟨_, _, rfl⟩, rfl⟩ iconst_0 ?_
    exact w_retz hm165 ⟨⟨_, _, rfl⟩, rfl⟩ rfl (by decide) h
theorem v_X2_sum_43_12 {d : Nat} {x1 : Int32} {x2 : Int32} {m : dM} {Q : Int32 → dM → Prop} (h : ((400 ≤ x2.toInt → j_X2_sum_43_83 (d + 1) m Q) ∧ (x2.toInt < 400 → c_X2_kind_43 d m (fun r1 m1 => ((r1.toInt = 43 → j_X2_sum_43_37 (d + 1) x1 x2 m1 Q) ∧ (r1.toInt ≠ 43 → c_X2_kind_43 d m1 (fun r2 m2 => ((r2.toInt ≠ 45 → j_X2_sum_43_83 (d + 1) m2 Q) ∧ (r2.toInt = 45 → j_X2_sum_43_37 (d + 1) x1 x2 m2 Q))))))))) : j_X2_sum_43_12 (d + 1) x1 x2 m Q := by
  refine w_iload_n (q := 13) hm165 ⟨⟨_, _, rfl⟩, rfl⟩ rfl ?_
  refine w_sipush (q := 16) hm165 ⟨⟨_, _, rfl⟩, rfl⟩ sipush_400 ?_
  refine w_icmp_ge (q := 19) (X := x2.toInt) (Y := 400) hm165 ⟨⟨_, _, rfl⟩, rfl⟩ rfl (by decide) (fun hc => ?_) (fun hc => ?_)
  · have h := h.1 hc
    exact Wp.wk [false, false, false, false] h
  · have h := h.2 hc
    refine w_aload_n (q := 20) hm165 ⟨⟨_, _, rfl⟩, rfl⟩ rfl ?_
    refine w_call (q := 23) (n := 0) (vs := [.inr (.inr (some 43))]) (rest := []) (la := [oR 43]) hm165 ⟨⟨_, _, rfl⟩, rfl⟩ rfl rfl rfl rfl hm157 rfl rfl (fun _ => ⟨_, _, rfl, rfl⟩) rfl (Wp.mono h ?_)
    rintro _ m1 ⟨r1, rfl, h⟩
    change Wp _ _ 23 _ [.inl r1] _ _
    refine w_bipush (q := 25) hm165 ⟨⟨_, _, rfl⟩, rfl⟩ bipush_43 ?_
    refine w_icmp_eq (q := 28) (X := r1.toInt) (Y := 43) hm165 ⟨⟨_, _, rfl⟩, rfl⟩ rfl (by decide) (fun hc => ?_) (fun hc => ?_)
    · have h := h.1 hc
      exact h
    · have h := h.2 hc
      refine w_aload_n (q := 29) hm165 ⟨⟨_, _, rfl⟩, rfl⟩ rfl ?_
      refine w_call (q := 32) (n := 0) (vs := [.inr (.inr (some 43))]) (rest := []) (la := [oR 43]) hm165 ⟨⟨_, _, rfl⟩, rfl⟩ rfl rfl rfl rfl hm157 rfl rfl (fun _ => ⟨_, _, rfl, rfl⟩) rfl (Wp.mono h ?_)
      rintro _ m2 ⟨r2, rfl, h⟩
      change Wp _ _ 32 _ [.inl r2] _ _
      refine w_bipush (q := 34) hm165 ⟨⟨_, _, rfl⟩, rfl⟩ bipush_45 ?_
      refine w_icmp_ne (q := 37) (X := r2.toInt) (Y := 45) hm165 ⟨⟨_, _, rfl⟩, rfl⟩ rfl (by decide) (fun hc => ?_) (fun hc => ?_)
      · have h := h.1 hc
        exact Wp.wk [false, false, false, false] h
      · have h := h.2 hc
        exact h
theorem v_X2_sum_43_37 {d : Nat} {x1 : Int32} {x2 : Int32} {m : dM} {Q : Int32 → dM → Prop} (h : c_X2_kind_43 d m (fun r1 m1 => ((r1.toInt ≠ 43 → c_X2_step_43 d m1 (fun r2 m2 => ((r2.toInt = 0 → j_X2_sum_43_67 (d + 1) m2 Q) ∧ (r2.toInt ≠ 0 → c_X2_product_43 d x1 m2 (fun r3 m3 => ((r3.toInt ≠ 0 → c_X4_put_29 d (1 : Int32) m3 (fun m4 => j_X2_sum_43_12 (d + 1) x1 (x2 + (1 : Int32)) m4 Q)) ∧ (r3.toInt = 0 → j_X2_sum_43_67 (d + 1) m3 Q))))))) ∧ (r1.toInt = 43 → c_X2_step_43 d m1 (fun r5 m5 => ((r5.toInt = 0 → j_X2_sum_43_67 (d + 1) m5 Q) ∧ (r5.toInt ≠ 0 → c_X2_product_43 d x1 m5 (fun r6 m6 => ((r6.toInt ≠ 0 → c_X4_put_29 d (0 : Int32) m6 (fun m7 => j_X2_sum_43_12 (d + 1) x1 (x2 + (1 : Int32)) m7 Q)) ∧ (r6.toInt = 0 → j_X2_sum_43_67 (d + 1) m6 Q)))))))))) : j_X2_sum_43_37 (d + 1) x1 x2 m Q := by
  refine w_aload_n (q := 38) hm165 ⟨⟨_, _, rfl⟩, rfl⟩ rfl ?_
  refine w_call (q := 41) (n := 0) (vs := [.inr (.inr (some 43))]) (rest := []) (la := [oR 43]) hm165 ⟨⟨_, _, rfl⟩, rfl⟩ rfl rfl rfl rfl hm157 rfl rfl (fun _ => ⟨_, _, rfl, rfl⟩) rfl (Wp.mono h ?_)
  rintro _ m1 ⟨r1, rfl, h⟩
  change Wp _ _ 41 _ [.inl r1] _ _
  refine w_bipush (q := 43) hm165 ⟨⟨_, _, rfl⟩, rfl⟩ bipush_43 ?_
  refine w_icmp_ne (q := 46) (X := r1.toInt) (Y := 43) hm165 ⟨⟨_, _, rfl⟩, rfl⟩ rfl (by decide) (fun hc => ?_) (fun hc => ?_)
  · have h := h.1 hc
    refine w_iconst (q := 51) hm165 ⟨⟨_, _, rfl⟩, rfl⟩ iconst_1 ?_
    refine w_istore_n (q := 52) (l' := [oR 43, oI x1, oI x2, oI (1 : Int32)]) hm165 ⟨⟨_, _, rfl⟩, rfl⟩ rfl rfl rfl ?_
    refine w_aload_n (q := 53) hm165 ⟨⟨_, _, rfl⟩, rfl⟩ rfl ?_
    refine w_call (q := 56) (n := 0) (vs := [.inr (.inr (some 43))]) (rest := []) (la := [oR 43]) hm165 ⟨⟨_, _, rfl⟩, rfl⟩ rfl rfl rfl rfl hm159 rfl rfl (fun _ => ⟨_, _, rfl, rfl⟩) rfl (Wp.mono h ?_)
    rintro _ m2 ⟨r2, rfl, h⟩
    change Wp _ _ 56 _ [.inl r2] _ _
    refine w_if_eq (q := 59) (X := r2.toInt) hm165 ⟨⟨_, _, rfl⟩, rfl⟩ rfl (fun hc => ?_) (fun hc => ?_)
    · have h := h.1 hc
      exact Wp.wk [false, false, false, false] h
    · have h := h.2 hc
      refine w_aload_n (q := 60) hm165 ⟨⟨_, _, rfl⟩, rfl⟩ rfl ?_
      refine w_iload_n (q := 61) hm165 ⟨⟨_, _, rfl⟩, rfl⟩ rfl ?_
      refine w_call (q := 64) (n := 2) (vs := [.inr (.inr (some 43)), .inl x1]) (rest := []) (la := [oR 43, oI x1, none, none]) hm165 ⟨⟨_, _, rfl⟩, rfl⟩ rfl rfl rfl rfl hm166 rfl rfl (fun _ => ⟨_, _, rfl, rfl⟩) rfl (Wp.mono h ?_)
      rintro _ m3 ⟨r3, rfl, h⟩
      change Wp _ _ 64 _ [.inl r3] _ _
      refine w_if_ne (q := 67) (X := r3.toInt) hm165 ⟨⟨_, _, rfl⟩, rfl⟩ rfl (fun hc => ?_) (fun hc => ?_)
      · have h := h.1 hc
        refine w_aload_n (q := 70) hm165 ⟨⟨_, _, rfl⟩, rfl⟩ rfl ?_
        refine w_getr (q := 73) hm165 ⟨⟨_, _, rfl⟩, rfl⟩ rfl ?_
        refine w_iload_n (q := 74) hm165 ⟨⟨_, _, rfl⟩, rfl⟩ rfl ?_
        refine w_call (q := 77) (n := 0) (vs := [.inr (.inr (some 29)), .inl (1 : Int32)]) (rest := []) (la := [oR 29, oI (1 : Int32)]) hm165 ⟨⟨_, _, rfl⟩, rfl⟩ rfl rfl rfl rfl hm179 rfl rfl (fun _ => ⟨_, _, rfl, rfl⟩) rfl (Wp.mono h ?_)
        rintro _ m4 ⟨rfl, h⟩
        change Wp _ _ 77 _ [] _ _
        refine w_iinc (q := 80) (l' := [oR 43, oI x1, oI (x2 + (1 : Int32)), oI (1 : Int32)]) hm165 ⟨⟨_, _, rfl⟩, rfl⟩ rfl rfl rfl iconst_1 rfl ?_
        refine w_goto (q := 12) hm165 ⟨_, _, rfl⟩ ?_
        exact Wp.wk [true, true, true, false] h
      · have h := h.2 hc
        exact Wp.wk [false, false, false, false] h
  · have h := h.2 hc
    refine w_iconst (q := 47) hm165 ⟨⟨_, _, rfl⟩, rfl⟩ iconst_0 ?_
    refine w_goto (q := 51) hm165 ⟨_, _, rfl⟩ ?_
    refine w_istore_n (q := 52) (l' := [oR 43, oI x1, oI x2, oI (0 : Int32)]) hm165 ⟨⟨_, _, rfl⟩, rfl⟩ rfl rfl rfl ?_
    refine w_aload_n (q := 53) hm165 ⟨⟨_, _, rfl⟩, rfl⟩ rfl ?_
    refine w_call (q := 56) (n := 0) (vs := [.inr (.inr (some 43))]) (rest := []) (la := [oR 43]) hm165 ⟨⟨_, _, rfl⟩, rfl⟩ rfl rfl rfl rfl hm159 rfl rfl (fun _ => ⟨_, _, rfl, rfl⟩) rfl (Wp.mono h ?_)
    rintro _ m5 ⟨r5, rfl, h⟩
    change Wp _ _ 56 _ [.inl r5] _ _
    refine w_if_eq (q := 59) (X := r5.toInt) hm165 ⟨⟨_, _, rfl⟩, rfl⟩ rfl (fun hc => ?_) (fun hc => ?_)
    · have h := h.1 hc
      exact Wp.wk [false, false, false, false] h
    · have h := h.2 hc
      refine w_aload_n (q := 60) hm165 ⟨⟨_, _, rfl⟩, rfl⟩ rfl ?_
      refine w_iload_n (q := 61) hm165 ⟨⟨_, _, rfl⟩, rfl⟩ rfl ?_
      refine w_call (q := 64) (n := 2) (vs := [.inr (.inr (some 43)), .inl x1]) (rest := []) (la := [oR 43, oI x1, none, none]) hm165 ⟨⟨_, _, rfl⟩, rfl⟩ rfl rfl rfl rfl hm166 rfl rfl (fun _ => ⟨_, _, rfl, rfl⟩) rfl (Wp.mono h ?_)
      rintro _ m6 ⟨r6, rfl, h⟩
      change Wp _ _ 64 _ [.inl r6] _ _
      refine w_if_ne (q := 67) (X := r6.toInt) hm165 ⟨⟨_, _, rfl⟩, rfl⟩ rfl (fun hc => ?_) (fun hc => ?_)
      · have h := h.1 hc
        refine w_aload_n (q := 70) hm165 ⟨⟨_, _, rfl⟩, rfl⟩ rfl ?_
        refine w_getr (q := 73) hm165 ⟨⟨_, _, rfl⟩, rfl⟩ rfl ?_
        refine w_iload_n (q := 74) hm165 ⟨⟨_, _, rfl⟩, rfl⟩ rfl ?_
        refine w_call (q := 77) (n := 0) (vs := [.inr (.inr (some 29)), .inl (0 : Int32)]) (rest := []) (la := [oR 29, oI (0 : Int32)]) hm165 ⟨⟨_, _, rfl⟩, rfl⟩ rfl rfl rfl rfl hm179 rfl rfl (fun _ => ⟨_, _, rfl, rfl⟩) rfl (Wp.mono h ?_)
        rintro _ m7 ⟨rfl, h⟩
        change Wp _ _ 77 _ [] _ _
        refine w_iinc (q := 80) (l' := [oR 43, oI x1, oI (x2 + (1 : Int32)), oI (0 : Int32)]) hm165 ⟨⟨_, _, rfl⟩, rfl⟩ rfl rfl rfl iconst_1 rfl ?_
        refine w_goto (q := 12) hm165 ⟨_, _, rfl⟩ ?_
        exact Wp.wk [true, true, true, false] h
      · have h := h.2 hc
        exact Wp.wk [false, false, false, false] h
theorem v_X2_sum_43_67 {d : Nat} {m : dM} {Q : Int32 → dM → Prop} (h : Q (0 : Int32) m) : j_X2_sum_43_67 (d + 1) m Q := by
  refine w_iconst (q := 68) hm165 ⟨⟨_, _, rfl⟩, rfl⟩ iconst_0 ?_
  exact w_retz hm165 ⟨⟨_, _, rfl⟩, rfl⟩ rfl (by decide) h
theorem v_X2_sum_43_83 {d : Nat} {m : dM} {Q : Int32 → dM → Prop} (h : Q (1 : Int32) m) : j_X2_sum_43_83 (d + 1) m Q := by
  refine w_iconst (q := 84) hm165 ⟨⟨_, _, rfl⟩, rfl⟩ iconst_1 ?_
  exact w_retz hm165 ⟨⟨_, _, rfl⟩, rfl⟩ rfl (by decide) h
theorem v_X2_endPiece_43 {d : Nat} {x1 : Int32} {x2 : Int32} {m : dM} {Q : Int32 → dM → Prop} (h : c_X4_endPiece_29 d x1 m (fun m1 => c_X2_need_43 d x2 m1 (fun r2 m2 => (r2 = 0 ∨ r2 = 1) ∧ Q r2 m2))) : c_X2_endPiece_43 (d + 1) x1 x2 m Q := by
  refine w_aload_n (q := 1) hm164 ⟨⟨_, _, rfl⟩, rfl⟩ rfl ?_
  refine w_getr (q := 4) hm164 ⟨⟨_, _, rfl⟩, rfl⟩ rfl ?_
  refine w_iload_n (q := 5) hm164 ⟨⟨_, _, rfl⟩, rfl⟩ rfl ?_
  refine w_call (q := 8) (n := 0) (vs := [.inr (.inr (some 29)), .inl x1]) (rest := []) (la := [oR 29, oI x1]) hm164 ⟨⟨_, _, rfl⟩, rfl⟩ rfl rfl rfl rfl hm180 rfl rfl (fun _ => ⟨_, _, rfl, rfl⟩) rfl (Wp.mono h ?_)
  rintro _ m1 ⟨rfl, h⟩
  change Wp _ _ 8 _ [] _ _
  refine w_aload_n (q := 9) hm164 ⟨⟨_, _, rfl⟩, rfl⟩ rfl ?_
  refine w_iload_n (q := 10) hm164 ⟨⟨_, _, rfl⟩, rfl⟩ rfl ?_
  refine w_call (q := 13) (n := 0) (vs := [.inr (.inr (some 43)), .inl x2]) (rest := []) (la := [oR 43, oI x2]) hm164 ⟨⟨_, _, rfl⟩, rfl⟩ rfl rfl rfl rfl hm160 rfl rfl (fun _ => ⟨_, _, rfl, rfl⟩) rfl (Wp.mono h ?_)
  rintro _ m2 ⟨r2, rfl, h⟩
  change Wp _ _ 13 _ [.inl r2] _ _
  exact w_retz hm164 ⟨⟨_, _, rfl⟩, rfl⟩ rfl h.1 h.2
theorem v_X2_checkLaw_43 {d : Nat} {x1 : Int32} {m : dM} {Q : Int32 → dM → Prop} (h : c_X4_begin_29 d x1 m (fun m1 => c_X2_step_43 d m1 (fun r2 m2 => ((r2.toInt = 0 → j_X2_checkLaw_43_24 (d + 1) m2 Q) ∧ (r2.toInt ≠ 0 → c_X2_need_43 d (61 : Int32) m2 (fun r3 m3 => ((r3.toInt ≠ 0 → j_X2_checkLaw_43_28 (d + 1) x1 (0 : Int32) m3 Q) ∧ (r3.toInt = 0 → j_X2_checkLaw_43_24 (d + 1) m3 Q)))))))) : c_X2_checkLaw_43 (d + 1) x1 m Q := by
  refine w_aload_n (q := 1) hm163 ⟨⟨_, _, rfl⟩, rfl⟩ rfl ?_
  refine w_getr (q := 4) hm163 ⟨⟨_, _, rfl⟩, rfl⟩ rfl ?_
  refine w_iload_n (q := 5) hm163 ⟨⟨_, _, rfl⟩, rfl⟩ rfl ?_
  refine w_call (q := 8) (n := 0) (vs := [.inr (.inr (some 29)), .inl x1]) (rest := []) (la := [oR 29, oI x1]) hm163 ⟨⟨_, _, rfl⟩, rfl⟩ rfl rfl rfl rfl hm178 rfl rfl (fun _ => ⟨_, _, rfl, rfl⟩) rfl (Wp.mono h ?_)
  rintro _ m1 ⟨rfl, h⟩
  change Wp _ _ 8 _ [] _ _
  refine w_aload_n (q := 9) hm163 ⟨⟨_, _, rfl⟩, rfl⟩ rfl ?_
  refine w_call (q := 12) (n := 0) (vs := [.inr (.inr (some 43))]) (rest := []) (la := [oR 43]) hm163 ⟨⟨_, _, rfl⟩, rfl⟩ rfl rfl rfl rfl hm159 rfl rfl (fun _ => ⟨_, _, rfl, rfl⟩) rfl (Wp.mono h ?_)
  rintro _ m2 ⟨r2, rfl, h⟩
  change Wp _ _ 12 _ [.inl r2] _ _
  refine w_if_eq (q := 15) (X := r2.toInt) hm163 ⟨⟨_, _, rfl⟩, rfl⟩ rfl (fun hc => ?_) (fun hc => ?_)
  · have h := h.1 hc
    exact Wp.wk [false, false, false] h
  · have h := h.2 hc
    refine w_aload_n (q := 16) hm163 ⟨⟨_, _, rfl⟩, rfl⟩ rfl ?_
    refine w_bipush (q := 18) hm163 ⟨⟨_, _, rfl⟩, rfl⟩ bipush_61 ?_
    refine w_call (q := 21) (n := 0) (vs := [.inr (.inr (some 43)), .inl (61 : Int32)]) (rest := []) (la := [oR 43, oI (61 : Int32)]) hm163 ⟨⟨_, _, rfl⟩, rfl⟩ rfl rfl rfl rfl hm160 rfl rfl (fun _ => ⟨_, _, rfl, rfl⟩) rfl (Wp.mono h ?_)
    rintro _ m3 ⟨r3, rfl, h⟩
    change Wp _ _ 21 _ [.inl r3] _ _
    refine w_if_ne (q := 24) (X := r3.toInt) hm163 ⟨⟨_, _, rfl⟩, rfl⟩ rfl (fun hc => ?_) (fun hc => ?_)
    · have h := h.1 hc
      refine w_iconst (q := 27) hm163 ⟨⟨_, _, rfl⟩, rfl⟩ iconst_0 ?_
      refine w_istore_n (q := 28) (l' := [oR 43, oI x1, oI (0 : Int32)]) hm163 ⟨⟨_, _, rfl⟩, rfl⟩ rfl rfl rfl ?_
      exact h
    · have h := h.2 hc
      exact Wp.wk [false, false, false] h
theorem v_X2_checkLaw_43_24 {d : Nat} {m : dM} {Q : Int32 → dM → Prop} (h : Q (0 : Int32) m) : j_X2_checkLaw_43_24 (d + 1) m Q := by
  refine w_iconst (q := 25) hm163 ⟨⟨_, _, rfl⟩, rfl⟩ iconst_0 ?_
  exact w_retz hm163 ⟨⟨_, _, rfl⟩, rfl⟩ rfl (by decide) h
theorem v_X2_checkLaw_43_28 {d : Nat} {x1 : Int32} {x2 : Int32} {m : dM} {Q : Int32 → dM → Prop} (h : ((4 < x2.toInt → j_X2_checkLaw_43_122 (d + 1) x1 m Q) ∧ (x2.toInt ≤ 4 → c_X2_kind_43 d m (fun r1 m1 => ((r1.toInt ≠ 10 → j_X2_checkLaw_43_122 (d + 1) x1 m1 Q) ∧ (r1.toInt = 10 → ((x2.toInt ≠ 4 → c_X2_step_43 d m1 (fun r2 m2 => ((r2.toInt = 0 → j_X2_checkLaw_43_114 (d + 1) m2 Q) ∧ (r2.toInt ≠ 0 → c_X2_sum_43 d (0 : Int32) m2 (fun r3 m3 => ((r3.toInt = 0 → j_X2_checkLaw_43_114 (d + 1) m3 Q) ∧ (r3.toInt ≠ 0 → c_X2_endPiece_43 d x1 (60 : Int32) m3 (fun r4 m4 => ((r4.toInt = 0 → j_X2_checkLaw_43_114 (d + 1) m4 Q) ∧ (r4.toInt ≠ 0 → c_X2_sum_43 d (0 : Int32) m4 (fun r5 m5 => ((r5.toInt = 0 → j_X2_checkLaw_43_114 (d + 1) m5 Q) ∧ (r5.toInt ≠ 0 → c_X2_endPiece_43 d x1 (11 : Int32) m5 (fun r6 m6 => ((r6.toInt = 0 → j_X2_checkLaw_43_114 (d + 1) m6 Q) ∧ (r6.toInt ≠ 0 → c_X2_sum_43 d (0 : Int32) m6 (fun r7 m7 => ((r7.toInt = 0 → j_X2_checkLaw_43_114 (d + 1) m7 Q) ∧ (r7.toInt ≠ 0 → c_X2_endPiece_43 d x1 (12 : Int32) m7 (fun r8 m8 => ((r8.toInt ≠ 0 → j_X2_checkLaw_43_28 (d + 1) x1 (x2 + (1 : Int32)) m8 Q) ∧ (r8.toInt = 0 → j_X2_checkLaw_43_114 (d + 1) m8 Q)))))))))))))))))))))) ∧ (x2.toInt = 4 → c_X2_fail_43 d (2 : Int32) m1 (fun r9 m9 => (r9 = 0 ∨ r9 = 1) ∧ Q r9 m9))))))))) : j_X2_checkLaw_43_28 (d + 1) x1 x2 m Q := by
  refine w_iload_n (q := 29) hm163 ⟨⟨_, _, rfl⟩, rfl⟩ rfl ?_
  refine w_iconst (q := 30) hm163 ⟨⟨_, _, rfl⟩, rfl⟩ iconst_4 ?_
  refine w_icmp_gt (q := 33) (X := x2.toInt) (Y := 4) hm163 ⟨⟨_, _, rfl⟩, rfl⟩ rfl (by decide) (fun hc => ?_) (fun hc => ?_)
  · have h := h.1 hc
    exact Wp.wk [true, true, false] h
  · have h := h.2 hc
    refine w_aload_n (q := 34) hm163 ⟨⟨_, _, rfl⟩, rfl⟩ rfl ?_
    refine w_call (q := 37) (n := 0) (vs := [.inr (.inr (some 43))]) (rest := []) (la := [oR 43]) hm163 ⟨⟨_, _, rfl⟩, rfl⟩ rfl rfl rfl rfl hm157 rfl rfl (fun _ => ⟨_, _, rfl, rfl⟩) rfl (Wp.mono h ?_)
    rintro _ m1 ⟨r1, rfl, h⟩
    change Wp _ _ 37 _ [.inl r1] _ _
    refine w_bipush (q := 39) hm163 ⟨⟨_, _, rfl⟩, rfl⟩ bipush_10 ?_
    refine w_icmp_ne (q := 42) (X := r1.toInt) (Y := 10) hm163 ⟨⟨_, _, rfl⟩, rfl⟩ rfl (by decide) (fun hc => ?_) (fun hc => ?_)
    · have h := h.1 hc
      exact Wp.wk [true, true, false] h
    · have h := h.2 hc
      refine w_iload_n (q := 43) hm163 ⟨⟨_, _, rfl⟩, rfl⟩ rfl ?_
      refine w_iconst (q := 44) hm163 ⟨⟨_, _, rfl⟩, rfl⟩ iconst_4 ?_
      refine w_icmp_ne (q := 47) (X := x2.toInt) (Y := 4) hm163 ⟨⟨_, _, rfl⟩, rfl⟩ rfl (by decide) (fun hc => ?_) (fun hc => ?_)
      · have h := h.1 hc
        refine w_aload_n (q := 54) hm163 ⟨⟨_, _, rfl⟩, rfl⟩ rfl ?_
        refine w_call (q := 57) (n := 0) (vs := [.inr (.inr (some 43))]) (rest := []) (la := [oR 43]) hm163 ⟨⟨_, _, rfl⟩, rfl⟩ rfl rfl rfl rfl hm159 rfl rfl (fun _ => ⟨_, _, rfl, rfl⟩) rfl (Wp.mono h ?_)
        rintro _ m2 ⟨r2, rfl, h⟩
        change Wp _ _ 57 _ [.inl r2] _ _
        refine w_if_eq (q := 60) (X := r2.toInt) hm163 ⟨⟨_, _, rfl⟩, rfl⟩ rfl (fun hc => ?_) (fun hc => ?_)
        · have h := h.1 hc
          exact Wp.wk [false, false, false] h
        · have h := h.2 hc
          refine w_aload_n (q := 61) hm163 ⟨⟨_, _, rfl⟩, rfl⟩ rfl ?_
          refine w_iconst (q := 62) hm163 ⟨⟨_, _, rfl⟩, rfl⟩ iconst_0 ?_
          refine w_call (q := 65) (n := 2) (vs := [.inr (.inr (some 43)), .inl (0 : Int32)]) (rest := []) (la := [oR 43, oI (0 : Int32), none, none]) hm163 ⟨⟨_, _, rfl⟩, rfl⟩ rfl rfl rfl rfl hm165 rfl rfl (fun _ => ⟨_, _, rfl, rfl⟩) rfl (Wp.mono h ?_)
          rintro _ m3 ⟨r3, rfl, h⟩
          change Wp _ _ 65 _ [.inl r3] _ _
          refine w_if_eq (q := 68) (X := r3.toInt) hm163 ⟨⟨_, _, rfl⟩, rfl⟩ rfl (fun hc => ?_) (fun hc => ?_)
          · have h := h.1 hc
            exact Wp.wk [false, false, false] h
          · have h := h.2 hc
            refine w_aload_n (q := 69) hm163 ⟨⟨_, _, rfl⟩, rfl⟩ rfl ?_
            refine w_iload_n (q := 70) hm163 ⟨⟨_, _, rfl⟩, rfl⟩ rfl ?_
            refine w_bipush (q := 72) hm163 ⟨⟨_, _, rfl⟩, rfl⟩ bipush_60 ?_
            refine w_call (q := 75) (n := 0) (vs := [.inr (.inr (some 43)), .inl x1, .inl (60 : Int32)]) (rest := []) (la := [oR 43, oI x1, oI (60 : Int32)]) hm163 ⟨⟨_, _, rfl⟩, rfl⟩ rfl rfl rfl rfl hm164 rfl rfl (fun _ => ⟨_, _, rfl, rfl⟩) rfl (Wp.mono h ?_)
            rintro _ m4 ⟨r4, rfl, h⟩
            change Wp _ _ 75 _ [.inl r4] _ _
            refine w_if_eq (q := 78) (X := r4.toInt) hm163 ⟨⟨_, _, rfl⟩, rfl⟩ rfl (fun hc => ?_) (fun hc => ?_)
            · have h := h.1 hc
              exact Wp.wk [false, false, false] h
            · have h := h.2 hc
              refine w_aload_n (q := 79) hm163 ⟨⟨_, _, rfl⟩, rfl⟩ rfl ?_
              refine w_iconst (q := 80) hm163 ⟨⟨_, _, rfl⟩, rfl⟩ iconst_0 ?_
              refine w_call (q := 83) (n := 2) (vs := [.inr (.inr (some 43)), .inl (0 : Int32)]) (rest := []) (la := [oR 43, oI (0 : Int32), none, none]) hm163 ⟨⟨_, _, rfl⟩, rfl⟩ rfl rfl rfl rfl hm165 rfl rfl (fun _ => ⟨_, _, rfl, rfl⟩) rfl (Wp.mono h ?_)
              rintro _ m5 ⟨r5, rfl, h⟩
              change Wp _ _ 83 _ [.inl r5] _ _
              refine w_if_eq (q := 86) (X := r5.toInt) hm163 ⟨⟨_, _, rfl⟩, rfl⟩ rfl (fun hc => ?_) (fun hc => ?_)
              · have h := h.1 hc
                exact Wp.wk [false, false, false] h
              · have h := h.2 hc
                refine w_aload_n (q := 87) hm163 ⟨⟨_, _, rfl⟩, rfl⟩ rfl ?_
                refine w_iload_n (q := 88) hm163 ⟨⟨_, _, rfl⟩, rfl⟩ rfl ?_
                refine w_bipush (q := 90) hm163 ⟨⟨_, _, rfl⟩, rfl⟩ bipush_11 ?_
                refine w_call (q := 93) (n := 0) (vs := [.inr (.inr (some 43)), .inl x1, .inl (11 : Int32)]) (rest := []) (la := [oR 43, oI x1, oI (11 : Int32)]) hm163 ⟨⟨_, _, rfl⟩, rfl⟩ rfl rfl rfl rfl hm164 rfl rfl (fun _ => ⟨_, _, rfl, rfl⟩) rfl (Wp.mono h ?_)
                rintro _ m6 ⟨r6, rfl, h⟩
                change Wp _ _ 93 _ [.inl r6] _ _
                refine w_if_eq (q := 96) (X := r6.toInt) hm163 ⟨⟨_, _, rfl⟩, rfl⟩ rfl (fun hc => ?_) (fun hc => ?_)
                · have h := h.1 hc
                  exact Wp.wk [false, false, false] h
                · have h := h.2 hc
                  refine w_aload_n (q := 97) hm163 ⟨⟨_, _, rfl⟩, rfl⟩ rfl ?_
                  refine w_iconst (q := 98) hm163 ⟨⟨_, _, rfl⟩, rfl⟩ iconst_0 ?_
                  refine w_call (q := 101) (n := 2) (vs := [.inr (.inr (some 43)), .inl (0 : Int32)]) (rest := []) (la := [oR 43, oI (0 : Int32), none, none]) hm163 ⟨⟨_, _, rfl⟩, rfl⟩ rfl rfl rfl rfl hm165 rfl rfl (fun _ => ⟨_, _, rfl, rfl⟩) rfl (Wp.mono h ?_)
                  rintro _ m7 ⟨r7, rfl, h⟩
                  change Wp _ _ 101 _ [.inl r7] _ _
                  refine w_if_eq (q := 104) (X := r7.toInt) hm163 ⟨⟨_, _, rfl⟩, rfl⟩ rfl (fun hc => ?_) (fun hc => ?_)
                  · have h := h.1 hc
                    exact Wp.wk [false, false, false] h
                  · have h := h.2 hc
                    refine w_aload_n (q := 105) hm163 ⟨⟨_, _, rfl⟩, rfl⟩ rfl ?_
                    refine w_iload_n (q := 106) hm163 ⟨⟨_, _, rfl⟩, rfl⟩ rfl ?_
                    refine w_bipush (q := 108) hm163 ⟨⟨_, _, rfl⟩, rfl⟩ bipush_12 ?_
                    refine w_call (q := 111) (n := 0) (vs := [.inr (.inr (some 43)), .inl x1, .inl (12 : Int32)]) (rest := []) (la := [oR 43, oI x1, oI (12 : Int32)]) hm163 ⟨⟨_, _, rfl⟩, rfl⟩ rfl rfl rfl rfl hm164 rfl rfl (fun _ => ⟨_, _, rfl, rfl⟩) rfl (Wp.mono h ?_)
                    rintro _ m8 ⟨r8, rfl, h⟩
                    change Wp _ _ 111 _ [.inl r8] _ _
                    refine w_if_ne (q := 114) (X := r8.toInt) hm163 ⟨⟨_, _, rfl⟩, rfl⟩ rfl (fun hc => ?_) (fun hc => ?_)
                    · have h := h.1 hc
                      refine w_iinc (q := 119) (l' := [oR 43, oI x1, oI (x2 + (1 : Int32))]) hm163 ⟨⟨_, _, rfl⟩, rfl⟩ rfl rfl rfl iconst_1 rfl ?_
                      refine w_goto (q := 28) hm163 ⟨_, _, rfl⟩ ?_
                      exact h
                    · have h := h.2 hc
                      exact Wp.wk [false, false, false] h
      · have h := h.2 hc
        refine w_aload_n (q := 48) hm163 ⟨⟨_, _, rfl⟩, rfl⟩ rfl ?_
        refine w_iconst (q := 49) hm163 ⟨⟨_, _, rfl⟩, rfl⟩ iconst_2 ?_
        refine w_call (q := 52) (n := 0) (vs := [.inr (.inr (some 43)), .inl (2 : Int32)]) (rest := []) (la := [oR 43, oI (2 : Int32)]) hm163 ⟨⟨_, _, rfl⟩, rfl⟩ rfl rfl rfl rfl hm158 rfl rfl (fun _ => ⟨_, _, rfl, rfl⟩) rfl (Wp.mono h ?_)
        rintro _ m9 ⟨r9, rfl, h⟩
        change Wp _ _ 52 _ [.inl r9] _ _
        exact w_retz hm163 ⟨⟨_, _, rfl⟩, rfl⟩ rfl h.1 h.2
theorem v_X2_checkLaw_43_114 {d : Nat} {m : dM} {Q : Int32 → dM → Prop} (h : Q (0 : Int32) m) : j_X2_checkLaw_43_114 (d + 1) m Q := by
  refine w_iconst (q := 115) hm163 ⟨⟨_, _, rfl⟩, rfl⟩ iconst_0 ?_
  exact w_retz hm163 ⟨⟨_, _, rfl⟩, rfl⟩ rfl (by decide) h
theorem v_X2_checkLaw_43_122 {d : Nat} {x1 : Int32} {m : dM} {Q : Int32 → dM → Prop} (h : c_X2_sum_43 d (0 : Int32) m (fun r1 m1 => ((r1.toInt = 0 → j_X2_checkLaw_43_144 (d + 1) m1 Q) ∧ (r1.toInt ≠ 0 → c_X2_endPiece_43 d x1 (59 : Int32) m1 (fun r2 m2 => ((r2.toInt = 0 → j_X2_checkLaw_43_144 (d + 1) m2 Q) ∧ (r2.toInt ≠ 0 → Q (1 : Int32) m2))))))) : j_X2_checkLaw_43_122 (d + 1) x1 m Q := by
  refine w_aload_n (q := 123) hm163 ⟨⟨_, _, rfl⟩, rfl⟩ rfl ?_
  refine w_iconst (q := 124) hm163 ⟨⟨_, _, rfl⟩, rfl⟩ iconst_0 ?_
  refine w_call (q := 127) (n := 2) (vs := [.inr (.inr (some 43)), .inl (0 : Int32)]) (rest := []) (la := [oR 43, oI (0 : Int32), none, none]) hm163 ⟨⟨_, _, rfl⟩, rfl⟩ rfl rfl rfl rfl hm165 rfl rfl (fun _ => ⟨_, _, rfl, rfl⟩) rfl (Wp.mono h ?_)
  rintro _ m1 ⟨r1, rfl, h⟩
  change Wp _ _ 127 _ [.inl r1] _ _
  refine w_if_eq (q := 130) (X := r1.toInt) hm163 ⟨⟨_, _, rfl⟩, rfl⟩ rfl (fun hc => ?_) (fun hc => ?_)
  · have h := h.1 hc
    exact Wp.wk [false, false, false] h
  · have h := h.2 hc
    refine w_aload_n (q := 131) hm163 ⟨⟨_, _, rfl⟩, rfl⟩ rfl ?_
    refine w_iload_n (q := 132) hm163 ⟨⟨_, _, rfl⟩, rfl⟩ rfl ?_
    refine w_bipush (q := 134) hm163 ⟨⟨_, _, rfl⟩, rfl⟩ bipush_59 ?_
    refine w_call (q := 137) (n := 0) (vs := [.inr (.inr (some 43)), .inl x1, .inl (59 : Int32)]) (rest := []) (la := [oR 43, oI x1, oI (59 : Int32)]) hm163 ⟨⟨_, _, rfl⟩, rfl⟩ rfl rfl rfl rfl hm164 rfl rfl (fun _ => ⟨_, _, rfl, rfl⟩) rfl (Wp.mono h ?_)
    rintro _ m2 ⟨r2, rfl, h⟩
    change Wp _ _ 137 _ [.inl r2] _ _
    refine w_if_eq (q := 140) (X := r2.toInt) hm163 ⟨⟨_, _, rfl⟩, rfl⟩ rfl (fun hc => ?_) (fun hc => ?_)
    · have h := h.1 hc
      exact Wp.wk [false, false, false] h
    · have h := h.2 hc
      refine w_iconst (q := 141) hm163 ⟨⟨_, _, rfl⟩, rfl⟩ iconst_1 ?_
      refine w_goto (q := 145) hm163 ⟨_, _, rfl⟩ ?_
      exact w_retz hm163 ⟨⟨_, _, rfl⟩, rfl⟩ rfl (by decide) h
theorem v_X2_checkLaw_43_144 {d : Nat} {m : dM} {Q : Int32 → dM → Prop} (h : Q (0 : Int32) m) : j_X2_checkLaw_43_144 (d + 1) m Q := by
  refine w_iconst (q := 145) hm163 ⟨⟨_, _, rfl⟩, rfl⟩ iconst_0 ?_
  exact w_retz hm163 ⟨⟨_, _, rfl⟩, rfl⟩ rfl (by decide) h
theorem v_X2_checkTold_43 {d : Nat} {x1 : Int32} {m : dM} {Q : dM → Prop} (h : ((x1.toInt = 0 → c_X2_checkCounted_43 d ((m.1 43 4) + (1 : Int32)) (7 : Int32) (1 : Int32) (1 : Int32) (dSet m 43 4 ((m.1 43 4) + (1 : Int32))) (fun m1 => j_X2_checkTold_43_165 (d + 1) m1 Q)) ∧ (x1.toInt = 1 → c_X2_checkCounted_43 d ((m.1 43 5) + (1 : Int32)) (10 : Int32) (2 : Int32) (1 : Int32) (dSet m 43 5 ((m.1 43 5) + (1 : Int32))) (fun m2 => j_X2_checkTold_43_165 (d + 1) m2 Q)) ∧ (x1.toInt = 2 → c_X2_checkCounted_43 d ((m.1 43 6) + (1 : Int32)) (8 : Int32) (2 : Int32) (3 : Int32) (dSet m 43 6 ((m.1 43 6) + (1 : Int32))) (fun m3 => j_X2_checkTold_43_165 (d + 1) m3 Q)) ∧ (x1.toInt = 3 → c_X2_checkLaw_43 d (x1 - (3 : Int32)) m (fun r4 m4 => j_X2_checkTold_43_165 (d + 1) m4 Q)) ∧ (x1.toInt = 4 → c_X2_checkLaw_43 d (x1 - (3 : Int32)) m (fun r5 m5 => j_X2_checkTold_43_165 (d + 1) m5 Q)) ∧ (x1.toInt = 5 → c_X2_checkLaw_43 d (x1 - (3 : Int32)) m (fun r6 m6 => j_X2_checkTold_43_165 (d + 1) m6 Q)) ∧ (x1.toInt = 6 → c_X2_checkLaw_43 d (x1 - (3 : Int32)) m (fun r7 m7 => j_X2_checkTold_43_165 (d + 1) m7 Q)) ∧ (x1.toInt = 7 → c_X2_checkRow_43 d (0 : Int32) (2 : Int32) m (fun m8 => j_X2_checkTold_43_165 (d + 1) m8 Q)) ∧ (x1.toInt = 8 → c_X2_checkRow_43 d (0 : Int32) (1 : Int32) m (fun m9 => j_X2_checkTold_43_165 (d + 1) m9 Q)) ∧ (x1.toInt = 9 → c_X2_checkRow_43 d (0 : Int32) (1 : Int32) m (fun m10 => j_X2_checkTold_43_165 (d + 1) m10 Q)) ∧ (x1.toInt < 0 ∨ 9 < x1.toInt → j_X2_checkTold_43_165 (d + 1) (dSet m 43 3 (1 : Int32)) Q))) : c_X2_checkTold_43 (d + 1) x1 m Q := by
  refine w_iload_n (q := 1) hm155 ⟨⟨_, _, rfl⟩, rfl⟩ rfl ?_
  refine w_tsw (X := x1.toInt) hm155 ⟨_, _, rfl⟩ (by decide) (by decide) rfl ((And.intro (fun hc => ?_) (And.intro (fun hc => ?_) (And.intro (fun hc => ?_) (And.intro (fun hc => ?_) (And.intro (fun hc => ?_) (And.intro (fun hc => ?_) (And.intro (fun hc => ?_) (And.intro (fun hc => ?_) (And.intro (fun hc => ?_) (And.intro (fun hc => ?_) trivial))))))))))) (fun hc => ?_)
  · have h := (h.1) hc
    change Wp _ _ 56 _ _ _ _
    refine w_aload_n (q := 57) hm155 ⟨⟨_, _, rfl⟩, rfl⟩ rfl ?_
    refine w_dup (q := 58) hm155 ⟨⟨_, _, rfl⟩, rfl⟩ rfl ?_
    refine w_getf (q := 61) (v := (m.1 43 4)) hm155 ⟨⟨_, _, rfl⟩, rfl⟩ rfl rfl ?_
    refine w_iconst (q := 62) hm155 ⟨⟨_, _, rfl⟩, rfl⟩ iconst_1 ?_
    refine w_iadd (q := 63) hm155 ⟨⟨_, _, rfl⟩, rfl⟩ ?_
    refine w_putf (q := 66) hm155 ⟨⟨_, _, rfl⟩, rfl⟩ rfl rfl rfl ?_
    refine w_aload_n (q := 67) hm155 ⟨⟨_, _, rfl⟩, rfl⟩ rfl ?_
    refine w_aload_n (q := 68) hm155 ⟨⟨_, _, rfl⟩, rfl⟩ rfl ?_
    refine w_getf (q := 71) (v := ((m.1 43 4) + (1 : Int32))) hm155 ⟨⟨_, _, rfl⟩, rfl⟩ rfl rfl ?_
    refine w_bipush (q := 73) hm155 ⟨⟨_, _, rfl⟩, rfl⟩ bipush_7 ?_
    refine w_iconst (q := 74) hm155 ⟨⟨_, _, rfl⟩, rfl⟩ iconst_1 ?_
    refine w_iconst (q := 75) hm155 ⟨⟨_, _, rfl⟩, rfl⟩ iconst_1 ?_
    refine w_call (q := 78) (n := 0) (vs := [.inr (.inr (some 43)), .inl ((m.1 43 4) + (1 : Int32)), .inl (7 : Int32), .inl (1 : Int32), .inl (1 : Int32)]) (rest := []) (la := [oR 43, oI ((m.1 43 4) + (1 : Int32)), oI (7 : Int32), oI (1 : Int32), oI (1 : Int32)]) hm155 ⟨⟨_, _, rfl⟩, rfl⟩ rfl rfl rfl rfl hm162 rfl rfl (fun _ => ⟨_, _, rfl, rfl⟩) rfl (Wp.mono h ?_)
    rintro _ m1 ⟨rfl, h⟩
    change Wp _ _ 78 _ [] _ _
    refine w_goto (q := 165) hm155 ⟨_, _, rfl⟩ ?_
    exact Wp.wk [false, false] h
  · have h := (h.2.1) hc
    change Wp _ _ 81 _ _ _ _
    refine w_aload_n (q := 82) hm155 ⟨⟨_, _, rfl⟩, rfl⟩ rfl ?_
    refine w_dup (q := 83) hm155 ⟨⟨_, _, rfl⟩, rfl⟩ rfl ?_
    refine w_getf (q := 86) (v := (m.1 43 5)) hm155 ⟨⟨_, _, rfl⟩, rfl⟩ rfl rfl ?_
    refine w_iconst (q := 87) hm155 ⟨⟨_, _, rfl⟩, rfl⟩ iconst_1 ?_
    refine w_iadd (q := 88) hm155 ⟨⟨_, _, rfl⟩, rfl⟩ ?_
    refine w_putf (q := 91) hm155 ⟨⟨_, _, rfl⟩, rfl⟩ rfl rfl rfl ?_
    refine w_aload_n (q := 92) hm155 ⟨⟨_, _, rfl⟩, rfl⟩ rfl ?_
    refine w_aload_n (q := 93) hm155 ⟨⟨_, _, rfl⟩, rfl⟩ rfl ?_
    refine w_getf (q := 96) (v := ((m.1 43 5) + (1 : Int32))) hm155 ⟨⟨_, _, rfl⟩, rfl⟩ rfl rfl ?_
    refine w_bipush (q := 98) hm155 ⟨⟨_, _, rfl⟩, rfl⟩ bipush_10 ?_
    refine w_iconst (q := 99) hm155 ⟨⟨_, _, rfl⟩, rfl⟩ iconst_2 ?_
    refine w_iconst (q := 100) hm155 ⟨⟨_, _, rfl⟩, rfl⟩ iconst_1 ?_
    refine w_call (q := 103) (n := 0) (vs := [.inr (.inr (some 43)), .inl ((m.1 43 5) + (1 : Int32)), .inl (10 : Int32), .inl (2 : Int32), .inl (1 : Int32)]) (rest := []) (la := [oR 43, oI ((m.1 43 5) + (1 : Int32)), oI (10 : Int32), oI (2 : Int32), oI (1 : Int32)]) hm155 ⟨⟨_, _, rfl⟩, rfl⟩ rfl rfl rfl rfl hm162 rfl rfl (fun _ => ⟨_, _, rfl, rfl⟩) rfl (Wp.mono h ?_)
    rintro _ m2 ⟨rfl, h⟩
    change Wp _ _ 103 _ [] _ _
    refine w_goto (q := 165) hm155 ⟨_, _, rfl⟩ ?_
    exact Wp.wk [false, false] h
  · have h := (h.2.2.1) hc
    change Wp _ _ 106 _ _ _ _
    refine w_aload_n (q := 107) hm155 ⟨⟨_, _, rfl⟩, rfl⟩ rfl ?_
    refine w_dup (q := 108) hm155 ⟨⟨_, _, rfl⟩, rfl⟩ rfl ?_
    refine w_getf (q := 111) (v := (m.1 43 6)) hm155 ⟨⟨_, _, rfl⟩, rfl⟩ rfl rfl ?_
    refine w_iconst (q := 112) hm155 ⟨⟨_, _, rfl⟩, rfl⟩ iconst_1 ?_
    refine w_iadd (q := 113) hm155 ⟨⟨_, _, rfl⟩, rfl⟩ ?_
    refine w_putf (q := 116) hm155 ⟨⟨_, _, rfl⟩, rfl⟩ rfl rfl rfl ?_
    refine w_aload_n (q := 117) hm155 ⟨⟨_, _, rfl⟩, rfl⟩ rfl ?_
    refine w_aload_n (q := 118) hm155 ⟨⟨_, _, rfl⟩, rfl⟩ rfl ?_
    refine w_getf (q := 121) (v := ((m.1 43 6) + (1 : Int32))) hm155 ⟨⟨_, _, rfl⟩, rfl⟩ rfl rfl ?_
    refine w_bipush (q := 123) hm155 ⟨⟨_, _, rfl⟩, rfl⟩ bipush_8 ?_
    refine w_iconst (q := 124) hm155 ⟨⟨_, _, rfl⟩, rfl⟩ iconst_2 ?_
    refine w_iconst (q := 125) hm155 ⟨⟨_, _, rfl⟩, rfl⟩ iconst_3 ?_
    refine w_call (q := 128) (n := 0) (vs := [.inr (.inr (some 43)), .inl ((m.1 43 6) + (1 : Int32)), .inl (8 : Int32), .inl (2 : Int32), .inl (3 : Int32)]) (rest := []) (la := [oR 43, oI ((m.1 43 6) + (1 : Int32)), oI (8 : Int32), oI (2 : Int32), oI (3 : Int32)]) hm155 ⟨⟨_, _, rfl⟩, rfl⟩ rfl rfl rfl rfl hm162 rfl rfl (fun _ => ⟨_, _, rfl, rfl⟩) rfl (Wp.mono h ?_)
    rintro _ m3 ⟨rfl, h⟩
    change Wp _ _ 128 _ [] _ _
    refine w_goto (q := 165) hm155 ⟨_, _, rfl⟩ ?_
    exact Wp.wk [false, false] h
  · have h := (h.2.2.2.1) hc
    change Wp _ _ 131 _ _ _ _
    refine w_aload_n (q := 132) hm155 ⟨⟨_, _, rfl⟩, rfl⟩ rfl ?_
    refine w_iload_n (q := 133) hm155 ⟨⟨_, _, rfl⟩, rfl⟩ rfl ?_
    refine w_iconst (q := 134) hm155 ⟨⟨_, _, rfl⟩, rfl⟩ iconst_3 ?_
    refine w_isub (q := 135) hm155 ⟨⟨_, _, rfl⟩, rfl⟩ ?_
    refine w_call (q := 138) (n := 1) (vs := [.inr (.inr (some 43)), .inl (x1 - (3 : Int32))]) (rest := []) (la := [oR 43, oI (x1 - (3 : Int32)), none]) hm155 ⟨⟨_, _, rfl⟩, rfl⟩ rfl rfl rfl rfl hm163 rfl rfl (fun _ => ⟨_, _, rfl, rfl⟩) rfl (Wp.mono h ?_)
    rintro _ m4 ⟨r4, rfl, h⟩
    change Wp _ _ 138 _ [.inl r4] _ _
    refine w_pop (q := 139) hm155 ⟨⟨_, _, rfl⟩, rfl⟩ rfl ?_
    refine w_goto (q := 165) hm155 ⟨_, _, rfl⟩ ?_
    exact Wp.wk [false, false] h
  · have h := (h.2.2.2.2.1) hc
    change Wp _ _ 131 _ _ _ _
    refine w_aload_n (q := 132) hm155 ⟨⟨_, _, rfl⟩, rfl⟩ rfl ?_
    refine w_iload_n (q := 133) hm155 ⟨⟨_, _, rfl⟩, rfl⟩ rfl ?_
    refine w_iconst (q := 134) hm155 ⟨⟨_, _, rfl⟩, rfl⟩ iconst_3 ?_
    refine w_isub (q := 135) hm155 ⟨⟨_, _, rfl⟩, rfl⟩ ?_
    refine w_call (q := 138) (n := 1) (vs := [.inr (.inr (some 43)), .inl (x1 - (3 : Int32))]) (rest := []) (la := [oR 43, oI (x1 - (3 : Int32)), none]) hm155 ⟨⟨_, _, rfl⟩, rfl⟩ rfl rfl rfl rfl hm163 rfl rfl (fun _ => ⟨_, _, rfl, rfl⟩) rfl (Wp.mono h ?_)
    rintro _ m5 ⟨r5, rfl, h⟩
    change Wp _ _ 138 _ [.inl r5] _ _
    refine w_pop (q := 139) hm155 ⟨⟨_, _, rfl⟩, rfl⟩ rfl ?_
    refine w_goto (q := 165) hm155 ⟨_, _, rfl⟩ ?_
    exact Wp.wk [false, false] h
  · have h := (h.2.2.2.2.2.1) hc
    change Wp _ _ 131 _ _ _ _
    refine w_aload_n (q := 132) hm155 ⟨⟨_, _, rfl⟩, rfl⟩ rfl ?_
    refine w_iload_n (q := 133) hm155 ⟨⟨_, _, rfl⟩, rfl⟩ rfl ?_
    refine w_iconst (q := 134) hm155 ⟨⟨_, _, rfl⟩, rfl⟩ iconst_3 ?_
    refine w_isub (q := 135) hm155 ⟨⟨_, _, rfl⟩, rfl⟩ ?_
    refine w_call (q := 138) (n := 1) (vs := [.inr (.inr (some 43)), .inl (x1 - (3 : Int32))]) (rest := []) (la := [oR 43, oI (x1 - (3 : Int32)), none]) hm155 ⟨⟨_, _, rfl⟩, rfl⟩ rfl rfl rfl rfl hm163 rfl rfl (fun _ => ⟨_, _, rfl, rfl⟩) rfl (Wp.mono h ?_)
    rintro _ m6 ⟨r6, rfl, h⟩
    change Wp _ _ 138 _ [.inl r6] _ _
    refine w_pop (q := 139) hm155 ⟨⟨_, _, rfl⟩, rfl⟩ rfl ?_
    refine w_goto (q := 165) hm155 ⟨_, _, rfl⟩ ?_
    exact Wp.wk [false, false] h
  · have h := (h.2.2.2.2.2.2.1) hc
    change Wp _ _ 131 _ _ _ _
    refine w_aload_n (q := 132) hm155 ⟨⟨_, _, rfl⟩, rfl⟩ rfl ?_
    refine w_iload_n (q := 133) hm155 ⟨⟨_, _, rfl⟩, rfl⟩ rfl ?_
    refine w_iconst (q := 134) hm155 ⟨⟨_, _, rfl⟩, rfl⟩ iconst_3 ?_
    refine w_isub (q := 135) hm155 ⟨⟨_, _, rfl⟩, rfl⟩ ?_
    refine w_call (q := 138) (n := 1) (vs := [.inr (.inr (some 43)), .inl (x1 - (3 : Int32))]) (rest := []) (la := [oR 43, oI (x1 - (3 : Int32)), none]) hm155 ⟨⟨_, _, rfl⟩, rfl⟩ rfl rfl rfl rfl hm163 rfl rfl (fun _ => ⟨_, _, rfl, rfl⟩) rfl (Wp.mono h ?_)
    rintro _ m7 ⟨r7, rfl, h⟩
    change Wp _ _ 138 _ [.inl r7] _ _
    refine w_pop (q := 139) hm155 ⟨⟨_, _, rfl⟩, rfl⟩ rfl ?_
    refine w_goto (q := 165) hm155 ⟨_, _, rfl⟩ ?_
    exact Wp.wk [false, false] h
  · have h := (h.2.2.2.2.2.2.2.1) hc
    change Wp _ _ 142 _ _ _ _
    refine w_aload_n (q := 143) hm155 ⟨⟨_, _, rfl⟩, rfl⟩ rfl ?_
    refine w_iconst (q := 144) hm155 ⟨⟨_, _, rfl⟩, rfl⟩ iconst_0 ?_
    refine w_iconst (q := 145) hm155 ⟨⟨_, _, rfl⟩, rfl⟩ iconst_2 ?_
    refine w_call (q := 148) (n := 2) (vs := [.inr (.inr (some 43)), .inl (0 : Int32), .inl (2 : Int32)]) (rest := []) (la := [oR 43, oI (0 : Int32), oI (2 : Int32), none, none]) hm155 ⟨⟨_, _, rfl⟩, rfl⟩ rfl rfl rfl rfl hm161 rfl rfl (fun _ => ⟨_, _, rfl, rfl⟩) rfl (Wp.mono h ?_)
    rintro _ m8 ⟨rfl, h⟩
    change Wp _ _ 148 _ [] _ _
    refine w_goto (q := 165) hm155 ⟨_, _, rfl⟩ ?_
    exact Wp.wk [false, false] h
  · have h := (h.2.2.2.2.2.2.2.2.1) hc
    change Wp _ _ 151 _ _ _ _
    refine w_aload_n (q := 152) hm155 ⟨⟨_, _, rfl⟩, rfl⟩ rfl ?_
    refine w_iconst (q := 153) hm155 ⟨⟨_, _, rfl⟩, rfl⟩ iconst_0 ?_
    refine w_iconst (q := 154) hm155 ⟨⟨_, _, rfl⟩, rfl⟩ iconst_1 ?_
    refine w_call (q := 157) (n := 2) (vs := [.inr (.inr (some 43)), .inl (0 : Int32), .inl (1 : Int32)]) (rest := []) (la := [oR 43, oI (0 : Int32), oI (1 : Int32), none, none]) hm155 ⟨⟨_, _, rfl⟩, rfl⟩ rfl rfl rfl rfl hm161 rfl rfl (fun _ => ⟨_, _, rfl, rfl⟩) rfl (Wp.mono h ?_)
    rintro _ m9 ⟨rfl, h⟩
    change Wp _ _ 157 _ [] _ _
    refine w_goto (q := 165) hm155 ⟨_, _, rfl⟩ ?_
    exact Wp.wk [false, false] h
  · have h := (h.2.2.2.2.2.2.2.2.2.1) hc
    change Wp _ _ 151 _ _ _ _
    refine w_aload_n (q := 152) hm155 ⟨⟨_, _, rfl⟩, rfl⟩ rfl ?_
    refine w_iconst (q := 153) hm155 ⟨⟨_, _, rfl⟩, rfl⟩ iconst_0 ?_
    refine w_iconst (q := 154) hm155 ⟨⟨_, _, rfl⟩, rfl⟩ iconst_1 ?_
    refine w_call (q := 157) (n := 2) (vs := [.inr (.inr (some 43)), .inl (0 : Int32), .inl (1 : Int32)]) (rest := []) (la := [oR 43, oI (0 : Int32), oI (1 : Int32), none, none]) hm155 ⟨⟨_, _, rfl⟩, rfl⟩ rfl rfl rfl rfl hm161 rfl rfl (fun _ => ⟨_, _, rfl, rfl⟩) rfl (Wp.mono h ?_)
    rintro _ m10 ⟨rfl, h⟩
    change Wp _ _ 157 _ [] _ _
    refine w_goto (q := 165) hm155 ⟨_, _, rfl⟩ ?_
    exact Wp.wk [false, false] h
  · have h := (h.2.2.2.2.2.2.2.2.2.2) hc
    change Wp _ _ 160 _ _ _ _
    refine w_aload_n (q := 161) hm155 ⟨⟨_, _, rfl⟩, rfl⟩ rfl ?_
    refine w_iconst (q := 162) hm155 ⟨⟨_, _, rfl⟩, rfl⟩ iconst_1 ?_
    refine w_putf (q := 165) hm155 ⟨⟨_, _, rfl⟩, rfl⟩ rfl rfl rfl ?_
    exact Wp.wk [false, false] h
theorem v_X2_checkTold_43_165 {d : Nat} {m : dM} {Q : dM → Prop} (h : Q m) : j_X2_checkTold_43_165 (d + 1) m Q := by
  exact w_retv hm155 ⟨⟨_, _, rfl⟩, rfl⟩ rfl h
theorem v_X2_check_43 {d : Nat} {m : dM} {Q : Int32 → dM → Prop} (h : j_X2_check_43_27 (d + 1) (0 : Int32) (dSet (dSet (dSet (dSet (dSet m 43 2 (0 : Int32)) 43 3 (0 : Int32)) 43 4 (0 : Int32)) 43 5 (0 : Int32)) 43 6 (0 : Int32)) Q) : c_X2_check_43 (d + 1) m Q := by
  refine w_aload_n (q := 1) hm154 ⟨⟨_, _, rfl⟩, rfl⟩ rfl ?_
  refine w_iconst (q := 2) hm154 ⟨⟨_, _, rfl⟩, rfl⟩ iconst_0 ?_
  refine w_putf (q := 5) hm154 ⟨⟨_, _, rfl⟩, rfl⟩ rfl rfl rfl ?_
  refine w_aload_n (q := 6) hm154 ⟨⟨_, _, rfl⟩, rfl⟩ rfl ?_
  refine w_iconst (q := 7) hm154 ⟨⟨_, _, rfl⟩, rfl⟩ iconst_0 ?_
  refine w_putf (q := 10) hm154 ⟨⟨_, _, rfl⟩, rfl⟩ rfl rfl rfl ?_
  refine w_aload_n (q := 11) hm154 ⟨⟨_, _, rfl⟩, rfl⟩ rfl ?_
  refine w_iconst (q := 12) hm154 ⟨⟨_, _, rfl⟩, rfl⟩ iconst_0 ?_
  refine w_putf (q := 15) hm154 ⟨⟨_, _, rfl⟩, rfl⟩ rfl rfl rfl ?_
  refine w_aload_n (q := 16) hm154 ⟨⟨_, _, rfl⟩, rfl⟩ rfl ?_
  refine w_iconst (q := 17) hm154 ⟨⟨_, _, rfl⟩, rfl⟩ iconst_0 ?_
  refine w_putf (q := 20) hm154 ⟨⟨_, _, rfl⟩, rfl⟩ rfl rfl rfl ?_
  refine w_aload_n (q := 21) hm154 ⟨⟨_, _, rfl⟩, rfl⟩ rfl ?_
  refine w_iconst (q := 22) hm154 ⟨⟨_, _, rfl⟩, rfl⟩ iconst_0 ?_
  refine w_putf (q := 25) hm154 ⟨⟨_, _, rfl⟩, rfl⟩ rfl rfl rfl ?_
  refine w_iconst (q := 26) hm154 ⟨⟨_, _, rfl⟩, rfl⟩ iconst_0 ?_
  refine w_istore_n (q := 27) (l' := [oR 43, oI (0 : Int32)]) hm154 ⟨⟨_, _, rfl⟩, rfl⟩ rfl rfl rfl ?_
  exact h
theorem v_X2_check_43_27 {d : Nat} {x1 : Int32} {m : dM} {Q : Int32 → dM → Prop} (h : ((400 < x1.toInt → j_X2_check_43_64 (d + 1) m Q) ∧ (x1.toInt ≤ 400 → (((m.1 43 3).toInt ≠ 0 → j_X2_check_43_64 (d + 1) m Q) ∧ ((m.1 43 3).toInt = 0 → c_X2_kind_43 d m (fun r1 m1 => ((r1.toInt = 24 → j_X2_check_43_64 (d + 1) m1 Q) ∧ (r1.toInt ≠ 24 → c_X2_kind_43 d m1 (fun r2 m2 => c_X2_checkTold_43 d r2 m2 (fun m3 => j_X2_check_43_27 (d + 1) (x1 + (1 : Int32)) m3 Q)))))))))) : j_X2_check_43_27 (d + 1) x1 m Q := by
  refine w_iload_n (q := 28) hm154 ⟨⟨_, _, rfl⟩, rfl⟩ rfl ?_
  refine w_sipush (q := 31) hm154 ⟨⟨_, _, rfl⟩, rfl⟩ sipush_400 ?_
  refine w_icmp_gt (q := 34) (X := x1.toInt) (Y := 400) hm154 ⟨⟨_, _, rfl⟩, rfl⟩ rfl (by decide) (fun hc => ?_) (fun hc => ?_)
  · have h := h.1 hc
    exact Wp.wk [true, false] h
  · have h := h.2 hc
    refine w_aload_n (q := 35) hm154 ⟨⟨_, _, rfl⟩, rfl⟩ rfl ?_
    refine w_getf (q := 38) (v := (m.1 43 3)) hm154 ⟨⟨_, _, rfl⟩, rfl⟩ rfl rfl ?_
    refine w_if_ne (q := 41) (X := (m.1 43 3).toInt) hm154 ⟨⟨_, _, rfl⟩, rfl⟩ rfl (fun hc => ?_) (fun hc => ?_)
    · have h := h.1 hc
      exact Wp.wk [true, false] h
    · have h := h.2 hc
      refine w_aload_n (q := 42) hm154 ⟨⟨_, _, rfl⟩, rfl⟩ rfl ?_
      refine w_call (q := 45) (n := 0) (vs := [.inr (.inr (some 43))]) (rest := []) (la := [oR 43]) hm154 ⟨⟨_, _, rfl⟩, rfl⟩ rfl rfl rfl rfl hm157 rfl rfl (fun _ => ⟨_, _, rfl, rfl⟩) rfl (Wp.mono h ?_)
      rintro _ m1 ⟨r1, rfl, h⟩
      change Wp _ _ 45 _ [.inl r1] _ _
      refine w_bipush (q := 47) hm154 ⟨⟨_, _, rfl⟩, rfl⟩ bipush_24 ?_
      refine w_icmp_eq (q := 50) (X := r1.toInt) (Y := 24) hm154 ⟨⟨_, _, rfl⟩, rfl⟩ rfl (by decide) (fun hc => ?_) (fun hc => ?_)
      · have h := h.1 hc
        exact Wp.wk [true, false] h
      · have h := h.2 hc
        refine w_aload_n (q := 51) hm154 ⟨⟨_, _, rfl⟩, rfl⟩ rfl ?_
        refine w_aload_n (q := 52) hm154 ⟨⟨_, _, rfl⟩, rfl⟩ rfl ?_
        refine w_call (q := 55) (n := 0) (vs := [.inr (.inr (some 43))]) (rest := [.inr (.inr (some 43))]) (la := [oR 43]) hm154 ⟨⟨_, _, rfl⟩, rfl⟩ rfl rfl rfl rfl hm157 rfl rfl (fun _ => ⟨_, _, rfl, rfl⟩) rfl (Wp.mono h ?_)
        rintro _ m2 ⟨r2, rfl, h⟩
        change Wp _ _ 55 _ [.inl r2, .inr (.inr (some 43))] _ _
        refine w_call (q := 58) (n := 0) (vs := [.inr (.inr (some 43)), .inl r2]) (rest := []) (la := [oR 43, oI r2]) hm154 ⟨⟨_, _, rfl⟩, rfl⟩ rfl rfl rfl rfl hm155 rfl rfl (fun _ => ⟨_, _, rfl, rfl⟩) rfl (Wp.mono h ?_)
        rintro _ m3 ⟨rfl, h⟩
        change Wp _ _ 58 _ [] _ _
        refine w_iinc (q := 61) (l' := [oR 43, oI (x1 + (1 : Int32))]) hm154 ⟨⟨_, _, rfl⟩, rfl⟩ rfl rfl rfl iconst_1 rfl ?_
        refine w_goto (q := 27) hm154 ⟨_, _, rfl⟩ ?_
        exact h
theorem v_X2_check_43_64 {d : Nat} {m : dM} {Q : Int32 → dM → Prop} (h : Q (m.1 43 3) m) : j_X2_check_43_64 (d + 1) m Q := by
  refine w_aload_n (q := 65) hm154 ⟨⟨_, _, rfl⟩, rfl⟩ rfl ?_
  refine w_getf (q := 68) (v := (m.1 43 3)) hm154 ⟨⟨_, _, rfl⟩, rfl⟩ rfl rfl ?_
  exact w_reti hm154 ⟨⟨_, _, rfl⟩, rfl⟩ rfl h
theorem v_X8_placeAt_38 {d : Nat} {x1 : Int32} {m : dM} {Q : Int32 → dM → Prop} (h : ((x1.toInt < 0 → j_X8_placeAt_38_20 (d + 1) m Q) ∧ (0 ≤ x1.toInt → ((400 < x1.toInt → j_X8_placeAt_38_20 (d + 1) m Q) ∧ (x1.toInt ≤ 400 → ((0 ≤ x1.toInt ∧ x1.toInt < 401) ∧ Q (m.1 40 x1.toNatClampNeg) m)))))) : c_X8_placeAt_38 (d + 1) x1 m Q := by
  refine w_iload_n (q := 1) hm217 ⟨⟨_, _, rfl⟩, rfl⟩ rfl ?_
  refine w_if_lt (q := 4) (X := x1.toInt) hm217 ⟨⟨_, _, rfl⟩, rfl⟩ rfl (fun hc => ?_) (fun hc => ?_)
  · have h := h.1 hc
    exact Wp.wk [true, false] h
  · have h := h.2 hc
    refine w_iload_n (q := 5) hm217 ⟨⟨_, _, rfl⟩, rfl⟩ rfl ?_
    refine w_sipush (q := 8) hm217 ⟨⟨_, _, rfl⟩, rfl⟩ sipush_400 ?_
    refine w_icmp_gt (q := 11) (X := x1.toInt) (Y := 400) hm217 ⟨⟨_, _, rfl⟩, rfl⟩ rfl (by decide) (fun hc => ?_) (fun hc => ?_)
    · have h := h.1 hc
      exact Wp.wk [true, false] h
    · have h := h.2 hc
      refine w_aload_n (q := 12) hm217 ⟨⟨_, _, rfl⟩, rfl⟩ rfl ?_
      refine w_getr (q := 15) hm217 ⟨⟨_, _, rfl⟩, rfl⟩ rfl ?_
      refine w_iload_n (q := 16) hm217 ⟨⟨_, _, rfl⟩, rfl⟩ rfl ?_
      obtain ⟨hi, h⟩ := h
      refine w_iald (q := 17) (v := (m.1 40 x1.toNatClampNeg)) hm217 ⟨⟨_, _, rfl⟩, rfl⟩ rfl hi rfl rfl ?_
      refine w_goto (q := 24) hm217 ⟨_, _, rfl⟩ ?_
      exact w_reti hm217 ⟨⟨_, _, rfl⟩, rfl⟩ rfl h
theorem v_X8_placeAt_38_20 {d : Nat} {m : dM} {Q : Int32 → dM → Prop} (h : Q (m.1 38 5) m) : j_X8_placeAt_38_20 (d + 1) m Q := by
  refine w_aload_n (q := 21) hm217 ⟨⟨_, _, rfl⟩, rfl⟩ rfl ?_
  refine w_getf (q := 24) (v := (m.1 38 5)) hm217 ⟨⟨_, _, rfl⟩, rfl⟩ rfl rfl ?_
  exact w_reti hm217 ⟨⟨_, _, rfl⟩, rfl⟩ rfl h
theorem v_X2_faultAt_43 {d : Nat} {m : dM} {Q : Int32 → dM → Prop} (h : (((m.1 43 3).toInt ≠ 0 → c_X8_placeAt_38 d (m.1 43 2) m (fun r1 m1 => Q r1 m1)) ∧ ((m.1 43 3).toInt = 0 → Q (-1 : Int32) m))) : c_X2_faultAt_43 (d + 1) m Q := by
  refine w_aload_n (q := 1) hm156 ⟨⟨_, _, rfl⟩, rfl⟩ rfl ?_
  refine w_getf (q := 4) (v := (m.1 43 3)) hm156 ⟨⟨_, _, rfl⟩, rfl⟩ rfl rfl ?_
  refine w_if_ne (q := 7) (X := (m.1 43 3).toInt) hm156 ⟨⟨_, _, rfl⟩, rfl⟩ rfl (fun hc => ?_) (fun hc => ?_)
  · have h := h.1 hc
    refine w_aload_n (q := 12) hm156 ⟨⟨_, _, rfl⟩, rfl⟩ rfl ?_
    refine w_getr (q := 15) hm156 ⟨⟨_, _, rfl⟩, rfl⟩ rfl ?_
    refine w_aload_n (q := 16) hm156 ⟨⟨_, _, rfl⟩, rfl⟩ rfl ?_
    refine w_getf (q := 19) (v := (m.1 43 2)) hm156 ⟨⟨_, _, rfl⟩, rfl⟩ rfl rfl ?_
    refine w_call (q := 22) (n := 0) (vs := [.inr (.inr (some 38)), .inl (m.1 43 2)]) (rest := []) (la := [oR 38, oI (m.1 43 2)]) hm156 ⟨⟨_, _, rfl⟩, rfl⟩ rfl rfl rfl rfl hm217 rfl rfl (fun _ => ⟨_, _, rfl, rfl⟩) rfl (Wp.mono h ?_)
    rintro _ m1 ⟨r1, rfl, h⟩
    change Wp _ _ 22 _ [.inl r1] _ _
    exact w_reti hm156 ⟨⟨_, _, rfl⟩, rfl⟩ rfl h
  · have h := h.2 hc
    refine w_iconst (q := 8) hm156 ⟨⟨_, _, rfl⟩, rfl⟩ iconst_m1 ?_
    refine w_goto (q := 22) hm156 ⟨_, _, rfl⟩ ?_
    exact w_reti hm156 ⟨⟨_, _, rfl⟩, rfl⟩ rfl h
theorem v_X8_kindAt_38 {d : Nat} {x1 : Int32} {m : dM} {Q : Int32 → dM → Prop} (h : ((x1.toInt < 0 → j_X8_kindAt_38_20 (d + 1) m Q) ∧ (0 ≤ x1.toInt → ((400 < x1.toInt → j_X8_kindAt_38_20 (d + 1) m Q) ∧ (x1.toInt ≤ 400 → ((0 ≤ x1.toInt ∧ x1.toInt < 401) ∧ Q (m.1 39 x1.toNatClampNeg) m)))))) : c_X8_kindAt_38 (d + 1) x1 m Q := by
  refine w_iload_n (q := 1) hm216 ⟨⟨_, _, rfl⟩, rfl⟩ rfl ?_
  refine w_if_lt (q := 4) (X := x1.toInt) hm216 ⟨⟨_, _, rfl⟩, rfl⟩ rfl (fun hc => ?_) (fun hc => ?_)
  · have h := h.1 hc
    exact Wp.wk [false, false] h
  · have h := h.2 hc
    refine w_iload_n (q := 5) hm216 ⟨⟨_, _, rfl⟩, rfl⟩ rfl ?_
    refine w_sipush (q := 8) hm216 ⟨⟨_, _, rfl⟩, rfl⟩ sipush_400 ?_
    refine w_icmp_gt (q := 11) (X := x1.toInt) (Y := 400) hm216 ⟨⟨_, _, rfl⟩, rfl⟩ rfl (by decide) (fun hc => ?_) (fun hc => ?_)
    · have h := h.1 hc
      exact Wp.wk [false, false] h
    · have h := h.2 hc
      refine w_aload_n (q := 12) hm216 ⟨⟨_, _, rfl⟩, rfl⟩ rfl ?_
      refine w_getr (q := 15) hm216 ⟨⟨_, _, rfl⟩, rfl⟩ rfl ?_
      refine w_iload_n (q := 16) hm216 ⟨⟨_, _, rfl⟩, rfl⟩ rfl ?_
      obtain ⟨hi, h⟩ := h
      refine w_iald (q := 17) (v := (m.1 39 x1.toNatClampNeg)) hm216 ⟨⟨_, _, rfl⟩, rfl⟩ rfl hi rfl rfl ?_
      refine w_goto (q := 22) hm216 ⟨_, _, rfl⟩ ?_
      exact w_reti hm216 ⟨⟨_, _, rfl⟩, rfl⟩ rfl h
theorem v_X8_kindAt_38_20 {d : Nat} {m : dM} {Q : Int32 → dM → Prop} (h : Q (24 : Int32) m) : j_X8_kindAt_38_20 (d + 1) m Q := by
  refine w_bipush (q := 22) hm216 ⟨⟨_, _, rfl⟩, rfl⟩ bipush_24 ?_
  exact w_reti hm216 ⟨⟨_, _, rfl⟩, rfl⟩ rfl h
theorem v_X5_indexOf_45 {d : Nat} {x1 : Int32} {y2 : Int64} {m : dM} {Q : Int32 → dM → Prop} (h : j_X5_indexOf_45_3 (d + 1) x1 y2 (0 : Int32) m Q) : c_X5_indexOf_45 (d + 1) x1 y2 m Q := by
  refine w_iconst (q := 1) hm199 ⟨⟨_, _, rfl⟩, rfl⟩ iconst_0 ?_
  refine w_istore (q := 3) (l' := [oR 45, oI x1, oL y2, none, oI (0 : Int32)]) hm199 ⟨⟨_, _, rfl⟩, rfl⟩ rfl rfl rfl ?_
  exact h
theorem v_X5_indexOf_45_3 {d : Nat} {x1 : Int32} {y2 : Int64} {x4 : Int32} {m : dM} {Q : Int32 → dM → Prop} (h : ((x1.toInt ≤ x4.toInt → j_X5_indexOf_45_34 (d + 1) m Q) ∧ (x4.toInt < x1.toInt → ((7 ≤ x4.toInt → j_X5_indexOf_45_34 (d + 1) m Q) ∧ (x4.toInt < 7 → ((0 ≤ x4.toInt ∧ x4.toInt < 7) ∧ (((lg_cmp (m.2.1 45 x4.toNatClampNeg) y2).toInt ≠ 0 → j_X5_indexOf_45_3 (d + 1) x1 y2 (x4 + (1 : Int32)) m Q) ∧ ((lg_cmp (m.2.1 45 x4.toNatClampNeg) y2).toInt = 0 → Q x4 m)))))))) : j_X5_indexOf_45_3 (d + 1) x1 y2 x4 m Q := by
  refine w_iload (q := 5) hm199 ⟨⟨_, _, rfl⟩, rfl⟩ rfl ?_
  refine w_iload_n (q := 6) hm199 ⟨⟨_, _, rfl⟩, rfl⟩ rfl ?_
  refine w_icmp_ge (q := 9) (X := x4.toInt) (Y := x1.toInt) hm199 ⟨⟨_, _, rfl⟩, rfl⟩ rfl rfl (fun hc => ?_) (fun hc => ?_)
  · have h := h.1 hc
    exact Wp.wk [false, false, false, false, false] h
  · have h := h.2 hc
    refine w_iload (q := 11) hm199 ⟨⟨_, _, rfl⟩, rfl⟩ rfl ?_
    refine w_aload_n (q := 12) hm199 ⟨⟨_, _, rfl⟩, rfl⟩ rfl ?_
    refine w_alenL (q := 13) hm199 ⟨⟨_, _, rfl⟩, rfl⟩ rfl alen_7 ?_
    refine w_icmp_ge (q := 16) (X := x4.toInt) (Y := 7) hm199 ⟨⟨_, _, rfl⟩, rfl⟩ rfl (by decide) (fun hc => ?_) (fun hc => ?_)
    · have h := h.1 hc
      exact Wp.wk [false, false, false, false, false] h
    · have h := h.2 hc
      refine w_aload_n (q := 17) hm199 ⟨⟨_, _, rfl⟩, rfl⟩ rfl ?_
      refine w_iload (q := 19) hm199 ⟨⟨_, _, rfl⟩, rfl⟩ rfl ?_
      obtain ⟨hi, h⟩ := h
      refine w_lald (q := 20) (v := (m.2.1 45 x4.toNatClampNeg)) hm199 ⟨⟨_, _, rfl⟩, rfl⟩ rfl hi rfl rfl ?_
      refine w_lload_n (q := 21) hm199 ⟨⟨_, _, rfl⟩, rfl⟩ rfl ?_
      refine w_lcmp (q := 22) hm199 ⟨⟨_, _, rfl⟩, rfl⟩ ?_
      refine w_if_ne (q := 25) (X := (lg_cmp (m.2.1 45 x4.toNatClampNeg) y2).toInt) hm199 ⟨⟨_, _, rfl⟩, rfl⟩ rfl (fun hc => ?_) (fun hc => ?_)
      · have h := h.1 hc
        refine w_iinc (q := 31) (l' := [oR 45, oI x1, oL y2, none, oI (x4 + (1 : Int32))]) hm199 ⟨⟨_, _, rfl⟩, rfl⟩ rfl rfl rfl iconst_1 rfl ?_
        refine w_goto (q := 3) hm199 ⟨_, _, rfl⟩ ?_
        exact h
      · have h := h.2 hc
        refine w_iload (q := 27) hm199 ⟨⟨_, _, rfl⟩, rfl⟩ rfl ?_
        exact w_reti hm199 ⟨⟨_, _, rfl⟩, rfl⟩ rfl h
theorem v_X5_indexOf_45_34 {d : Nat} {m : dM} {Q : Int32 → dM → Prop} (h : Q (-1 : Int32) m) : j_X5_indexOf_45_34 (d + 1) m Q := by
  refine w_iconst (q := 35) hm199 ⟨⟨_, _, rfl⟩, rfl⟩ iconst_m1 ?_
  exact w_reti hm199 ⟨⟨_, _, rfl⟩, rfl⟩ rfl h
theorem v_X5_indexOf_46 {d : Nat} {x1 : Int32} {y2 : Int64} {m : dM} {Q : Int32 → dM → Prop} (h : j_X5_indexOf_46_3 (d + 1) x1 y2 (0 : Int32) m Q) : c_X5_indexOf_46 (d + 1) x1 y2 m Q := by
  refine w_iconst (q := 1) hm199 ⟨⟨_, _, rfl⟩, rfl⟩ iconst_0 ?_
  refine w_istore (q := 3) (l' := [oR 46, oI x1, oL y2, none, oI (0 : Int32)]) hm199 ⟨⟨_, _, rfl⟩, rfl⟩ rfl rfl rfl ?_
  exact h
theorem v_X5_indexOf_46_3 {d : Nat} {x1 : Int32} {y2 : Int64} {x4 : Int32} {m : dM} {Q : Int32 → dM → Prop} (h : ((x1.toInt ≤ x4.toInt → j_X5_indexOf_46_34 (d + 1) m Q) ∧ (x4.toInt < x1.toInt → ((8 ≤ x4.toInt → j_X5_indexOf_46_34 (d + 1) m Q) ∧ (x4.toInt < 8 → ((0 ≤ x4.toInt ∧ x4.toInt < 8) ∧ (((lg_cmp (m.2.1 46 x4.toNatClampNeg) y2).toInt ≠ 0 → j_X5_indexOf_46_3 (d + 1) x1 y2 (x4 + (1 : Int32)) m Q) ∧ ((lg_cmp (m.2.1 46 x4.toNatClampNeg) y2).toInt = 0 → Q x4 m)))))))) : j_X5_indexOf_46_3 (d + 1) x1 y2 x4 m Q := by
  refine w_iload (q := 5) hm199 ⟨⟨_, _, rfl⟩, rfl⟩ rfl ?_
  refine w_iload_n (q := 6) hm199 ⟨⟨_, _, rfl⟩, rfl⟩ rfl ?_
  refine w_icmp_ge (q := 9) (X := x4.toInt) (Y := x1.toInt) hm199 ⟨⟨_, _, rfl⟩, rfl⟩ rfl rfl (fun hc => ?_) (fun hc => ?_)
  · have h := h.1 hc
    exact Wp.wk [false, false, false, false, false] h
  · have h := h.2 hc
    refine w_iload (q := 11) hm199 ⟨⟨_, _, rfl⟩, rfl⟩ rfl ?_
    refine w_aload_n (q := 12) hm199 ⟨⟨_, _, rfl⟩, rfl⟩ rfl ?_
    refine w_alenL (q := 13) hm199 ⟨⟨_, _, rfl⟩, rfl⟩ rfl alen_8 ?_
    refine w_icmp_ge (q := 16) (X := x4.toInt) (Y := 8) hm199 ⟨⟨_, _, rfl⟩, rfl⟩ rfl (by decide) (fun hc => ?_) (fun hc => ?_)
    · have h := h.1 hc
      exact Wp.wk [false, false, false, false, false] h
    · have h := h.2 hc
      refine w_aload_n (q := 17) hm199 ⟨⟨_, _, rfl⟩, rfl⟩ rfl ?_
      refine w_iload (q := 19) hm199 ⟨⟨_, _, rfl⟩, rfl⟩ rfl ?_
      obtain ⟨hi, h⟩ := h
      refine w_lald (q := 20) (v := (m.2.1 46 x4.toNatClampNeg)) hm199 ⟨⟨_, _, rfl⟩, rfl⟩ rfl hi rfl rfl ?_
      refine w_lload_n (q := 21) hm199 ⟨⟨_, _, rfl⟩, rfl⟩ rfl ?_
      refine w_lcmp (q := 22) hm199 ⟨⟨_, _, rfl⟩, rfl⟩ ?_
      refine w_if_ne (q := 25) (X := (lg_cmp (m.2.1 46 x4.toNatClampNeg) y2).toInt) hm199 ⟨⟨_, _, rfl⟩, rfl⟩ rfl (fun hc => ?_) (fun hc => ?_)
      · have h := h.1 hc
        refine w_iinc (q := 31) (l' := [oR 46, oI x1, oL y2, none, oI (x4 + (1 : Int32))]) hm199 ⟨⟨_, _, rfl⟩, rfl⟩ rfl rfl rfl iconst_1 rfl ?_
        refine w_goto (q := 3) hm199 ⟨_, _, rfl⟩ ?_
        exact h
      · have h := h.2 hc
        refine w_iload (q := 27) hm199 ⟨⟨_, _, rfl⟩, rfl⟩ rfl ?_
        exact w_reti hm199 ⟨⟨_, _, rfl⟩, rfl⟩ rfl h
theorem v_X5_indexOf_46_34 {d : Nat} {m : dM} {Q : Int32 → dM → Prop} (h : Q (-1 : Int32) m) : j_X5_indexOf_46_34 (d + 1) m Q := by
  refine w_iconst (q := 35) hm199 ⟨⟨_, _, rfl⟩, rfl⟩ iconst_m1 ?_
  exact w_reti hm199 ⟨⟨_, _, rfl⟩, rfl⟩ rfl h
theorem v_X5_fail_44 {d : Nat} {x1 : Int32} {m : dM} {Q : Int32 → dM → Prop} (h : Q (0 : Int32) (dSet m 44 5 x1)) : c_X5_fail_44 (d + 1) x1 m Q := by
  refine w_aload_n (q := 1) hm188 ⟨⟨_, _, rfl⟩, rfl⟩ rfl ?_
  refine w_iload_n (q := 2) hm188 ⟨⟨_, _, rfl⟩, rfl⟩ rfl ?_
  refine w_putf (q := 5) hm188 ⟨⟨_, _, rfl⟩, rfl⟩ rfl rfl rfl ?_
  refine w_iconst (q := 6) hm188 ⟨⟨_, _, rfl⟩, rfl⟩ iconst_0 ?_
  exact w_retz hm188 ⟨⟨_, _, rfl⟩, rfl⟩ rfl (by decide) h
theorem v_X5_isNewName_44 {d : Nat} {m : dM} {Q : Int32 → dM → Prop} (h : c_X8_nameAt_38 d (m.1 44 4) m (fun r1 m1 => c_X5_indexOf_45 d (m1.1 20 0) r1 m1 (fun r2 m2 => ((r2.toInt ≠ (-1) → j_X5_isNewName_44_50 (d + 1) m2 Q) ∧ (r2.toInt = (-1) → c_X5_indexOf_46 d (m2.1 20 2) r1 m2 (fun r3 m3 => ((r3.toInt = (-1) → Q (1 : Int32) m3) ∧ (r3.toInt ≠ (-1) → j_X5_isNewName_44_50 (d + 1) m3 Q)))))))) : c_X5_isNewName_44 (d + 1) m Q := by
  refine w_aload_n (q := 1) hm197 ⟨⟨_, _, rfl⟩, rfl⟩ rfl ?_
  refine w_getr (q := 4) hm197 ⟨⟨_, _, rfl⟩, rfl⟩ rfl ?_
  refine w_aload_n (q := 5) hm197 ⟨⟨_, _, rfl⟩, rfl⟩ rfl ?_
  refine w_getf (q := 8) (v := (m.1 44 4)) hm197 ⟨⟨_, _, rfl⟩, rfl⟩ rfl rfl ?_
  refine w_call (q := 11) (n := 0) (vs := [.inr (.inr (some 38)), .inl (m.1 44 4)]) (rest := []) (la := [oR 38, oI (m.1 44 4)]) hm197 ⟨⟨_, _, rfl⟩, rfl⟩ rfl rfl rfl rfl hm219 rfl rfl (fun _ => ⟨_, _, rfl, rfl⟩) rfl (Wp.mono h ?_)
  rintro _ m1 ⟨r1, rfl, h⟩
  change Wp _ _ 11 _ [.inr (.inl r1)] _ _
  refine w_lstore_n (q := 12) (l' := [oR 44, oL r1, none, none]) hm197 ⟨⟨_, _, rfl⟩, rfl⟩ rfl rfl rfl ?_
  refine w_aload_n (q := 13) hm197 ⟨⟨_, _, rfl⟩, rfl⟩ rfl ?_
  refine w_getr (q := 16) hm197 ⟨⟨_, _, rfl⟩, rfl⟩ rfl ?_
  refine w_aload_n (q := 17) hm197 ⟨⟨_, _, rfl⟩, rfl⟩ rfl ?_
  refine w_getr (q := 20) hm197 ⟨⟨_, _, rfl⟩, rfl⟩ rfl ?_
  refine w_getf (q := 23) (v := (m1.1 20 0)) hm197 ⟨⟨_, _, rfl⟩, rfl⟩ rfl rfl ?_
  refine w_lload_n (q := 24) hm197 ⟨⟨_, _, rfl⟩, rfl⟩ rfl ?_
  refine w_call (q := 27) (n := 1) (vs := [.inr (.inr (some 45)), .inl (m1.1 20 0), .inr (.inl r1)]) (rest := []) (la := [oR 45, oI (m1.1 20 0), oL r1, none, none]) hm197 ⟨⟨_, _, rfl⟩, rfl⟩ rfl rfl rfl rfl hm199 rfl rfl (fun hz => absurd hz (by decide)) rfl (Wp.mono h ?_)
  rintro _ m2 ⟨r2, rfl, h⟩
  change Wp _ _ 27 _ [.inl r2] _ _
  refine w_iconst (q := 28) hm197 ⟨⟨_, _, rfl⟩, rfl⟩ iconst_m1 ?_
  refine w_icmp_ne (q := 31) (X := r2.toInt) (Y := (-1)) hm197 ⟨⟨_, _, rfl⟩, rfl⟩ rfl (by decide) (fun hc => ?_) (fun hc => ?_)
  · have h := h.1 hc
    exact Wp.wk [true, false, false, false] h
  · have h := h.2 hc
    refine w_aload_n (q := 32) hm197 ⟨⟨_, _, rfl⟩, rfl⟩ rfl ?_
    refine w_getr (q := 35) hm197 ⟨⟨_, _, rfl⟩, rfl⟩ rfl ?_
    refine w_aload_n (q := 36) hm197 ⟨⟨_, _, rfl⟩, rfl⟩ rfl ?_
    refine w_getr (q := 39) hm197 ⟨⟨_, _, rfl⟩, rfl⟩ rfl ?_
    refine w_getf (q := 42) (v := (m2.1 20 2)) hm197 ⟨⟨_, _, rfl⟩, rfl⟩ rfl rfl ?_
    refine w_lload_n (q := 43) hm197 ⟨⟨_, _, rfl⟩, rfl⟩ rfl ?_
    refine w_call (q := 46) (n := 1) (vs := [.inr (.inr (some 46)), .inl (m2.1 20 2), .inr (.inl r1)]) (rest := []) (la := [oR 46, oI (m2.1 20 2), oL r1, none, none]) hm197 ⟨⟨_, _, rfl⟩, rfl⟩ rfl rfl rfl rfl hm199 rfl rfl (fun hz => absurd hz (by decide)) rfl (Wp.mono h ?_)
    rintro _ m3 ⟨r3, rfl, h⟩
    change Wp _ _ 46 _ [.inl r3] _ _
    refine w_iconst (q := 47) hm197 ⟨⟨_, _, rfl⟩, rfl⟩ iconst_m1 ?_
    refine w_icmp_eq (q := 50) (X := r3.toInt) (Y := (-1)) hm197 ⟨⟨_, _, rfl⟩, rfl⟩ rfl (by decide) (fun hc => ?_) (fun hc => ?_)
    · have h := h.1 hc
      refine w_iconst (q := 55) hm197 ⟨⟨_, _, rfl⟩, rfl⟩ iconst_0 ?_
      refine w_istore_n (q := 56) (l' := [oR 44, oL r1, none, oI (0 : Int32)]) hm197 ⟨⟨_, _, rfl⟩, rfl⟩ rfl rfl rfl ?_
      refine w_iload_n (q := 57) hm197 ⟨⟨_, _, rfl⟩, rfl⟩ rfl ?_
      refine w_if_eq (q := 60) (X := 0) hm197 ⟨⟨_, _, rfl⟩, rfl⟩ (by decide) (fun _ => ?_) (fun hc => absurd hc (by decide))
      refine w_iconst (q := 69) hm197 ⟨⟨_, _, rfl⟩, rfl⟩ iconst_1 ?_
      exact w_retz hm197 ⟨⟨_, _, rfl⟩, rfl⟩ rfl (by decide) h
    · have h := h.2 hc
      exact Wp.wk [true, false, false, false] h
theorem v_X5_isNewName_44_50 {d : Nat} {m : dM} {Q : Int32 → dM → Prop} (h : c_X5_fail_44 d (3 : Int32) m (fun r1 m1 => (r1 = 0 ∨ r1 = 1) ∧ Q r1 m1)) : j_X5_isNewName_44_50 (d + 1) m Q := by
  refine w_iconst (q := 51) hm197 ⟨⟨_, _, rfl⟩, rfl⟩ iconst_1 ?_
  refine w_goto (q := 55) hm197 ⟨_, _, rfl⟩ ?_
  refine w_istore_n (q := 56) (l' := [oR 44, none, none, oI (1 : Int32)]) hm197 ⟨⟨_, _, rfl⟩, rfl⟩ rfl rfl rfl ?_
  refine w_iload_n (q := 57) hm197 ⟨⟨_, _, rfl⟩, rfl⟩ rfl ?_
  refine w_if_eq (q := 60) (X := 1) hm197 ⟨⟨_, _, rfl⟩, rfl⟩ (by decide) (fun hc => absurd hc (by decide)) (fun _ => ?_)
  refine w_aload_n (q := 61) hm197 ⟨⟨_, _, rfl⟩, rfl⟩ rfl ?_
  refine w_iconst (q := 62) hm197 ⟨⟨_, _, rfl⟩, rfl⟩ iconst_3 ?_
  refine w_call (q := 65) (n := 0) (vs := [.inr (.inr (some 44)), .inl (3 : Int32)]) (rest := []) (la := [oR 44, oI (3 : Int32)]) hm197 ⟨⟨_, _, rfl⟩, rfl⟩ rfl rfl rfl rfl hm188 rfl rfl (fun _ => ⟨_, _, rfl, rfl⟩) rfl (Wp.mono h ?_)
  rintro _ m1 ⟨r1, rfl, h⟩
  change Wp _ _ 65 _ [.inl r1] _ _
  refine w_goto (q := 69) hm197 ⟨_, _, rfl⟩ ?_
  exact w_retz hm197 ⟨⟨_, _, rfl⟩, rfl⟩ rfl h.1 h.2
theorem v_X5_isWithin_44 {d : Nat} {x1 : Int32} {x2 : Int32} {m : dM} {Q : Int32 → dM → Prop} (h : c_X8_numberAt_38 d (m.1 44 4) m (fun r1 m1 => ((r1.toInt < x1.toInt → j_X5_isWithin_44_22 (d + 1) m1 Q) ∧ (x1.toInt ≤ r1.toInt → ((r1.toInt ≤ x2.toInt → Q (1 : Int32) (dSet m1 44 4 ((m1.1 44 4) + (1 : Int32)))) ∧ (x2.toInt < r1.toInt → j_X5_isWithin_44_22 (d + 1) m1 Q)))))) : c_X5_isWithin_44 (d + 1) x1 x2 m Q := by
  refine w_aload_n (q := 1) hm196 ⟨⟨_, _, rfl⟩, rfl⟩ rfl ?_
  refine w_getr (q := 4) hm196 ⟨⟨_, _, rfl⟩, rfl⟩ rfl ?_
  refine w_aload_n (q := 5) hm196 ⟨⟨_, _, rfl⟩, rfl⟩ rfl ?_
  refine w_getf (q := 8) (v := (m.1 44 4)) hm196 ⟨⟨_, _, rfl⟩, rfl⟩ rfl rfl ?_
  refine w_call (q := 11) (n := 0) (vs := [.inr (.inr (some 38)), .inl (m.1 44 4)]) (rest := []) (la := [oR 38, oI (m.1 44 4)]) hm196 ⟨⟨_, _, rfl⟩, rfl⟩ rfl rfl rfl rfl hm218 rfl rfl (fun _ => ⟨_, _, rfl, rfl⟩) rfl (Wp.mono h ?_)
  rintro _ m1 ⟨r1, rfl, h⟩
  change Wp _ _ 11 _ [.inl r1] _ _
  refine w_istore_n (q := 12) (l' := [oR 44, oI x1, oI x2, oI r1]) hm196 ⟨⟨_, _, rfl⟩, rfl⟩ rfl rfl rfl ?_
  refine w_iload_n (q := 13) hm196 ⟨⟨_, _, rfl⟩, rfl⟩ rfl ?_
  refine w_iload_n (q := 14) hm196 ⟨⟨_, _, rfl⟩, rfl⟩ rfl ?_
  refine w_icmp_lt (q := 17) (X := r1.toInt) (Y := x1.toInt) hm196 ⟨⟨_, _, rfl⟩, rfl⟩ rfl rfl (fun hc => ?_) (fun hc => ?_)
  · have h := h.1 hc
    exact Wp.wk [true, false, false, false] h
  · have h := h.2 hc
    refine w_iload_n (q := 18) hm196 ⟨⟨_, _, rfl⟩, rfl⟩ rfl ?_
    refine w_iload_n (q := 19) hm196 ⟨⟨_, _, rfl⟩, rfl⟩ rfl ?_
    refine w_icmp_le (q := 22) (X := r1.toInt) (Y := x2.toInt) hm196 ⟨⟨_, _, rfl⟩, rfl⟩ rfl rfl (fun hc => ?_) (fun hc => ?_)
    · have h := h.1 hc
      refine w_aload_n (q := 29) hm196 ⟨⟨_, _, rfl⟩, rfl⟩ rfl ?_
      refine w_dup (q := 30) hm196 ⟨⟨_, _, rfl⟩, rfl⟩ rfl ?_
      refine w_getf (q := 33) (v := (m1.1 44 4)) hm196 ⟨⟨_, _, rfl⟩, rfl⟩ rfl rfl ?_
      refine w_iconst (q := 34) hm196 ⟨⟨_, _, rfl⟩, rfl⟩ iconst_1 ?_
      refine w_iadd (q := 35) hm196 ⟨⟨_, _, rfl⟩, rfl⟩ ?_
      refine w_putf (q := 38) hm196 ⟨⟨_, _, rfl⟩, rfl⟩ rfl rfl rfl ?_
      refine w_iconst (q := 39) hm196 ⟨⟨_, _, rfl⟩, rfl⟩ iconst_1 ?_
      exact w_retz hm196 ⟨⟨_, _, rfl⟩, rfl⟩ rfl (by decide) h
    · have h := h.2 hc
      exact Wp.wk [true, false, false, false] h
theorem v_X5_isWithin_44_22 {d : Nat} {m : dM} {Q : Int32 → dM → Prop} (h : c_X5_fail_44 d (5 : Int32) m (fun r1 m1 => (r1 = 0 ∨ r1 = 1) ∧ Q r1 m1)) : j_X5_isWithin_44_22 (d + 1) m Q := by
  refine w_aload_n (q := 23) hm196 ⟨⟨_, _, rfl⟩, rfl⟩ rfl ?_
  refine w_iconst (q := 24) hm196 ⟨⟨_, _, rfl⟩, rfl⟩ iconst_5 ?_
  refine w_call (q := 27) (n := 0) (vs := [.inr (.inr (some 44)), .inl (5 : Int32)]) (rest := []) (la := [oR 44, oI (5 : Int32)]) hm196 ⟨⟨_, _, rfl⟩, rfl⟩ rfl rfl rfl rfl hm188 rfl rfl (fun _ => ⟨_, _, rfl, rfl⟩) rfl (Wp.mono h ?_)
  rintro _ m1 ⟨r1, rfl, h⟩
  change Wp _ _ 27 _ [.inl r1] _ _
  exact w_retz hm196 ⟨⟨_, _, rfl⟩, rfl⟩ rfl h.1 h.2
theorem v_X5_takeFlat_44 {d : Nat} {m : dM} {Q : Int32 → dM → Prop} (h : (((m.1 20 0).toInt < 7 → c_X5_isNewName_44 d m (fun r1 m1 => ((r1.toInt ≠ 0 → c_X8_nameAt_38 d (m1.1 44 4) m1 (fun r2 m2 => ((0 ≤ (m.1 20 0).toInt ∧ (m.1 20 0).toInt < 7) ∧ c_X8_numberAt_38 d ((m2.1 44 4) + (1 : Int32)) (dSet (dSetL m2 45 (m.1 20 0).toNatClampNeg r2) 44 4 ((m2.1 44 4) + (1 : Int32))) (fun r3 m3 => ((0 ≤ (m.1 20 0).toInt ∧ (m.1 20 0).toInt < 7) ∧ c_X5_isWithin_44 d (0 : Int32) (9 : Int32) (dSet (dSet m3 21 (m.1 20 0).toNatClampNeg r3) 20 0 ((m3.1 20 0) + (1 : Int32))) (fun r4 m4 => (r4 = 0 ∨ r4 = 1) ∧ Q r4 m4)))))) ∧ (r1.toInt = 0 → Q (0 : Int32) m1)))) ∧ (7 ≤ (m.1 20 0).toInt → c_X5_fail_44 d (2 : Int32) m (fun r5 m5 => (r5 = 0 ∨ r5 = 1) ∧ Q r5 m5)))) : c_X5_takeFlat_44 (d + 1) m Q := by
  refine w_aload_n (q := 1) hm190 ⟨⟨_, _, rfl⟩, rfl⟩ rfl ?_
  refine w_getr (q := 4) hm190 ⟨⟨_, _, rfl⟩, rfl⟩ rfl ?_
  refine w_getf (q := 7) (v := (m.1 20 0)) hm190 ⟨⟨_, _, rfl⟩, rfl⟩ rfl rfl ?_
  refine w_istore_n (q := 8) (l' := [oR 44, oI (m.1 20 0)]) hm190 ⟨⟨_, _, rfl⟩, rfl⟩ rfl rfl rfl ?_
  refine w_iload_n (q := 9) hm190 ⟨⟨_, _, rfl⟩, rfl⟩ rfl ?_
  refine w_bipush (q := 11) hm190 ⟨⟨_, _, rfl⟩, rfl⟩ bipush_7 ?_
  refine w_icmp_lt (q := 14) (X := (m.1 20 0).toInt) (Y := 7) hm190 ⟨⟨_, _, rfl⟩, rfl⟩ rfl (by decide) (fun hc => ?_) (fun hc => ?_)
  · have h := h.1 hc
    refine w_aload_n (q := 21) hm190 ⟨⟨_, _, rfl⟩, rfl⟩ rfl ?_
    refine w_call (q := 24) (n := 3) (vs := [.inr (.inr (some 44))]) (rest := []) (la := [oR 44, none, none, none]) hm190 ⟨⟨_, _, rfl⟩, rfl⟩ rfl rfl rfl rfl hm197 rfl rfl (fun _ => ⟨_, _, rfl, rfl⟩) rfl (Wp.mono h ?_)
    rintro _ m1 ⟨r1, rfl, h⟩
    change Wp _ _ 24 _ [.inl r1] _ _
    refine w_if_ne (q := 27) (X := r1.toInt) hm190 ⟨⟨_, _, rfl⟩, rfl⟩ rfl (fun hc => ?_) (fun hc => ?_)
    · have h := h.1 hc
      refine w_aload_n (q := 30) hm190 ⟨⟨_, _, rfl⟩, rfl⟩ rfl ?_
      refine w_getr (q := 33) hm190 ⟨⟨_, _, rfl⟩, rfl⟩ rfl ?_
      refine w_iload_n (q := 34) hm190 ⟨⟨_, _, rfl⟩, rfl⟩ rfl ?_
      refine w_aload_n (q := 35) hm190 ⟨⟨_, _, rfl⟩, rfl⟩ rfl ?_
      refine w_getr (q := 38) hm190 ⟨⟨_, _, rfl⟩, rfl⟩ rfl ?_
      refine w_aload_n (q := 39) hm190 ⟨⟨_, _, rfl⟩, rfl⟩ rfl ?_
      refine w_getf (q := 42) (v := (m1.1 44 4)) hm190 ⟨⟨_, _, rfl⟩, rfl⟩ rfl rfl ?_
      refine w_call (q := 45) (n := 0) (vs := [.inr (.inr (some 38)), .inl (m1.1 44 4)]) (rest := [.inl (m.1 20 0), .inr (.inr (some 45))]) (la := [oR 38, oI (m1.1 44 4)]) hm190 ⟨⟨_, _, rfl⟩, rfl⟩ rfl rfl rfl rfl hm219 rfl rfl (fun _ => ⟨_, _, rfl, rfl⟩) rfl (Wp.mono h ?_)
      rintro _ m2 ⟨r2, rfl, h⟩
      change Wp _ _ 45 _ [.inr (.inl r2), .inl (m.1 20 0), .inr (.inr (some 45))] _ _
      obtain ⟨hi, h⟩ := h
      refine w_last (q := 46) hm190 ⟨⟨_, _, rfl⟩, rfl⟩ rfl hi rfl rfl ?_
      refine w_aload_n (q := 47) hm190 ⟨⟨_, _, rfl⟩, rfl⟩ rfl ?_
      refine w_dup (q := 48) hm190 ⟨⟨_, _, rfl⟩, rfl⟩ rfl ?_
      refine w_getf (q := 51) (v := (m2.1 44 4)) hm190 ⟨⟨_, _, rfl⟩, rfl⟩ rfl rfl ?_
      refine w_iconst (q := 52) hm190 ⟨⟨_, _, rfl⟩, rfl⟩ iconst_1 ?_
      refine w_iadd (q := 53) hm190 ⟨⟨_, _, rfl⟩, rfl⟩ ?_
      refine w_putf (q := 56) hm190 ⟨⟨_, _, rfl⟩, rfl⟩ rfl rfl rfl ?_
      refine w_aload_n (q := 57) hm190 ⟨⟨_, _, rfl⟩, rfl⟩ rfl ?_
      refine w_getr (q := 60) hm190 ⟨⟨_, _, rfl⟩, rfl⟩ rfl ?_
      refine w_getr (q := 63) hm190 ⟨⟨_, _, rfl⟩, rfl⟩ rfl ?_
      refine w_iload_n (q := 64) hm190 ⟨⟨_, _, rfl⟩, rfl⟩ rfl ?_
      refine w_aload_n (q := 65) hm190 ⟨⟨_, _, rfl⟩, rfl⟩ rfl ?_
      refine w_getr (q := 68) hm190 ⟨⟨_, _, rfl⟩, rfl⟩ rfl ?_
      refine w_aload_n (q := 69) hm190 ⟨⟨_, _, rfl⟩, rfl⟩ rfl ?_
      refine w_getf (q := 72) (v := ((m2.1 44 4) + (1 : Int32))) hm190 ⟨⟨_, _, rfl⟩, rfl⟩ rfl rfl ?_
      refine w_call (q := 75) (n := 0) (vs := [.inr (.inr (some 38)), .inl ((m2.1 44 4) + (1 : Int32))]) (rest := [.inl (m.1 20 0), .inr (.inr (some 21))]) (la := [oR 38, oI ((m2.1 44 4) + (1 : Int32))]) hm190 ⟨⟨_, _, rfl⟩, rfl⟩ rfl rfl rfl rfl hm218 rfl rfl (fun _ => ⟨_, _, rfl, rfl⟩) rfl (Wp.mono h ?_)
      rintro _ m3 ⟨r3, rfl, h⟩
      change Wp _ _ 75 _ [.inl r3, .inl (m.1 20 0), .inr (.inr (some 21))] _ _
      obtain ⟨hi, h⟩ := h
      refine w_iast (q := 76) hm190 ⟨⟨_, _, rfl⟩, rfl⟩ rfl hi rfl rfl ?_
      refine w_aload_n (q := 77) hm190 ⟨⟨_, _, rfl⟩, rfl⟩ rfl ?_
      refine w_getr (q := 80) hm190 ⟨⟨_, _, rfl⟩, rfl⟩ rfl ?_
      refine w_dup (q := 81) hm190 ⟨⟨_, _, rfl⟩, rfl⟩ rfl ?_
      refine w_getf (q := 84) (v := (m3.1 20 0)) hm190 ⟨⟨_, _, rfl⟩, rfl⟩ rfl rfl ?_
      refine w_iconst (q := 85) hm190 ⟨⟨_, _, rfl⟩, rfl⟩ iconst_1 ?_
      refine w_iadd (q := 86) hm190 ⟨⟨_, _, rfl⟩, rfl⟩ ?_
      refine w_putf (q := 89) hm190 ⟨⟨_, _, rfl⟩, rfl⟩ rfl rfl rfl ?_
      refine w_aload_n (q := 90) hm190 ⟨⟨_, _, rfl⟩, rfl⟩ rfl ?_
      refine w_iconst (q := 91) hm190 ⟨⟨_, _, rfl⟩, rfl⟩ iconst_0 ?_
      refine w_bipush (q := 93) hm190 ⟨⟨_, _, rfl⟩, rfl⟩ bipush_9 ?_
      refine w_call (q := 96) (n := 1) (vs := [.inr (.inr (some 44)), .inl (0 : Int32), .inl (9 : Int32)]) (rest := []) (la := [oR 44, oI (0 : Int32), oI (9 : Int32), none]) hm190 ⟨⟨_, _, rfl⟩, rfl⟩ rfl rfl rfl rfl hm196 rfl rfl (fun _ => ⟨_, _, rfl, rfl⟩) rfl (Wp.mono h ?_)
      rintro _ m4 ⟨r4, rfl, h⟩
      change Wp _ _ 96 _ [.inl r4] _ _
      exact w_retz hm190 ⟨⟨_, _, rfl⟩, rfl⟩ rfl h.1 h.2
    · have h := h.2 hc
      refine w_iconst (q := 28) hm190 ⟨⟨_, _, rfl⟩, rfl⟩ iconst_0 ?_
      exact w_retz hm190 ⟨⟨_, _, rfl⟩, rfl⟩ rfl (by decide) h
  · have h := h.2 hc
    refine w_aload_n (q := 15) hm190 ⟨⟨_, _, rfl⟩, rfl⟩ rfl ?_
    refine w_iconst (q := 16) hm190 ⟨⟨_, _, rfl⟩, rfl⟩ iconst_2 ?_
    refine w_call (q := 19) (n := 0) (vs := [.inr (.inr (some 44)), .inl (2 : Int32)]) (rest := []) (la := [oR 44, oI (2 : Int32)]) hm190 ⟨⟨_, _, rfl⟩, rfl⟩ rfl rfl rfl rfl hm188 rfl rfl (fun _ => ⟨_, _, rfl, rfl⟩) rfl (Wp.mono h ?_)
    rintro _ m5 ⟨r5, rfl, h⟩
    change Wp _ _ 19 _ [.inl r5] _ _
    exact w_retz hm190 ⟨⟨_, _, rfl⟩, rfl⟩ rfl h.1 h.2
theorem v_X5_flatNamed_44 {d : Nat} {m : dM} {Q : Int32 → dM → Prop} (h : c_X8_nameAt_38 d (m.1 44 4) m (fun r1 m1 => c_X5_indexOf_45 d (m.1 20 0) r1 m1 (fun r2 m2 => ((r2.toInt ≠ (-1) → j_X5_flatNamed_44_36 (d + 1) r2 m2 Q) ∧ (r2.toInt = (-1) → j_X5_flatNamed_44_36 (d + 1) r2 (dSet m2 44 5 (4 : Int32)) Q))))) : c_X5_flatNamed_44 (d + 1) m Q := by
  refine w_aload_n (q := 1) hm198 ⟨⟨_, _, rfl⟩, rfl⟩ rfl ?_
  refine w_getr (q := 4) hm198 ⟨⟨_, _, rfl⟩, rfl⟩ rfl ?_
  refine w_aload_n (q := 5) hm198 ⟨⟨_, _, rfl⟩, rfl⟩ rfl ?_
  refine w_getr (q := 8) hm198 ⟨⟨_, _, rfl⟩, rfl⟩ rfl ?_
  refine w_getf (q := 11) (v := (m.1 20 0)) hm198 ⟨⟨_, _, rfl⟩, rfl⟩ rfl rfl ?_
  refine w_aload_n (q := 12) hm198 ⟨⟨_, _, rfl⟩, rfl⟩ rfl ?_
  refine w_getr (q := 15) hm198 ⟨⟨_, _, rfl⟩, rfl⟩ rfl ?_
  refine w_aload_n (q := 16) hm198 ⟨⟨_, _, rfl⟩, rfl⟩ rfl ?_
  refine w_getf (q := 19) (v := (m.1 44 4)) hm198 ⟨⟨_, _, rfl⟩, rfl⟩ rfl rfl ?_
  refine w_call (q := 22) (n := 0) (vs := [.inr (.inr (some 38)), .inl (m.1 44 4)]) (rest := [.inl (m.1 20 0), .inr (.inr (some 45))]) (la := [oR 38, oI (m.1 44 4)]) hm198 ⟨⟨_, _, rfl⟩, rfl⟩ rfl rfl rfl rfl hm219 rfl rfl (fun _ => ⟨_, _, rfl, rfl⟩) rfl (Wp.mono h ?_)
  rintro _ m1 ⟨r1, rfl, h⟩
  change Wp _ _ 22 _ [.inr (.inl r1), .inl (m.1 20 0), .inr (.inr (some 45))] _ _
  refine w_call (q := 25) (n := 1) (vs := [.inr (.inr (some 45)), .inl (m.1 20 0), .inr (.inl r1)]) (rest := []) (la := [oR 45, oI (m.1 20 0), oL r1, none, none]) hm198 ⟨⟨_, _, rfl⟩, rfl⟩ rfl rfl rfl rfl hm199 rfl rfl (fun hz => absurd hz (by decide)) rfl (Wp.mono h ?_)
  rintro _ m2 ⟨r2, rfl, h⟩
  change Wp _ _ 25 _ [.inl r2] _ _
  refine w_istore_n (q := 26) (l' := [oR 44, oI r2]) hm198 ⟨⟨_, _, rfl⟩, rfl⟩ rfl rfl rfl ?_
  refine w_iload_n (q := 27) hm198 ⟨⟨_, _, rfl⟩, rfl⟩ rfl ?_
  refine w_iconst (q := 28) hm198 ⟨⟨_, _, rfl⟩, rfl⟩ iconst_m1 ?_
  refine w_icmp_ne (q := 31) (X := r2.toInt) (Y := (-1)) hm198 ⟨⟨_, _, rfl⟩, rfl⟩ rfl (by decide) (fun hc => ?_) (fun hc => ?_)
  · have h := h.1 hc
    exact Wp.wk [false, true] h
  · have h := h.2 hc
    refine w_aload_n (q := 32) hm198 ⟨⟨_, _, rfl⟩, rfl⟩ rfl ?_
    refine w_iconst (q := 33) hm198 ⟨⟨_, _, rfl⟩, rfl⟩ iconst_4 ?_
    refine w_putf (q := 36) hm198 ⟨⟨_, _, rfl⟩, rfl⟩ rfl rfl rfl ?_
    exact Wp.wk [false, true] h
theorem v_X5_flatNamed_44_36 {d : Nat} {x1 : Int32} {m : dM} {Q : Int32 → dM → Prop} (h : Q x1 m) : j_X5_flatNamed_44_36 (d + 1) x1 m Q := by
  refine w_iload_n (q := 37) hm198 ⟨⟨_, _, rfl⟩, rfl⟩ rfl ?_
  exact w_reti hm198 ⟨⟨_, _, rfl⟩, rfl⟩ rfl h
theorem v_X3_endsOf_20 {d : Nat} {x1 : Int32} {m : dM} {Q : Int32 → dM → Prop} (h : ((0 ≤ x1.toInt ∧ x1.toInt < 10) ∧ ((0 ≤ x1.toInt ∧ x1.toInt < 10) ∧ Q (((1 : Int32) <<< ((m.1 22 x1.toNatClampNeg) &&& 31)) ||| ((1 : Int32) <<< ((m.1 23 x1.toNatClampNeg) &&& 31))) m))) : c_X3_endsOf_20 (d + 1) x1 m Q := by
  refine w_iconst (q := 1) hm172 ⟨⟨_, _, rfl⟩, rfl⟩ iconst_1 ?_
  refine w_aload_n (q := 2) hm172 ⟨⟨_, _, rfl⟩, rfl⟩ rfl ?_
  refine w_getr (q := 5) hm172 ⟨⟨_, _, rfl⟩, rfl⟩ rfl ?_
  refine w_iload_n (q := 6) hm172 ⟨⟨_, _, rfl⟩, rfl⟩ rfl ?_
  obtain ⟨hi, h⟩ := h
  refine w_iald (q := 7) (v := (m.1 22 x1.toNatClampNeg)) hm172 ⟨⟨_, _, rfl⟩, rfl⟩ rfl hi rfl rfl ?_
  refine w_ishl (q := 8) hm172 ⟨⟨_, _, rfl⟩, rfl⟩ ?_
  refine w_iconst (q := 9) hm172 ⟨⟨_, _, rfl⟩, rfl⟩ iconst_1 ?_
  refine w_aload_n (q := 10) hm172 ⟨⟨_, _, rfl⟩, rfl⟩ rfl ?_
  refine w_getr (q := 13) hm172 ⟨⟨_, _, rfl⟩, rfl⟩ rfl ?_
  refine w_iload_n (q := 14) hm172 ⟨⟨_, _, rfl⟩, rfl⟩ rfl ?_
  obtain ⟨hi, h⟩ := h
  refine w_iald (q := 15) (v := (m.1 23 x1.toNatClampNeg)) hm172 ⟨⟨_, _, rfl⟩, rfl⟩ rfl hi rfl rfl ?_
  refine w_ishl (q := 16) hm172 ⟨⟨_, _, rfl⟩, rfl⟩ ?_
  refine w_ior (q := 17) hm172 ⟨⟨_, _, rfl⟩, rfl⟩ ?_
  exact w_reti hm172 ⟨⟨_, _, rfl⟩, rfl⟩ rfl h
end
section
theorem v_X3_isWired_20 {d : Nat} {x1 : Int32} {x2 : Int32} {m : dM} {Q : Int32 → dM → Prop} (h : j_X3_isWired_20_11 (d + 1) (((1 : Int32) <<< (x1 &&& 31)) ||| ((1 : Int32) <<< (x2 &&& 31))) (0 : Int32) m Q) : c_X3_isWired_20 (d + 1) x1 x2 m Q := by
  refine w_iconst (q := 1) hm171 ⟨⟨_, _, rfl⟩, rfl⟩ iconst_1 ?_
  refine w_iload_n (q := 2) hm171 ⟨⟨_, _, rfl⟩, rfl⟩ rfl ?_
  refine w_ishl (q := 3) hm171 ⟨⟨_, _, rfl⟩, rfl⟩ ?_
  refine w_iconst (q := 4) hm171 ⟨⟨_, _, rfl⟩, rfl⟩ iconst_1 ?_
  refine w_iload_n (q := 5) hm171 ⟨⟨_, _, rfl⟩, rfl⟩ rfl ?_
  refine w_ishl (q := 6) hm171 ⟨⟨_, _, rfl⟩, rfl⟩ ?_
  refine w_ior (q := 7) hm171 ⟨⟨_, _, rfl⟩, rfl⟩ ?_
  refine w_istore_n (q := 8) (l' := [oR 20, oI x1, oI x2, oI (((1 : Int32) <<< (x1 &&& 31)) ||| ((1 : Int32) <<< (x2 &&& 31))), none]) hm171 ⟨⟨_, _, rfl⟩, rfl⟩ rfl rfl rfl ?_
  refine w_iconst (q := 9) hm171 ⟨⟨_, _, rfl⟩, rfl⟩ iconst_0 ?_
  refine w_istore (q := 11) (l' := [oR 20, oI x1, oI x2, oI (((1 : Int32) <<< (x1 &&& 31)) ||| ((1 : Int32) <<< (x2 &&& 31))), oI (0 : Int32)]) hm171 ⟨⟨_, _, rfl⟩, rfl⟩ rfl rfl rfl ?_
  exact Wp.wk [true, false, false, true, true] h
theorem v_X3_isWired_20_11 {d : Nat} {x3 : Int32} {x4 : Int32} {m : dM} {Q : Int32 → dM → Prop} (h : (((m.1 20 1).toInt ≤ x4.toInt → Q (0 : Int32) m) ∧ (x4.toInt < (m.1 20 1).toInt → c_X3_endsOf_20 d x4 m (fun r1 m1 => ((r1.toInt ≠ x3.toInt → j_X3_isWired_20_11 (d + 1) x3 (x4 + (1 : Int32)) m1 Q) ∧ (r1.toInt = x3.toInt → Q (1 : Int32) m1)))))) : j_X3_isWired_20_11 (d + 1) x3 x4 m Q := by
  refine w_iload (q := 13) hm171 ⟨⟨_, _, rfl⟩, rfl⟩ rfl ?_
  refine w_aload_n (q := 14) hm171 ⟨⟨_, _, rfl⟩, rfl⟩ rfl ?_
  refine w_getf (q := 17) (v := (m.1 20 1)) hm171 ⟨⟨_, _, rfl⟩, rfl⟩ rfl rfl ?_
  refine w_icmp_ge (q := 20) (X := x4.toInt) (Y := (m.1 20 1).toInt) hm171 ⟨⟨_, _, rfl⟩, rfl⟩ rfl rfl (fun hc => ?_) (fun hc => ?_)
  · have h := h.1 hc
    refine w_iconst (q := 39) hm171 ⟨⟨_, _, rfl⟩, rfl⟩ iconst_0 ?_
    exact w_retz hm171 ⟨⟨_, _, rfl⟩, rfl⟩ rfl (by decide) h
  · have h := h.2 hc
    refine w_aload_n (q := 21) hm171 ⟨⟨_, _, rfl⟩, rfl⟩ rfl ?_
    refine w_iload (q := 23) hm171 ⟨⟨_, _, rfl⟩, rfl⟩ rfl ?_
    refine w_call (q := 26) (n := 0) (vs := [.inr (.inr (some 20)), .inl x4]) (rest := []) (la := [oR 20, oI x4]) hm171 ⟨⟨_, _, rfl⟩, rfl⟩ rfl rfl rfl rfl hm172 rfl rfl (fun _ => ⟨_, _, rfl, rfl⟩) rfl (Wp.mono h ?_)
    rintro _ m1 ⟨r1, rfl, h⟩
    change Wp _ _ 26 _ [.inl r1] _ _
    refine w_iload_n (q := 27) hm171 ⟨⟨_, _, rfl⟩, rfl⟩ rfl ?_
    refine w_icmp_ne (q := 30) (X := r1.toInt) (Y := x3.toInt) hm171 ⟨⟨_, _, rfl⟩, rfl⟩ rfl rfl (fun hc => ?_) (fun hc => ?_)
    · have h := h.1 hc
      refine w_iinc (q := 35) (l' := [oR 20, none, none, oI x3, oI (x4 + (1 : Int32))]) hm171 ⟨⟨_, _, rfl⟩, rfl⟩ rfl rfl rfl iconst_1 rfl ?_
      refine w_goto (q := 11) hm171 ⟨_, _, rfl⟩ ?_
      exact h
    · have h := h.2 hc
      refine w_iconst (q := 31) hm171 ⟨⟨_, _, rfl⟩, rfl⟩ iconst_1 ?_
      exact w_retz hm171 ⟨⟨_, _, rfl⟩, rfl⟩ rfl (by decide) h
theorem v_X5_takeWire_44 {d : Nat} {m : dM} {Q : Int32 → dM → Prop} (h : (((m.1 20 1).toInt < 10 → c_X5_flatNamed_44 d m (fun r1 m1 => ((r1.toInt ≠ (-1) → c_X5_flatNamed_44 d (dSet m1 44 4 ((m1.1 44 4) + (1 : Int32))) (fun r2 m2 => ((r2.toInt ≠ (-1) → ((r1.toInt = r2.toInt → j_X5_takeWire_44_71 (d + 1) m2 Q) ∧ (r1.toInt ≠ r2.toInt → c_X3_isWired_20 d r1 r2 m2 (fun r3 m3 => ((r3.toInt = 0 → ((0 ≤ (m.1 20 1).toInt ∧ (m.1 20 1).toInt < 10) ∧ ((0 ≤ (m.1 20 1).toInt ∧ (m.1 20 1).toInt < 10) ∧ c_X8_numberAt_38 d ((m3.1 44 4) + (1 : Int32)) (dSet (dSet (dSet m3 44 4 ((m3.1 44 4) + (1 : Int32))) 22 (m.1 20 1).toNatClampNeg r1) 23 (m.1 20 1).toNatClampNeg r2) (fun r4 m4 => ((0 ≤ (m.1 20 1).toInt ∧ (m.1 20 1).toInt < 10) ∧ c_X5_isWithin_44 d (1 : Int32) (99 : Int32) (dSet (dSet m4 24 (m.1 20 1).toNatClampNeg r4) 20 1 ((m4.1 20 1) + (1 : Int32))) (fun r5 m5 => (r5 = 0 ∨ r5 = 1) ∧ Q r5 m5)))))) ∧ (r3.toInt ≠ 0 → j_X5_takeWire_44_71 (d + 1) m3 Q)))))) ∧ (r2.toInt = (-1) → Q (0 : Int32) m2)))) ∧ (r1.toInt = (-1) → Q (0 : Int32) m1)))) ∧ (10 ≤ (m.1 20 1).toInt → c_X5_fail_44 d (2 : Int32) m (fun r6 m6 => (r6 = 0 ∨ r6 = 1) ∧ Q r6 m6)))) : c_X5_takeWire_44 (d + 1) m Q := by
  refine w_aload_n (q := 1) hm191 ⟨⟨_, _, rfl⟩, rfl⟩ rfl ?_
  refine w_getr (q := 4) hm191 ⟨⟨_, _, rfl⟩, rfl⟩ rfl ?_
  refine w_getf (q := 7) (v := (m.1 20 1)) hm191 ⟨⟨_, _, rfl⟩, rfl⟩ rfl rfl ?_
  refine w_istore_n (q := 8) (l' := [oR 44, oI (m.1 20 1), none, none]) hm191 ⟨⟨_, _, rfl⟩, rfl⟩ rfl rfl rfl ?_
  refine w_iload_n (q := 9) hm191 ⟨⟨_, _, rfl⟩, rfl⟩ rfl ?_
  refine w_bipush (q := 11) hm191 ⟨⟨_, _, rfl⟩, rfl⟩ bipush_10 ?_
  refine w_icmp_lt (q := 14) (X := (m.1 20 1).toInt) (Y := 10) hm191 ⟨⟨_, _, rfl⟩, rfl⟩ rfl (by decide) (fun hc => ?_) (fun hc => ?_)
  · have h := h.1 hc
    refine w_aload_n (q := 21) hm191 ⟨⟨_, _, rfl⟩, rfl⟩ rfl ?_
    refine w_call (q := 24) (n := 1) (vs := [.inr (.inr (some 44))]) (rest := []) (la := [oR 44, none]) hm191 ⟨⟨_, _, rfl⟩, rfl⟩ rfl rfl rfl rfl hm198 rfl rfl (fun _ => ⟨_, _, rfl, rfl⟩) rfl (Wp.mono h ?_)
    rintro _ m1 ⟨r1, rfl, h⟩
    change Wp _ _ 24 _ [.inl r1] _ _
    refine w_istore_n (q := 25) (l' := [oR 44, oI (m.1 20 1), oI r1, none]) hm191 ⟨⟨_, _, rfl⟩, rfl⟩ rfl rfl rfl ?_
    refine w_iload_n (q := 26) hm191 ⟨⟨_, _, rfl⟩, rfl⟩ rfl ?_
    refine w_iconst (q := 27) hm191 ⟨⟨_, _, rfl⟩, rfl⟩ iconst_m1 ?_
    refine w_icmp_ne (q := 30) (X := r1.toInt) (Y := (-1)) hm191 ⟨⟨_, _, rfl⟩, rfl⟩ rfl (by decide) (fun hc => ?_) (fun hc => ?_)
    · have h := h.1 hc
      refine w_aload_n (q := 33) hm191 ⟨⟨_, _, rfl⟩, rfl⟩ rfl ?_
      refine w_dup (q := 34) hm191 ⟨⟨_, _, rfl⟩, rfl⟩ rfl ?_
      refine w_getf (q := 37) (v := (m1.1 44 4)) hm191 ⟨⟨_, _, rfl⟩, rfl⟩ rfl rfl ?_
      refine w_iconst (q := 38) hm191 ⟨⟨_, _, rfl⟩, rfl⟩ iconst_1 ?_
      refine w_iadd (q := 39) hm191 ⟨⟨_, _, rfl⟩, rfl⟩ ?_
      refine w_putf (q := 42) hm191 ⟨⟨_, _, rfl⟩, rfl⟩ rfl rfl rfl ?_
      refine w_aload_n (q := 43) hm191 ⟨⟨_, _, rfl⟩, rfl⟩ rfl ?_
      refine w_call (q := 46) (n := 1) (vs := [.inr (.inr (some 44))]) (rest := []) (la := [oR 44, none]) hm191 ⟨⟨_, _, rfl⟩, rfl⟩ rfl rfl rfl rfl hm198 rfl rfl (fun _ => ⟨_, _, rfl, rfl⟩) rfl (Wp.mono h ?_)
      rintro _ m2 ⟨r2, rfl, h⟩
      change Wp _ _ 46 _ [.inl r2] _ _
      refine w_istore_n (q := 47) (l' := [oR 44, oI (m.1 20 1), oI r1, oI r2]) hm191 ⟨⟨_, _, rfl⟩, rfl⟩ rfl rfl rfl ?_
      refine w_iload_n (q := 48) hm191 ⟨⟨_, _, rfl⟩, rfl⟩ rfl ?_
      refine w_iconst (q := 49) hm191 ⟨⟨_, _, rfl⟩, rfl⟩ iconst_m1 ?_
      refine w_icmp_ne (q := 52) (X := r2.toInt) (Y := (-1)) hm191 ⟨⟨_, _, rfl⟩, rfl⟩ rfl (by decide) (fun hc => ?_) (fun hc => ?_)
      · have h := h.1 hc
        refine w_iload_n (q := 55) hm191 ⟨⟨_, _, rfl⟩, rfl⟩ rfl ?_
        refine w_iload_n (q := 56) hm191 ⟨⟨_, _, rfl⟩, rfl⟩ rfl ?_
        refine w_icmp_eq (q := 59) (X := r1.toInt) (Y := r2.toInt) hm191 ⟨⟨_, _, rfl⟩, rfl⟩ rfl rfl (fun hc => ?_) (fun hc => ?_)
        · have h := h.1 hc
          exact Wp.wk [true, false, false, false] h
        · have h := h.2 hc
          refine w_aload_n (q := 60) hm191 ⟨⟨_, _, rfl⟩, rfl⟩ rfl ?_
          refine w_getr (q := 63) hm191 ⟨⟨_, _, rfl⟩, rfl⟩ rfl ?_
          refine w_iload_n (q := 64) hm191 ⟨⟨_, _, rfl⟩, rfl⟩ rfl ?_
          refine w_iload_n (q := 65) hm191 ⟨⟨_, _, rfl⟩, rfl⟩ rfl ?_
          refine w_call (q := 68) (n := 2) (vs := [.inr (.inr (some 20)), .inl r1, .inl r2]) (rest := []) (la := [oR 20, oI r1, oI r2, none, none]) hm191 ⟨⟨_, _, rfl⟩, rfl⟩ rfl rfl rfl rfl hm171 rfl rfl (fun _ => ⟨_, _, rfl, rfl⟩) rfl (Wp.mono h ?_)
          rintro _ m3 ⟨r3, rfl, h⟩
          change Wp _ _ 68 _ [.inl r3] _ _
          refine w_if_eq (q := 71) (X := r3.toInt) hm191 ⟨⟨_, _, rfl⟩, rfl⟩ rfl (fun hc => ?_) (fun hc => ?_)
          · have h := h.1 hc
            refine w_aload_n (q := 78) hm191 ⟨⟨_, _, rfl⟩, rfl⟩ rfl ?_
            refine w_dup (q := 79) hm191 ⟨⟨_, _, rfl⟩, rfl⟩ rfl ?_
            refine w_getf (q := 82) (v := (m3.1 44 4)) hm191 ⟨⟨_, _, rfl⟩, rfl⟩ rfl rfl ?_
            refine w_iconst (q := 83) hm191 ⟨⟨_, _, rfl⟩, rfl⟩ iconst_1 ?_
            refine w_iadd (q := 84) hm191 ⟨⟨_, _, rfl⟩, rfl⟩ ?_
            refine w_putf (q := 87) hm191 ⟨⟨_, _, rfl⟩, rfl⟩ rfl rfl rfl ?_
            refine w_aload_n (q := 88) hm191 ⟨⟨_, _, rfl⟩, rfl⟩ rfl ?_
            refine w_getr (q := 91) hm191 ⟨⟨_, _, rfl⟩, rfl⟩ rfl ?_
            refine w_getr (q := 94) hm191 ⟨⟨_, _, rfl⟩, rfl⟩ rfl ?_
            refine w_iload_n (q := 95) hm191 ⟨⟨_, _, rfl⟩, rfl⟩ rfl ?_
            refine w_iload_n (q := 96) hm191 ⟨⟨_, _, rfl⟩, rfl⟩ rfl ?_
            obtain ⟨hi, h⟩ := h
            refine w_iast (q := 97) hm191 ⟨⟨_, _, rfl⟩, rfl⟩ rfl hi rfl rfl ?_
            refine w_aload_n (q := 98) hm191 ⟨⟨_, _, rfl⟩, rfl⟩ rfl ?_
            refine w_getr (q := 101) hm191 ⟨⟨_, _, rfl⟩, rfl⟩ rfl ?_
            refine w_getr (q := 104) hm191 ⟨⟨_, _, rfl⟩, rfl⟩ rfl ?_
            refine w_iload_n (q := 105) hm191 ⟨⟨_, _, rfl⟩, rfl⟩ rfl ?_
            refine w_iload_n (q := 106) hm191 ⟨⟨_, _, rfl⟩, rfl⟩ rfl ?_
            obtain ⟨hi, h⟩ := h
            refine w_iast (q := 107) hm191 ⟨⟨_, _, rfl⟩, rfl⟩ rfl hi rfl rfl ?_
            refine w_aload_n (q := 108) hm191 ⟨⟨_, _, rfl⟩, rfl⟩ rfl ?_
            refine w_getr (q := 111) hm191 ⟨⟨_, _, rfl⟩, rfl⟩ rfl ?_
            refine w_getr (q := 114) hm191 ⟨⟨_, _, rfl⟩, rfl⟩ rfl ?_
            refine w_iload_n (q := 115) hm191 ⟨⟨_, _, rfl⟩, rfl⟩ rfl ?_
            refine w_aload_n (q := 116) hm191 ⟨⟨_, _, rfl⟩, rfl⟩ rfl ?_
            refine w_getr (q := 119) hm191 ⟨⟨_, _, rfl⟩, rfl⟩ rfl ?_
            refine w_aload_n (q := 120) hm191 ⟨⟨_, _, rfl⟩, rfl⟩ rfl ?_
            refine w_getf (q := 123) (v := ((m3.1 44 4) + (1 : Int32))) hm191 ⟨⟨_, _, rfl⟩, rfl⟩ rfl rfl ?_
            refine w_call (q := 126) (n := 0) (vs := [.inr (.inr (some 38)), .inl ((m3.1 44 4) + (1 : Int32))]) (rest := [.inl (m.1 20 1), .inr (.inr (some 24))]) (la := [oR 38, oI ((m3.1 44 4) + (1 : Int32))]) hm191 ⟨⟨_, _, rfl⟩, rfl⟩ rfl rfl rfl rfl hm218 rfl rfl (fun _ => ⟨_, _, rfl, rfl⟩) rfl (Wp.mono h ?_)
            rintro _ m4 ⟨r4, rfl, h⟩
            change Wp _ _ 126 _ [.inl r4, .inl (m.1 20 1), .inr (.inr (some 24))] _ _
            obtain ⟨hi, h⟩ := h
            refine w_iast (q := 127) hm191 ⟨⟨_, _, rfl⟩, rfl⟩ rfl hi rfl rfl ?_
            refine w_aload_n (q := 128) hm191 ⟨⟨_, _, rfl⟩, rfl⟩ rfl ?_
            refine w_getr (q := 131) hm191 ⟨⟨_, _, rfl⟩, rfl⟩ rfl ?_
            refine w_dup (q := 132) hm191 ⟨⟨_, _, rfl⟩, rfl⟩ rfl ?_
            refine w_getf (q := 135) (v := (m4.1 20 1)) hm191 ⟨⟨_, _, rfl⟩, rfl⟩ rfl rfl ?_
            refine w_iconst (q := 136) hm191 ⟨⟨_, _, rfl⟩, rfl⟩ iconst_1 ?_
            refine w_iadd (q := 137) hm191 ⟨⟨_, _, rfl⟩, rfl⟩ ?_
            refine w_putf (q := 140) hm191 ⟨⟨_, _, rfl⟩, rfl⟩ rfl rfl rfl ?_
            refine w_aload_n (q := 141) hm191 ⟨⟨_, _, rfl⟩, rfl⟩ rfl ?_
            refine w_iconst (q := 142) hm191 ⟨⟨_, _, rfl⟩, rfl⟩ iconst_1 ?_
            refine w_bipush (q := 144) hm191 ⟨⟨_, _, rfl⟩, rfl⟩ bipush_99 ?_
            refine w_call (q := 147) (n := 1) (vs := [.inr (.inr (some 44)), .inl (1 : Int32), .inl (99 : Int32)]) (rest := []) (la := [oR 44, oI (1 : Int32), oI (99 : Int32), none]) hm191 ⟨⟨_, _, rfl⟩, rfl⟩ rfl rfl rfl rfl hm196 rfl rfl (fun _ => ⟨_, _, rfl, rfl⟩) rfl (Wp.mono h ?_)
            rintro _ m5 ⟨r5, rfl, h⟩
            change Wp _ _ 147 _ [.inl r5] _ _
            exact w_retz hm191 ⟨⟨_, _, rfl⟩, rfl⟩ rfl h.1 h.2
          · have h := h.2 hc
            exact Wp.wk [true, false, false, false] h
      · have h := h.2 hc
        refine w_iconst (q := 53) hm191 ⟨⟨_, _, rfl⟩, rfl⟩ iconst_0 ?_
        exact w_retz hm191 ⟨⟨_, _, rfl⟩, rfl⟩ rfl (by decide) h
    · have h := h.2 hc
      refine w_iconst (q := 31) hm191 ⟨⟨_, _, rfl⟩, rfl⟩ iconst_0 ?_
      exact w_retz hm191 ⟨⟨_, _, rfl⟩, rfl⟩ rfl (by decide) h
  · have h := h.2 hc
    refine w_aload_n (q := 15) hm191 ⟨⟨_, _, rfl⟩, rfl⟩ rfl ?_
    refine w_iconst (q := 16) hm191 ⟨⟨_, _, rfl⟩, rfl⟩ iconst_2 ?_
    refine w_call (q := 19) (n := 0) (vs := [.inr (.inr (some 44)), .inl (2 : Int32)]) (rest := []) (la := [oR 44, oI (2 : Int32)]) hm191 ⟨⟨_, _, rfl⟩, rfl⟩ rfl rfl rfl rfl hm188 rfl rfl (fun _ => ⟨_, _, rfl, rfl⟩) rfl (Wp.mono h ?_)
    rintro _ m6 ⟨r6, rfl, h⟩
    change Wp _ _ 19 _ [.inl r6] _ _
    exact w_retz hm191 ⟨⟨_, _, rfl⟩, rfl⟩ rfl h.1 h.2
theorem v_X5_takeWire_44_71 {d : Nat} {m : dM} {Q : Int32 → dM → Prop} (h : c_X5_fail_44 d (3 : Int32) m (fun r1 m1 => (r1 = 0 ∨ r1 = 1) ∧ Q r1 m1)) : j_X5_takeWire_44_71 (d + 1) m Q := by
  refine w_aload_n (q := 72) hm191 ⟨⟨_, _, rfl⟩, rfl⟩ rfl ?_
  refine w_iconst (q := 73) hm191 ⟨⟨_, _, rfl⟩, rfl⟩ iconst_3 ?_
  refine w_call (q := 76) (n := 0) (vs := [.inr (.inr (some 44)), .inl (3 : Int32)]) (rest := []) (la := [oR 44, oI (3 : Int32)]) hm191 ⟨⟨_, _, rfl⟩, rfl⟩ rfl rfl rfl rfl hm188 rfl rfl (fun _ => ⟨_, _, rfl, rfl⟩) rfl (Wp.mono h ?_)
  rintro _ m1 ⟨r1, rfl, h⟩
  change Wp _ _ 76 _ [.inl r1] _ _
  exact w_retz hm191 ⟨⟨_, _, rfl⟩, rfl⟩ rfl h.1 h.2
theorem v_X5_takeUse_44 {d : Nat} {m : dM} {Q : Int32 → dM → Prop} (h : (((m.1 20 2).toInt < 8 → c_X5_isNewName_44 d m (fun r1 m1 => ((r1.toInt ≠ 0 → c_X8_nameAt_38 d (m1.1 44 4) m1 (fun r2 m2 => ((0 ≤ (m.1 20 2).toInt ∧ (m.1 20 2).toInt < 8) ∧ c_X5_flatNamed_44 d (dSet (dSet (dSetL m2 46 (m.1 20 2).toNatClampNeg r2) 20 2 ((m2.1 20 2) + (1 : Int32))) 44 4 ((m2.1 44 4) + (1 : Int32))) (fun r3 m3 => ((0 ≤ (m.1 20 2).toInt ∧ (m.1 20 2).toInt < 8) ∧ ((0 ≤ (m.1 20 2).toInt ∧ (m.1 20 2).toInt < 8) ∧ ((r3.toInt ≠ (-1) → c_X8_numberAt_38 d ((m3.1 44 4) + (1 : Int32)) (dSet (dSet m3 25 (m.1 20 2).toNatClampNeg r3) 44 4 ((m3.1 44 4) + (1 : Int32))) (fun r4 m4 => ((0 ≤ (m.1 20 2).toInt ∧ (m.1 20 2).toInt < 8) ∧ c_X8_numberAt_38 d ((m4.1 44 4) + (1 : Int32)) (dSet m4 26 (m.1 20 2).toNatClampNeg r4) (fun r5 m5 => ((0 ≤ (m.1 20 2).toInt ∧ (m.1 20 2).toInt < 8) ∧ c_X8_numberAt_38 d ((m5.1 44 4) + (2 : Int32)) (dSet m5 27 (m.1 20 2).toNatClampNeg r5) (fun r6 m6 => ((0 ≤ (m.1 20 2).toInt ∧ (m.1 20 2).toInt < 8) ∧ c_X5_isWithin_44 d (1 : Int32) (19 : Int32) (dSet m6 28 (m.1 20 2).toNatClampNeg r6) (fun r7 m7 => ((r7.toInt = 0 → j_X5_takeUse_44_213 (d + 1) m7 Q) ∧ (r7.toInt ≠ 0 → c_X5_isWithin_44 d (0 : Int32) (23 : Int32) m7 (fun r8 m8 => ((r8.toInt = 0 → j_X5_takeUse_44_213 (d + 1) m8 Q) ∧ (r8.toInt ≠ 0 → ((0 ≤ (m.1 20 2).toInt ∧ (m.1 20 2).toInt < 8) ∧ c_X5_isWithin_44 d (m8.1 27 (m.1 20 2).toNatClampNeg) (23 : Int32) m8 (fun r9 m9 => ((r9.toInt = 0 → j_X5_takeUse_44_213 (d + 1) m9 Q) ∧ (r9.toInt ≠ 0 → Q (1 : Int32) m9))))))))))))))))) ∧ (r3.toInt = (-1) → Q (0 : Int32) (dSet m3 25 (m.1 20 2).toNatClampNeg r3))))))))) ∧ (r1.toInt = 0 → Q (0 : Int32) m1)))) ∧ (8 ≤ (m.1 20 2).toInt → c_X5_fail_44 d (2 : Int32) m (fun r10 m10 => (r10 = 0 ∨ r10 = 1) ∧ Q r10 m10)))) : c_X5_takeUse_44 (d + 1) m Q := by
  refine w_aload_n (q := 1) hm192 ⟨⟨_, _, rfl⟩, rfl⟩ rfl ?_
  refine w_getr (q := 4) hm192 ⟨⟨_, _, rfl⟩, rfl⟩ rfl ?_
  refine w_getf (q := 7) (v := (m.1 20 2)) hm192 ⟨⟨_, _, rfl⟩, rfl⟩ rfl rfl ?_
  refine w_istore_n (q := 8) (l' := [oR 44, oI (m.1 20 2)]) hm192 ⟨⟨_, _, rfl⟩, rfl⟩ rfl rfl rfl ?_
  refine w_iload_n (q := 9) hm192 ⟨⟨_, _, rfl⟩, rfl⟩ rfl ?_
  refine w_bipush (q := 11) hm192 ⟨⟨_, _, rfl⟩, rfl⟩ bipush_8 ?_
  refine w_icmp_lt (q := 14) (X := (m.1 20 2).toInt) (Y := 8) hm192 ⟨⟨_, _, rfl⟩, rfl⟩ rfl (by decide) (fun hc => ?_) (fun hc => ?_)
  · have h := h.1 hc
    refine w_aload_n (q := 21) hm192 ⟨⟨_, _, rfl⟩, rfl⟩ rfl ?_
    refine w_call (q := 24) (n := 3) (vs := [.inr (.inr (some 44))]) (rest := []) (la := [oR 44, none, none, none]) hm192 ⟨⟨_, _, rfl⟩, rfl⟩ rfl rfl rfl rfl hm197 rfl rfl (fun _ => ⟨_, _, rfl, rfl⟩) rfl (Wp.mono h ?_)
    rintro _ m1 ⟨r1, rfl, h⟩
    change Wp _ _ 24 _ [.inl r1] _ _
    refine w_if_ne (q := 27) (X := r1.toInt) hm192 ⟨⟨_, _, rfl⟩, rfl⟩ rfl (fun hc => ?_) (fun hc => ?_)
    · have h := h.1 hc
      refine w_aload_n (q := 30) hm192 ⟨⟨_, _, rfl⟩, rfl⟩ rfl ?_
      refine w_getr (q := 33) hm192 ⟨⟨_, _, rfl⟩, rfl⟩ rfl ?_
      refine w_iload_n (q := 34) hm192 ⟨⟨_, _, rfl⟩, rfl⟩ rfl ?_
      refine w_aload_n (q := 35) hm192 ⟨⟨_, _, rfl⟩, rfl⟩ rfl ?_
      refine w_getr (q := 38) hm192 ⟨⟨_, _, rfl⟩, rfl⟩ rfl ?_
      refine w_aload_n (q := 39) hm192 ⟨⟨_, _, rfl⟩, rfl⟩ rfl ?_
      refine w_getf (q := 42) (v := (m1.1 44 4)) hm192 ⟨⟨_, _, rfl⟩, rfl⟩ rfl rfl ?_
      refine w_call (q := 45) (n := 0) (vs := [.inr (.inr (some 38)), .inl (m1.1 44 4)]) (rest := [.inl (m.1 20 2), .inr (.inr (some 46))]) (la := [oR 38, oI (m1.1 44 4)]) hm192 ⟨⟨_, _, rfl⟩, rfl⟩ rfl rfl rfl rfl hm219 rfl rfl (fun _ => ⟨_, _, rfl, rfl⟩) rfl (Wp.mono h ?_)
      rintro _ m2 ⟨r2, rfl, h⟩
      change Wp _ _ 45 _ [.inr (.inl r2), .inl (m.1 20 2), .inr (.inr (some 46))] _ _
      obtain ⟨hi, h⟩ := h
      refine w_last (q := 46) hm192 ⟨⟨_, _, rfl⟩, rfl⟩ rfl hi rfl rfl ?_
      refine w_aload_n (q := 47) hm192 ⟨⟨_, _, rfl⟩, rfl⟩ rfl ?_
      refine w_getr (q := 50) hm192 ⟨⟨_, _, rfl⟩, rfl⟩ rfl ?_
      refine w_dup (q := 51) hm192 ⟨⟨_, _, rfl⟩, rfl⟩ rfl ?_
      refine w_getf (q := 54) (v := (m2.1 20 2)) hm192 ⟨⟨_, _, rfl⟩, rfl⟩ rfl rfl ?_
      refine w_iconst (q := 55) hm192 ⟨⟨_, _, rfl⟩, rfl⟩ iconst_1 ?_
      refine w_iadd (q := 56) hm192 ⟨⟨_, _, rfl⟩, rfl⟩ ?_
      refine w_putf (q := 59) hm192 ⟨⟨_, _, rfl⟩, rfl⟩ rfl rfl rfl ?_
      refine w_aload_n (q := 60) hm192 ⟨⟨_, _, rfl⟩, rfl⟩ rfl ?_
      refine w_dup (q := 61) hm192 ⟨⟨_, _, rfl⟩, rfl⟩ rfl ?_
      refine w_getf (q := 64) (v := (m2.1 44 4)) hm192 ⟨⟨_, _, rfl⟩, rfl⟩ rfl rfl ?_
      refine w_iconst (q := 65) hm192 ⟨⟨_, _, rfl⟩, rfl⟩ iconst_1 ?_
      refine w_iadd (q := 66) hm192 ⟨⟨_, _, rfl⟩, rfl⟩ ?_
      refine w_putf (q := 69) hm192 ⟨⟨_, _, rfl⟩, rfl⟩ rfl rfl rfl ?_
      refine w_aload_n (q := 70) hm192 ⟨⟨_, _, rfl⟩, rfl⟩ rfl ?_
      refine w_getr (q := 73) hm192 ⟨⟨_, _, rfl⟩, rfl⟩ rfl ?_
      refine w_getr (q := 76) hm192 ⟨⟨_, _, rfl⟩, rfl⟩ rfl ?_
      refine w_iload_n (q := 77) hm192 ⟨⟨_, _, rfl⟩, rfl⟩ rfl ?_
      refine w_aload_n (q := 78) hm192 ⟨⟨_, _, rfl⟩, rfl⟩ rfl ?_
      refine w_call (q := 81) (n := 1) (vs := [.inr (.inr (some 44))]) (rest := [.inl (m.1 20 2), .inr (.inr (some 25))]) (la := [oR 44, none]) hm192 ⟨⟨_, _, rfl⟩, rfl⟩ rfl rfl rfl rfl hm198 rfl rfl (fun _ => ⟨_, _, rfl, rfl⟩) rfl (Wp.mono h ?_)
      rintro _ m3 ⟨r3, rfl, h⟩
      change Wp _ _ 81 _ [.inl r3, .inl (m.1 20 2), .inr (.inr (some 25))] _ _
      obtain ⟨hi, h⟩ := h
      refine w_iast (q := 82) hm192 ⟨⟨_, _, rfl⟩, rfl⟩ rfl hi rfl rfl ?_
      refine w_aload_n (q := 83) hm192 ⟨⟨_, _, rfl⟩, rfl⟩ rfl ?_
      refine w_getr (q := 86) hm192 ⟨⟨_, _, rfl⟩, rfl⟩ rfl ?_
      refine w_getr (q := 89) hm192 ⟨⟨_, _, rfl⟩, rfl⟩ rfl ?_
      refine w_iload_n (q := 90) hm192 ⟨⟨_, _, rfl⟩, rfl⟩ rfl ?_
      obtain ⟨hi, h⟩ := h
      refine w_iald (q := 91) (v := r3) hm192 ⟨⟨_, _, rfl⟩, rfl⟩ rfl hi rfl (dSet_s m3 25 (m.1 20 2).toNatClampNeg r3) ?_
      refine w_iconst (q := 92) hm192 ⟨⟨_, _, rfl⟩, rfl⟩ iconst_m1 ?_
      refine w_icmp_ne (q := 95) (X := r3.toInt) (Y := (-1)) hm192 ⟨⟨_, _, rfl⟩, rfl⟩ rfl (by decide) (fun hc => ?_) (fun hc => ?_)
      · have h := h.1 hc
        refine w_aload_n (q := 98) hm192 ⟨⟨_, _, rfl⟩, rfl⟩ rfl ?_
        refine w_dup (q := 99) hm192 ⟨⟨_, _, rfl⟩, rfl⟩ rfl ?_
        refine w_getf (q := 102) (v := (m3.1 44 4)) hm192 ⟨⟨_, _, rfl⟩, rfl⟩ rfl rfl ?_
        refine w_iconst (q := 103) hm192 ⟨⟨_, _, rfl⟩, rfl⟩ iconst_1 ?_
        refine w_iadd (q := 104) hm192 ⟨⟨_, _, rfl⟩, rfl⟩ ?_
        refine w_putf (q := 107) hm192 ⟨⟨_, _, rfl⟩, rfl⟩ rfl rfl rfl ?_
        refine w_aload_n (q := 108) hm192 ⟨⟨_, _, rfl⟩, rfl⟩ rfl ?_
        refine w_getr (q := 111) hm192 ⟨⟨_, _, rfl⟩, rfl⟩ rfl ?_
        refine w_getr (q := 114) hm192 ⟨⟨_, _, rfl⟩, rfl⟩ rfl ?_
        refine w_iload_n (q := 115) hm192 ⟨⟨_, _, rfl⟩, rfl⟩ rfl ?_
        refine w_aload_n (q := 116) hm192 ⟨⟨_, _, rfl⟩, rfl⟩ rfl ?_
        refine w_getr (q := 119) hm192 ⟨⟨_, _, rfl⟩, rfl⟩ rfl ?_
        refine w_aload_n (q := 120) hm192 ⟨⟨_, _, rfl⟩, rfl⟩ rfl ?_
        refine w_getf (q := 123) (v := ((m3.1 44 4) + (1 : Int32))) hm192 ⟨⟨_, _, rfl⟩, rfl⟩ rfl rfl ?_
        refine w_call (q := 126) (n := 0) (vs := [.inr (.inr (some 38)), .inl ((m3.1 44 4) + (1 : Int32))]) (rest := [.inl (m.1 20 2), .inr (.inr (some 26))]) (la := [oR 38, oI ((m3.1 44 4) + (1 : Int32))]) hm192 ⟨⟨_, _, rfl⟩, rfl⟩ rfl rfl rfl rfl hm218 rfl rfl (fun _ => ⟨_, _, rfl, rfl⟩) rfl (Wp.mono h ?_)
        rintro _ m4 ⟨r4, rfl, h⟩
        change Wp _ _ 126 _ [.inl r4, .inl (m.1 20 2), .inr (.inr (some 26))] _ _
        obtain ⟨hi, h⟩ := h
        refine w_iast (q := 127) hm192 ⟨⟨_, _, rfl⟩, rfl⟩ rfl hi rfl rfl ?_
        refine w_aload_n (q := 128) hm192 ⟨⟨_, _, rfl⟩, rfl⟩ rfl ?_
        refine w_getr (q := 131) hm192 ⟨⟨_, _, rfl⟩, rfl⟩ rfl ?_
        refine w_getr (q := 134) hm192 ⟨⟨_, _, rfl⟩, rfl⟩ rfl ?_
        refine w_iload_n (q := 135) hm192 ⟨⟨_, _, rfl⟩, rfl⟩ rfl ?_
        refine w_aload_n (q := 136) hm192 ⟨⟨_, _, rfl⟩, rfl⟩ rfl ?_
        refine w_getr (q := 139) hm192 ⟨⟨_, _, rfl⟩, rfl⟩ rfl ?_
        refine w_aload_n (q := 140) hm192 ⟨⟨_, _, rfl⟩, rfl⟩ rfl ?_
        refine w_getf (q := 143) (v := (m4.1 44 4)) hm192 ⟨⟨_, _, rfl⟩, rfl⟩ rfl rfl ?_
        refine w_iconst (q := 144) hm192 ⟨⟨_, _, rfl⟩, rfl⟩ iconst_1 ?_
        refine w_iadd (q := 145) hm192 ⟨⟨_, _, rfl⟩, rfl⟩ ?_
        refine w_call (q := 148) (n := 0) (vs := [.inr (.inr (some 38)), .inl ((m4.1 44 4) + (1 : Int32))]) (rest := [.inl (m.1 20 2), .inr (.inr (some 27))]) (la := [oR 38, oI ((m4.1 44 4) + (1 : Int32))]) hm192 ⟨⟨_, _, rfl⟩, rfl⟩ rfl rfl rfl rfl hm218 rfl rfl (fun _ => ⟨_, _, rfl, rfl⟩) rfl (Wp.mono h ?_)
        rintro _ m5 ⟨r5, rfl, h⟩
        change Wp _ _ 148 _ [.inl r5, .inl (m.1 20 2), .inr (.inr (some 27))] _ _
        obtain ⟨hi, h⟩ := h
        refine w_iast (q := 149) hm192 ⟨⟨_, _, rfl⟩, rfl⟩ rfl hi rfl rfl ?_
        refine w_aload_n (q := 150) hm192 ⟨⟨_, _, rfl⟩, rfl⟩ rfl ?_
        refine w_getr (q := 153) hm192 ⟨⟨_, _, rfl⟩, rfl⟩ rfl ?_
        refine w_getr (q := 156) hm192 ⟨⟨_, _, rfl⟩, rfl⟩ rfl ?_
        refine w_iload_n (q := 157) hm192 ⟨⟨_, _, rfl⟩, rfl⟩ rfl ?_
        refine w_aload_n (q := 158) hm192 ⟨⟨_, _, rfl⟩, rfl⟩ rfl ?_
        refine w_getr (q := 161) hm192 ⟨⟨_, _, rfl⟩, rfl⟩ rfl ?_
        refine w_aload_n (q := 162) hm192 ⟨⟨_, _, rfl⟩, rfl⟩ rfl ?_
        refine w_getf (q := 165) (v := (m5.1 44 4)) hm192 ⟨⟨_, _, rfl⟩, rfl⟩ rfl rfl ?_
        refine w_iconst (q := 166) hm192 ⟨⟨_, _, rfl⟩, rfl⟩ iconst_2 ?_
        refine w_iadd (q := 167) hm192 ⟨⟨_, _, rfl⟩, rfl⟩ ?_
        refine w_call (q := 170) (n := 0) (vs := [.inr (.inr (some 38)), .inl ((m5.1 44 4) + (2 : Int32))]) (rest := [.inl (m.1 20 2), .inr (.inr (some 28))]) (la := [oR 38, oI ((m5.1 44 4) + (2 : Int32))]) hm192 ⟨⟨_, _, rfl⟩, rfl⟩ rfl rfl rfl rfl hm218 rfl rfl (fun _ => ⟨_, _, rfl, rfl⟩) rfl (Wp.mono h ?_)
        rintro _ m6 ⟨r6, rfl, h⟩
        change Wp _ _ 170 _ [.inl r6, .inl (m.1 20 2), .inr (.inr (some 28))] _ _
        obtain ⟨hi, h⟩ := h
        refine w_iast (q := 171) hm192 ⟨⟨_, _, rfl⟩, rfl⟩ rfl hi rfl rfl ?_
        refine w_aload_n (q := 172) hm192 ⟨⟨_, _, rfl⟩, rfl⟩ rfl ?_
        refine w_iconst (q := 173) hm192 ⟨⟨_, _, rfl⟩, rfl⟩ iconst_1 ?_
        refine w_bipush (q := 175) hm192 ⟨⟨_, _, rfl⟩, rfl⟩ bipush_19 ?_
        refine w_call (q := 178) (n := 1) (vs := [.inr (.inr (some 44)), .inl (1 : Int32), .inl (19 : Int32)]) (rest := []) (la := [oR 44, oI (1 : Int32), oI (19 : Int32), none]) hm192 ⟨⟨_, _, rfl⟩, rfl⟩ rfl rfl rfl rfl hm196 rfl rfl (fun _ => ⟨_, _, rfl, rfl⟩) rfl (Wp.mono h ?_)
        rintro _ m7 ⟨r7, rfl, h⟩
        change Wp _ _ 178 _ [.inl r7] _ _
        refine w_if_eq (q := 181) (X := r7.toInt) hm192 ⟨⟨_, _, rfl⟩, rfl⟩ rfl (fun hc => ?_) (fun hc => ?_)
        · have h := h.1 hc
          exact Wp.wk [false, false] h
        · have h := h.2 hc
          refine w_aload_n (q := 182) hm192 ⟨⟨_, _, rfl⟩, rfl⟩ rfl ?_
          refine w_iconst (q := 183) hm192 ⟨⟨_, _, rfl⟩, rfl⟩ iconst_0 ?_
          refine w_bipush (q := 185) hm192 ⟨⟨_, _, rfl⟩, rfl⟩ bipush_23 ?_
          refine w_call (q := 188) (n := 1) (vs := [.inr (.inr (some 44)), .inl (0 : Int32), .inl (23 : Int32)]) (rest := []) (la := [oR 44, oI (0 : Int32), oI (23 : Int32), none]) hm192 ⟨⟨_, _, rfl⟩, rfl⟩ rfl rfl rfl rfl hm196 rfl rfl (fun _ => ⟨_, _, rfl, rfl⟩) rfl (Wp.mono h ?_)
          rintro _ m8 ⟨r8, rfl, h⟩
          change Wp _ _ 188 _ [.inl r8] _ _
          refine w_if_eq (q := 191) (X := r8.toInt) hm192 ⟨⟨_, _, rfl⟩, rfl⟩ rfl (fun hc => ?_) (fun hc => ?_)
          · have h := h.1 hc
            exact Wp.wk [false, false] h
          · have h := h.2 hc
            refine w_aload_n (q := 192) hm192 ⟨⟨_, _, rfl⟩, rfl⟩ rfl ?_
            refine w_aload_n (q := 193) hm192 ⟨⟨_, _, rfl⟩, rfl⟩ rfl ?_
            refine w_getr (q := 196) hm192 ⟨⟨_, _, rfl⟩, rfl⟩ rfl ?_
            refine w_getr (q := 199) hm192 ⟨⟨_, _, rfl⟩, rfl⟩ rfl ?_
            refine w_iload_n (q := 200) hm192 ⟨⟨_, _, rfl⟩, rfl⟩ rfl ?_
            obtain ⟨hi, h⟩ := h
            refine w_iald (q := 201) (v := (m8.1 27 (m.1 20 2).toNatClampNeg)) hm192 ⟨⟨_, _, rfl⟩, rfl⟩ rfl hi rfl rfl ?_
            refine w_bipush (q := 203) hm192 ⟨⟨_, _, rfl⟩, rfl⟩ bipush_23 ?_
            refine w_call (q := 206) (n := 1) (vs := [.inr (.inr (some 44)), .inl (m8.1 27 (m.1 20 2).toNatClampNeg), .inl (23 : Int32)]) (rest := []) (la := [oR 44, oI (m8.1 27 (m.1 20 2).toNatClampNeg), oI (23 : Int32), none]) hm192 ⟨⟨_, _, rfl⟩, rfl⟩ rfl rfl rfl rfl hm196 rfl rfl (fun _ => ⟨_, _, rfl, rfl⟩) rfl (Wp.mono h ?_)
            rintro _ m9 ⟨r9, rfl, h⟩
            change Wp _ _ 206 _ [.inl r9] _ _
            refine w_if_eq (q := 209) (X := r9.toInt) hm192 ⟨⟨_, _, rfl⟩, rfl⟩ rfl (fun hc => ?_) (fun hc => ?_)
            · have h := h.1 hc
              exact Wp.wk [false, false] h
            · have h := h.2 hc
              refine w_iconst (q := 210) hm192 ⟨⟨_, _, rfl⟩, rfl⟩ iconst_1 ?_
              refine w_goto (q := 214) hm192 ⟨_, _, rfl⟩ ?_
              exact w_retz hm192 ⟨⟨_, _, rfl⟩, rfl⟩ rfl (by decide) h
      · have h := h.2 hc
        refine w_iconst (q := 96) hm192 ⟨⟨_, _, rfl⟩, rfl⟩ iconst_0 ?_
        exact w_retz hm192 ⟨⟨_, _, rfl⟩, rfl⟩ rfl (by decide) h
    · have h := h.2 hc
      refine w_iconst (q := 28) hm192 ⟨⟨_, _, rfl⟩, rfl⟩ iconst_0 ?_
      exact w_retz hm192 ⟨⟨_, _, rfl⟩, rfl⟩ rfl (by decide) h
  · have h := h.2 hc
    refine w_aload_n (q := 15) hm192 ⟨⟨_, _, rfl⟩, rfl⟩ rfl ?_
    refine w_iconst (q := 16) hm192 ⟨⟨_, _, rfl⟩, rfl⟩ iconst_2 ?_
    refine w_call (q := 19) (n := 0) (vs := [.inr (.inr (some 44)), .inl (2 : Int32)]) (rest := []) (la := [oR 44, oI (2 : Int32)]) hm192 ⟨⟨_, _, rfl⟩, rfl⟩ rfl rfl rfl rfl hm188 rfl rfl (fun _ => ⟨_, _, rfl, rfl⟩) rfl (Wp.mono h ?_)
    rintro _ m10 ⟨r10, rfl, h⟩
    change Wp _ _ 19 _ [.inl r10] _ _
    exact w_retz hm192 ⟨⟨_, _, rfl⟩, rfl⟩ rfl h.1 h.2
theorem v_X5_takeUse_44_213 {d : Nat} {m : dM} {Q : Int32 → dM → Prop} (h : Q (0 : Int32) m) : j_X5_takeUse_44_213 (d + 1) m Q := by
  refine w_iconst (q := 214) hm192 ⟨⟨_, _, rfl⟩, rfl⟩ iconst_0 ?_
  exact w_retz hm192 ⟨⟨_, _, rfl⟩, rfl⟩ rfl (by decide) h
theorem v_X5_takeSurge_44 {d : Nat} {m : dM} {Q : Int32 → dM → Prop} (h : c_X8_numberAt_38 d (m.1 44 4) m (fun r1 m1 => c_X8_numberAt_38 d ((m1.1 44 4) + (1 : Int32)) (dSet m1 20 3 r1) (fun r2 m2 => c_X5_isWithin_44 d (0 : Int32) (100 : Int32) (dSet m2 20 4 r2) (fun r3 m3 => ((r3.toInt = 0 → j_X5_takeSurge_44_62 (d + 1) m3 Q) ∧ (r3.toInt ≠ 0 → c_X5_isWithin_44 d (0 : Int32) (19 : Int32) m3 (fun r4 m4 => ((r4.toInt = 0 → j_X5_takeSurge_44_62 (d + 1) m4 Q) ∧ (r4.toInt ≠ 0 → Q (1 : Int32) m4))))))))) : c_X5_takeSurge_44 (d + 1) m Q := by
  refine w_aload_n (q := 1) hm193 ⟨⟨_, _, rfl⟩, rfl⟩ rfl ?_
  refine w_getr (q := 4) hm193 ⟨⟨_, _, rfl⟩, rfl⟩ rfl ?_
  refine w_aload_n (q := 5) hm193 ⟨⟨_, _, rfl⟩, rfl⟩ rfl ?_
  refine w_getr (q := 8) hm193 ⟨⟨_, _, rfl⟩, rfl⟩ rfl ?_
  refine w_aload_n (q := 9) hm193 ⟨⟨_, _, rfl⟩, rfl⟩ rfl ?_
  refine w_getf (q := 12) (v := (m.1 44 4)) hm193 ⟨⟨_, _, rfl⟩, rfl⟩ rfl rfl ?_
  refine w_call (q := 15) (n := 0) (vs := [.inr (.inr (some 38)), .inl (m.1 44 4)]) (rest := [.inr (.inr (some 20))]) (la := [oR 38, oI (m.1 44 4)]) hm193 ⟨⟨_, _, rfl⟩, rfl⟩ rfl rfl rfl rfl hm218 rfl rfl (fun _ => ⟨_, _, rfl, rfl⟩) rfl (Wp.mono h ?_)
  rintro _ m1 ⟨r1, rfl, h⟩
  change Wp _ _ 15 _ [.inl r1, .inr (.inr (some 20))] _ _
  refine w_putf (q := 18) hm193 ⟨⟨_, _, rfl⟩, rfl⟩ rfl rfl rfl ?_
  refine w_aload_n (q := 19) hm193 ⟨⟨_, _, rfl⟩, rfl⟩ rfl ?_
  refine w_getr (q := 22) hm193 ⟨⟨_, _, rfl⟩, rfl⟩ rfl ?_
  refine w_aload_n (q := 23) hm193 ⟨⟨_, _, rfl⟩, rfl⟩ rfl ?_
  refine w_getr (q := 26) hm193 ⟨⟨_, _, rfl⟩, rfl⟩ rfl ?_
  refine w_aload_n (q := 27) hm193 ⟨⟨_, _, rfl⟩, rfl⟩ rfl ?_
  refine w_getf (q := 30) (v := (m1.1 44 4)) hm193 ⟨⟨_, _, rfl⟩, rfl⟩ rfl rfl ?_
  refine w_iconst (q := 31) hm193 ⟨⟨_, _, rfl⟩, rfl⟩ iconst_1 ?_
  refine w_iadd (q := 32) hm193 ⟨⟨_, _, rfl⟩, rfl⟩ ?_
  refine w_call (q := 35) (n := 0) (vs := [.inr (.inr (some 38)), .inl ((m1.1 44 4) + (1 : Int32))]) (rest := [.inr (.inr (some 20))]) (la := [oR 38, oI ((m1.1 44 4) + (1 : Int32))]) hm193 ⟨⟨_, _, rfl⟩, rfl⟩ rfl rfl rfl rfl hm218 rfl rfl (fun _ => ⟨_, _, rfl, rfl⟩) rfl (Wp.mono h ?_)
  rintro _ m2 ⟨r2, rfl, h⟩
  change Wp _ _ 35 _ [.inl r2, .inr (.inr (some 20))] _ _
  refine w_putf (q := 38) hm193 ⟨⟨_, _, rfl⟩, rfl⟩ rfl rfl rfl ?_
  refine w_aload_n (q := 39) hm193 ⟨⟨_, _, rfl⟩, rfl⟩ rfl ?_
  refine w_iconst (q := 40) hm193 ⟨⟨_, _, rfl⟩, rfl⟩ iconst_0 ?_
  refine w_bipush (q := 42) hm193 ⟨⟨_, _, rfl⟩, rfl⟩ bipush_100 ?_
  refine w_call (q := 45) (n := 1) (vs := [.inr (.inr (some 44)), .inl (0 : Int32), .inl (100 : Int32)]) (rest := []) (la := [oR 44, oI (0 : Int32), oI (100 : Int32), none]) hm193 ⟨⟨_, _, rfl⟩, rfl⟩ rfl rfl rfl rfl hm196 rfl rfl (fun _ => ⟨_, _, rfl, rfl⟩) rfl (Wp.mono h ?_)
  rintro _ m3 ⟨r3, rfl, h⟩
  change Wp _ _ 45 _ [.inl r3] _ _
  refine w_if_eq (q := 48) (X := r3.toInt) hm193 ⟨⟨_, _, rfl⟩, rfl⟩ rfl (fun hc => ?_) (fun hc => ?_)
  · have h := h.1 hc
    exact Wp.wk [false] h
  · have h := h.2 hc
    refine w_aload_n (q := 49) hm193 ⟨⟨_, _, rfl⟩, rfl⟩ rfl ?_
    refine w_iconst (q := 50) hm193 ⟨⟨_, _, rfl⟩, rfl⟩ iconst_0 ?_
    refine w_bipush (q := 52) hm193 ⟨⟨_, _, rfl⟩, rfl⟩ bipush_19 ?_
    refine w_call (q := 55) (n := 1) (vs := [.inr (.inr (some 44)), .inl (0 : Int32), .inl (19 : Int32)]) (rest := []) (la := [oR 44, oI (0 : Int32), oI (19 : Int32), none]) hm193 ⟨⟨_, _, rfl⟩, rfl⟩ rfl rfl rfl rfl hm196 rfl rfl (fun _ => ⟨_, _, rfl, rfl⟩) rfl (Wp.mono h ?_)
    rintro _ m4 ⟨r4, rfl, h⟩
    change Wp _ _ 55 _ [.inl r4] _ _
    refine w_if_eq (q := 58) (X := r4.toInt) hm193 ⟨⟨_, _, rfl⟩, rfl⟩ rfl (fun hc => ?_) (fun hc => ?_)
    · have h := h.1 hc
      exact Wp.wk [false] h
    · have h := h.2 hc
      refine w_iconst (q := 59) hm193 ⟨⟨_, _, rfl⟩, rfl⟩ iconst_1 ?_
      refine w_goto (q := 63) hm193 ⟨_, _, rfl⟩ ?_
      exact w_retz hm193 ⟨⟨_, _, rfl⟩, rfl⟩ rfl (by decide) h
theorem v_X5_takeSurge_44_62 {d : Nat} {m : dM} {Q : Int32 → dM → Prop} (h : Q (0 : Int32) m) : j_X5_takeSurge_44_62 (d + 1) m Q := by
  refine w_iconst (q := 63) hm193 ⟨⟨_, _, rfl⟩, rfl⟩ iconst_0 ?_
  exact w_retz hm193 ⟨⟨_, _, rfl⟩, rfl⟩ rfl (by decide) h
theorem v_X5_takeCoins_44 {d : Nat} {m : dM} {Q : Int32 → dM → Prop} (h : c_X8_numberAt_38 d (m.1 44 4) m (fun r1 m1 => c_X5_isWithin_44 d (0 : Int32) (999 : Int32) (dSet m1 20 5 r1) (fun r2 m2 => (r2 = 0 ∨ r2 = 1) ∧ Q r2 m2))) : c_X5_takeCoins_44 (d + 1) m Q := by
  refine w_aload_n (q := 1) hm194 ⟨⟨_, _, rfl⟩, rfl⟩ rfl ?_
  refine w_getr (q := 4) hm194 ⟨⟨_, _, rfl⟩, rfl⟩ rfl ?_
  refine w_aload_n (q := 5) hm194 ⟨⟨_, _, rfl⟩, rfl⟩ rfl ?_
  refine w_getr (q := 8) hm194 ⟨⟨_, _, rfl⟩, rfl⟩ rfl ?_
  refine w_aload_n (q := 9) hm194 ⟨⟨_, _, rfl⟩, rfl⟩ rfl ?_
  refine w_getf (q := 12) (v := (m.1 44 4)) hm194 ⟨⟨_, _, rfl⟩, rfl⟩ rfl rfl ?_
  refine w_call (q := 15) (n := 0) (vs := [.inr (.inr (some 38)), .inl (m.1 44 4)]) (rest := [.inr (.inr (some 20))]) (la := [oR 38, oI (m.1 44 4)]) hm194 ⟨⟨_, _, rfl⟩, rfl⟩ rfl rfl rfl rfl hm218 rfl rfl (fun _ => ⟨_, _, rfl, rfl⟩) rfl (Wp.mono h ?_)
  rintro _ m1 ⟨r1, rfl, h⟩
  change Wp _ _ 15 _ [.inl r1, .inr (.inr (some 20))] _ _
  refine w_putf (q := 18) hm194 ⟨⟨_, _, rfl⟩, rfl⟩ rfl rfl rfl ?_
  refine w_aload_n (q := 19) hm194 ⟨⟨_, _, rfl⟩, rfl⟩ rfl ?_
  refine w_iconst (q := 20) hm194 ⟨⟨_, _, rfl⟩, rfl⟩ iconst_0 ?_
  refine w_sipush (q := 23) hm194 ⟨⟨_, _, rfl⟩, rfl⟩ sipush_999 ?_
  refine w_call (q := 26) (n := 1) (vs := [.inr (.inr (some 44)), .inl (0 : Int32), .inl (999 : Int32)]) (rest := []) (la := [oR 44, oI (0 : Int32), oI (999 : Int32), none]) hm194 ⟨⟨_, _, rfl⟩, rfl⟩ rfl rfl rfl rfl hm196 rfl rfl (fun _ => ⟨_, _, rfl, rfl⟩) rfl (Wp.mono h ?_)
  rintro _ m2 ⟨r2, rfl, h⟩
  change Wp _ _ 26 _ [.inl r2] _ _
  exact w_retz hm194 ⟨⟨_, _, rfl⟩, rfl⟩ rfl h.1 h.2
theorem v_X5_takeSeed_44 {d : Nat} {m : dM} {Q : Int32 → dM → Prop} (h : c_X8_numberAt_38 d (m.1 44 4) m (fun r1 m1 => c_X5_isWithin_44 d (0 : Int32) (9999 : Int32) (dSet m1 20 6 r1) (fun r2 m2 => (r2 = 0 ∨ r2 = 1) ∧ Q r2 m2))) : c_X5_takeSeed_44 (d + 1) m Q := by
  refine w_aload_n (q := 1) hm195 ⟨⟨_, _, rfl⟩, rfl⟩ rfl ?_
  refine w_getr (q := 4) hm195 ⟨⟨_, _, rfl⟩, rfl⟩ rfl ?_
  refine w_aload_n (q := 5) hm195 ⟨⟨_, _, rfl⟩, rfl⟩ rfl ?_
  refine w_getr (q := 8) hm195 ⟨⟨_, _, rfl⟩, rfl⟩ rfl ?_
  refine w_aload_n (q := 9) hm195 ⟨⟨_, _, rfl⟩, rfl⟩ rfl ?_
  refine w_getf (q := 12) (v := (m.1 44 4)) hm195 ⟨⟨_, _, rfl⟩, rfl⟩ rfl rfl ?_
  refine w_call (q := 15) (n := 0) (vs := [.inr (.inr (some 38)), .inl (m.1 44 4)]) (rest := [.inr (.inr (some 20))]) (la := [oR 38, oI (m.1 44 4)]) hm195 ⟨⟨_, _, rfl⟩, rfl⟩ rfl rfl rfl rfl hm218 rfl rfl (fun _ => ⟨_, _, rfl, rfl⟩) rfl (Wp.mono h ?_)
  rintro _ m1 ⟨r1, rfl, h⟩
  change Wp _ _ 15 _ [.inl r1, .inr (.inr (some 20))] _ _
  refine w_putf (q := 18) hm195 ⟨⟨_, _, rfl⟩, rfl⟩ rfl rfl rfl ?_
  refine w_aload_n (q := 19) hm195 ⟨⟨_, _, rfl⟩, rfl⟩ rfl ?_
  refine w_iconst (q := 20) hm195 ⟨⟨_, _, rfl⟩, rfl⟩ iconst_0 ?_
  refine w_sipush (q := 23) hm195 ⟨⟨_, _, rfl⟩, rfl⟩ sipush_9999 ?_
  refine w_call (q := 26) (n := 1) (vs := [.inr (.inr (some 44)), .inl (0 : Int32), .inl (9999 : Int32)]) (rest := []) (la := [oR 44, oI (0 : Int32), oI (9999 : Int32), none]) hm195 ⟨⟨_, _, rfl⟩, rfl⟩ rfl rfl rfl rfl hm196 rfl rfl (fun _ => ⟨_, _, rfl, rfl⟩) rfl (Wp.mono h ?_)
  rintro _ m2 ⟨r2, rfl, h⟩
  change Wp _ _ 26 _ [.inl r2] _ _
  exact w_retz hm195 ⟨⟨_, _, rfl⟩, rfl⟩ rfl h.1 h.2
theorem v_X5_takeTold_44 {d : Nat} {x1 : Int32} {m : dM} {Q : Int32 → dM → Prop} (h : ((x1.toInt = 0 → c_X5_takeFlat_44 d m (fun r1 m1 => (r1 = 0 ∨ r1 = 1) ∧ Q r1 m1)) ∧ (x1.toInt = 1 → c_X5_takeWire_44 d m (fun r2 m2 => (r2 = 0 ∨ r2 = 1) ∧ Q r2 m2)) ∧ (x1.toInt = 2 → c_X5_takeUse_44 d m (fun r3 m3 => (r3 = 0 ∨ r3 = 1) ∧ Q r3 m3)) ∧ (x1.toInt = 3 → Q (1 : Int32) m) ∧ (x1.toInt = 4 → Q (1 : Int32) m) ∧ (x1.toInt = 5 → Q (1 : Int32) m) ∧ (x1.toInt = 6 → Q (1 : Int32) m) ∧ (x1.toInt = 7 → c_X5_takeSurge_44 d m (fun r4 m4 => (r4 = 0 ∨ r4 = 1) ∧ Q r4 m4)) ∧ (x1.toInt = 8 → c_X5_takeCoins_44 d m (fun r5 m5 => (r5 = 0 ∨ r5 = 1) ∧ Q r5 m5)) ∧ (x1.toInt = 9 → c_X5_takeSeed_44 d m (fun r6 m6 => (r6 = 0 ∨ r6 = 1) ∧ Q r6 m6)) ∧ (x1.toInt < 0 ∨ 9 < x1.toInt → Q (1 : Int32) m))) : c_X5_takeTold_44 (d + 1) x1 m Q := by
  refine w_iload_n (q := 1) hm189 ⟨⟨_, _, rfl⟩, rfl⟩ rfl ?_
  refine w_tsw (X := x1.toInt) hm189 ⟨_, _, rfl⟩ (by decide) (by decide) rfl ((And.intro (fun hc => ?_) (And.intro (fun hc => ?_) (And.intro (fun hc => ?_) (And.intro (fun hc => ?_) (And.intro (fun hc => ?_) (And.intro (fun hc => ?_) (And.intro (fun hc => ?_) (And.intro (fun hc => ?_) (And.intro (fun hc => ?_) (And.intro (fun hc => ?_) trivial))))))))))) (fun hc => ?_)
  · have h := (h.1) hc
    change Wp _ _ 56 _ _ _ _
    refine w_aload_n (q := 57) hm189 ⟨⟨_, _, rfl⟩, rfl⟩ rfl ?_
    refine w_call (q := 60) (n := 1) (vs := [.inr (.inr (some 44))]) (rest := []) (la := [oR 44, none]) hm189 ⟨⟨_, _, rfl⟩, rfl⟩ rfl rfl rfl rfl hm190 rfl rfl (fun _ => ⟨_, _, rfl, rfl⟩) rfl (Wp.mono h ?_)
    rintro _ m1 ⟨r1, rfl, h⟩
    change Wp _ _ 60 _ [.inl r1] _ _
    exact w_retz hm189 ⟨⟨_, _, rfl⟩, rfl⟩ rfl h.1 h.2
  · have h := (h.2.1) hc
    change Wp _ _ 61 _ _ _ _
    refine w_aload_n (q := 62) hm189 ⟨⟨_, _, rfl⟩, rfl⟩ rfl ?_
    refine w_call (q := 65) (n := 3) (vs := [.inr (.inr (some 44))]) (rest := []) (la := [oR 44, none, none, none]) hm189 ⟨⟨_, _, rfl⟩, rfl⟩ rfl rfl rfl rfl hm191 rfl rfl (fun _ => ⟨_, _, rfl, rfl⟩) rfl (Wp.mono h ?_)
    rintro _ m2 ⟨r2, rfl, h⟩
    change Wp _ _ 65 _ [.inl r2] _ _
    exact w_retz hm189 ⟨⟨_, _, rfl⟩, rfl⟩ rfl h.1 h.2
  · have h := (h.2.2.1) hc
    change Wp _ _ 66 _ _ _ _
    refine w_aload_n (q := 67) hm189 ⟨⟨_, _, rfl⟩, rfl⟩ rfl ?_
    refine w_call (q := 70) (n := 1) (vs := [.inr (.inr (some 44))]) (rest := []) (la := [oR 44, none]) hm189 ⟨⟨_, _, rfl⟩, rfl⟩ rfl rfl rfl rfl hm192 rfl rfl (fun _ => ⟨_, _, rfl, rfl⟩) rfl (Wp.mono h ?_)
    rintro _ m3 ⟨r3, rfl, h⟩
    change Wp _ _ 70 _ [.inl r3] _ _
    exact w_retz hm189 ⟨⟨_, _, rfl⟩, rfl⟩ rfl h.1 h.2
  · have h := (h.2.2.2.1) hc
    change Wp _ _ 86 _ _ _ _
    refine w_iconst (q := 87) hm189 ⟨⟨_, _, rfl⟩, rfl⟩ iconst_1 ?_
    exact w_retz hm189 ⟨⟨_, _, rfl⟩, rfl⟩ rfl (by decide) h
  · have h := (h.2.2.2.2.1) hc
    change Wp _ _ 86 _ _ _ _
    refine w_iconst (q := 87) hm189 ⟨⟨_, _, rfl⟩, rfl⟩ iconst_1 ?_
    exact w_retz hm189 ⟨⟨_, _, rfl⟩, rfl⟩ rfl (by decide) h
  · have h := (h.2.2.2.2.2.1) hc
    change Wp _ _ 86 _ _ _ _
    refine w_iconst (q := 87) hm189 ⟨⟨_, _, rfl⟩, rfl⟩ iconst_1 ?_
    exact w_retz hm189 ⟨⟨_, _, rfl⟩, rfl⟩ rfl (by decide) h
  · have h := (h.2.2.2.2.2.2.1) hc
    change Wp _ _ 86 _ _ _ _
    refine w_iconst (q := 87) hm189 ⟨⟨_, _, rfl⟩, rfl⟩ iconst_1 ?_
    exact w_retz hm189 ⟨⟨_, _, rfl⟩, rfl⟩ rfl (by decide) h
  · have h := (h.2.2.2.2.2.2.2.1) hc
    change Wp _ _ 71 _ _ _ _
    refine w_aload_n (q := 72) hm189 ⟨⟨_, _, rfl⟩, rfl⟩ rfl ?_
    refine w_call (q := 75) (n := 0) (vs := [.inr (.inr (some 44))]) (rest := []) (la := [oR 44]) hm189 ⟨⟨_, _, rfl⟩, rfl⟩ rfl rfl rfl rfl hm193 rfl rfl (fun _ => ⟨_, _, rfl, rfl⟩) rfl (Wp.mono h ?_)
    rintro _ m4 ⟨r4, rfl, h⟩
    change Wp _ _ 75 _ [.inl r4] _ _
    exact w_retz hm189 ⟨⟨_, _, rfl⟩, rfl⟩ rfl h.1 h.2
  · have h := (h.2.2.2.2.2.2.2.2.1) hc
    change Wp _ _ 76 _ _ _ _
    refine w_aload_n (q := 77) hm189 ⟨⟨_, _, rfl⟩, rfl⟩ rfl ?_
    refine w_call (q := 80) (n := 0) (vs := [.inr (.inr (some 44))]) (rest := []) (la := [oR 44]) hm189 ⟨⟨_, _, rfl⟩, rfl⟩ rfl rfl rfl rfl hm194 rfl rfl (fun _ => ⟨_, _, rfl, rfl⟩) rfl (Wp.mono h ?_)
    rintro _ m5 ⟨r5, rfl, h⟩
    change Wp _ _ 80 _ [.inl r5] _ _
    exact w_retz hm189 ⟨⟨_, _, rfl⟩, rfl⟩ rfl h.1 h.2
  · have h := (h.2.2.2.2.2.2.2.2.2.1) hc
    change Wp _ _ 81 _ _ _ _
    refine w_aload_n (q := 82) hm189 ⟨⟨_, _, rfl⟩, rfl⟩ rfl ?_
    refine w_call (q := 85) (n := 0) (vs := [.inr (.inr (some 44))]) (rest := []) (la := [oR 44]) hm189 ⟨⟨_, _, rfl⟩, rfl⟩ rfl rfl rfl rfl hm195 rfl rfl (fun _ => ⟨_, _, rfl, rfl⟩) rfl (Wp.mono h ?_)
    rintro _ m6 ⟨r6, rfl, h⟩
    change Wp _ _ 85 _ [.inl r6] _ _
    exact w_retz hm189 ⟨⟨_, _, rfl⟩, rfl⟩ rfl h.1 h.2
  · have h := (h.2.2.2.2.2.2.2.2.2.2) hc
    change Wp _ _ 86 _ _ _ _
    refine w_iconst (q := 87) hm189 ⟨⟨_, _, rfl⟩, rfl⟩ iconst_1 ?_
    exact w_retz hm189 ⟨⟨_, _, rfl⟩, rfl⟩ rfl (by decide) h
theorem v_X5_skipEnd_44 {d : Nat} {m : dM} {Q : dM → Prop} (h : ((400 ≤ (m.1 44 4).toInt → j_X5_skipEnd_44_39 (d + 1) m Q) ∧ ((m.1 44 4).toInt < 400 → c_X8_kindAt_38 d (m.1 44 4) m (fun r1 m1 => ((r1.toInt = 59 → j_X5_skipEnd_44_39 (d + 1) m1 Q) ∧ (r1.toInt ≠ 59 → j_X5_skipEnd_44_0 (d + 1) (dSet m1 44 4 ((m1.1 44 4) + (1 : Int32))) Q)))))) : c_X5_skipEnd_44 (d + 1) m Q := by
  refine w_aload_n (q := 1) hm187 ⟨⟨_, _, rfl⟩, rfl⟩ rfl ?_
  refine w_getf (q := 4) (v := (m.1 44 4)) hm187 ⟨⟨_, _, rfl⟩, rfl⟩ rfl rfl ?_
  refine w_sipush (q := 7) hm187 ⟨⟨_, _, rfl⟩, rfl⟩ sipush_400 ?_
  refine w_icmp_ge (q := 10) (X := (m.1 44 4).toInt) (Y := 400) hm187 ⟨⟨_, _, rfl⟩, rfl⟩ rfl (by decide) (fun hc => ?_) (fun hc => ?_)
  · have h := h.1 hc
    exact h
  · have h := h.2 hc
    refine w_aload_n (q := 11) hm187 ⟨⟨_, _, rfl⟩, rfl⟩ rfl ?_
    refine w_getr (q := 14) hm187 ⟨⟨_, _, rfl⟩, rfl⟩ rfl ?_
    refine w_aload_n (q := 15) hm187 ⟨⟨_, _, rfl⟩, rfl⟩ rfl ?_
    refine w_getf (q := 18) (v := (m.1 44 4)) hm187 ⟨⟨_, _, rfl⟩, rfl⟩ rfl rfl ?_
    refine w_call (q := 21) (n := 0) (vs := [.inr (.inr (some 38)), .inl (m.1 44 4)]) (rest := []) (la := [oR 38, oI (m.1 44 4)]) hm187 ⟨⟨_, _, rfl⟩, rfl⟩ rfl rfl rfl rfl hm216 rfl rfl (fun _ => ⟨_, _, rfl, rfl⟩) rfl (Wp.mono h ?_)
    rintro _ m1 ⟨r1, rfl, h⟩
    change Wp _ _ 21 _ [.inl r1] _ _
    refine w_bipush (q := 23) hm187 ⟨⟨_, _, rfl⟩, rfl⟩ bipush_59 ?_
    refine w_icmp_eq (q := 26) (X := r1.toInt) (Y := 59) hm187 ⟨⟨_, _, rfl⟩, rfl⟩ rfl (by decide) (fun hc => ?_) (fun hc => ?_)
    · have h := h.1 hc
      exact h
    · have h := h.2 hc
      refine w_aload_n (q := 27) hm187 ⟨⟨_, _, rfl⟩, rfl⟩ rfl ?_
      refine w_dup (q := 28) hm187 ⟨⟨_, _, rfl⟩, rfl⟩ rfl ?_
      refine w_getf (q := 31) (v := (m1.1 44 4)) hm187 ⟨⟨_, _, rfl⟩, rfl⟩ rfl rfl ?_
      refine w_iconst (q := 32) hm187 ⟨⟨_, _, rfl⟩, rfl⟩ iconst_1 ?_
      refine w_iadd (q := 33) hm187 ⟨⟨_, _, rfl⟩, rfl⟩ ?_
      refine w_putf (q := 36) hm187 ⟨⟨_, _, rfl⟩, rfl⟩ rfl rfl rfl ?_
      refine w_goto (q := 0) hm187 ⟨_, _, rfl⟩ ?_
      exact h
theorem v_X5_skipEnd_44_0 {d : Nat} {m : dM} {Q : dM → Prop} (h : ((400 ≤ (m.1 44 4).toInt → j_X5_skipEnd_44_39 (d + 1) m Q) ∧ ((m.1 44 4).toInt < 400 → c_X8_kindAt_38 d (m.1 44 4) m (fun r1 m1 => ((r1.toInt = 59 → j_X5_skipEnd_44_39 (d + 1) m1 Q) ∧ (r1.toInt ≠ 59 → j_X5_skipEnd_44_0 (d + 1) (dSet m1 44 4 ((m1.1 44 4) + (1 : Int32))) Q)))))) : j_X5_skipEnd_44_0 (d + 1) m Q := by
  refine w_aload_n (q := 1) hm187 ⟨⟨_, _, rfl⟩, rfl⟩ rfl ?_
  refine w_getf (q := 4) (v := (m.1 44 4)) hm187 ⟨⟨_, _, rfl⟩, rfl⟩ rfl rfl ?_
  refine w_sipush (q := 7) hm187 ⟨⟨_, _, rfl⟩, rfl⟩ sipush_400 ?_
  refine w_icmp_ge (q := 10) (X := (m.1 44 4).toInt) (Y := 400) hm187 ⟨⟨_, _, rfl⟩, rfl⟩ rfl (by decide) (fun hc => ?_) (fun hc => ?_)
  · have h := h.1 hc
    exact h
  · have h := h.2 hc
    refine w_aload_n (q := 11) hm187 ⟨⟨_, _, rfl⟩, rfl⟩ rfl ?_
    refine w_getr (q := 14) hm187 ⟨⟨_, _, rfl⟩, rfl⟩ rfl ?_
    refine w_aload_n (q := 15) hm187 ⟨⟨_, _, rfl⟩, rfl⟩ rfl ?_
    refine w_getf (q := 18) (v := (m.1 44 4)) hm187 ⟨⟨_, _, rfl⟩, rfl⟩ rfl rfl ?_
    refine w_call (q := 21) (n := 0) (vs := [.inr (.inr (some 38)), .inl (m.1 44 4)]) (rest := []) (la := [oR 38, oI (m.1 44 4)]) hm187 ⟨⟨_, _, rfl⟩, rfl⟩ rfl rfl rfl rfl hm216 rfl rfl (fun _ => ⟨_, _, rfl, rfl⟩) rfl (Wp.mono h ?_)
    rintro _ m1 ⟨r1, rfl, h⟩
    change Wp _ _ 21 _ [.inl r1] _ _
    refine w_bipush (q := 23) hm187 ⟨⟨_, _, rfl⟩, rfl⟩ bipush_59 ?_
    refine w_icmp_eq (q := 26) (X := r1.toInt) (Y := 59) hm187 ⟨⟨_, _, rfl⟩, rfl⟩ rfl (by decide) (fun hc => ?_) (fun hc => ?_)
    · have h := h.1 hc
      exact h
    · have h := h.2 hc
      refine w_aload_n (q := 27) hm187 ⟨⟨_, _, rfl⟩, rfl⟩ rfl ?_
      refine w_dup (q := 28) hm187 ⟨⟨_, _, rfl⟩, rfl⟩ rfl ?_
      refine w_getf (q := 31) (v := (m1.1 44 4)) hm187 ⟨⟨_, _, rfl⟩, rfl⟩ rfl rfl ?_
      refine w_iconst (q := 32) hm187 ⟨⟨_, _, rfl⟩, rfl⟩ iconst_1 ?_
      refine w_iadd (q := 33) hm187 ⟨⟨_, _, rfl⟩, rfl⟩ ?_
      refine w_putf (q := 36) hm187 ⟨⟨_, _, rfl⟩, rfl⟩ rfl rfl rfl ?_
      refine w_goto (q := 0) hm187 ⟨_, _, rfl⟩ ?_
      exact h
theorem v_X5_skipEnd_44_39 {d : Nat} {m : dM} {Q : dM → Prop} (h : Q (dSet m 44 4 ((m.1 44 4) + (1 : Int32)))) : j_X5_skipEnd_44_39 (d + 1) m Q := by
  refine w_aload_n (q := 40) hm187 ⟨⟨_, _, rfl⟩, rfl⟩ rfl ?_
  refine w_dup (q := 41) hm187 ⟨⟨_, _, rfl⟩, rfl⟩ rfl ?_
  refine w_getf (q := 44) (v := (m.1 44 4)) hm187 ⟨⟨_, _, rfl⟩, rfl⟩ rfl rfl ?_
  refine w_iconst (q := 45) hm187 ⟨⟨_, _, rfl⟩, rfl⟩ iconst_1 ?_
  refine w_iadd (q := 46) hm187 ⟨⟨_, _, rfl⟩, rfl⟩ ?_
  refine w_putf (q := 49) hm187 ⟨⟨_, _, rfl⟩, rfl⟩ rfl rfl rfl ?_
  exact w_retv hm187 ⟨⟨_, _, rfl⟩, rfl⟩ rfl h
theorem v_X5_check_44 {d : Nat} {m : dM} {Q : Int32 → dM → Prop} (h : j_X5_check_44_12 (d + 1) (0 : Int32) (dSet (dSet m 44 4 (0 : Int32)) 44 5 (0 : Int32)) Q) : c_X5_check_44 (d + 1) m Q := by
  refine w_aload_n (q := 1) hm185 ⟨⟨_, _, rfl⟩, rfl⟩ rfl ?_
  refine w_iconst (q := 2) hm185 ⟨⟨_, _, rfl⟩, rfl⟩ iconst_0 ?_
  refine w_putf (q := 5) hm185 ⟨⟨_, _, rfl⟩, rfl⟩ rfl rfl rfl ?_
  refine w_aload_n (q := 6) hm185 ⟨⟨_, _, rfl⟩, rfl⟩ rfl ?_
  refine w_iconst (q := 7) hm185 ⟨⟨_, _, rfl⟩, rfl⟩ iconst_0 ?_
  refine w_putf (q := 10) hm185 ⟨⟨_, _, rfl⟩, rfl⟩ rfl rfl rfl ?_
  refine w_iconst (q := 11) hm185 ⟨⟨_, _, rfl⟩, rfl⟩ iconst_0 ?_
  refine w_istore_n (q := 12) (l' := [oR 44, oI (0 : Int32), none]) hm185 ⟨⟨_, _, rfl⟩, rfl⟩ rfl rfl rfl ?_
  exact h
theorem v_X5_check_44_12 {d : Nat} {x1 : Int32} {m : dM} {Q : Int32 → dM → Prop} (h : ((400 < x1.toInt → j_X5_check_44_82 (d + 1) m Q) ∧ (x1.toInt ≤ 400 → (((m.1 44 5).toInt ≠ 0 → j_X5_check_44_82 (d + 1) m Q) ∧ ((m.1 44 5).toInt = 0 → c_X8_kindAt_38 d (m.1 44 4) m (fun r1 m1 => ((r1.toInt = 24 → j_X5_check_44_82 (d + 1) m1 Q) ∧ (r1.toInt ≠ 24 → c_X8_kindAt_38 d (m1.1 44 4) m1 (fun r2 m2 => c_X5_takeTold_44 d r2 (dSet m2 44 4 ((m2.1 44 4) + (1 : Int32))) (fun r3 m3 => ((r3.toInt = 0 → j_X5_check_44_76 (d + 1) x1 m3 Q) ∧ (r3.toInt ≠ 0 → c_X5_skipEnd_44 d m3 (fun m4 => j_X5_check_44_76 (d + 1) x1 m4 Q))))))))))))) : j_X5_check_44_12 (d + 1) x1 m Q := by
  refine w_iload_n (q := 13) hm185 ⟨⟨_, _, rfl⟩, rfl⟩ rfl ?_
  refine w_sipush (q := 16) hm185 ⟨⟨_, _, rfl⟩, rfl⟩ sipush_400 ?_
  refine w_icmp_gt (q := 19) (X := x1.toInt) (Y := 400) hm185 ⟨⟨_, _, rfl⟩, rfl⟩ rfl (by decide) (fun hc => ?_) (fun hc => ?_)
  · have h := h.1 hc
    exact Wp.wk [true, false, false] h
  · have h := h.2 hc
    refine w_aload_n (q := 20) hm185 ⟨⟨_, _, rfl⟩, rfl⟩ rfl ?_
    refine w_getf (q := 23) (v := (m.1 44 5)) hm185 ⟨⟨_, _, rfl⟩, rfl⟩ rfl rfl ?_
    refine w_if_ne (q := 26) (X := (m.1 44 5).toInt) hm185 ⟨⟨_, _, rfl⟩, rfl⟩ rfl (fun hc => ?_) (fun hc => ?_)
    · have h := h.1 hc
      exact Wp.wk [true, false, false] h
    · have h := h.2 hc
      refine w_aload_n (q := 27) hm185 ⟨⟨_, _, rfl⟩, rfl⟩ rfl ?_
      refine w_getr (q := 30) hm185 ⟨⟨_, _, rfl⟩, rfl⟩ rfl ?_
      refine w_aload_n (q := 31) hm185 ⟨⟨_, _, rfl⟩, rfl⟩ rfl ?_
      refine w_getf (q := 34) (v := (m.1 44 4)) hm185 ⟨⟨_, _, rfl⟩, rfl⟩ rfl rfl ?_
      refine w_call (q := 37) (n := 0) (vs := [.inr (.inr (some 38)), .inl (m.1 44 4)]) (rest := []) (la := [oR 38, oI (m.1 44 4)]) hm185 ⟨⟨_, _, rfl⟩, rfl⟩ rfl rfl rfl rfl hm216 rfl rfl (fun _ => ⟨_, _, rfl, rfl⟩) rfl (Wp.mono h ?_)
      rintro _ m1 ⟨r1, rfl, h⟩
      change Wp _ _ 37 _ [.inl r1] _ _
      refine w_bipush (q := 39) hm185 ⟨⟨_, _, rfl⟩, rfl⟩ bipush_24 ?_
      refine w_icmp_eq (q := 42) (X := r1.toInt) (Y := 24) hm185 ⟨⟨_, _, rfl⟩, rfl⟩ rfl (by decide) (fun hc => ?_) (fun hc => ?_)
      · have h := h.1 hc
        exact Wp.wk [true, false, false] h
      · have h := h.2 hc
        refine w_aload_n (q := 43) hm185 ⟨⟨_, _, rfl⟩, rfl⟩ rfl ?_
        refine w_getr (q := 46) hm185 ⟨⟨_, _, rfl⟩, rfl⟩ rfl ?_
        refine w_aload_n (q := 47) hm185 ⟨⟨_, _, rfl⟩, rfl⟩ rfl ?_
        refine w_getf (q := 50) (v := (m1.1 44 4)) hm185 ⟨⟨_, _, rfl⟩, rfl⟩ rfl rfl ?_
        refine w_call (q := 53) (n := 0) (vs := [.inr (.inr (some 38)), .inl (m1.1 44 4)]) (rest := []) (la := [oR 38, oI (m1.1 44 4)]) hm185 ⟨⟨_, _, rfl⟩, rfl⟩ rfl rfl rfl rfl hm216 rfl rfl (fun _ => ⟨_, _, rfl, rfl⟩) rfl (Wp.mono h ?_)
        rintro _ m2 ⟨r2, rfl, h⟩
        change Wp _ _ 53 _ [.inl r2] _ _
        refine w_istore_n (q := 54) (l' := [oR 44, oI x1, oI r2]) hm185 ⟨⟨_, _, rfl⟩, rfl⟩ rfl rfl rfl ?_
        refine w_aload_n (q := 55) hm185 ⟨⟨_, _, rfl⟩, rfl⟩ rfl ?_
        refine w_dup (q := 56) hm185 ⟨⟨_, _, rfl⟩, rfl⟩ rfl ?_
        refine w_getf (q := 59) (v := (m2.1 44 4)) hm185 ⟨⟨_, _, rfl⟩, rfl⟩ rfl rfl ?_
        refine w_iconst (q := 60) hm185 ⟨⟨_, _, rfl⟩, rfl⟩ iconst_1 ?_
        refine w_iadd (q := 61) hm185 ⟨⟨_, _, rfl⟩, rfl⟩ ?_
        refine w_putf (q := 64) hm185 ⟨⟨_, _, rfl⟩, rfl⟩ rfl rfl rfl ?_
        refine w_aload_n (q := 65) hm185 ⟨⟨_, _, rfl⟩, rfl⟩ rfl ?_
        refine w_iload_n (q := 66) hm185 ⟨⟨_, _, rfl⟩, rfl⟩ rfl ?_
        refine w_call (q := 69) (n := 0) (vs := [.inr (.inr (some 44)), .inl r2]) (rest := []) (la := [oR 44, oI r2]) hm185 ⟨⟨_, _, rfl⟩, rfl⟩ rfl rfl rfl rfl hm189 rfl rfl (fun _ => ⟨_, _, rfl, rfl⟩) rfl (Wp.mono h ?_)
        rintro _ m3 ⟨r3, rfl, h⟩
        change Wp _ _ 69 _ [.inl r3] _ _
        refine w_if_eq (q := 72) (X := r3.toInt) hm185 ⟨⟨_, _, rfl⟩, rfl⟩ rfl (fun hc => ?_) (fun hc => ?_)
        · have h := h.1 hc
          exact Wp.wk [true, true, false] h
        · have h := h.2 hc
          refine w_aload_n (q := 73) hm185 ⟨⟨_, _, rfl⟩, rfl⟩ rfl ?_
          refine w_call (q := 76) (n := 0) (vs := [.inr (.inr (some 44))]) (rest := []) (la := [oR 44]) hm185 ⟨⟨_, _, rfl⟩, rfl⟩ rfl rfl rfl rfl hm187 rfl rfl (fun _ => ⟨_, _, rfl, rfl⟩) rfl (Wp.mono h ?_)
          rintro _ m4 ⟨rfl, h⟩
          change Wp _ _ 76 _ [] _ _
          exact Wp.wk [true, true, false] h
theorem v_X5_check_44_76 {d : Nat} {x1 : Int32} {m : dM} {Q : Int32 → dM → Prop} (h : j_X5_check_44_12 (d + 1) (x1 + (1 : Int32)) m Q) : j_X5_check_44_76 (d + 1) x1 m Q := by
  refine w_iinc (q := 79) (l' := [oR 44, oI (x1 + (1 : Int32)), none]) hm185 ⟨⟨_, _, rfl⟩, rfl⟩ rfl rfl rfl iconst_1 rfl ?_
  refine w_goto (q := 12) hm185 ⟨_, _, rfl⟩ ?_
  exact h
theorem v_X5_check_44_82 {d : Nat} {m : dM} {Q : Int32 → dM → Prop} (h : Q (m.1 44 5) m) : j_X5_check_44_82 (d + 1) m Q := by
  refine w_aload_n (q := 83) hm185 ⟨⟨_, _, rfl⟩, rfl⟩ rfl ?_
  refine w_getf (q := 86) (v := (m.1 44 5)) hm185 ⟨⟨_, _, rfl⟩, rfl⟩ rfl rfl ?_
  exact w_reti hm185 ⟨⟨_, _, rfl⟩, rfl⟩ rfl h
theorem v_X5_faultAt_44 {d : Nat} {m : dM} {Q : Int32 → dM → Prop} (h : (((m.1 44 5).toInt ≠ 0 → c_X8_placeAt_38 d (m.1 44 4) m (fun r1 m1 => Q r1 m1)) ∧ ((m.1 44 5).toInt = 0 → Q (-1 : Int32) m))) : c_X5_faultAt_44 (d + 1) m Q := by
  refine w_aload_n (q := 1) hm186 ⟨⟨_, _, rfl⟩, rfl⟩ rfl ?_
  refine w_getf (q := 4) (v := (m.1 44 5)) hm186 ⟨⟨_, _, rfl⟩, rfl⟩ rfl rfl ?_
  refine w_if_ne (q := 7) (X := (m.1 44 5).toInt) hm186 ⟨⟨_, _, rfl⟩, rfl⟩ rfl (fun hc => ?_) (fun hc => ?_)
  · have h := h.1 hc
    refine w_aload_n (q := 12) hm186 ⟨⟨_, _, rfl⟩, rfl⟩ rfl ?_
    refine w_getr (q := 15) hm186 ⟨⟨_, _, rfl⟩, rfl⟩ rfl ?_
    refine w_aload_n (q := 16) hm186 ⟨⟨_, _, rfl⟩, rfl⟩ rfl ?_
    refine w_getf (q := 19) (v := (m.1 44 4)) hm186 ⟨⟨_, _, rfl⟩, rfl⟩ rfl rfl ?_
    refine w_call (q := 22) (n := 0) (vs := [.inr (.inr (some 38)), .inl (m.1 44 4)]) (rest := []) (la := [oR 38, oI (m.1 44 4)]) hm186 ⟨⟨_, _, rfl⟩, rfl⟩ rfl rfl rfl rfl hm217 rfl rfl (fun _ => ⟨_, _, rfl, rfl⟩) rfl (Wp.mono h ?_)
    rintro _ m1 ⟨r1, rfl, h⟩
    change Wp _ _ 22 _ [.inl r1] _ _
    exact w_reti hm186 ⟨⟨_, _, rfl⟩, rfl⟩ rfl h
  · have h := h.2 hc
    refine w_iconst (q := 8) hm186 ⟨⟨_, _, rfl⟩, rfl⟩ iconst_m1 ?_
    refine w_goto (q := 22) hm186 ⟨_, _, rfl⟩ ?_
    exact w_reti hm186 ⟨⟨_, _, rfl⟩, rfl⟩ rfl h
theorem v_X4_copy_11_29 {d : Nat} {m : dM} {Q : dM → Prop} (h : ((0 ≤ (m.1 29 1).toInt ∧ 0 ≤ (0 : Int) ∧ 0 ≤ (0 : Int) ∧ (0 : Int) + (m.1 29 1).toInt ≤ 406 ∧ (0 : Int) + (m.1 29 1).toInt ≤ 406) ∧ j_X4_copy_11_29_27 (d + 1) (0 : Int32) (dSet (dCpy m 30 (0 : Int).toNat 12 (0 : Int).toNat ((m.1 29 1).toInt).toNat) 11 1 (m.1 29 1)) Q)) : c_X4_copy_11_29 (d + 1) m Q := by
  refine w_aload_n (q := 1) hm177 ⟨⟨_, _, rfl⟩, rfl⟩ rfl ?_
  refine w_getr (q := 4) hm177 ⟨⟨_, _, rfl⟩, rfl⟩ rfl ?_
  refine w_iconst (q := 5) hm177 ⟨⟨_, _, rfl⟩, rfl⟩ iconst_0 ?_
  refine w_aload_n (q := 6) hm177 ⟨⟨_, _, rfl⟩, rfl⟩ rfl ?_
  refine w_getr (q := 9) hm177 ⟨⟨_, _, rfl⟩, rfl⟩ rfl ?_
  refine w_iconst (q := 10) hm177 ⟨⟨_, _, rfl⟩, rfl⟩ iconst_0 ?_
  refine w_aload_n (q := 11) hm177 ⟨⟨_, _, rfl⟩, rfl⟩ rfl ?_
  refine w_getf (q := 14) (v := (m.1 29 1)) hm177 ⟨⟨_, _, rfl⟩, rfl⟩ rfl rfl ?_
  obtain ⟨hi, h⟩ := h
  refine w_copy (q := 17) (N := (m.1 29 1).toInt) (D := 0) (S := 0) hm177 ⟨⟨_, _, rfl⟩, rfl⟩ rfl rfl rfl rfl rfl rfl (by decide) (by decide) hi ?_
  refine w_aload_n (q := 18) hm177 ⟨⟨_, _, rfl⟩, rfl⟩ rfl ?_
  refine w_aload_n (q := 19) hm177 ⟨⟨_, _, rfl⟩, rfl⟩ rfl ?_
  refine w_getf (q := 22) (v := (m.1 29 1)) hm177 ⟨⟨_, _, rfl⟩, rfl⟩ rfl rfl ?_
  refine w_putf (q := 25) hm177 ⟨⟨_, _, rfl⟩, rfl⟩ rfl rfl rfl ?_
  refine w_iconst (q := 26) hm177 ⟨⟨_, _, rfl⟩, rfl⟩ iconst_0 ?_
  refine w_istore_n (q := 27) (l' := [oR 11, oR 29, oI (0 : Int32)]) hm177 ⟨⟨_, _, rfl⟩, rfl⟩ rfl rfl rfl ?_
  exact h
theorem v_X4_copy_11_29_27 {d : Nat} {x2 : Int32} {m : dM} {Q : dM → Prop} (h : ((4 ≤ x2.toInt → Q m) ∧ (x2.toInt < 4 → ((0 ≤ x2.toInt ∧ x2.toInt < 4) ∧ ((0 ≤ x2.toInt ∧ x2.toInt < 4) ∧ ((0 ≤ x2.toInt ∧ x2.toInt < 4) ∧ (x2.toInt = 0 → ((0 ≤ x2.toInt ∧ x2.toInt < 4) ∧ (x2.toInt = 0 → j_X4_copy_11_29_27 (d + 1) (x2 + (1 : Int32)) (dCpy (dSet m 18 x2.toNatClampNeg (m.1 36 x2.toNatClampNeg)) 32 (0 : Int).toNat 14 (0 : Int).toNat (14 : Int).toNat) Q) ∧ (x2.toInt = 1 → j_X4_copy_11_29_27 (d + 1) (x2 + (1 : Int32)) (dCpy (dSet m 18 x2.toNatClampNeg (m.1 36 x2.toNatClampNeg)) 32 (0 : Int).toNat 15 (0 : Int).toNat (14 : Int).toNat) Q) ∧ (x2.toInt = 2 → j_X4_copy_11_29_27 (d + 1) (x2 + (1 : Int32)) (dCpy (dSet m 18 x2.toNatClampNeg (m.1 36 x2.toNatClampNeg)) 32 (0 : Int).toNat 16 (0 : Int).toNat (14 : Int).toNat) Q) ∧ (x2.toInt = 3 → j_X4_copy_11_29_27 (d + 1) (x2 + (1 : Int32)) (dCpy (dSet m 18 x2.toNatClampNeg (m.1 36 x2.toNatClampNeg)) 32 (0 : Int).toNat 17 (0 : Int).toNat (14 : Int).toNat) Q))) ∧ (x2.toInt = 1 → ((0 ≤ x2.toInt ∧ x2.toInt < 4) ∧ (x2.toInt = 0 → j_X4_copy_11_29_27 (d + 1) (x2 + (1 : Int32)) (dCpy (dSet m 18 x2.toNatClampNeg (m.1 36 x2.toNatClampNeg)) 33 (0 : Int).toNat 14 (0 : Int).toNat (14 : Int).toNat) Q) ∧ (x2.toInt = 1 → j_X4_copy_11_29_27 (d + 1) (x2 + (1 : Int32)) (dCpy (dSet m 18 x2.toNatClampNeg (m.1 36 x2.toNatClampNeg)) 33 (0 : Int).toNat 15 (0 : Int).toNat (14 : Int).toNat) Q) ∧ (x2.toInt = 2 → j_X4_copy_11_29_27 (d + 1) (x2 + (1 : Int32)) (dCpy (dSet m 18 x2.toNatClampNeg (m.1 36 x2.toNatClampNeg)) 33 (0 : Int).toNat 16 (0 : Int).toNat (14 : Int).toNat) Q) ∧ (x2.toInt = 3 → j_X4_copy_11_29_27 (d + 1) (x2 + (1 : Int32)) (dCpy (dSet m 18 x2.toNatClampNeg (m.1 36 x2.toNatClampNeg)) 33 (0 : Int).toNat 17 (0 : Int).toNat (14 : Int).toNat) Q))) ∧ (x2.toInt = 2 → ((0 ≤ x2.toInt ∧ x2.toInt < 4) ∧ (x2.toInt = 0 → j_X4_copy_11_29_27 (d + 1) (x2 + (1 : Int32)) (dCpy (dSet m 18 x2.toNatClampNeg (m.1 36 x2.toNatClampNeg)) 34 (0 : Int).toNat 14 (0 : Int).toNat (14 : Int).toNat) Q) ∧ (x2.toInt = 1 → j_X4_copy_11_29_27 (d + 1) (x2 + (1 : Int32)) (dCpy (dSet m 18 x2.toNatClampNeg (m.1 36 x2.toNatClampNeg)) 34 (0 : Int).toNat 15 (0 : Int).toNat (14 : Int).toNat) Q) ∧ (x2.toInt = 2 → j_X4_copy_11_29_27 (d + 1) (x2 + (1 : Int32)) (dCpy (dSet m 18 x2.toNatClampNeg (m.1 36 x2.toNatClampNeg)) 34 (0 : Int).toNat 16 (0 : Int).toNat (14 : Int).toNat) Q) ∧ (x2.toInt = 3 → j_X4_copy_11_29_27 (d + 1) (x2 + (1 : Int32)) (dCpy (dSet m 18 x2.toNatClampNeg (m.1 36 x2.toNatClampNeg)) 34 (0 : Int).toNat 17 (0 : Int).toNat (14 : Int).toNat) Q))) ∧ (x2.toInt = 3 → ((0 ≤ x2.toInt ∧ x2.toInt < 4) ∧ (x2.toInt = 0 → j_X4_copy_11_29_27 (d + 1) (x2 + (1 : Int32)) (dCpy (dSet m 18 x2.toNatClampNeg (m.1 36 x2.toNatClampNeg)) 35 (0 : Int).toNat 14 (0 : Int).toNat (14 : Int).toNat) Q) ∧ (x2.toInt = 1 → j_X4_copy_11_29_27 (d + 1) (x2 + (1 : Int32)) (dCpy (dSet m 18 x2.toNatClampNeg (m.1 36 x2.toNatClampNeg)) 35 (0 : Int).toNat 15 (0 : Int).toNat (14 : Int).toNat) Q) ∧ (x2.toInt = 2 → j_X4_copy_11_29_27 (d + 1) (x2 + (1 : Int32)) (dCpy (dSet m 18 x2.toNatClampNeg (m.1 36 x2.toNatClampNeg)) 35 (0 : Int).toNat 16 (0 : Int).toNat (14 : Int).toNat) Q) ∧ (x2.toInt = 3 → j_X4_copy_11_29_27 (d + 1) (x2 + (1 : Int32)) (dCpy (dSet m 18 x2.toNatClampNeg (m.1 36 x2.toNatClampNeg)) 35 (0 : Int).toNat 17 (0 : Int).toNat (14 : Int).toNat) Q))))))))) : j_X4_copy_11_29_27 (d + 1) x2 m Q := by
  refine w_iload_n (q := 28) hm177 ⟨⟨_, _, rfl⟩, rfl⟩ rfl ?_
  refine w_iconst (q := 29) hm177 ⟨⟨_, _, rfl⟩, rfl⟩ iconst_4 ?_
  refine w_icmp_ge (q := 32) (X := x2.toInt) (Y := 4) hm177 ⟨⟨_, _, rfl⟩, rfl⟩ rfl (by decide) (fun hc => ?_) (fun hc => ?_)
  · have h := h.1 hc
    exact w_retv hm177 ⟨⟨_, _, rfl⟩, rfl⟩ rfl h
  · have h := h.2 hc
    refine w_aload_n (q := 33) hm177 ⟨⟨_, _, rfl⟩, rfl⟩ rfl ?_
    refine w_getr (q := 36) hm177 ⟨⟨_, _, rfl⟩, rfl⟩ rfl ?_
    refine w_iload_n (q := 37) hm177 ⟨⟨_, _, rfl⟩, rfl⟩ rfl ?_
    refine w_aload_n (q := 38) hm177 ⟨⟨_, _, rfl⟩, rfl⟩ rfl ?_
    refine w_getr (q := 41) hm177 ⟨⟨_, _, rfl⟩, rfl⟩ rfl ?_
    refine w_iload_n (q := 42) hm177 ⟨⟨_, _, rfl⟩, rfl⟩ rfl ?_
    obtain ⟨hi, h⟩ := h
    refine w_iald (q := 43) (v := (m.1 36 x2.toNatClampNeg)) hm177 ⟨⟨_, _, rfl⟩, rfl⟩ rfl hi rfl rfl ?_
    obtain ⟨hi, h⟩ := h
    refine w_iast (q := 44) hm177 ⟨⟨_, _, rfl⟩, rfl⟩ rfl hi rfl rfl ?_
    refine w_aload_n (q := 45) hm177 ⟨⟨_, _, rfl⟩, rfl⟩ rfl ?_
    refine w_getr (q := 48) hm177 ⟨⟨_, _, rfl⟩, rfl⟩ rfl ?_
    refine w_iload_n (q := 49) hm177 ⟨⟨_, _, rfl⟩, rfl⟩ rfl ?_
    obtain ⟨hi, h⟩ := h
    refine w_aald (q := 50) hm177 ⟨⟨_, _, rfl⟩, rfl⟩ rfl rfl hi ((And.intro (fun hc => ?_) (And.intro (fun hc => ?_) (And.intro (fun hc => ?_) (And.intro (fun hc => ?_) trivial)))))
    · have h := (h.1) hc
      refine w_iconst (q := 51) hm177 ⟨⟨_, _, rfl⟩, rfl⟩ iconst_0 ?_
      refine w_aload_n (q := 52) hm177 ⟨⟨_, _, rfl⟩, rfl⟩ rfl ?_
      refine w_getr (q := 55) hm177 ⟨⟨_, _, rfl⟩, rfl⟩ rfl ?_
      refine w_iload_n (q := 56) hm177 ⟨⟨_, _, rfl⟩, rfl⟩ rfl ?_
      obtain ⟨hi, h⟩ := h
      refine w_aald (q := 57) hm177 ⟨⟨_, _, rfl⟩, rfl⟩ rfl rfl hi ((And.intro (fun hc => ?_) (And.intro (fun hc => ?_) (And.intro (fun hc => ?_) (And.intro (fun hc => ?_) trivial)))))
      · have h := (h.1) hc
        refine w_iconst (q := 58) hm177 ⟨⟨_, _, rfl⟩, rfl⟩ iconst_0 ?_
        refine w_bipush (q := 60) hm177 ⟨⟨_, _, rfl⟩, rfl⟩ bipush_14 ?_
        refine w_copy (q := 63) (N := 14) (D := 0) (S := 0) hm177 ⟨⟨_, _, rfl⟩, rfl⟩ rfl rfl rfl rfl rfl (by decide) (by decide) (by decide) (by decide) ?_
        refine w_iinc (q := 66) (l' := [oR 11, oR 29, oI (x2 + (1 : Int32))]) hm177 ⟨⟨_, _, rfl⟩, rfl⟩ rfl rfl rfl iconst_1 rfl ?_
        refine w_goto (q := 27) hm177 ⟨_, _, rfl⟩ ?_
        exact h
      · have h := (h.2.1) hc
        refine w_iconst (q := 58) hm177 ⟨⟨_, _, rfl⟩, rfl⟩ iconst_0 ?_
        refine w_bipush (q := 60) hm177 ⟨⟨_, _, rfl⟩, rfl⟩ bipush_14 ?_
        refine w_copy (q := 63) (N := 14) (D := 0) (S := 0) hm177 ⟨⟨_, _, rfl⟩, rfl⟩ rfl rfl rfl rfl rfl (by decide) (by decide) (by decide) (by decide) ?_
        refine w_iinc (q := 66) (l' := [oR 11, oR 29, oI (x2 + (1 : Int32))]) hm177 ⟨⟨_, _, rfl⟩, rfl⟩ rfl rfl rfl iconst_1 rfl ?_
        refine w_goto (q := 27) hm177 ⟨_, _, rfl⟩ ?_
        exact h
      · have h := (h.2.2.1) hc
        refine w_iconst (q := 58) hm177 ⟨⟨_, _, rfl⟩, rfl⟩ iconst_0 ?_
        refine w_bipush (q := 60) hm177 ⟨⟨_, _, rfl⟩, rfl⟩ bipush_14 ?_
        refine w_copy (q := 63) (N := 14) (D := 0) (S := 0) hm177 ⟨⟨_, _, rfl⟩, rfl⟩ rfl rfl rfl rfl rfl (by decide) (by decide) (by decide) (by decide) ?_
        refine w_iinc (q := 66) (l' := [oR 11, oR 29, oI (x2 + (1 : Int32))]) hm177 ⟨⟨_, _, rfl⟩, rfl⟩ rfl rfl rfl iconst_1 rfl ?_
        refine w_goto (q := 27) hm177 ⟨_, _, rfl⟩ ?_
        exact h
      · have h := (h.2.2.2) hc
        refine w_iconst (q := 58) hm177 ⟨⟨_, _, rfl⟩, rfl⟩ iconst_0 ?_
        refine w_bipush (q := 60) hm177 ⟨⟨_, _, rfl⟩, rfl⟩ bipush_14 ?_
        refine w_copy (q := 63) (N := 14) (D := 0) (S := 0) hm177 ⟨⟨_, _, rfl⟩, rfl⟩ rfl rfl rfl rfl rfl (by decide) (by decide) (by decide) (by decide) ?_
        refine w_iinc (q := 66) (l' := [oR 11, oR 29, oI (x2 + (1 : Int32))]) hm177 ⟨⟨_, _, rfl⟩, rfl⟩ rfl rfl rfl iconst_1 rfl ?_
        refine w_goto (q := 27) hm177 ⟨_, _, rfl⟩ ?_
        exact h
    · have h := (h.2.1) hc
      refine w_iconst (q := 51) hm177 ⟨⟨_, _, rfl⟩, rfl⟩ iconst_0 ?_
      refine w_aload_n (q := 52) hm177 ⟨⟨_, _, rfl⟩, rfl⟩ rfl ?_
      refine w_getr (q := 55) hm177 ⟨⟨_, _, rfl⟩, rfl⟩ rfl ?_
      refine w_iload_n (q := 56) hm177 ⟨⟨_, _, rfl⟩, rfl⟩ rfl ?_
      obtain ⟨hi, h⟩ := h
      refine w_aald (q := 57) hm177 ⟨⟨_, _, rfl⟩, rfl⟩ rfl rfl hi ((And.intro (fun hc => ?_) (And.intro (fun hc => ?_) (And.intro (fun hc => ?_) (And.intro (fun hc => ?_) trivial)))))
      · have h := (h.1) hc
        refine w_iconst (q := 58) hm177 ⟨⟨_, _, rfl⟩, rfl⟩ iconst_0 ?_
        refine w_bipush (q := 60) hm177 ⟨⟨_, _, rfl⟩, rfl⟩ bipush_14 ?_
        refine w_copy (q := 63) (N := 14) (D := 0) (S := 0) hm177 ⟨⟨_, _, rfl⟩, rfl⟩ rfl rfl rfl rfl rfl (by decide) (by decide) (by decide) (by decide) ?_
        refine w_iinc (q := 66) (l' := [oR 11, oR 29, oI (x2 + (1 : Int32))]) hm177 ⟨⟨_, _, rfl⟩, rfl⟩ rfl rfl rfl iconst_1 rfl ?_
        refine w_goto (q := 27) hm177 ⟨_, _, rfl⟩ ?_
        exact h
      · have h := (h.2.1) hc
        refine w_iconst (q := 58) hm177 ⟨⟨_, _, rfl⟩, rfl⟩ iconst_0 ?_
        refine w_bipush (q := 60) hm177 ⟨⟨_, _, rfl⟩, rfl⟩ bipush_14 ?_
        refine w_copy (q := 63) (N := 14) (D := 0) (S := 0) hm177 ⟨⟨_, _, rfl⟩, rfl⟩ rfl rfl rfl rfl rfl (by decide) (by decide) (by decide) (by decide) ?_
        refine w_iinc (q := 66) (l' := [oR 11, oR 29, oI (x2 + (1 : Int32))]) hm177 ⟨⟨_, _, rfl⟩, rfl⟩ rfl rfl rfl iconst_1 rfl ?_
        refine w_goto (q := 27) hm177 ⟨_, _, rfl⟩ ?_
        exact h
      · have h := (h.2.2.1) hc
        refine w_iconst (q := 58) hm177 ⟨⟨_, _, rfl⟩, rfl⟩ iconst_0 ?_
        refine w_bipush (q := 60) hm177 ⟨⟨_, _, rfl⟩, rfl⟩ bipush_14 ?_
        refine w_copy (q := 63) (N := 14) (D := 0) (S := 0) hm177 ⟨⟨_, _, rfl⟩, rfl⟩ rfl rfl rfl rfl rfl (by decide) (by decide) (by decide) (by decide) ?_
        refine w_iinc (q := 66) (l' := [oR 11, oR 29, oI (x2 + (1 : Int32))]) hm177 ⟨⟨_, _, rfl⟩, rfl⟩ rfl rfl rfl iconst_1 rfl ?_
        refine w_goto (q := 27) hm177 ⟨_, _, rfl⟩ ?_
        exact h
      · have h := (h.2.2.2) hc
        refine w_iconst (q := 58) hm177 ⟨⟨_, _, rfl⟩, rfl⟩ iconst_0 ?_
        refine w_bipush (q := 60) hm177 ⟨⟨_, _, rfl⟩, rfl⟩ bipush_14 ?_
        refine w_copy (q := 63) (N := 14) (D := 0) (S := 0) hm177 ⟨⟨_, _, rfl⟩, rfl⟩ rfl rfl rfl rfl rfl (by decide) (by decide) (by decide) (by decide) ?_
        refine w_iinc (q := 66) (l' := [oR 11, oR 29, oI (x2 + (1 : Int32))]) hm177 ⟨⟨_, _, rfl⟩, rfl⟩ rfl rfl rfl iconst_1 rfl ?_
        refine w_goto (q := 27) hm177 ⟨_, _, rfl⟩ ?_
        exact h
    · have h := (h.2.2.1) hc
      refine w_iconst (q := 51) hm177 ⟨⟨_, _, rfl⟩, rfl⟩ iconst_0 ?_
      refine w_aload_n (q := 52) hm177 ⟨⟨_, _, rfl⟩, rfl⟩ rfl ?_
      refine w_getr (q := 55) hm177 ⟨⟨_, _, rfl⟩, rfl⟩ rfl ?_
      refine w_iload_n (q := 56) hm177 ⟨⟨_, _, rfl⟩, rfl⟩ rfl ?_
      obtain ⟨hi, h⟩ := h
      refine w_aald (q := 57) hm177 ⟨⟨_, _, rfl⟩, rfl⟩ rfl rfl hi ((And.intro (fun hc => ?_) (And.intro (fun hc => ?_) (And.intro (fun hc => ?_) (And.intro (fun hc => ?_) trivial)))))
      · have h := (h.1) hc
        refine w_iconst (q := 58) hm177 ⟨⟨_, _, rfl⟩, rfl⟩ iconst_0 ?_
        refine w_bipush (q := 60) hm177 ⟨⟨_, _, rfl⟩, rfl⟩ bipush_14 ?_
        refine w_copy (q := 63) (N := 14) (D := 0) (S := 0) hm177 ⟨⟨_, _, rfl⟩, rfl⟩ rfl rfl rfl rfl rfl (by decide) (by decide) (by decide) (by decide) ?_
        refine w_iinc (q := 66) (l' := [oR 11, oR 29, oI (x2 + (1 : Int32))]) hm177 ⟨⟨_, _, rfl⟩, rfl⟩ rfl rfl rfl iconst_1 rfl ?_
        refine w_goto (q := 27) hm177 ⟨_, _, rfl⟩ ?_
        exact h
      · have h := (h.2.1) hc
        refine w_iconst (q := 58) hm177 ⟨⟨_, _, rfl⟩, rfl⟩ iconst_0 ?_
        refine w_bipush (q := 60) hm177 ⟨⟨_, _, rfl⟩, rfl⟩ bipush_14 ?_
        refine w_copy (q := 63) (N := 14) (D := 0) (S := 0) hm177 ⟨⟨_, _, rfl⟩, rfl⟩ rfl rfl rfl rfl rfl (by decide) (by decide) (by decide) (by decide) ?_
        refine w_iinc (q := 66) (l' := [oR 11, oR 29, oI (x2 + (1 : Int32))]) hm177 ⟨⟨_, _, rfl⟩, rfl⟩ rfl rfl rfl iconst_1 rfl ?_
        refine w_goto (q := 27) hm177 ⟨_, _, rfl⟩ ?_
        exact h
      · have h := (h.2.2.1) hc
        refine w_iconst (q := 58) hm177 ⟨⟨_, _, rfl⟩, rfl⟩ iconst_0 ?_
        refine w_bipush (q := 60) hm177 ⟨⟨_, _, rfl⟩, rfl⟩ bipush_14 ?_
        refine w_copy (q := 63) (N := 14) (D := 0) (S := 0) hm177 ⟨⟨_, _, rfl⟩, rfl⟩ rfl rfl rfl rfl rfl (by decide) (by decide) (by decide) (by decide) ?_
        refine w_iinc (q := 66) (l' := [oR 11, oR 29, oI (x2 + (1 : Int32))]) hm177 ⟨⟨_, _, rfl⟩, rfl⟩ rfl rfl rfl iconst_1 rfl ?_
        refine w_goto (q := 27) hm177 ⟨_, _, rfl⟩ ?_
        exact h
      · have h := (h.2.2.2) hc
        refine w_iconst (q := 58) hm177 ⟨⟨_, _, rfl⟩, rfl⟩ iconst_0 ?_
        refine w_bipush (q := 60) hm177 ⟨⟨_, _, rfl⟩, rfl⟩ bipush_14 ?_
        refine w_copy (q := 63) (N := 14) (D := 0) (S := 0) hm177 ⟨⟨_, _, rfl⟩, rfl⟩ rfl rfl rfl rfl rfl (by decide) (by decide) (by decide) (by decide) ?_
        refine w_iinc (q := 66) (l' := [oR 11, oR 29, oI (x2 + (1 : Int32))]) hm177 ⟨⟨_, _, rfl⟩, rfl⟩ rfl rfl rfl iconst_1 rfl ?_
        refine w_goto (q := 27) hm177 ⟨_, _, rfl⟩ ?_
        exact h
    · have h := (h.2.2.2) hc
      refine w_iconst (q := 51) hm177 ⟨⟨_, _, rfl⟩, rfl⟩ iconst_0 ?_
      refine w_aload_n (q := 52) hm177 ⟨⟨_, _, rfl⟩, rfl⟩ rfl ?_
      refine w_getr (q := 55) hm177 ⟨⟨_, _, rfl⟩, rfl⟩ rfl ?_
      refine w_iload_n (q := 56) hm177 ⟨⟨_, _, rfl⟩, rfl⟩ rfl ?_
      obtain ⟨hi, h⟩ := h
      refine w_aald (q := 57) hm177 ⟨⟨_, _, rfl⟩, rfl⟩ rfl rfl hi ((And.intro (fun hc => ?_) (And.intro (fun hc => ?_) (And.intro (fun hc => ?_) (And.intro (fun hc => ?_) trivial)))))
      · have h := (h.1) hc
        refine w_iconst (q := 58) hm177 ⟨⟨_, _, rfl⟩, rfl⟩ iconst_0 ?_
        refine w_bipush (q := 60) hm177 ⟨⟨_, _, rfl⟩, rfl⟩ bipush_14 ?_
        refine w_copy (q := 63) (N := 14) (D := 0) (S := 0) hm177 ⟨⟨_, _, rfl⟩, rfl⟩ rfl rfl rfl rfl rfl (by decide) (by decide) (by decide) (by decide) ?_
        refine w_iinc (q := 66) (l' := [oR 11, oR 29, oI (x2 + (1 : Int32))]) hm177 ⟨⟨_, _, rfl⟩, rfl⟩ rfl rfl rfl iconst_1 rfl ?_
        refine w_goto (q := 27) hm177 ⟨_, _, rfl⟩ ?_
        exact h
      · have h := (h.2.1) hc
        refine w_iconst (q := 58) hm177 ⟨⟨_, _, rfl⟩, rfl⟩ iconst_0 ?_
        refine w_bipush (q := 60) hm177 ⟨⟨_, _, rfl⟩, rfl⟩ bipush_14 ?_
        refine w_copy (q := 63) (N := 14) (D := 0) (S := 0) hm177 ⟨⟨_, _, rfl⟩, rfl⟩ rfl rfl rfl rfl rfl (by decide) (by decide) (by decide) (by decide) ?_
        refine w_iinc (q := 66) (l' := [oR 11, oR 29, oI (x2 + (1 : Int32))]) hm177 ⟨⟨_, _, rfl⟩, rfl⟩ rfl rfl rfl iconst_1 rfl ?_
        refine w_goto (q := 27) hm177 ⟨_, _, rfl⟩ ?_
        exact h
      · have h := (h.2.2.1) hc
        refine w_iconst (q := 58) hm177 ⟨⟨_, _, rfl⟩, rfl⟩ iconst_0 ?_
        refine w_bipush (q := 60) hm177 ⟨⟨_, _, rfl⟩, rfl⟩ bipush_14 ?_
        refine w_copy (q := 63) (N := 14) (D := 0) (S := 0) hm177 ⟨⟨_, _, rfl⟩, rfl⟩ rfl rfl rfl rfl rfl (by decide) (by decide) (by decide) (by decide) ?_
        refine w_iinc (q := 66) (l' := [oR 11, oR 29, oI (x2 + (1 : Int32))]) hm177 ⟨⟨_, _, rfl⟩, rfl⟩ rfl rfl rfl iconst_1 rfl ?_
        refine w_goto (q := 27) hm177 ⟨_, _, rfl⟩ ?_
        exact h
      · have h := (h.2.2.2) hc
        refine w_iconst (q := 58) hm177 ⟨⟨_, _, rfl⟩, rfl⟩ iconst_0 ?_
        refine w_bipush (q := 60) hm177 ⟨⟨_, _, rfl⟩, rfl⟩ bipush_14 ?_
        refine w_copy (q := 63) (N := 14) (D := 0) (S := 0) hm177 ⟨⟨_, _, rfl⟩, rfl⟩ rfl rfl rfl rfl rfl (by decide) (by decide) (by decide) (by decide) ?_
        refine w_iinc (q := 66) (l' := [oR 11, oR 29, oI (x2 + (1 : Int32))]) hm177 ⟨⟨_, _, rfl⟩, rfl⟩ rfl rfl rfl iconst_1 rfl ?_
        refine w_goto (q := 27) hm177 ⟨_, _, rfl⟩ ?_
        exact h
theorem v_X3_copy_2_20 {d : Nat} {m : dM} {Q : dM → Prop} (h : c_X4_copy_11_29 d (dCpy (dCpy (dCpy (dCpy (dCpy (dCpy (dCpy (dCpy (dSet (dSet (dSet (dSet (dSet (dSet (dSet m 2 0 (m.1 20 0)) 2 1 (m.1 20 1)) 2 2 (m.1 20 2)) 2 3 (m.1 20 3)) 2 4 (m.1 20 4)) 2 5 (m.1 20 5)) 2 6 (m.1 20 6)) 21 (0 : Int).toNat 3 (0 : Int).toNat (7 : Int).toNat) 22 (0 : Int).toNat 4 (0 : Int).toNat (10 : Int).toNat) 23 (0 : Int).toNat 5 (0 : Int).toNat (10 : Int).toNat) 24 (0 : Int).toNat 6 (0 : Int).toNat (10 : Int).toNat) 25 (0 : Int).toNat 7 (0 : Int).toNat (8 : Int).toNat) 26 (0 : Int).toNat 8 (0 : Int).toNat (8 : Int).toNat) 27 (0 : Int).toNat 9 (0 : Int).toNat (8 : Int).toNat) 28 (0 : Int).toNat 10 (0 : Int).toNat (8 : Int).toNat) (fun m1 => Q m1)) : c_X3_copy_2_20 (d + 1) m Q := by
  refine w_aload_n (q := 1) hm170 ⟨⟨_, _, rfl⟩, rfl⟩ rfl ?_
  refine w_aload_n (q := 2) hm170 ⟨⟨_, _, rfl⟩, rfl⟩ rfl ?_
  refine w_getf (q := 5) (v := (m.1 20 0)) hm170 ⟨⟨_, _, rfl⟩, rfl⟩ rfl rfl ?_
  refine w_putf (q := 8) hm170 ⟨⟨_, _, rfl⟩, rfl⟩ rfl rfl rfl ?_
  refine w_aload_n (q := 9) hm170 ⟨⟨_, _, rfl⟩, rfl⟩ rfl ?_
  refine w_aload_n (q := 10) hm170 ⟨⟨_, _, rfl⟩, rfl⟩ rfl ?_
  refine w_getf (q := 13) (v := (m.1 20 1)) hm170 ⟨⟨_, _, rfl⟩, rfl⟩ rfl rfl ?_
  refine w_putf (q := 16) hm170 ⟨⟨_, _, rfl⟩, rfl⟩ rfl rfl rfl ?_
  refine w_aload_n (q := 17) hm170 ⟨⟨_, _, rfl⟩, rfl⟩ rfl ?_
  refine w_aload_n (q := 18) hm170 ⟨⟨_, _, rfl⟩, rfl⟩ rfl ?_
  refine w_getf (q := 21) (v := (m.1 20 2)) hm170 ⟨⟨_, _, rfl⟩, rfl⟩ rfl rfl ?_
  refine w_putf (q := 24) hm170 ⟨⟨_, _, rfl⟩, rfl⟩ rfl rfl rfl ?_
  refine w_aload_n (q := 25) hm170 ⟨⟨_, _, rfl⟩, rfl⟩ rfl ?_
  refine w_aload_n (q := 26) hm170 ⟨⟨_, _, rfl⟩, rfl⟩ rfl ?_
  refine w_getf (q := 29) (v := (m.1 20 3)) hm170 ⟨⟨_, _, rfl⟩, rfl⟩ rfl rfl ?_
  refine w_putf (q := 32) hm170 ⟨⟨_, _, rfl⟩, rfl⟩ rfl rfl rfl ?_
  refine w_aload_n (q := 33) hm170 ⟨⟨_, _, rfl⟩, rfl⟩ rfl ?_
  refine w_aload_n (q := 34) hm170 ⟨⟨_, _, rfl⟩, rfl⟩ rfl ?_
  refine w_getf (q := 37) (v := (m.1 20 4)) hm170 ⟨⟨_, _, rfl⟩, rfl⟩ rfl rfl ?_
  refine w_putf (q := 40) hm170 ⟨⟨_, _, rfl⟩, rfl⟩ rfl rfl rfl ?_
  refine w_aload_n (q := 41) hm170 ⟨⟨_, _, rfl⟩, rfl⟩ rfl ?_
  refine w_aload_n (q := 42) hm170 ⟨⟨_, _, rfl⟩, rfl⟩ rfl ?_
  refine w_getf (q := 45) (v := (m.1 20 5)) hm170 ⟨⟨_, _, rfl⟩, rfl⟩ rfl rfl ?_
  refine w_putf (q := 48) hm170 ⟨⟨_, _, rfl⟩, rfl⟩ rfl rfl rfl ?_
  refine w_aload_n (q := 49) hm170 ⟨⟨_, _, rfl⟩, rfl⟩ rfl ?_
  refine w_aload_n (q := 50) hm170 ⟨⟨_, _, rfl⟩, rfl⟩ rfl ?_
  refine w_getf (q := 53) (v := (m.1 20 6)) hm170 ⟨⟨_, _, rfl⟩, rfl⟩ rfl rfl ?_
  refine w_putf (q := 56) hm170 ⟨⟨_, _, rfl⟩, rfl⟩ rfl rfl rfl ?_
  refine w_aload_n (q := 57) hm170 ⟨⟨_, _, rfl⟩, rfl⟩ rfl ?_
  refine w_getr (q := 60) hm170 ⟨⟨_, _, rfl⟩, rfl⟩ rfl ?_
  refine w_iconst (q := 61) hm170 ⟨⟨_, _, rfl⟩, rfl⟩ iconst_0 ?_
  refine w_aload_n (q := 62) hm170 ⟨⟨_, _, rfl⟩, rfl⟩ rfl ?_
  refine w_getr (q := 65) hm170 ⟨⟨_, _, rfl⟩, rfl⟩ rfl ?_
  refine w_iconst (q := 66) hm170 ⟨⟨_, _, rfl⟩, rfl⟩ iconst_0 ?_
  refine w_bipush (q := 68) hm170 ⟨⟨_, _, rfl⟩, rfl⟩ bipush_7 ?_
  refine w_copy (q := 71) (N := 7) (D := 0) (S := 0) hm170 ⟨⟨_, _, rfl⟩, rfl⟩ rfl rfl rfl rfl rfl (by decide) (by decide) (by decide) (by decide) ?_
  refine w_aload_n (q := 72) hm170 ⟨⟨_, _, rfl⟩, rfl⟩ rfl ?_
  refine w_getr (q := 75) hm170 ⟨⟨_, _, rfl⟩, rfl⟩ rfl ?_
  refine w_iconst (q := 76) hm170 ⟨⟨_, _, rfl⟩, rfl⟩ iconst_0 ?_
  refine w_aload_n (q := 77) hm170 ⟨⟨_, _, rfl⟩, rfl⟩ rfl ?_
  refine w_getr (q := 80) hm170 ⟨⟨_, _, rfl⟩, rfl⟩ rfl ?_
  refine w_iconst (q := 81) hm170 ⟨⟨_, _, rfl⟩, rfl⟩ iconst_0 ?_
  refine w_bipush (q := 83) hm170 ⟨⟨_, _, rfl⟩, rfl⟩ bipush_10 ?_
  refine w_copy (q := 86) (N := 10) (D := 0) (S := 0) hm170 ⟨⟨_, _, rfl⟩, rfl⟩ rfl rfl rfl rfl rfl (by decide) (by decide) (by decide) (by decide) ?_
  refine w_aload_n (q := 87) hm170 ⟨⟨_, _, rfl⟩, rfl⟩ rfl ?_
  refine w_getr (q := 90) hm170 ⟨⟨_, _, rfl⟩, rfl⟩ rfl ?_
  refine w_iconst (q := 91) hm170 ⟨⟨_, _, rfl⟩, rfl⟩ iconst_0 ?_
  refine w_aload_n (q := 92) hm170 ⟨⟨_, _, rfl⟩, rfl⟩ rfl ?_
  refine w_getr (q := 95) hm170 ⟨⟨_, _, rfl⟩, rfl⟩ rfl ?_
  refine w_iconst (q := 96) hm170 ⟨⟨_, _, rfl⟩, rfl⟩ iconst_0 ?_
  refine w_bipush (q := 98) hm170 ⟨⟨_, _, rfl⟩, rfl⟩ bipush_10 ?_
  refine w_copy (q := 101) (N := 10) (D := 0) (S := 0) hm170 ⟨⟨_, _, rfl⟩, rfl⟩ rfl rfl rfl rfl rfl (by decide) (by decide) (by decide) (by decide) ?_
  refine w_aload_n (q := 102) hm170 ⟨⟨_, _, rfl⟩, rfl⟩ rfl ?_
  refine w_getr (q := 105) hm170 ⟨⟨_, _, rfl⟩, rfl⟩ rfl ?_
  refine w_iconst (q := 106) hm170 ⟨⟨_, _, rfl⟩, rfl⟩ iconst_0 ?_
  refine w_aload_n (q := 107) hm170 ⟨⟨_, _, rfl⟩, rfl⟩ rfl ?_
  refine w_getr (q := 110) hm170 ⟨⟨_, _, rfl⟩, rfl⟩ rfl ?_
  refine w_iconst (q := 111) hm170 ⟨⟨_, _, rfl⟩, rfl⟩ iconst_0 ?_
  refine w_bipush (q := 113) hm170 ⟨⟨_, _, rfl⟩, rfl⟩ bipush_10 ?_
  refine w_copy (q := 116) (N := 10) (D := 0) (S := 0) hm170 ⟨⟨_, _, rfl⟩, rfl⟩ rfl rfl rfl rfl rfl (by decide) (by decide) (by decide) (by decide) ?_
  refine w_aload_n (q := 117) hm170 ⟨⟨_, _, rfl⟩, rfl⟩ rfl ?_
  refine w_getr (q := 120) hm170 ⟨⟨_, _, rfl⟩, rfl⟩ rfl ?_
  refine w_iconst (q := 121) hm170 ⟨⟨_, _, rfl⟩, rfl⟩ iconst_0 ?_
  refine w_aload_n (q := 122) hm170 ⟨⟨_, _, rfl⟩, rfl⟩ rfl ?_
  refine w_getr (q := 125) hm170 ⟨⟨_, _, rfl⟩, rfl⟩ rfl ?_
  refine w_iconst (q := 126) hm170 ⟨⟨_, _, rfl⟩, rfl⟩ iconst_0 ?_
  refine w_bipush (q := 128) hm170 ⟨⟨_, _, rfl⟩, rfl⟩ bipush_8 ?_
  refine w_copy (q := 131) (N := 8) (D := 0) (S := 0) hm170 ⟨⟨_, _, rfl⟩, rfl⟩ rfl rfl rfl rfl rfl (by decide) (by decide) (by decide) (by decide) ?_
  refine w_aload_n (q := 132) hm170 ⟨⟨_, _, rfl⟩, rfl⟩ rfl ?_
  refine w_getr (q := 135) hm170 ⟨⟨_, _, rfl⟩, rfl⟩ rfl ?_
  refine w_iconst (q := 136) hm170 ⟨⟨_, _, rfl⟩, rfl⟩ iconst_0 ?_
  refine w_aload_n (q := 137) hm170 ⟨⟨_, _, rfl⟩, rfl⟩ rfl ?_
  refine w_getr (q := 140) hm170 ⟨⟨_, _, rfl⟩, rfl⟩ rfl ?_
  refine w_iconst (q := 141) hm170 ⟨⟨_, _, rfl⟩, rfl⟩ iconst_0 ?_
  refine w_bipush (q := 143) hm170 ⟨⟨_, _, rfl⟩, rfl⟩ bipush_8 ?_
  refine w_copy (q := 146) (N := 8) (D := 0) (S := 0) hm170 ⟨⟨_, _, rfl⟩, rfl⟩ rfl rfl rfl rfl rfl (by decide) (by decide) (by decide) (by decide) ?_
  refine w_aload_n (q := 147) hm170 ⟨⟨_, _, rfl⟩, rfl⟩ rfl ?_
  refine w_getr (q := 150) hm170 ⟨⟨_, _, rfl⟩, rfl⟩ rfl ?_
  refine w_iconst (q := 151) hm170 ⟨⟨_, _, rfl⟩, rfl⟩ iconst_0 ?_
  refine w_aload_n (q := 152) hm170 ⟨⟨_, _, rfl⟩, rfl⟩ rfl ?_
  refine w_getr (q := 155) hm170 ⟨⟨_, _, rfl⟩, rfl⟩ rfl ?_
  refine w_iconst (q := 156) hm170 ⟨⟨_, _, rfl⟩, rfl⟩ iconst_0 ?_
  refine w_bipush (q := 158) hm170 ⟨⟨_, _, rfl⟩, rfl⟩ bipush_8 ?_
  refine w_copy (q := 161) (N := 8) (D := 0) (S := 0) hm170 ⟨⟨_, _, rfl⟩, rfl⟩ rfl rfl rfl rfl rfl (by decide) (by decide) (by decide) (by decide) ?_
  refine w_aload_n (q := 162) hm170 ⟨⟨_, _, rfl⟩, rfl⟩ rfl ?_
  refine w_getr (q := 165) hm170 ⟨⟨_, _, rfl⟩, rfl⟩ rfl ?_
  refine w_iconst (q := 166) hm170 ⟨⟨_, _, rfl⟩, rfl⟩ iconst_0 ?_
  refine w_aload_n (q := 167) hm170 ⟨⟨_, _, rfl⟩, rfl⟩ rfl ?_
  refine w_getr (q := 170) hm170 ⟨⟨_, _, rfl⟩, rfl⟩ rfl ?_
  refine w_iconst (q := 171) hm170 ⟨⟨_, _, rfl⟩, rfl⟩ iconst_0 ?_
  refine w_bipush (q := 173) hm170 ⟨⟨_, _, rfl⟩, rfl⟩ bipush_8 ?_
  refine w_copy (q := 176) (N := 8) (D := 0) (S := 0) hm170 ⟨⟨_, _, rfl⟩, rfl⟩ rfl rfl rfl rfl rfl (by decide) (by decide) (by decide) (by decide) ?_
  refine w_aload_n (q := 177) hm170 ⟨⟨_, _, rfl⟩, rfl⟩ rfl ?_
  refine w_getr (q := 180) hm170 ⟨⟨_, _, rfl⟩, rfl⟩ rfl ?_
  refine w_aload_n (q := 181) hm170 ⟨⟨_, _, rfl⟩, rfl⟩ rfl ?_
  refine w_getr (q := 184) hm170 ⟨⟨_, _, rfl⟩, rfl⟩ rfl ?_
  refine w_call (q := 187) (n := 1) (vs := [.inr (.inr (some 11)), .inr (.inr (some 29))]) (rest := []) (la := [oR 11, oR 29, none]) hm170 ⟨⟨_, _, rfl⟩, rfl⟩ rfl rfl rfl rfl hm177 rfl rfl (fun _ => ⟨_, _, rfl, rfl⟩) rfl (Wp.mono h ?_)
  rintro _ m1 ⟨rfl, h⟩
  change Wp _ _ 187 _ [] _ _
  exact w_retv hm170 ⟨⟨_, _, rfl⟩, rfl⟩ rfl h
theorem v_X10_houseIsNew_57 {d : Nat} {m : dM} {Q : dM → Prop} (h : Q (dSet m 57 1 (-1 : Int32))) : c_X10_houseIsNew_57 (d + 1) m Q := by
  refine w_aload_n (q := 1) hm238 ⟨⟨_, _, rfl⟩, rfl⟩ rfl ?_
  refine w_iconst (q := 2) hm238 ⟨⟨_, _, rfl⟩, rfl⟩ iconst_m1 ?_
  refine w_putf (q := 5) hm238 ⟨⟨_, _, rfl⟩, rfl⟩ rfl rfl rfl ?_
  exact w_retv hm238 ⟨⟨_, _, rfl⟩, rfl⟩ rfl h
theorem v_X0_houseIsNew_54 {d : Nat} {m : dM} {Q : dM → Prop} (h : c_X10_houseIsNew_57 d m (fun m1 => Q m1)) : c_X0_houseIsNew_54 (d + 1) m Q := by
  refine w_aload_n (q := 1) hm115 ⟨⟨_, _, rfl⟩, rfl⟩ rfl ?_
  refine w_getr (q := 4) hm115 ⟨⟨_, _, rfl⟩, rfl⟩ rfl ?_
  refine w_call (q := 7) (n := 0) (vs := [.inr (.inr (some 57))]) (rest := []) (la := [oR 57]) hm115 ⟨⟨_, _, rfl⟩, rfl⟩ rfl rfl rfl rfl hm238 rfl rfl (fun _ => ⟨_, _, rfl, rfl⟩) rfl (Wp.mono h ?_)
  rintro _ m1 ⟨rfl, h⟩
  change Wp _ _ 7 _ [] _ _
  exact w_retv hm115 ⟨⟨_, _, rfl⟩, rfl⟩ rfl h
theorem v_J7_fill_49 {d : Nat} {x1 : Int32} {m : dM} {Q : dM → Prop} (h : j_J7_fill_49_5 (d + 1) x1 (0 : Int32) (10 : Int32) m Q) : c_J7_fill_49 (d + 1) x1 m Q := by
  refine w_iconst (q := 1) hm286 ⟨⟨_, _, rfl⟩, rfl⟩ iconst_0 ?_
  refine w_istore_n (q := 2) (l' := [oR 49, oI x1, oI (0 : Int32), none]) hm286 ⟨⟨_, _, rfl⟩, rfl⟩ rfl rfl rfl ?_
  refine w_aload_n (q := 3) hm286 ⟨⟨_, _, rfl⟩, rfl⟩ rfl ?_
  refine w_alen (q := 4) hm286 ⟨⟨_, _, rfl⟩, rfl⟩ rfl alen_10 ?_
  refine w_istore_n (q := 5) (l' := [oR 49, oI x1, oI (0 : Int32), oI (10 : Int32)]) hm286 ⟨⟨_, _, rfl⟩, rfl⟩ rfl rfl rfl ?_
  exact h
theorem v_J7_fill_49_5 {d : Nat} {x1 : Int32} {x2 : Int32} {x3 : Int32} {m : dM} {Q : dM → Prop} (h : ((x3.toInt ≤ x2.toInt → Q m) ∧ (x2.toInt < x3.toInt → ((0 ≤ x2.toInt ∧ x2.toInt < 10) ∧ j_J7_fill_49_5 (d + 1) x1 (x2 + (1 : Int32)) x3 (dSet m 49 x2.toNatClampNeg x1) Q)))) : j_J7_fill_49_5 (d + 1) x1 x2 x3 m Q := by
  refine w_iload_n (q := 6) hm286 ⟨⟨_, _, rfl⟩, rfl⟩ rfl ?_
  refine w_iload_n (q := 7) hm286 ⟨⟨_, _, rfl⟩, rfl⟩ rfl ?_
  refine w_icmp_ge (q := 10) (X := x2.toInt) (Y := x3.toInt) hm286 ⟨⟨_, _, rfl⟩, rfl⟩ rfl rfl (fun hc => ?_) (fun hc => ?_)
  · have h := h.1 hc
    exact w_retv hm286 ⟨⟨_, _, rfl⟩, rfl⟩ rfl h
  · have h := h.2 hc
    refine w_aload_n (q := 11) hm286 ⟨⟨_, _, rfl⟩, rfl⟩ rfl ?_
    refine w_iload_n (q := 12) hm286 ⟨⟨_, _, rfl⟩, rfl⟩ rfl ?_
    refine w_iload_n (q := 13) hm286 ⟨⟨_, _, rfl⟩, rfl⟩ rfl ?_
    obtain ⟨hi, h⟩ := h
    refine w_iast (q := 14) hm286 ⟨⟨_, _, rfl⟩, rfl⟩ rfl hi rfl rfl ?_
    refine w_iinc (q := 17) (l' := [oR 49, oI x1, oI (x2 + (1 : Int32)), oI x3]) hm286 ⟨⟨_, _, rfl⟩, rfl⟩ rfl rfl rfl iconst_1 rfl ?_
    refine w_goto (q := 5) hm286 ⟨_, _, rfl⟩ ?_
    exact h
theorem v_J7_fill_50 {d : Nat} {x1 : Int32} {m : dM} {Q : dM → Prop} (h : j_J7_fill_50_5 (d + 1) x1 (0 : Int32) (7 : Int32) m Q) : c_J7_fill_50 (d + 1) x1 m Q := by
  refine w_iconst (q := 1) hm286 ⟨⟨_, _, rfl⟩, rfl⟩ iconst_0 ?_
  refine w_istore_n (q := 2) (l' := [oR 50, oI x1, oI (0 : Int32), none]) hm286 ⟨⟨_, _, rfl⟩, rfl⟩ rfl rfl rfl ?_
  refine w_aload_n (q := 3) hm286 ⟨⟨_, _, rfl⟩, rfl⟩ rfl ?_
  refine w_alen (q := 4) hm286 ⟨⟨_, _, rfl⟩, rfl⟩ rfl alen_7 ?_
  refine w_istore_n (q := 5) (l' := [oR 50, oI x1, oI (0 : Int32), oI (7 : Int32)]) hm286 ⟨⟨_, _, rfl⟩, rfl⟩ rfl rfl rfl ?_
  exact h
theorem v_J7_fill_50_5 {d : Nat} {x1 : Int32} {x2 : Int32} {x3 : Int32} {m : dM} {Q : dM → Prop} (h : ((x3.toInt ≤ x2.toInt → Q m) ∧ (x2.toInt < x3.toInt → ((0 ≤ x2.toInt ∧ x2.toInt < 7) ∧ j_J7_fill_50_5 (d + 1) x1 (x2 + (1 : Int32)) x3 (dSet m 50 x2.toNatClampNeg x1) Q)))) : j_J7_fill_50_5 (d + 1) x1 x2 x3 m Q := by
  refine w_iload_n (q := 6) hm286 ⟨⟨_, _, rfl⟩, rfl⟩ rfl ?_
  refine w_iload_n (q := 7) hm286 ⟨⟨_, _, rfl⟩, rfl⟩ rfl ?_
  refine w_icmp_ge (q := 10) (X := x2.toInt) (Y := x3.toInt) hm286 ⟨⟨_, _, rfl⟩, rfl⟩ rfl rfl (fun hc => ?_) (fun hc => ?_)
  · have h := h.1 hc
    exact w_retv hm286 ⟨⟨_, _, rfl⟩, rfl⟩ rfl h
  · have h := h.2 hc
    refine w_aload_n (q := 11) hm286 ⟨⟨_, _, rfl⟩, rfl⟩ rfl ?_
    refine w_iload_n (q := 12) hm286 ⟨⟨_, _, rfl⟩, rfl⟩ rfl ?_
    refine w_iload_n (q := 13) hm286 ⟨⟨_, _, rfl⟩, rfl⟩ rfl ?_
    obtain ⟨hi, h⟩ := h
    refine w_iast (q := 14) hm286 ⟨⟨_, _, rfl⟩, rfl⟩ rfl hi rfl rfl ?_
    refine w_iinc (q := 17) (l' := [oR 50, oI x1, oI (x2 + (1 : Int32)), oI x3]) hm286 ⟨⟨_, _, rfl⟩, rfl⟩ rfl rfl rfl iconst_1 rfl ?_
    refine w_goto (q := 5) hm286 ⟨_, _, rfl⟩ ?_
    exact h
theorem v_X7_begin_47_2 {d : Nat} {m : dM} {Q : dM → Prop} (h : c_J7_fill_49 d (0 : Int32) (dCpy (dSet (dSet (dSet (dSet (dSet (dSet m 47 0 (0 : Int32)) 47 1 (m.1 2 5)) 47 2 (0 : Int32)) 47 3 (0 : Int32)) 47 4 (0 : Int32)) 47 5 (((1 : Int32) <<< ((m.1 2 2) &&& 31)) - (1 : Int32))) 6 (0 : Int).toNat 48 (0 : Int).toNat (10 : Int).toNat) (fun m1 => c_J7_fill_50 d (0 : Int32) m1 (fun m2 => Q m2))) : c_X7_begin_47_2 (d + 1) m Q := by
  refine w_aload_n (q := 1) hm208 ⟨⟨_, _, rfl⟩, rfl⟩ rfl ?_
  refine w_iconst (q := 2) hm208 ⟨⟨_, _, rfl⟩, rfl⟩ iconst_0 ?_
  refine w_putf (q := 5) hm208 ⟨⟨_, _, rfl⟩, rfl⟩ rfl rfl rfl ?_
  refine w_aload_n (q := 6) hm208 ⟨⟨_, _, rfl⟩, rfl⟩ rfl ?_
  refine w_aload_n (q := 7) hm208 ⟨⟨_, _, rfl⟩, rfl⟩ rfl ?_
  refine w_getf (q := 10) (v := (m.1 2 5)) hm208 ⟨⟨_, _, rfl⟩, rfl⟩ rfl rfl ?_
  refine w_putf (q := 13) hm208 ⟨⟨_, _, rfl⟩, rfl⟩ rfl rfl rfl ?_
  refine w_aload_n (q := 14) hm208 ⟨⟨_, _, rfl⟩, rfl⟩ rfl ?_
  refine w_iconst (q := 15) hm208 ⟨⟨_, _, rfl⟩, rfl⟩ iconst_0 ?_
  refine w_putf (q := 18) hm208 ⟨⟨_, _, rfl⟩, rfl⟩ rfl rfl rfl ?_
  refine w_aload_n (q := 19) hm208 ⟨⟨_, _, rfl⟩, rfl⟩ rfl ?_
  refine w_iconst (q := 20) hm208 ⟨⟨_, _, rfl⟩, rfl⟩ iconst_0 ?_
  refine w_putf (q := 23) hm208 ⟨⟨_, _, rfl⟩, rfl⟩ rfl rfl rfl ?_
  refine w_aload_n (q := 24) hm208 ⟨⟨_, _, rfl⟩, rfl⟩ rfl ?_
  refine w_iconst (q := 25) hm208 ⟨⟨_, _, rfl⟩, rfl⟩ iconst_0 ?_
  refine w_putf (q := 28) hm208 ⟨⟨_, _, rfl⟩, rfl⟩ rfl rfl rfl ?_
  refine w_aload_n (q := 29) hm208 ⟨⟨_, _, rfl⟩, rfl⟩ rfl ?_
  refine w_iconst (q := 30) hm208 ⟨⟨_, _, rfl⟩, rfl⟩ iconst_1 ?_
  refine w_aload_n (q := 31) hm208 ⟨⟨_, _, rfl⟩, rfl⟩ rfl ?_
  refine w_getf (q := 34) (v := (m.1 2 2)) hm208 ⟨⟨_, _, rfl⟩, rfl⟩ rfl rfl ?_
  refine w_ishl (q := 35) hm208 ⟨⟨_, _, rfl⟩, rfl⟩ ?_
  refine w_iconst (q := 36) hm208 ⟨⟨_, _, rfl⟩, rfl⟩ iconst_1 ?_
  refine w_isub (q := 37) hm208 ⟨⟨_, _, rfl⟩, rfl⟩ ?_
  refine w_putf (q := 40) hm208 ⟨⟨_, _, rfl⟩, rfl⟩ rfl rfl rfl ?_
  refine w_aload_n (q := 41) hm208 ⟨⟨_, _, rfl⟩, rfl⟩ rfl ?_
  refine w_getr (q := 44) hm208 ⟨⟨_, _, rfl⟩, rfl⟩ rfl ?_
  refine w_iconst (q := 45) hm208 ⟨⟨_, _, rfl⟩, rfl⟩ iconst_0 ?_
  refine w_aload_n (q := 46) hm208 ⟨⟨_, _, rfl⟩, rfl⟩ rfl ?_
  refine w_getr (q := 49) hm208 ⟨⟨_, _, rfl⟩, rfl⟩ rfl ?_
  refine w_iconst (q := 50) hm208 ⟨⟨_, _, rfl⟩, rfl⟩ iconst_0 ?_
  refine w_bipush (q := 52) hm208 ⟨⟨_, _, rfl⟩, rfl⟩ bipush_10 ?_
  refine w_copy (q := 55) (N := 10) (D := 0) (S := 0) hm208 ⟨⟨_, _, rfl⟩, rfl⟩ rfl rfl rfl rfl rfl (by decide) (by decide) (by decide) (by decide) ?_
  refine w_aload_n (q := 56) hm208 ⟨⟨_, _, rfl⟩, rfl⟩ rfl ?_
  refine w_getr (q := 59) hm208 ⟨⟨_, _, rfl⟩, rfl⟩ rfl ?_
  refine w_iconst (q := 60) hm208 ⟨⟨_, _, rfl⟩, rfl⟩ iconst_0 ?_
  refine w_call (q := 63) (n := 2) (vs := [.inr (.inr (some 49)), .inl (0 : Int32)]) (rest := []) (la := [oR 49, oI (0 : Int32), none, none]) hm208 ⟨⟨_, _, rfl⟩, rfl⟩ rfl rfl rfl rfl hm286 rfl rfl (fun hz => absurd hz (by decide)) rfl (Wp.mono h ?_)
  rintro _ m1 ⟨rfl, h⟩
  change Wp _ _ 63 _ [] _ _
  refine w_aload_n (q := 64) hm208 ⟨⟨_, _, rfl⟩, rfl⟩ rfl ?_
  refine w_getr (q := 67) hm208 ⟨⟨_, _, rfl⟩, rfl⟩ rfl ?_
  refine w_iconst (q := 68) hm208 ⟨⟨_, _, rfl⟩, rfl⟩ iconst_0 ?_
  refine w_call (q := 71) (n := 2) (vs := [.inr (.inr (some 50)), .inl (0 : Int32)]) (rest := []) (la := [oR 50, oI (0 : Int32), none, none]) hm208 ⟨⟨_, _, rfl⟩, rfl⟩ rfl rfl rfl rfl hm286 rfl rfl (fun hz => absurd hz (by decide)) rfl (Wp.mono h ?_)
  rintro _ m2 ⟨rfl, h⟩
  change Wp _ _ 71 _ [] _ _
  exact w_retv hm208 ⟨⟨_, _, rfl⟩, rfl⟩ rfl h
theorem v_X6_clear_51 {d : Nat} {m : dM} {Q : dM → Prop} (h : Q (dSet (dSet m 51 2 (0 : Int32)) 51 3 (0 : Int32))) : c_X6_clear_51 (d + 1) m Q := by
  refine w_aload_n (q := 1) hm201 ⟨⟨_, _, rfl⟩, rfl⟩ rfl ?_
  refine w_iconst (q := 2) hm201 ⟨⟨_, _, rfl⟩, rfl⟩ iconst_0 ?_
  refine w_putf (q := 5) hm201 ⟨⟨_, _, rfl⟩, rfl⟩ rfl rfl rfl ?_
  refine w_aload_n (q := 6) hm201 ⟨⟨_, _, rfl⟩, rfl⟩ rfl ?_
  refine w_iconst (q := 7) hm201 ⟨⟨_, _, rfl⟩, rfl⟩ iconst_0 ?_
  refine w_putf (q := 10) hm201 ⟨⟨_, _, rfl⟩, rfl⟩ rfl rfl rfl ?_
  exact w_retv hm201 ⟨⟨_, _, rfl⟩, rfl⟩ rfl h
theorem v_X6_clearSlots_51 {d : Nat} {m : dM} {Q : dM → Prop} (h : Q (dSet m 51 4 (0 : Int32))) : c_X6_clearSlots_51 (d + 1) m Q := by
  refine w_aload_n (q := 1) hm202 ⟨⟨_, _, rfl⟩, rfl⟩ rfl ?_
  refine w_iconst (q := 2) hm202 ⟨⟨_, _, rfl⟩, rfl⟩ iconst_0 ?_
  refine w_putf (q := 5) hm202 ⟨⟨_, _, rfl⟩, rfl⟩ rfl rfl rfl ?_
  exact w_retv hm202 ⟨⟨_, _, rfl⟩, rfl⟩ rfl h
theorem v_X9_clear_67 {d : Nat} {m : dM} {Q : dM → Prop} (h : Q (dSet m 67 3 (0 : Int32))) : c_X9_clear_67 (d + 1) m Q := by
  refine w_aload_n (q := 1) hm231 ⟨⟨_, _, rfl⟩, rfl⟩ rfl ?_
  refine w_iconst (q := 2) hm231 ⟨⟨_, _, rfl⟩, rfl⟩ iconst_0 ?_
  refine w_putf (q := 5) hm231 ⟨⟨_, _, rfl⟩, rfl⟩ rfl rfl rfl ?_
  exact w_retv hm231 ⟨⟨_, _, rfl⟩, rfl⟩ rfl h
theorem v_X11_read_0 {d : Nat} {m : dM} {Q : Int32 → dM → Prop} (h : c_X8_scan_38_1 d (m.1 0 1) m (fun m1 => c_X3_clear_20 d (dSet m1 0 1 (0 : Int32)) (fun m2 => c_X2_check_43 d m2 (fun r3 m3 => c_X2_faultAt_43 d m3 (fun r4 m4 => ((r3.toInt ≠ 0 → j_X11_read_0_69 (d + 1) r3 (dSet m4 0 2 r4) Q) ∧ (r3.toInt = 0 → c_X5_check_44 d (dSet m4 0 2 r4) (fun r5 m5 => c_X5_faultAt_44 d m5 (fun r6 m6 => j_X11_read_0_69 (d + 1) r5 (dSet m6 0 2 r6) Q))))))))) : c_X11_read_0 (d + 1) m Q := by
  refine w_aload_n (q := 1) hm246 ⟨⟨_, _, rfl⟩, rfl⟩ rfl ?_
  refine w_getr (q := 4) hm246 ⟨⟨_, _, rfl⟩, rfl⟩ rfl ?_
  refine w_aload_n (q := 5) hm246 ⟨⟨_, _, rfl⟩, rfl⟩ rfl ?_
  refine w_getr (q := 8) hm246 ⟨⟨_, _, rfl⟩, rfl⟩ rfl ?_
  refine w_aload_n (q := 9) hm246 ⟨⟨_, _, rfl⟩, rfl⟩ rfl ?_
  refine w_getf (q := 12) (v := (m.1 0 1)) hm246 ⟨⟨_, _, rfl⟩, rfl⟩ rfl rfl ?_
  refine w_call (q := 15) (n := 2) (vs := [.inr (.inr (some 38)), .inr (.inr (some 1)), .inl (m.1 0 1)]) (rest := []) (la := [oR 38, oR 1, oI (m.1 0 1), none, none]) hm246 ⟨⟨_, _, rfl⟩, rfl⟩ rfl rfl rfl rfl hm215 rfl rfl (fun _ => ⟨_, _, rfl, rfl⟩) rfl (Wp.mono h ?_)
  rintro _ m1 ⟨rfl, h⟩
  change Wp _ _ 15 _ [] _ _
  refine w_aload_n (q := 16) hm246 ⟨⟨_, _, rfl⟩, rfl⟩ rfl ?_
  refine w_iconst (q := 17) hm246 ⟨⟨_, _, rfl⟩, rfl⟩ iconst_0 ?_
  refine w_putf (q := 20) hm246 ⟨⟨_, _, rfl⟩, rfl⟩ rfl rfl rfl ?_
  refine w_aload_n (q := 21) hm246 ⟨⟨_, _, rfl⟩, rfl⟩ rfl ?_
  refine w_getr (q := 24) hm246 ⟨⟨_, _, rfl⟩, rfl⟩ rfl ?_
  refine w_call (q := 27) (n := 0) (vs := [.inr (.inr (some 20))]) (rest := []) (la := [oR 20]) hm246 ⟨⟨_, _, rfl⟩, rfl⟩ rfl rfl rfl rfl hm169 rfl rfl (fun _ => ⟨_, _, rfl, rfl⟩) rfl (Wp.mono h ?_)
  rintro _ m2 ⟨rfl, h⟩
  change Wp _ _ 27 _ [] _ _
  refine w_aload_n (q := 28) hm246 ⟨⟨_, _, rfl⟩, rfl⟩ rfl ?_
  refine w_getr (q := 31) hm246 ⟨⟨_, _, rfl⟩, rfl⟩ rfl ?_
  refine w_call (q := 34) (n := 1) (vs := [.inr (.inr (some 43))]) (rest := []) (la := [oR 43, none]) hm246 ⟨⟨_, _, rfl⟩, rfl⟩ rfl rfl rfl rfl hm154 rfl rfl (fun _ => ⟨_, _, rfl, rfl⟩) rfl (Wp.mono h ?_)
  rintro _ m3 ⟨r3, rfl, h⟩
  change Wp _ _ 34 _ [.inl r3] _ _
  refine w_istore_n (q := 35) (l' := [oR 0, oI r3]) hm246 ⟨⟨_, _, rfl⟩, rfl⟩ rfl rfl rfl ?_
  refine w_aload_n (q := 36) hm246 ⟨⟨_, _, rfl⟩, rfl⟩ rfl ?_
  refine w_aload_n (q := 37) hm246 ⟨⟨_, _, rfl⟩, rfl⟩ rfl ?_
  refine w_getr (q := 40) hm246 ⟨⟨_, _, rfl⟩, rfl⟩ rfl ?_
  refine w_call (q := 43) (n := 0) (vs := [.inr (.inr (some 43))]) (rest := [.inr (.inr (some 0))]) (la := [oR 43]) hm246 ⟨⟨_, _, rfl⟩, rfl⟩ rfl rfl rfl rfl hm156 rfl rfl (fun _ => ⟨_, _, rfl, rfl⟩) rfl (Wp.mono h ?_)
  rintro _ m4 ⟨r4, rfl, h⟩
  change Wp _ _ 43 _ [.inl r4, .inr (.inr (some 0))] _ _
  refine w_putf (q := 46) hm246 ⟨⟨_, _, rfl⟩, rfl⟩ rfl rfl rfl ?_
  refine w_iload_n (q := 47) hm246 ⟨⟨_, _, rfl⟩, rfl⟩ rfl ?_
  refine w_if_ne (q := 50) (X := r3.toInt) hm246 ⟨⟨_, _, rfl⟩, rfl⟩ rfl (fun hc => ?_) (fun hc => ?_)
  · have h := h.1 hc
    exact h
  · have h := h.2 hc
    refine w_aload_n (q := 51) hm246 ⟨⟨_, _, rfl⟩, rfl⟩ rfl ?_
    refine w_getr (q := 54) hm246 ⟨⟨_, _, rfl⟩, rfl⟩ rfl ?_
    refine w_call (q := 57) (n := 2) (vs := [.inr (.inr (some 44))]) (rest := []) (la := [oR 44, none, none]) hm246 ⟨⟨_, _, rfl⟩, rfl⟩ rfl rfl rfl rfl hm185 rfl rfl (fun _ => ⟨_, _, rfl, rfl⟩) rfl (Wp.mono h ?_)
    rintro _ m5 ⟨r5, rfl, h⟩
    change Wp _ _ 57 _ [.inl r5] _ _
    refine w_istore_n (q := 58) (l' := [oR 0, oI r5]) hm246 ⟨⟨_, _, rfl⟩, rfl⟩ rfl rfl rfl ?_
    refine w_aload_n (q := 59) hm246 ⟨⟨_, _, rfl⟩, rfl⟩ rfl ?_
    refine w_aload_n (q := 60) hm246 ⟨⟨_, _, rfl⟩, rfl⟩ rfl ?_
    refine w_getr (q := 63) hm246 ⟨⟨_, _, rfl⟩, rfl⟩ rfl ?_
    refine w_call (q := 66) (n := 0) (vs := [.inr (.inr (some 44))]) (rest := [.inr (.inr (some 0))]) (la := [oR 44]) hm246 ⟨⟨_, _, rfl⟩, rfl⟩ rfl rfl rfl rfl hm186 rfl rfl (fun _ => ⟨_, _, rfl, rfl⟩) rfl (Wp.mono h ?_)
    rintro _ m6 ⟨r6, rfl, h⟩
    change Wp _ _ 66 _ [.inl r6, .inr (.inr (some 0))] _ _
    refine w_putf (q := 69) hm246 ⟨⟨_, _, rfl⟩, rfl⟩ rfl rfl rfl ?_
    exact h
theorem v_X11_read_0_69 {d : Nat} {x1 : Int32} {m : dM} {Q : Int32 → dM → Prop} (h : ((x1.toInt ≠ 0 → j_X11_read_0_123 (d + 1) x1 m Q) ∧ (x1.toInt = 0 → c_X3_copy_2_20 d m (fun m1 => c_X0_houseIsNew_54 d m1 (fun m2 => c_X7_begin_47_2 d m2 (fun m3 => c_X6_clear_51 d m3 (fun m4 => c_X6_clearSlots_51 d m4 (fun m5 => c_X9_clear_67 d m5 (fun m6 => j_X11_read_0_123 (d + 1) x1 m6 Q))))))))) : j_X11_read_0_69 (d + 1) x1 m Q := by
  refine w_iload_n (q := 70) hm246 ⟨⟨_, _, rfl⟩, rfl⟩ rfl ?_
  refine w_if_ne (q := 73) (X := x1.toInt) hm246 ⟨⟨_, _, rfl⟩, rfl⟩ rfl (fun hc => ?_) (fun hc => ?_)
  · have h := h.1 hc
    exact Wp.wk [false, true] h
  · have h := h.2 hc
    refine w_aload_n (q := 74) hm246 ⟨⟨_, _, rfl⟩, rfl⟩ rfl ?_
    refine w_getr (q := 77) hm246 ⟨⟨_, _, rfl⟩, rfl⟩ rfl ?_
    refine w_aload_n (q := 78) hm246 ⟨⟨_, _, rfl⟩, rfl⟩ rfl ?_
    refine w_getr (q := 81) hm246 ⟨⟨_, _, rfl⟩, rfl⟩ rfl ?_
    refine w_call (q := 84) (n := 0) (vs := [.inr (.inr (some 2)), .inr (.inr (some 20))]) (rest := []) (la := [oR 2, oR 20]) hm246 ⟨⟨_, _, rfl⟩, rfl⟩ rfl rfl rfl rfl hm170 rfl rfl (fun _ => ⟨_, _, rfl, rfl⟩) rfl (Wp.mono h ?_)
    rintro _ m1 ⟨rfl, h⟩
    change Wp _ _ 84 _ [] _ _
    refine w_aload_n (q := 85) hm246 ⟨⟨_, _, rfl⟩, rfl⟩ rfl ?_
    refine w_getr (q := 88) hm246 ⟨⟨_, _, rfl⟩, rfl⟩ rfl ?_
    refine w_call (q := 91) (n := 0) (vs := [.inr (.inr (some 54))]) (rest := []) (la := [oR 54]) hm246 ⟨⟨_, _, rfl⟩, rfl⟩ rfl rfl rfl rfl hm115 rfl rfl (fun _ => ⟨_, _, rfl, rfl⟩) rfl (Wp.mono h ?_)
    rintro _ m2 ⟨rfl, h⟩
    change Wp _ _ 91 _ [] _ _
    refine w_aload_n (q := 92) hm246 ⟨⟨_, _, rfl⟩, rfl⟩ rfl ?_
    refine w_getr (q := 95) hm246 ⟨⟨_, _, rfl⟩, rfl⟩ rfl ?_
    refine w_aload_n (q := 96) hm246 ⟨⟨_, _, rfl⟩, rfl⟩ rfl ?_
    refine w_getr (q := 99) hm246 ⟨⟨_, _, rfl⟩, rfl⟩ rfl ?_
    refine w_call (q := 102) (n := 0) (vs := [.inr (.inr (some 47)), .inr (.inr (some 2))]) (rest := []) (la := [oR 47, oR 2]) hm246 ⟨⟨_, _, rfl⟩, rfl⟩ rfl rfl rfl rfl hm208 rfl rfl (fun _ => ⟨_, _, rfl, rfl⟩) rfl (Wp.mono h ?_)
    rintro _ m3 ⟨rfl, h⟩
    change Wp _ _ 102 _ [] _ _
    refine w_aload_n (q := 103) hm246 ⟨⟨_, _, rfl⟩, rfl⟩ rfl ?_
    refine w_getr (q := 106) hm246 ⟨⟨_, _, rfl⟩, rfl⟩ rfl ?_
    refine w_call (q := 109) (n := 0) (vs := [.inr (.inr (some 51))]) (rest := []) (la := [oR 51]) hm246 ⟨⟨_, _, rfl⟩, rfl⟩ rfl rfl rfl rfl hm201 rfl rfl (fun _ => ⟨_, _, rfl, rfl⟩) rfl (Wp.mono h ?_)
    rintro _ m4 ⟨rfl, h⟩
    change Wp _ _ 109 _ [] _ _
    refine w_aload_n (q := 110) hm246 ⟨⟨_, _, rfl⟩, rfl⟩ rfl ?_
    refine w_getr (q := 113) hm246 ⟨⟨_, _, rfl⟩, rfl⟩ rfl ?_
    refine w_call (q := 116) (n := 0) (vs := [.inr (.inr (some 51))]) (rest := []) (la := [oR 51]) hm246 ⟨⟨_, _, rfl⟩, rfl⟩ rfl rfl rfl rfl hm202 rfl rfl (fun _ => ⟨_, _, rfl, rfl⟩) rfl (Wp.mono h ?_)
    rintro _ m5 ⟨rfl, h⟩
    change Wp _ _ 116 _ [] _ _
    refine w_aload_n (q := 117) hm246 ⟨⟨_, _, rfl⟩, rfl⟩ rfl ?_
    refine w_getr (q := 120) hm246 ⟨⟨_, _, rfl⟩, rfl⟩ rfl ?_
    refine w_call (q := 123) (n := 0) (vs := [.inr (.inr (some 67))]) (rest := []) (la := [oR 67]) hm246 ⟨⟨_, _, rfl⟩, rfl⟩ rfl rfl rfl rfl hm231 rfl rfl (fun _ => ⟨_, _, rfl, rfl⟩) rfl (Wp.mono h ?_)
    rintro _ m6 ⟨rfl, h⟩
    change Wp _ _ 123 _ [] _ _
    exact Wp.wk [false, true] h
theorem v_X11_read_0_123 {d : Nat} {x1 : Int32} {m : dM} {Q : Int32 → dM → Prop} (h : Q x1 m) : j_X11_read_0_123 (d + 1) x1 m Q := by
  refine w_iload_n (q := 124) hm246 ⟨⟨_, _, rfl⟩, rfl⟩ rfl ?_
  exact w_reti hm246 ⟨⟨_, _, rfl⟩, rfl⟩ rfl h
end
section
theorem v_X12_byteAt_70 {d : Nat} {x1 : Int32} {m : dM} {Q : Int32 → dM → Prop} (h : (((m.1 70 4).toInt ≤ x1.toInt → Q (0 : Int32) m) ∧ (x1.toInt < (m.1 70 4).toInt → ((0 ≤ x1.toInt ∧ x1.toInt < 2000) ∧ Q ((m.1 72 x1.toNatClampNeg) &&& (255 : Int32)) m)))) : c_X12_byteAt_70 (d + 1) x1 m Q := by
  refine w_iload_n (q := 1) hm4 ⟨⟨_, _, rfl⟩, rfl⟩ rfl ?_
  refine w_aload_n (q := 2) hm4 ⟨⟨_, _, rfl⟩, rfl⟩ rfl ?_
  refine w_getf (q := 5) (v := (m.1 70 4)) hm4 ⟨⟨_, _, rfl⟩, rfl⟩ rfl rfl ?_
  refine w_icmp_ge (q := 8) (X := x1.toInt) (Y := (m.1 70 4).toInt) hm4 ⟨⟨_, _, rfl⟩, rfl⟩ rfl rfl (fun hc => ?_) (fun hc => ?_)
  · have h := h.1 hc
    refine w_iconst (q := 22) hm4 ⟨⟨_, _, rfl⟩, rfl⟩ iconst_0 ?_
    exact w_reti hm4 ⟨⟨_, _, rfl⟩, rfl⟩ rfl h
  · have h := h.2 hc
    refine w_aload_n (q := 9) hm4 ⟨⟨_, _, rfl⟩, rfl⟩ rfl ?_
    refine w_getr (q := 12) hm4 ⟨⟨_, _, rfl⟩, rfl⟩ rfl ?_
    refine w_iload_n (q := 13) hm4 ⟨⟨_, _, rfl⟩, rfl⟩ rfl ?_
    obtain ⟨hi, h⟩ := h
    refine w_bald (q := 14) (v := (m.1 72 x1.toNatClampNeg)) hm4 ⟨⟨_, _, rfl⟩, rfl⟩ rfl hi rfl rfl ?_
    refine w_sipush (q := 17) hm4 ⟨⟨_, _, rfl⟩, rfl⟩ sipush_255 ?_
    refine w_iand (q := 18) hm4 ⟨⟨_, _, rfl⟩, rfl⟩ ?_
    refine w_goto (q := 22) hm4 ⟨_, _, rfl⟩ ?_
    exact w_reti hm4 ⟨⟨_, _, rfl⟩, rfl⟩ rfl h
theorem v_X12_isLetter {d : Nat} {x0 : Int32} {m : dM} {Q : Int32 → dM → Prop} (h : ((x0.toInt < 97 → j_X12_isLetter_16 (d + 1) m Q) ∧ (97 ≤ x0.toInt → ((122 < x0.toInt → j_X12_isLetter_16 (d + 1) m Q) ∧ (x0.toInt ≤ 122 → Q (1 : Int32) m))))) : c_X12_isLetter (d + 1) x0 m Q := by
  refine w_iload_n (q := 1) hm6 ⟨⟨_, _, rfl⟩, rfl⟩ rfl ?_
  refine w_bipush (q := 3) hm6 ⟨⟨_, _, rfl⟩, rfl⟩ bipush_97 ?_
  refine w_icmp_lt (q := 6) (X := x0.toInt) (Y := 97) hm6 ⟨⟨_, _, rfl⟩, rfl⟩ rfl (by decide) (fun hc => ?_) (fun hc => ?_)
  · have h := h.1 hc
    exact Wp.wk [false] h
  · have h := h.2 hc
    refine w_iload_n (q := 7) hm6 ⟨⟨_, _, rfl⟩, rfl⟩ rfl ?_
    refine w_bipush (q := 9) hm6 ⟨⟨_, _, rfl⟩, rfl⟩ bipush_122 ?_
    refine w_icmp_gt (q := 12) (X := x0.toInt) (Y := 122) hm6 ⟨⟨_, _, rfl⟩, rfl⟩ rfl (by decide) (fun hc => ?_) (fun hc => ?_)
    · have h := h.1 hc
      exact Wp.wk [false] h
    · have h := h.2 hc
      refine w_iconst (q := 13) hm6 ⟨⟨_, _, rfl⟩, rfl⟩ iconst_1 ?_
      refine w_goto (q := 17) hm6 ⟨_, _, rfl⟩ ?_
      exact w_retz hm6 ⟨⟨_, _, rfl⟩, rfl⟩ rfl (by decide) h
theorem v_X12_isLetter_16 {d : Nat} {m : dM} {Q : Int32 → dM → Prop} (h : Q (0 : Int32) m) : j_X12_isLetter_16 (d + 1) m Q := by
  refine w_iconst (q := 17) hm6 ⟨⟨_, _, rfl⟩, rfl⟩ iconst_0 ?_
  exact w_retz hm6 ⟨⟨_, _, rfl⟩, rfl⟩ rfl (by decide) h
theorem v_X12_isDigit {d : Nat} {x0 : Int32} {m : dM} {Q : Int32 → dM → Prop} (h : ((x0.toInt < 48 → j_X12_isDigit_16 (d + 1) m Q) ∧ (48 ≤ x0.toInt → ((57 < x0.toInt → j_X12_isDigit_16 (d + 1) m Q) ∧ (x0.toInt ≤ 57 → Q (1 : Int32) m))))) : c_X12_isDigit (d + 1) x0 m Q := by
  refine w_iload_n (q := 1) hm5 ⟨⟨_, _, rfl⟩, rfl⟩ rfl ?_
  refine w_bipush (q := 3) hm5 ⟨⟨_, _, rfl⟩, rfl⟩ bipush_48 ?_
  refine w_icmp_lt (q := 6) (X := x0.toInt) (Y := 48) hm5 ⟨⟨_, _, rfl⟩, rfl⟩ rfl (by decide) (fun hc => ?_) (fun hc => ?_)
  · have h := h.1 hc
    exact Wp.wk [false] h
  · have h := h.2 hc
    refine w_iload_n (q := 7) hm5 ⟨⟨_, _, rfl⟩, rfl⟩ rfl ?_
    refine w_bipush (q := 9) hm5 ⟨⟨_, _, rfl⟩, rfl⟩ bipush_57 ?_
    refine w_icmp_gt (q := 12) (X := x0.toInt) (Y := 57) hm5 ⟨⟨_, _, rfl⟩, rfl⟩ rfl (by decide) (fun hc => ?_) (fun hc => ?_)
    · have h := h.1 hc
      exact Wp.wk [false] h
    · have h := h.2 hc
      refine w_iconst (q := 13) hm5 ⟨⟨_, _, rfl⟩, rfl⟩ iconst_1 ?_
      refine w_goto (q := 17) hm5 ⟨_, _, rfl⟩ ?_
      exact w_retz hm5 ⟨⟨_, _, rfl⟩, rfl⟩ rfl (by decide) h
theorem v_X12_isDigit_16 {d : Nat} {m : dM} {Q : Int32 → dM → Prop} (h : Q (0 : Int32) m) : j_X12_isDigit_16 (d + 1) m Q := by
  refine w_iconst (q := 17) hm5 ⟨⟨_, _, rfl⟩, rfl⟩ iconst_0 ?_
  exact w_retz hm5 ⟨⟨_, _, rfl⟩, rfl⟩ rfl (by decide) h
theorem v_X12_token_70 {d : Nat} {x1 : Int32} {x2 : Int32} {x3 : Int32} {y4 : Int64} {m : dM} {Q : dM → Prop} (h : ((0 ≤ (m.1 70 10).toInt ∧ (m.1 70 10).toInt < 403) ∧ ((0 ≤ (m.1 70 10).toInt ∧ (m.1 70 10).toInt < 403) ∧ ((0 ≤ (m.1 70 10).toInt ∧ (m.1 70 10).toInt < 403) ∧ ((0 ≤ (m.1 70 10).toInt ∧ (m.1 70 10).toInt < 403) ∧ Q (dSet (dSetL (dSet (dSet (dSet m 73 (m.1 70 10).toNatClampNeg x1) 74 (m.1 70 10).toNatClampNeg x2) 75 (m.1 70 10).toNatClampNeg x3) 76 (m.1 70 10).toNatClampNeg y4) 70 10 ((m.1 70 10) + (1 : Int32)))))))) : c_X12_token_70 (d + 1) x1 x2 x3 y4 m Q := by
  refine w_aload_n (q := 1) hm9 ⟨⟨_, _, rfl⟩, rfl⟩ rfl ?_
  refine w_getr (q := 4) hm9 ⟨⟨_, _, rfl⟩, rfl⟩ rfl ?_
  refine w_aload_n (q := 5) hm9 ⟨⟨_, _, rfl⟩, rfl⟩ rfl ?_
  refine w_getf (q := 8) (v := (m.1 70 10)) hm9 ⟨⟨_, _, rfl⟩, rfl⟩ rfl rfl ?_
  refine w_iload_n (q := 9) hm9 ⟨⟨_, _, rfl⟩, rfl⟩ rfl ?_
  obtain ⟨hi, h⟩ := h
  refine w_iast (q := 10) hm9 ⟨⟨_, _, rfl⟩, rfl⟩ rfl hi rfl rfl ?_
  refine w_aload_n (q := 11) hm9 ⟨⟨_, _, rfl⟩, rfl⟩ rfl ?_
  refine w_getr (q := 14) hm9 ⟨⟨_, _, rfl⟩, rfl⟩ rfl ?_
  refine w_aload_n (q := 15) hm9 ⟨⟨_, _, rfl⟩, rfl⟩ rfl ?_
  refine w_getf (q := 18) (v := (m.1 70 10)) hm9 ⟨⟨_, _, rfl⟩, rfl⟩ rfl rfl ?_
  refine w_iload_n (q := 19) hm9 ⟨⟨_, _, rfl⟩, rfl⟩ rfl ?_
  obtain ⟨hi, h⟩ := h
  refine w_iast (q := 20) hm9 ⟨⟨_, _, rfl⟩, rfl⟩ rfl hi rfl rfl ?_
  refine w_aload_n (q := 21) hm9 ⟨⟨_, _, rfl⟩, rfl⟩ rfl ?_
  refine w_getr (q := 24) hm9 ⟨⟨_, _, rfl⟩, rfl⟩ rfl ?_
  refine w_aload_n (q := 25) hm9 ⟨⟨_, _, rfl⟩, rfl⟩ rfl ?_
  refine w_getf (q := 28) (v := (m.1 70 10)) hm9 ⟨⟨_, _, rfl⟩, rfl⟩ rfl rfl ?_
  refine w_iload_n (q := 29) hm9 ⟨⟨_, _, rfl⟩, rfl⟩ rfl ?_
  obtain ⟨hi, h⟩ := h
  refine w_iast (q := 30) hm9 ⟨⟨_, _, rfl⟩, rfl⟩ rfl hi rfl rfl ?_
  refine w_aload_n (q := 31) hm9 ⟨⟨_, _, rfl⟩, rfl⟩ rfl ?_
  refine w_getr (q := 34) hm9 ⟨⟨_, _, rfl⟩, rfl⟩ rfl ?_
  refine w_aload_n (q := 35) hm9 ⟨⟨_, _, rfl⟩, rfl⟩ rfl ?_
  refine w_getf (q := 38) (v := (m.1 70 10)) hm9 ⟨⟨_, _, rfl⟩, rfl⟩ rfl rfl ?_
  refine w_lload (q := 40) hm9 ⟨⟨_, _, rfl⟩, rfl⟩ rfl ?_
  obtain ⟨hi, h⟩ := h
  refine w_last (q := 41) hm9 ⟨⟨_, _, rfl⟩, rfl⟩ rfl hi rfl rfl ?_
  refine w_aload_n (q := 42) hm9 ⟨⟨_, _, rfl⟩, rfl⟩ rfl ?_
  refine w_dup (q := 43) hm9 ⟨⟨_, _, rfl⟩, rfl⟩ rfl ?_
  refine w_getf (q := 46) (v := (m.1 70 10)) hm9 ⟨⟨_, _, rfl⟩, rfl⟩ rfl rfl ?_
  refine w_iconst (q := 47) hm9 ⟨⟨_, _, rfl⟩, rfl⟩ iconst_1 ?_
  refine w_iadd (q := 48) hm9 ⟨⟨_, _, rfl⟩, rfl⟩ ?_
  refine w_putf (q := 51) hm9 ⟨⟨_, _, rfl⟩, rfl⟩ rfl rfl rfl ?_
  exact w_retv hm9 ⟨⟨_, _, rfl⟩, rfl⟩ rfl h
theorem v_X12_sign_70 {d : Nat} {x1 : Int32} {x2 : Int32} {x3 : Int32} {m : dM} {Q : Int32 → dM → Prop} (h : ((x2.toInt ≠ 59 → ((x2.toInt ≠ 61 → ((x2.toInt ≠ 40 → ((x2.toInt ≠ 41 → ((x2.toInt ≠ 43 → j_X12_sign_70_55 (d + 1) x1 x2 (3 : Int32) m Q) ∧ (x2.toInt = 43 → j_X12_sign_70_55 (d + 1) x1 x2 (8 : Int32) m Q))) ∧ (x2.toInt = 41 → ((x2.toInt ≠ 43 → j_X12_sign_70_55 (d + 1) x1 x2 (7 : Int32) m Q) ∧ (x2.toInt = 43 → j_X12_sign_70_55 (d + 1) x1 x2 (8 : Int32) m Q))))) ∧ (x2.toInt = 40 → ((x2.toInt ≠ 43 → j_X12_sign_70_55 (d + 1) x1 x2 (6 : Int32) m Q) ∧ (x2.toInt = 43 → j_X12_sign_70_55 (d + 1) x1 x2 (8 : Int32) m Q))))) ∧ (x2.toInt = 61 → ((x2.toInt ≠ 43 → j_X12_sign_70_55 (d + 1) x1 x2 (5 : Int32) m Q) ∧ (x2.toInt = 43 → j_X12_sign_70_55 (d + 1) x1 x2 (8 : Int32) m Q))))) ∧ (x2.toInt = 59 → ((x2.toInt ≠ 43 → j_X12_sign_70_55 (d + 1) x1 x2 (4 : Int32) m Q) ∧ (x2.toInt = 43 → j_X12_sign_70_55 (d + 1) x1 x2 (8 : Int32) m Q))))) : c_X12_sign_70 (d + 1) x1 x2 x3 m Q := by
  refine w_iload_n (q := 1) hm11 ⟨⟨_, _, rfl⟩, rfl⟩ rfl ?_
  refine w_bipush (q := 3) hm11 ⟨⟨_, _, rfl⟩, rfl⟩ bipush_59 ?_
  refine w_icmp_ne (q := 6) (X := x2.toInt) (Y := 59) hm11 ⟨⟨_, _, rfl⟩, rfl⟩ rfl (by decide) (fun hc => ?_) (fun hc => ?_)
  · have h := h.1 hc
    refine w_iload_n (q := 11) hm11 ⟨⟨_, _, rfl⟩, rfl⟩ rfl ?_
    refine w_bipush (q := 13) hm11 ⟨⟨_, _, rfl⟩, rfl⟩ bipush_61 ?_
    refine w_icmp_ne (q := 16) (X := x2.toInt) (Y := 61) hm11 ⟨⟨_, _, rfl⟩, rfl⟩ rfl (by decide) (fun hc => ?_) (fun hc => ?_)
    · have h := h.1 hc
      refine w_iload_n (q := 21) hm11 ⟨⟨_, _, rfl⟩, rfl⟩ rfl ?_
      refine w_bipush (q := 23) hm11 ⟨⟨_, _, rfl⟩, rfl⟩ bipush_40 ?_
      refine w_icmp_ne (q := 26) (X := x2.toInt) (Y := 40) hm11 ⟨⟨_, _, rfl⟩, rfl⟩ rfl (by decide) (fun hc => ?_) (fun hc => ?_)
      · have h := h.1 hc
        refine w_iload_n (q := 32) hm11 ⟨⟨_, _, rfl⟩, rfl⟩ rfl ?_
        refine w_bipush (q := 34) hm11 ⟨⟨_, _, rfl⟩, rfl⟩ bipush_41 ?_
        refine w_icmp_ne (q := 37) (X := x2.toInt) (Y := 41) hm11 ⟨⟨_, _, rfl⟩, rfl⟩ rfl (by decide) (fun hc => ?_) (fun hc => ?_)
        · have h := h.1 hc
          refine w_iconst (q := 43) hm11 ⟨⟨_, _, rfl⟩, rfl⟩ iconst_3 ?_
          refine w_istore (q := 45) (l' := [oR 70, oI x1, oI x2, oI x3, oI (3 : Int32)]) hm11 ⟨⟨_, _, rfl⟩, rfl⟩ rfl rfl rfl ?_
          refine w_iload_n (q := 46) hm11 ⟨⟨_, _, rfl⟩, rfl⟩ rfl ?_
          refine w_bipush (q := 48) hm11 ⟨⟨_, _, rfl⟩, rfl⟩ bipush_43 ?_
          refine w_icmp_ne (q := 51) (X := x2.toInt) (Y := 43) hm11 ⟨⟨_, _, rfl⟩, rfl⟩ rfl (by decide) (fun hc => ?_) (fun hc => ?_)
          · have h := h.1 hc
            exact Wp.wk [true, true, true, false, true] h
          · have h := h.2 hc
            refine w_bipush (q := 53) hm11 ⟨⟨_, _, rfl⟩, rfl⟩ bipush_8 ?_
            refine w_istore (q := 55) (l' := [oR 70, oI x1, oI x2, oI x3, oI (8 : Int32)]) hm11 ⟨⟨_, _, rfl⟩, rfl⟩ rfl rfl rfl ?_
            exact Wp.wk [true, true, true, false, true] h
        · have h := h.2 hc
          refine w_bipush (q := 39) hm11 ⟨⟨_, _, rfl⟩, rfl⟩ bipush_7 ?_
          refine w_goto (q := 43) hm11 ⟨_, _, rfl⟩ ?_
          refine w_istore (q := 45) (l' := [oR 70, oI x1, oI x2, oI x3, oI (7 : Int32)]) hm11 ⟨⟨_, _, rfl⟩, rfl⟩ rfl rfl rfl ?_
          refine w_iload_n (q := 46) hm11 ⟨⟨_, _, rfl⟩, rfl⟩ rfl ?_
          refine w_bipush (q := 48) hm11 ⟨⟨_, _, rfl⟩, rfl⟩ bipush_43 ?_
          refine w_icmp_ne (q := 51) (X := x2.toInt) (Y := 43) hm11 ⟨⟨_, _, rfl⟩, rfl⟩ rfl (by decide) (fun hc => ?_) (fun hc => ?_)
          · have h := h.1 hc
            exact Wp.wk [true, true, true, false, true] h
          · have h := h.2 hc
            refine w_bipush (q := 53) hm11 ⟨⟨_, _, rfl⟩, rfl⟩ bipush_8 ?_
            refine w_istore (q := 55) (l' := [oR 70, oI x1, oI x2, oI x3, oI (8 : Int32)]) hm11 ⟨⟨_, _, rfl⟩, rfl⟩ rfl rfl rfl ?_
            exact Wp.wk [true, true, true, false, true] h
      · have h := h.2 hc
        refine w_bipush (q := 28) hm11 ⟨⟨_, _, rfl⟩, rfl⟩ bipush_6 ?_
        refine w_goto (q := 43) hm11 ⟨_, _, rfl⟩ ?_
        refine w_istore (q := 45) (l' := [oR 70, oI x1, oI x2, oI x3, oI (6 : Int32)]) hm11 ⟨⟨_, _, rfl⟩, rfl⟩ rfl rfl rfl ?_
        refine w_iload_n (q := 46) hm11 ⟨⟨_, _, rfl⟩, rfl⟩ rfl ?_
        refine w_bipush (q := 48) hm11 ⟨⟨_, _, rfl⟩, rfl⟩ bipush_43 ?_
        refine w_icmp_ne (q := 51) (X := x2.toInt) (Y := 43) hm11 ⟨⟨_, _, rfl⟩, rfl⟩ rfl (by decide) (fun hc => ?_) (fun hc => ?_)
        · have h := h.1 hc
          exact Wp.wk [true, true, true, false, true] h
        · have h := h.2 hc
          refine w_bipush (q := 53) hm11 ⟨⟨_, _, rfl⟩, rfl⟩ bipush_8 ?_
          refine w_istore (q := 55) (l' := [oR 70, oI x1, oI x2, oI x3, oI (8 : Int32)]) hm11 ⟨⟨_, _, rfl⟩, rfl⟩ rfl rfl rfl ?_
          exact Wp.wk [true, true, true, false, true] h
    · have h := h.2 hc
      refine w_iconst (q := 17) hm11 ⟨⟨_, _, rfl⟩, rfl⟩ iconst_5 ?_
      refine w_goto (q := 43) hm11 ⟨_, _, rfl⟩ ?_
      refine w_istore (q := 45) (l' := [oR 70, oI x1, oI x2, oI x3, oI (5 : Int32)]) hm11 ⟨⟨_, _, rfl⟩, rfl⟩ rfl rfl rfl ?_
      refine w_iload_n (q := 46) hm11 ⟨⟨_, _, rfl⟩, rfl⟩ rfl ?_
      refine w_bipush (q := 48) hm11 ⟨⟨_, _, rfl⟩, rfl⟩ bipush_43 ?_
      refine w_icmp_ne (q := 51) (X := x2.toInt) (Y := 43) hm11 ⟨⟨_, _, rfl⟩, rfl⟩ rfl (by decide) (fun hc => ?_) (fun hc => ?_)
      · have h := h.1 hc
        exact Wp.wk [true, true, true, false, true] h
      · have h := h.2 hc
        refine w_bipush (q := 53) hm11 ⟨⟨_, _, rfl⟩, rfl⟩ bipush_8 ?_
        refine w_istore (q := 55) (l' := [oR 70, oI x1, oI x2, oI x3, oI (8 : Int32)]) hm11 ⟨⟨_, _, rfl⟩, rfl⟩ rfl rfl rfl ?_
        exact Wp.wk [true, true, true, false, true] h
  · have h := h.2 hc
    refine w_iconst (q := 7) hm11 ⟨⟨_, _, rfl⟩, rfl⟩ iconst_4 ?_
    refine w_goto (q := 43) hm11 ⟨_, _, rfl⟩ ?_
    refine w_istore (q := 45) (l' := [oR 70, oI x1, oI x2, oI x3, oI (4 : Int32)]) hm11 ⟨⟨_, _, rfl⟩, rfl⟩ rfl rfl rfl ?_
    refine w_iload_n (q := 46) hm11 ⟨⟨_, _, rfl⟩, rfl⟩ rfl ?_
    refine w_bipush (q := 48) hm11 ⟨⟨_, _, rfl⟩, rfl⟩ bipush_43 ?_
    refine w_icmp_ne (q := 51) (X := x2.toInt) (Y := 43) hm11 ⟨⟨_, _, rfl⟩, rfl⟩ rfl (by decide) (fun hc => ?_) (fun hc => ?_)
    · have h := h.1 hc
      exact Wp.wk [true, true, true, false, true] h
    · have h := h.2 hc
      refine w_bipush (q := 53) hm11 ⟨⟨_, _, rfl⟩, rfl⟩ bipush_8 ?_
      refine w_istore (q := 55) (l' := [oR 70, oI x1, oI x2, oI x3, oI (8 : Int32)]) hm11 ⟨⟨_, _, rfl⟩, rfl⟩ rfl rfl rfl ?_
      exact Wp.wk [true, true, true, false, true] h
theorem v_X12_sign_70_55 {d : Nat} {x1 : Int32} {x2 : Int32} {x4 : Int32} {m : dM} {Q : Int32 → dM → Prop} (h : ((x2.toInt ≠ 45 → j_X12_sign_70_65 (d + 1) x1 x2 x4 m Q) ∧ (x2.toInt = 45 → j_X12_sign_70_65 (d + 1) x1 x2 (9 : Int32) m Q))) : j_X12_sign_70_55 (d + 1) x1 x2 x4 m Q := by
  refine w_iload_n (q := 56) hm11 ⟨⟨_, _, rfl⟩, rfl⟩ rfl ?_
  refine w_bipush (q := 58) hm11 ⟨⟨_, _, rfl⟩, rfl⟩ bipush_45 ?_
  refine w_icmp_ne (q := 61) (X := x2.toInt) (Y := 45) hm11 ⟨⟨_, _, rfl⟩, rfl⟩ rfl (by decide) (fun hc => ?_) (fun hc => ?_)
  · have h := h.1 hc
    exact h
  · have h := h.2 hc
    refine w_bipush (q := 63) hm11 ⟨⟨_, _, rfl⟩, rfl⟩ bipush_9 ?_
    refine w_istore (q := 65) (l' := [oR 70, oI x1, oI x2, none, oI (9 : Int32)]) hm11 ⟨⟨_, _, rfl⟩, rfl⟩ rfl rfl rfl ?_
    exact h
theorem v_X12_sign_70_65 {d : Nat} {x1 : Int32} {x2 : Int32} {x4 : Int32} {m : dM} {Q : Int32 → dM → Prop} (h : ((x2.toInt ≠ 42 → j_X12_sign_70_75 (d + 1) x1 x2 x4 m Q) ∧ (x2.toInt = 42 → j_X12_sign_70_75 (d + 1) x1 x2 (10 : Int32) m Q))) : j_X12_sign_70_65 (d + 1) x1 x2 x4 m Q := by
  refine w_iload_n (q := 66) hm11 ⟨⟨_, _, rfl⟩, rfl⟩ rfl ?_
  refine w_bipush (q := 68) hm11 ⟨⟨_, _, rfl⟩, rfl⟩ bipush_42 ?_
  refine w_icmp_ne (q := 71) (X := x2.toInt) (Y := 42) hm11 ⟨⟨_, _, rfl⟩, rfl⟩ rfl (by decide) (fun hc => ?_) (fun hc => ?_)
  · have h := h.1 hc
    exact h
  · have h := h.2 hc
    refine w_bipush (q := 73) hm11 ⟨⟨_, _, rfl⟩, rfl⟩ bipush_10 ?_
    refine w_istore (q := 75) (l' := [oR 70, oI x1, oI x2, none, oI (10 : Int32)]) hm11 ⟨⟨_, _, rfl⟩, rfl⟩ rfl rfl rfl ?_
    exact h
theorem v_X12_sign_70_75 {d : Nat} {x1 : Int32} {x2 : Int32} {x4 : Int32} {m : dM} {Q : Int32 → dM → Prop} (h : ((x2.toInt ≠ 47 → j_X12_sign_70_85 (d + 1) x1 x2 x4 m Q) ∧ (x2.toInt = 47 → j_X12_sign_70_85 (d + 1) x1 x2 (15 : Int32) m Q))) : j_X12_sign_70_75 (d + 1) x1 x2 x4 m Q := by
  refine w_iload_n (q := 76) hm11 ⟨⟨_, _, rfl⟩, rfl⟩ rfl ?_
  refine w_bipush (q := 78) hm11 ⟨⟨_, _, rfl⟩, rfl⟩ bipush_47 ?_
  refine w_icmp_ne (q := 81) (X := x2.toInt) (Y := 47) hm11 ⟨⟨_, _, rfl⟩, rfl⟩ rfl (by decide) (fun hc => ?_) (fun hc => ?_)
  · have h := h.1 hc
    exact h
  · have h := h.2 hc
    refine w_bipush (q := 83) hm11 ⟨⟨_, _, rfl⟩, rfl⟩ bipush_15 ?_
    refine w_istore (q := 85) (l' := [oR 70, oI x1, oI x2, none, oI (15 : Int32)]) hm11 ⟨⟨_, _, rfl⟩, rfl⟩ rfl rfl rfl ?_
    exact h
theorem v_X12_sign_70_85 {d : Nat} {x1 : Int32} {x2 : Int32} {x4 : Int32} {m : dM} {Q : Int32 → dM → Prop} (h : ((x2.toInt ≠ 60 → j_X12_sign_70_95 (d + 1) x1 x4 m Q) ∧ (x2.toInt = 60 → j_X12_sign_70_95 (d + 1) x1 (13 : Int32) m Q))) : j_X12_sign_70_85 (d + 1) x1 x2 x4 m Q := by
  refine w_iload_n (q := 86) hm11 ⟨⟨_, _, rfl⟩, rfl⟩ rfl ?_
  refine w_bipush (q := 88) hm11 ⟨⟨_, _, rfl⟩, rfl⟩ bipush_60 ?_
  refine w_icmp_ne (q := 91) (X := x2.toInt) (Y := 60) hm11 ⟨⟨_, _, rfl⟩, rfl⟩ rfl (by decide) (fun hc => ?_) (fun hc => ?_)
  · have h := h.1 hc
    exact Wp.wk [true, true, false, false, true] h
  · have h := h.2 hc
    refine w_bipush (q := 93) hm11 ⟨⟨_, _, rfl⟩, rfl⟩ bipush_13 ?_
    refine w_istore (q := 95) (l' := [oR 70, oI x1, oI x2, none, oI (13 : Int32)]) hm11 ⟨⟨_, _, rfl⟩, rfl⟩ rfl rfl rfl ?_
    exact Wp.wk [true, true, false, false, true] h
theorem v_X12_sign_70_95 {d : Nat} {x1 : Int32} {x4 : Int32} {m : dM} {Q : Int32 → dM → Prop} (h : c_X12_token_70 d x4 x1 (0 : Int32) (0 : Int64) m (fun m1 => Q (1 : Int32) m1)) : j_X12_sign_70_95 (d + 1) x1 x4 m Q := by
  refine w_aload_n (q := 96) hm11 ⟨⟨_, _, rfl⟩, rfl⟩ rfl ?_
  refine w_iload (q := 98) hm11 ⟨⟨_, _, rfl⟩, rfl⟩ rfl ?_
  refine w_iload_n (q := 99) hm11 ⟨⟨_, _, rfl⟩, rfl⟩ rfl ?_
  refine w_iconst (q := 100) hm11 ⟨⟨_, _, rfl⟩, rfl⟩ iconst_0 ?_
  refine w_lconst (q := 101) hm11 ⟨⟨_, _, rfl⟩, rfl⟩ lconst_0 ?_
  refine w_call (q := 104) (n := 0) (vs := [.inr (.inr (some 70)), .inl x4, .inl x1, .inl (0 : Int32), .inr (.inl (0 : Int64))]) (rest := []) (la := [oR 70, oI x4, oI x1, oI (0 : Int32), oL (0 : Int64), none]) hm11 ⟨⟨_, _, rfl⟩, rfl⟩ rfl rfl rfl rfl hm9 rfl rfl (fun _ => ⟨_, _, rfl, rfl⟩) rfl (Wp.mono h ?_)
  rintro _ m1 ⟨rfl, h⟩
  change Wp _ _ 104 _ [] _ _
  refine w_iconst (q := 105) hm11 ⟨⟨_, _, rfl⟩, rfl⟩ iconst_1 ?_
  exact w_reti hm11 ⟨⟨_, _, rfl⟩, rfl⟩ rfl h
theorem v_X12_appends {d : Nat} {y0 : Int64} {x2 : Int32} {m : dM} {Q : Int64 → dM → Prop} (h : ((x2.toInt ≠ 0 → Q (((27 : Int64) * y0) + ((x2 - (97 : Int32)) + (1 : Int32)).toInt64) m) ∧ (x2.toInt = 0 → Q y0 m))) : c_X12_appends (d + 1) y0 x2 m Q := by
  refine w_iload_n (q := 1) hm7 ⟨⟨_, _, rfl⟩, rfl⟩ rfl ?_
  refine w_if_ne (q := 4) (X := x2.toInt) hm7 ⟨⟨_, _, rfl⟩, rfl⟩ rfl (fun hc => ?_) (fun hc => ?_)
  · have h := h.1 hc
    refine w_ldc2_w (q := 11) hm7 ⟨⟨_, _, rfl⟩, rfl⟩ ldc2_27 ?_
    refine w_lload_n (q := 12) hm7 ⟨⟨_, _, rfl⟩, rfl⟩ rfl ?_
    refine w_lmul (q := 13) hm7 ⟨⟨_, _, rfl⟩, rfl⟩ ?_
    refine w_iload_n (q := 14) hm7 ⟨⟨_, _, rfl⟩, rfl⟩ rfl ?_
    refine w_bipush (q := 16) hm7 ⟨⟨_, _, rfl⟩, rfl⟩ bipush_97 ?_
    refine w_isub (q := 17) hm7 ⟨⟨_, _, rfl⟩, rfl⟩ ?_
    refine w_iconst (q := 18) hm7 ⟨⟨_, _, rfl⟩, rfl⟩ iconst_1 ?_
    refine w_iadd (q := 19) hm7 ⟨⟨_, _, rfl⟩, rfl⟩ ?_
    refine w_i2l (q := 20) hm7 ⟨⟨_, _, rfl⟩, rfl⟩ ?_
    refine w_ladd (q := 21) hm7 ⟨⟨_, _, rfl⟩, rfl⟩ ?_
    exact w_retl hm7 ⟨⟨_, _, rfl⟩, rfl⟩ rfl h
  · have h := h.2 hc
    refine w_lload_n (q := 5) hm7 ⟨⟨_, _, rfl⟩, rfl⟩ rfl ?_
    refine w_goto (q := 21) hm7 ⟨_, _, rfl⟩ ?_
    exact w_retl hm7 ⟨⟨_, _, rfl⟩, rfl⟩ rfl h
theorem v_X12_cutsUp_70 {d : Nat} {m : dM} {Q : dM → Prop} (h : j_X12_cutsUp_70_7 (d + 1) (0 : Int32) (dSet m 70 10 (0 : Int32)) Q) : c_X12_cutsUp_70 (d + 1) m Q := by
  refine w_aload_n (q := 1) hm10 ⟨⟨_, _, rfl⟩, rfl⟩ rfl ?_
  refine w_iconst (q := 2) hm10 ⟨⟨_, _, rfl⟩, rfl⟩ iconst_0 ?_
  refine w_putf (q := 5) hm10 ⟨⟨_, _, rfl⟩, rfl⟩ rfl rfl rfl ?_
  refine w_iconst (q := 6) hm10 ⟨⟨_, _, rfl⟩, rfl⟩ iconst_0 ?_
  refine w_istore_n (q := 7) (l' := [oR 70, oI (0 : Int32), none, none, none, none, none, none]) hm10 ⟨⟨_, _, rfl⟩, rfl⟩ rfl rfl rfl ?_
  exact h
theorem v_X12_cutsUp_70_7 {d : Nat} {x1 : Int32} {m : dM} {Q : dM → Prop} (h : ((400 < (m.1 70 10).toInt → Q m) ∧ ((m.1 70 10).toInt ≤ 400 → c_X12_byteAt_70 d x1 m (fun r1 m1 => ((x1.toInt < (m1.1 70 4).toInt → ((r1.toInt = 9 → j_X12_cutsUp_70_67 (d + 1) x1 m1 Q) ∧ (r1.toInt ≠ 9 → ((r1.toInt = 10 → j_X12_cutsUp_70_67 (d + 1) x1 m1 Q) ∧ (r1.toInt ≠ 10 → ((r1.toInt = 13 → j_X12_cutsUp_70_67 (d + 1) x1 m1 Q) ∧ (r1.toInt ≠ 13 → ((r1.toInt ≠ 32 → c_X12_isLetter d r1 m1 (fun r2 m2 => ((r2.toInt = 0 → c_X12_isDigit d r1 m2 (fun r3 m3 => ((r3.toInt = 0 → c_X12_byteAt_70 d (x1 + (1 : Int32)) m3 (fun r4 m4 => c_X12_sign_70 d x1 r1 r4 m4 (fun r5 m5 => j_X12_cutsUp_70_291 (d + 1) (x1 + r5) m5 Q))) ∧ (r3.toInt ≠ 0 → j_X12_cutsUp_70_208 (d + 1) x1 (0 : Int32) (0 : Int32) m3 Q)))) ∧ (r2.toInt ≠ 0 → j_X12_cutsUp_70_85 (d + 1) x1 (0 : Int32) (0 : Int64) m2 Q)))) ∧ (r1.toInt = 32 → j_X12_cutsUp_70_67 (d + 1) x1 m1 Q))))))))) ∧ ((m1.1 70 4).toInt ≤ x1.toInt → c_X12_token_70 d (0 : Int32) (m1.1 70 4) (0 : Int32) (0 : Int64) m1 (fun m6 => Q m6))))))) : j_X12_cutsUp_70_7 (d + 1) x1 m Q := by
  refine w_aload_n (q := 8) hm10 ⟨⟨_, _, rfl⟩, rfl⟩ rfl ?_
  refine w_getf (q := 11) (v := (m.1 70 10)) hm10 ⟨⟨_, _, rfl⟩, rfl⟩ rfl rfl ?_
  refine w_sipush (q := 14) hm10 ⟨⟨_, _, rfl⟩, rfl⟩ sipush_400 ?_
  refine w_icmp_gt (q := 17) (X := (m.1 70 10).toInt) (Y := 400) hm10 ⟨⟨_, _, rfl⟩, rfl⟩ rfl (by decide) (fun hc => ?_) (fun hc => ?_)
  · have h := h.1 hc
    exact w_retv hm10 ⟨⟨_, _, rfl⟩, rfl⟩ rfl h
  · have h := h.2 hc
    refine w_aload_n (q := 18) hm10 ⟨⟨_, _, rfl⟩, rfl⟩ rfl ?_
    refine w_iload_n (q := 19) hm10 ⟨⟨_, _, rfl⟩, rfl⟩ rfl ?_
    refine w_call (q := 22) (n := 0) (vs := [.inr (.inr (some 70)), .inl x1]) (rest := []) (la := [oR 70, oI x1]) hm10 ⟨⟨_, _, rfl⟩, rfl⟩ rfl rfl rfl rfl hm4 rfl rfl (fun _ => ⟨_, _, rfl, rfl⟩) rfl (Wp.mono h ?_)
    rintro _ m1 ⟨r1, rfl, h⟩
    change Wp _ _ 22 _ [.inl r1] _ _
    refine w_istore_n (q := 23) (l' := [oR 70, oI x1, oI r1, none, none, none, none, none]) hm10 ⟨⟨_, _, rfl⟩, rfl⟩ rfl rfl rfl ?_
    refine w_iload_n (q := 24) hm10 ⟨⟨_, _, rfl⟩, rfl⟩ rfl ?_
    refine w_aload_n (q := 25) hm10 ⟨⟨_, _, rfl⟩, rfl⟩ rfl ?_
    refine w_getf (q := 28) (v := (m1.1 70 4)) hm10 ⟨⟨_, _, rfl⟩, rfl⟩ rfl rfl ?_
    refine w_icmp_lt (q := 31) (X := x1.toInt) (Y := (m1.1 70 4).toInt) hm10 ⟨⟨_, _, rfl⟩, rfl⟩ rfl rfl (fun hc => ?_) (fun hc => ?_)
    · have h := h.1 hc
      refine w_iload_n (q := 44) hm10 ⟨⟨_, _, rfl⟩, rfl⟩ rfl ?_
      refine w_bipush (q := 46) hm10 ⟨⟨_, _, rfl⟩, rfl⟩ bipush_9 ?_
      refine w_icmp_eq (q := 49) (X := r1.toInt) (Y := 9) hm10 ⟨⟨_, _, rfl⟩, rfl⟩ rfl (by decide) (fun hc => ?_) (fun hc => ?_)
      · have h := h.1 hc
        exact Wp.wk [true, true, false, false, false, false, false, false] h
      · have h := h.2 hc
        refine w_iload_n (q := 50) hm10 ⟨⟨_, _, rfl⟩, rfl⟩ rfl ?_
        refine w_bipush (q := 52) hm10 ⟨⟨_, _, rfl⟩, rfl⟩ bipush_10 ?_
        refine w_icmp_eq (q := 55) (X := r1.toInt) (Y := 10) hm10 ⟨⟨_, _, rfl⟩, rfl⟩ rfl (by decide) (fun hc => ?_) (fun hc => ?_)
        · have h := h.1 hc
          exact Wp.wk [true, true, false, false, false, false, false, false] h
        · have h := h.2 hc
          refine w_iload_n (q := 56) hm10 ⟨⟨_, _, rfl⟩, rfl⟩ rfl ?_
          refine w_bipush (q := 58) hm10 ⟨⟨_, _, rfl⟩, rfl⟩ bipush_13 ?_
          refine w_icmp_eq (q := 61) (X := r1.toInt) (Y := 13) hm10 ⟨⟨_, _, rfl⟩, rfl⟩ rfl (by decide) (fun hc => ?_) (fun hc => ?_)
          · have h := h.1 hc
            exact Wp.wk [true, true, false, false, false, false, false, false] h
          · have h := h.2 hc
            refine w_iload_n (q := 62) hm10 ⟨⟨_, _, rfl⟩, rfl⟩ rfl ?_
            refine w_bipush (q := 64) hm10 ⟨⟨_, _, rfl⟩, rfl⟩ bipush_32 ?_
            refine w_icmp_ne (q := 67) (X := r1.toInt) (Y := 32) hm10 ⟨⟨_, _, rfl⟩, rfl⟩ rfl (by decide) (fun hc => ?_) (fun hc => ?_)
            · have h := h.1 hc
              refine w_iload_n (q := 74) hm10 ⟨⟨_, _, rfl⟩, rfl⟩ rfl ?_
              refine w_call (q := 77) (n := 0) (vs := [.inl r1]) (rest := []) (la := [oI r1]) hm10 ⟨⟨_, _, rfl⟩, rfl⟩ rfl rfl rfl rfl hm6 rfl rfl (fun hz => absurd hz (by decide)) rfl (Wp.mono h ?_)
              rintro _ m2 ⟨r2, rfl, h⟩
              change Wp _ _ 77 _ [.inl r2] _ _
              refine w_if_eq (q := 80) (X := r2.toInt) hm10 ⟨⟨_, _, rfl⟩, rfl⟩ rfl (fun hc => ?_) (fun hc => ?_)
              · have h := h.1 hc
                refine w_iload_n (q := 197) hm10 ⟨⟨_, _, rfl⟩, rfl⟩ rfl ?_
                refine w_call (q := 200) (n := 0) (vs := [.inl r1]) (rest := []) (la := [oI r1]) hm10 ⟨⟨_, _, rfl⟩, rfl⟩ rfl rfl rfl rfl hm5 rfl rfl (fun hz => absurd hz (by decide)) rfl (Wp.mono h ?_)
                rintro _ m3 ⟨r3, rfl, h⟩
                change Wp _ _ 200 _ [.inl r3] _ _
                refine w_if_eq (q := 203) (X := r3.toInt) hm10 ⟨⟨_, _, rfl⟩, rfl⟩ rfl (fun hc => ?_) (fun hc => ?_)
                · have h := h.1 hc
                  refine w_iload_n (q := 276) hm10 ⟨⟨_, _, rfl⟩, rfl⟩ rfl ?_
                  refine w_aload_n (q := 277) hm10 ⟨⟨_, _, rfl⟩, rfl⟩ rfl ?_
                  refine w_iload_n (q := 278) hm10 ⟨⟨_, _, rfl⟩, rfl⟩ rfl ?_
                  refine w_iload_n (q := 279) hm10 ⟨⟨_, _, rfl⟩, rfl⟩ rfl ?_
                  refine w_aload_n (q := 280) hm10 ⟨⟨_, _, rfl⟩, rfl⟩ rfl ?_
                  refine w_iload_n (q := 281) hm10 ⟨⟨_, _, rfl⟩, rfl⟩ rfl ?_
                  refine w_iconst (q := 282) hm10 ⟨⟨_, _, rfl⟩, rfl⟩ iconst_1 ?_
                  refine w_iadd (q := 283) hm10 ⟨⟨_, _, rfl⟩, rfl⟩ ?_
                  refine w_call (q := 286) (n := 0) (vs := [.inr (.inr (some 70)), .inl (x1 + (1 : Int32))]) (rest := [.inl r1, .inl x1, .inr (.inr (some 70)), .inl x1]) (la := [oR 70, oI (x1 + (1 : Int32))]) hm10 ⟨⟨_, _, rfl⟩, rfl⟩ rfl rfl rfl rfl hm4 rfl rfl (fun _ => ⟨_, _, rfl, rfl⟩) rfl (Wp.mono h ?_)
                  rintro _ m4 ⟨r4, rfl, h⟩
                  change Wp _ _ 286 _ [.inl r4, .inl r1, .inl x1, .inr (.inr (some 70)), .inl x1] _ _
                  refine w_call (q := 289) (n := 1) (vs := [.inr (.inr (some 70)), .inl x1, .inl r1, .inl r4]) (rest := [.inl x1]) (la := [oR 70, oI x1, oI r1, oI r4, none]) hm10 ⟨⟨_, _, rfl⟩, rfl⟩ rfl rfl rfl rfl hm11 rfl rfl (fun _ => ⟨_, _, rfl, rfl⟩) rfl (Wp.mono h ?_)
                  rintro _ m5 ⟨r5, rfl, h⟩
                  change Wp _ _ 289 _ [.inl r5, .inl x1] _ _
                  refine w_iadd (q := 290) hm10 ⟨⟨_, _, rfl⟩, rfl⟩ ?_
                  refine w_istore_n (q := 291) (l' := [oR 70, oI (x1 + r5), oI r1, none, none, none, none, none]) hm10 ⟨⟨_, _, rfl⟩, rfl⟩ rfl rfl rfl ?_
                  exact Wp.wk [true, true, false, false, false, false, false, false] h
                · have h := h.2 hc
                  refine w_iconst (q := 204) hm10 ⟨⟨_, _, rfl⟩, rfl⟩ iconst_0 ?_
                  refine w_istore_n (q := 205) (l' := [oR 70, oI x1, oI r1, oI (0 : Int32), none, none, none, none]) hm10 ⟨⟨_, _, rfl⟩, rfl⟩ rfl rfl rfl ?_
                  refine w_iconst (q := 206) hm10 ⟨⟨_, _, rfl⟩, rfl⟩ iconst_0 ?_
                  refine w_istore (q := 208) (l' := [oR 70, oI x1, oI r1, oI (0 : Int32), oI (0 : Int32), none, none, none]) hm10 ⟨⟨_, _, rfl⟩, rfl⟩ rfl rfl rfl ?_
                  exact Wp.wk [true, true, false, true, true, false, false, false] h
              · have h := h.2 hc
                refine w_iconst (q := 81) hm10 ⟨⟨_, _, rfl⟩, rfl⟩ iconst_0 ?_
                refine w_istore_n (q := 82) (l' := [oR 70, oI x1, oI r1, oI (0 : Int32), none, none, none, none]) hm10 ⟨⟨_, _, rfl⟩, rfl⟩ rfl rfl rfl ?_
                refine w_lconst (q := 83) hm10 ⟨⟨_, _, rfl⟩, rfl⟩ lconst_0 ?_
                refine w_lstore (q := 85) (l' := [oR 70, oI x1, oI r1, oI (0 : Int32), oL (0 : Int64), none, none, none]) hm10 ⟨⟨_, _, rfl⟩, rfl⟩ rfl rfl rfl ?_
                exact Wp.wk [true, true, false, true, true, false, false, false] h
            · have h := h.2 hc
              exact Wp.wk [true, true, false, false, false, false, false, false] h
    · have h := h.2 hc
      refine w_aload_n (q := 32) hm10 ⟨⟨_, _, rfl⟩, rfl⟩ rfl ?_
      refine w_iconst (q := 33) hm10 ⟨⟨_, _, rfl⟩, rfl⟩ iconst_0 ?_
      refine w_aload_n (q := 34) hm10 ⟨⟨_, _, rfl⟩, rfl⟩ rfl ?_
      refine w_getf (q := 37) (v := (m1.1 70 4)) hm10 ⟨⟨_, _, rfl⟩, rfl⟩ rfl rfl ?_
      refine w_iconst (q := 38) hm10 ⟨⟨_, _, rfl⟩, rfl⟩ iconst_0 ?_
      refine w_lconst (q := 39) hm10 ⟨⟨_, _, rfl⟩, rfl⟩ lconst_0 ?_
      refine w_call (q := 42) (n := 0) (vs := [.inr (.inr (some 70)), .inl (0 : Int32), .inl (m1.1 70 4), .inl (0 : Int32), .inr (.inl (0 : Int64))]) (rest := []) (la := [oR 70, oI (0 : Int32), oI (m1.1 70 4), oI (0 : Int32), oL (0 : Int64), none]) hm10 ⟨⟨_, _, rfl⟩, rfl⟩ rfl rfl rfl rfl hm9 rfl rfl (fun _ => ⟨_, _, rfl, rfl⟩) rfl (Wp.mono h ?_)
      rintro _ m6 ⟨rfl, h⟩
      change Wp _ _ 42 _ [] _ _
      exact w_retv hm10 ⟨⟨_, _, rfl⟩, rfl⟩ rfl h
theorem v_X12_cutsUp_70_67 {d : Nat} {x1 : Int32} {m : dM} {Q : dM → Prop} (h : j_X12_cutsUp_70_291 (d + 1) (x1 + (1 : Int32)) m Q) : j_X12_cutsUp_70_67 (d + 1) x1 m Q := by
  refine w_iinc (q := 70) (l' := [oR 70, oI (x1 + (1 : Int32)), none, none, none, none, none, none]) hm10 ⟨⟨_, _, rfl⟩, rfl⟩ rfl rfl rfl iconst_1 rfl ?_
  refine w_goto (q := 291) hm10 ⟨_, _, rfl⟩ ?_
  exact h
theorem v_X12_cutsUp_70_85 {d : Nat} {x1 : Int32} {x3 : Int32} {y4 : Int64} {m : dM} {Q : dM → Prop} (h : c_X12_byteAt_70 d (x1 + x3) m (fun r1 m1 => c_X12_isLetter d r1 m1 (fun r2 m2 => ((r2.toInt = 0 → ((x3.toInt ≤ 8 → ((8 < x3.toInt → j_X12_cutsUp_70_179 (d + 1) x1 x3 y4 (1 : Int32) m2 Q) ∧ (x3.toInt ≤ 8 → j_X12_cutsUp_70_146 (d + 1) x1 x3 y4 (1 : Int32) (0 : Int32) m2 Q))) ∧ (8 < x3.toInt → ((8 < x3.toInt → j_X12_cutsUp_70_179 (d + 1) x1 x3 y4 (3 : Int32) m2 Q) ∧ (x3.toInt ≤ 8 → j_X12_cutsUp_70_146 (d + 1) x1 x3 y4 (3 : Int32) (0 : Int32) m2 Q))))) ∧ (r2.toInt ≠ 0 → ((8 ≤ x3.toInt → j_X12_cutsUp_70_118 (d + 1) x1 x3 y4 m2 Q) ∧ (x3.toInt < 8 → c_X12_byteAt_70 d (x1 + x3) m2 (fun r3 m3 => c_X12_appends d y4 r3 m3 (fun r4 m4 => j_X12_cutsUp_70_118 (d + 1) x1 x3 r4 m4 Q))))))))) : j_X12_cutsUp_70_85 (d + 1) x1 x3 y4 m Q := by
  refine w_aload_n (q := 86) hm10 ⟨⟨_, _, rfl⟩, rfl⟩ rfl ?_
  refine w_iload_n (q := 87) hm10 ⟨⟨_, _, rfl⟩, rfl⟩ rfl ?_
  refine w_iload_n (q := 88) hm10 ⟨⟨_, _, rfl⟩, rfl⟩ rfl ?_
  refine w_iadd (q := 89) hm10 ⟨⟨_, _, rfl⟩, rfl⟩ ?_
  refine w_call (q := 92) (n := 0) (vs := [.inr (.inr (some 70)), .inl (x1 + x3)]) (rest := []) (la := [oR 70, oI (x1 + x3)]) hm10 ⟨⟨_, _, rfl⟩, rfl⟩ rfl rfl rfl rfl hm4 rfl rfl (fun _ => ⟨_, _, rfl, rfl⟩) rfl (Wp.mono h ?_)
  rintro _ m1 ⟨r1, rfl, h⟩
  change Wp _ _ 92 _ [.inl r1] _ _
  refine w_call (q := 95) (n := 0) (vs := [.inl r1]) (rest := []) (la := [oI r1]) hm10 ⟨⟨_, _, rfl⟩, rfl⟩ rfl rfl rfl rfl hm6 rfl rfl (fun hz => absurd hz (by decide)) rfl (Wp.mono h ?_)
  rintro _ m2 ⟨r2, rfl, h⟩
  change Wp _ _ 95 _ [.inl r2] _ _
  refine w_if_eq (q := 98) (X := r2.toInt) hm10 ⟨⟨_, _, rfl⟩, rfl⟩ rfl (fun hc => ?_) (fun hc => ?_)
  · have h := h.1 hc
    refine w_iload_n (q := 125) hm10 ⟨⟨_, _, rfl⟩, rfl⟩ rfl ?_
    refine w_bipush (q := 127) hm10 ⟨⟨_, _, rfl⟩, rfl⟩ bipush_8 ?_
    refine w_icmp_le (q := 130) (X := x3.toInt) (Y := 8) hm10 ⟨⟨_, _, rfl⟩, rfl⟩ rfl (by decide) (fun hc => ?_) (fun hc => ?_)
    · have h := h.1 hc
      refine w_iconst (q := 135) hm10 ⟨⟨_, _, rfl⟩, rfl⟩ iconst_1 ?_
      refine w_istore (q := 137) (l' := [oR 70, oI x1, none, oI x3, oL y4, none, oI (1 : Int32), none]) hm10 ⟨⟨_, _, rfl⟩, rfl⟩ rfl rfl rfl ?_
      refine w_iload_n (q := 138) hm10 ⟨⟨_, _, rfl⟩, rfl⟩ rfl ?_
      refine w_bipush (q := 140) hm10 ⟨⟨_, _, rfl⟩, rfl⟩ bipush_8 ?_
      refine w_icmp_gt (q := 143) (X := x3.toInt) (Y := 8) hm10 ⟨⟨_, _, rfl⟩, rfl⟩ rfl (by decide) (fun hc => ?_) (fun hc => ?_)
      · have h := h.1 hc
        exact h
      · have h := h.2 hc
        refine w_iconst (q := 144) hm10 ⟨⟨_, _, rfl⟩, rfl⟩ iconst_0 ?_
        refine w_istore (q := 146) (l' := [oR 70, oI x1, none, oI x3, oL y4, none, oI (1 : Int32), oI (0 : Int32)]) hm10 ⟨⟨_, _, rfl⟩, rfl⟩ rfl rfl rfl ?_
        exact h
    · have h := h.2 hc
      refine w_iconst (q := 131) hm10 ⟨⟨_, _, rfl⟩, rfl⟩ iconst_3 ?_
      refine w_goto (q := 135) hm10 ⟨_, _, rfl⟩ ?_
      refine w_istore (q := 137) (l' := [oR 70, oI x1, none, oI x3, oL y4, none, oI (3 : Int32), none]) hm10 ⟨⟨_, _, rfl⟩, rfl⟩ rfl rfl rfl ?_
      refine w_iload_n (q := 138) hm10 ⟨⟨_, _, rfl⟩, rfl⟩ rfl ?_
      refine w_bipush (q := 140) hm10 ⟨⟨_, _, rfl⟩, rfl⟩ bipush_8 ?_
      refine w_icmp_gt (q := 143) (X := x3.toInt) (Y := 8) hm10 ⟨⟨_, _, rfl⟩, rfl⟩ rfl (by decide) (fun hc => ?_) (fun hc => ?_)
      · have h := h.1 hc
        exact h
      · have h := h.2 hc
        refine w_iconst (q := 144) hm10 ⟨⟨_, _, rfl⟩, rfl⟩ iconst_0 ?_
        refine w_istore (q := 146) (l' := [oR 70, oI x1, none, oI x3, oL y4, none, oI (3 : Int32), oI (0 : Int32)]) hm10 ⟨⟨_, _, rfl⟩, rfl⟩ rfl rfl rfl ?_
        exact h
  · have h := h.2 hc
    refine w_iload_n (q := 99) hm10 ⟨⟨_, _, rfl⟩, rfl⟩ rfl ?_
    refine w_bipush (q := 101) hm10 ⟨⟨_, _, rfl⟩, rfl⟩ bipush_8 ?_
    refine w_icmp_ge (q := 104) (X := x3.toInt) (Y := 8) hm10 ⟨⟨_, _, rfl⟩, rfl⟩ rfl (by decide) (fun hc => ?_) (fun hc => ?_)
    · have h := h.1 hc
      exact h
    · have h := h.2 hc
      refine w_lload (q := 106) hm10 ⟨⟨_, _, rfl⟩, rfl⟩ rfl ?_
      refine w_aload_n (q := 107) hm10 ⟨⟨_, _, rfl⟩, rfl⟩ rfl ?_
      refine w_iload_n (q := 108) hm10 ⟨⟨_, _, rfl⟩, rfl⟩ rfl ?_
      refine w_iload_n (q := 109) hm10 ⟨⟨_, _, rfl⟩, rfl⟩ rfl ?_
      refine w_iadd (q := 110) hm10 ⟨⟨_, _, rfl⟩, rfl⟩ ?_
      refine w_call (q := 113) (n := 0) (vs := [.inr (.inr (some 70)), .inl (x1 + x3)]) (rest := [.inr (.inl y4)]) (la := [oR 70, oI (x1 + x3)]) hm10 ⟨⟨_, _, rfl⟩, rfl⟩ rfl rfl rfl rfl hm4 rfl rfl (fun _ => ⟨_, _, rfl, rfl⟩) rfl (Wp.mono h ?_)
      rintro _ m3 ⟨r3, rfl, h⟩
      change Wp _ _ 113 _ [.inl r3, .inr (.inl y4)] _ _
      refine w_call (q := 116) (n := 0) (vs := [.inr (.inl y4), .inl r3]) (rest := []) (la := [oL y4, none, oI r3]) hm10 ⟨⟨_, _, rfl⟩, rfl⟩ rfl rfl rfl rfl hm7 rfl rfl (fun hz => absurd hz (by decide)) rfl (Wp.mono h ?_)
      rintro _ m4 ⟨r4, rfl, h⟩
      change Wp _ _ 116 _ [.inr (.inl r4)] _ _
      refine w_lstore (q := 118) (l' := [oR 70, oI x1, none, oI x3, oL r4, none, none, none]) hm10 ⟨⟨_, _, rfl⟩, rfl⟩ rfl rfl rfl ?_
      exact h
theorem v_X12_cutsUp_70_118 {d : Nat} {x1 : Int32} {x3 : Int32} {y4 : Int64} {m : dM} {Q : dM → Prop} (h : j_X12_cutsUp_70_85 (d + 1) x1 (x3 + (1 : Int32)) y4 m Q) : j_X12_cutsUp_70_118 (d + 1) x1 x3 y4 m Q := by
  refine w_iinc (q := 121) (l' := [oR 70, oI x1, none, oI (x3 + (1 : Int32)), oL y4, none, none, none]) hm10 ⟨⟨_, _, rfl⟩, rfl⟩ rfl rfl rfl iconst_1 rfl ?_
  refine w_goto (q := 85) hm10 ⟨_, _, rfl⟩ ?_
  exact h
theorem v_X12_cutsUp_70_146 {d : Nat} {x1 : Int32} {x3 : Int32} {y4 : Int64} {x6 : Int32} {x7 : Int32} {m : dM} {Q : dM → Prop} (h : ((22 ≤ x7.toInt → j_X12_cutsUp_70_179 (d + 1) x1 x3 y4 x6 m Q) ∧ (x7.toInt < 22 → ((0 ≤ x7.toInt ∧ x7.toInt < 22) ∧ (((lg_cmp (tKv x7.toNatClampNeg) y4).toInt ≠ 0 → j_X12_cutsUp_70_173 (d + 1) x1 x3 y4 x6 x7 m Q) ∧ ((lg_cmp (tKv x7.toNatClampNeg) y4).toInt = 0 → j_X12_cutsUp_70_173 (d + 1) x1 x3 y4 ((20 : Int32) + x7) x7 m Q)))))) : j_X12_cutsUp_70_146 (d + 1) x1 x3 y4 x6 x7 m Q := by
  refine w_iload (q := 148) hm10 ⟨⟨_, _, rfl⟩, rfl⟩ rfl ?_
  refine w_bipush (q := 150) hm10 ⟨⟨_, _, rfl⟩, rfl⟩ bipush_22 ?_
  refine w_icmp_ge (q := 153) (X := x7.toInt) (Y := 22) hm10 ⟨⟨_, _, rfl⟩, rfl⟩ rfl (by decide) (fun hc => ?_) (fun hc => ?_)
  · have h := h.1 hc
    exact Wp.wk [true, true, false, true, true, false, true, false] h
  · have h := h.2 hc
    refine w_aload_n (q := 154) hm10 ⟨⟨_, _, rfl⟩, rfl⟩ rfl ?_
    refine w_getr (q := 157) hm10 ⟨⟨_, _, rfl⟩, rfl⟩ rfl ?_
    refine w_iload (q := 159) hm10 ⟨⟨_, _, rfl⟩, rfl⟩ rfl ?_
    obtain ⟨hi, h⟩ := h
    refine w_lald (q := 160) (v := (tKv x7.toNatClampNeg)) hm10 ⟨⟨_, _, rfl⟩, rfl⟩ rfl hi rfl rfl ?_
    refine w_lload (q := 162) hm10 ⟨⟨_, _, rfl⟩, rfl⟩ rfl ?_
    refine w_lcmp (q := 163) hm10 ⟨⟨_, _, rfl⟩, rfl⟩ ?_
    refine w_if_ne (q := 166) (X := (lg_cmp (tKv x7.toNatClampNeg) y4).toInt) hm10 ⟨⟨_, _, rfl⟩, rfl⟩ rfl (fun hc => ?_) (fun hc => ?_)
    · have h := h.1 hc
      exact h
    · have h := h.2 hc
      refine w_bipush (q := 168) hm10 ⟨⟨_, _, rfl⟩, rfl⟩ bipush_20 ?_
      refine w_iload (q := 170) hm10 ⟨⟨_, _, rfl⟩, rfl⟩ rfl ?_
      refine w_iadd (q := 171) hm10 ⟨⟨_, _, rfl⟩, rfl⟩ ?_
      refine w_istore (q := 173) (l' := [oR 70, oI x1, none, oI x3, oL y4, none, oI ((20 : Int32) + x7), oI x7]) hm10 ⟨⟨_, _, rfl⟩, rfl⟩ rfl rfl rfl ?_
      exact h
theorem v_X12_cutsUp_70_173 {d : Nat} {x1 : Int32} {x3 : Int32} {y4 : Int64} {x6 : Int32} {x7 : Int32} {m : dM} {Q : dM → Prop} (h : j_X12_cutsUp_70_146 (d + 1) x1 x3 y4 x6 (x7 + (1 : Int32)) m Q) : j_X12_cutsUp_70_173 (d + 1) x1 x3 y4 x6 x7 m Q := by
  refine w_iinc (q := 176) (l' := [oR 70, oI x1, none, oI x3, oL y4, none, oI x6, oI (x7 + (1 : Int32))]) hm10 ⟨⟨_, _, rfl⟩, rfl⟩ rfl rfl rfl iconst_1 rfl ?_
  refine w_goto (q := 146) hm10 ⟨_, _, rfl⟩ ?_
  exact h
theorem v_X12_cutsUp_70_179 {d : Nat} {x1 : Int32} {x3 : Int32} {y4 : Int64} {x6 : Int32} {m : dM} {Q : dM → Prop} (h : c_X12_token_70 d x6 x1 (0 : Int32) y4 m (fun m1 => j_X12_cutsUp_70_291 (d + 1) (x1 + x3) m1 Q)) : j_X12_cutsUp_70_179 (d + 1) x1 x3 y4 x6 m Q := by
  refine w_aload_n (q := 180) hm10 ⟨⟨_, _, rfl⟩, rfl⟩ rfl ?_
  refine w_iload (q := 182) hm10 ⟨⟨_, _, rfl⟩, rfl⟩ rfl ?_
  refine w_iload_n (q := 183) hm10 ⟨⟨_, _, rfl⟩, rfl⟩ rfl ?_
  refine w_iconst (q := 184) hm10 ⟨⟨_, _, rfl⟩, rfl⟩ iconst_0 ?_
  refine w_lload (q := 186) hm10 ⟨⟨_, _, rfl⟩, rfl⟩ rfl ?_
  refine w_call (q := 189) (n := 0) (vs := [.inr (.inr (some 70)), .inl x6, .inl x1, .inl (0 : Int32), .inr (.inl y4)]) (rest := []) (la := [oR 70, oI x6, oI x1, oI (0 : Int32), oL y4, none]) hm10 ⟨⟨_, _, rfl⟩, rfl⟩ rfl rfl rfl rfl hm9 rfl rfl (fun _ => ⟨_, _, rfl, rfl⟩) rfl (Wp.mono h ?_)
  rintro _ m1 ⟨rfl, h⟩
  change Wp _ _ 189 _ [] _ _
  refine w_iload_n (q := 190) hm10 ⟨⟨_, _, rfl⟩, rfl⟩ rfl ?_
  refine w_iload_n (q := 191) hm10 ⟨⟨_, _, rfl⟩, rfl⟩ rfl ?_
  refine w_iadd (q := 192) hm10 ⟨⟨_, _, rfl⟩, rfl⟩ ?_
  refine w_istore_n (q := 193) (l' := [oR 70, oI (x1 + x3), none, oI x3, oL y4, none, oI x6, none]) hm10 ⟨⟨_, _, rfl⟩, rfl⟩ rfl rfl rfl ?_
  refine w_goto (q := 291) hm10 ⟨_, _, rfl⟩ ?_
  exact Wp.wk [true, true, false, false, false, false, false, false] h
theorem v_X12_cutsUp_70_208 {d : Nat} {x1 : Int32} {x3 : Int32} {x4 : Int32} {m : dM} {Q : dM → Prop} (h : c_X12_byteAt_70 d (x1 + x3) m (fun r1 m1 => c_X12_isDigit d r1 m1 (fun r2 m2 => ((r2.toInt = 0 → ((x3.toInt ≤ 4 → c_X12_token_70 d (2 : Int32) x1 x4 (0 : Int64) m2 (fun m3 => j_X12_cutsUp_70_291 (d + 1) (x1 + x3) m3 Q)) ∧ (4 < x3.toInt → c_X12_token_70 d (3 : Int32) x1 x4 (0 : Int64) m2 (fun m4 => j_X12_cutsUp_70_291 (d + 1) (x1 + x3) m4 Q)))) ∧ (r2.toInt ≠ 0 → ((4 ≤ x3.toInt → j_X12_cutsUp_70_244 (d + 1) x1 x3 x4 m2 Q) ∧ (x3.toInt < 4 → c_X12_byteAt_70 d (x1 + x3) m2 (fun r5 m5 => j_X12_cutsUp_70_244 (d + 1) x1 x3 ((((10 : Int32) * x4) + r5) - (48 : Int32)) m5 Q)))))))) : j_X12_cutsUp_70_208 (d + 1) x1 x3 x4 m Q := by
  refine w_aload_n (q := 209) hm10 ⟨⟨_, _, rfl⟩, rfl⟩ rfl ?_
  refine w_iload_n (q := 210) hm10 ⟨⟨_, _, rfl⟩, rfl⟩ rfl ?_
  refine w_iload_n (q := 211) hm10 ⟨⟨_, _, rfl⟩, rfl⟩ rfl ?_
  refine w_iadd (q := 212) hm10 ⟨⟨_, _, rfl⟩, rfl⟩ ?_
  refine w_call (q := 215) (n := 0) (vs := [.inr (.inr (some 70)), .inl (x1 + x3)]) (rest := []) (la := [oR 70, oI (x1 + x3)]) hm10 ⟨⟨_, _, rfl⟩, rfl⟩ rfl rfl rfl rfl hm4 rfl rfl (fun _ => ⟨_, _, rfl, rfl⟩) rfl (Wp.mono h ?_)
  rintro _ m1 ⟨r1, rfl, h⟩
  change Wp _ _ 215 _ [.inl r1] _ _
  refine w_call (q := 218) (n := 0) (vs := [.inl r1]) (rest := []) (la := [oI r1]) hm10 ⟨⟨_, _, rfl⟩, rfl⟩ rfl rfl rfl rfl hm5 rfl rfl (fun hz => absurd hz (by decide)) rfl (Wp.mono h ?_)
  rintro _ m2 ⟨r2, rfl, h⟩
  change Wp _ _ 218 _ [.inl r2] _ _
  refine w_if_eq (q := 221) (X := r2.toInt) hm10 ⟨⟨_, _, rfl⟩, rfl⟩ rfl (fun hc => ?_) (fun hc => ?_)
  · have h := h.1 hc
    refine w_aload_n (q := 251) hm10 ⟨⟨_, _, rfl⟩, rfl⟩ rfl ?_
    refine w_iload_n (q := 252) hm10 ⟨⟨_, _, rfl⟩, rfl⟩ rfl ?_
    refine w_iconst (q := 253) hm10 ⟨⟨_, _, rfl⟩, rfl⟩ iconst_4 ?_
    refine w_icmp_le (q := 256) (X := x3.toInt) (Y := 4) hm10 ⟨⟨_, _, rfl⟩, rfl⟩ rfl (by decide) (fun hc => ?_) (fun hc => ?_)
    · have h := h.1 hc
      refine w_iconst (q := 261) hm10 ⟨⟨_, _, rfl⟩, rfl⟩ iconst_2 ?_
      refine w_iload_n (q := 262) hm10 ⟨⟨_, _, rfl⟩, rfl⟩ rfl ?_
      refine w_iload (q := 264) hm10 ⟨⟨_, _, rfl⟩, rfl⟩ rfl ?_
      refine w_lconst (q := 265) hm10 ⟨⟨_, _, rfl⟩, rfl⟩ lconst_0 ?_
      refine w_call (q := 268) (n := 0) (vs := [.inr (.inr (some 70)), .inl (2 : Int32), .inl x1, .inl x4, .inr (.inl (0 : Int64))]) (rest := []) (la := [oR 70, oI (2 : Int32), oI x1, oI x4, oL (0 : Int64), none]) hm10 ⟨⟨_, _, rfl⟩, rfl⟩ rfl rfl rfl rfl hm9 rfl rfl (fun _ => ⟨_, _, rfl, rfl⟩) rfl (Wp.mono h ?_)
      rintro _ m3 ⟨rfl, h⟩
      change Wp _ _ 268 _ [] _ _
      refine w_iload_n (q := 269) hm10 ⟨⟨_, _, rfl⟩, rfl⟩ rfl ?_
      refine w_iload_n (q := 270) hm10 ⟨⟨_, _, rfl⟩, rfl⟩ rfl ?_
      refine w_iadd (q := 271) hm10 ⟨⟨_, _, rfl⟩, rfl⟩ ?_
      refine w_istore_n (q := 272) (l' := [oR 70, oI (x1 + x3), none, oI x3, oI x4, none, none, none]) hm10 ⟨⟨_, _, rfl⟩, rfl⟩ rfl rfl rfl ?_
      refine w_goto (q := 291) hm10 ⟨_, _, rfl⟩ ?_
      exact Wp.wk [true, true, false, false, false, false, false, false] h
    · have h := h.2 hc
      refine w_iconst (q := 257) hm10 ⟨⟨_, _, rfl⟩, rfl⟩ iconst_3 ?_
      refine w_goto (q := 261) hm10 ⟨_, _, rfl⟩ ?_
      refine w_iload_n (q := 262) hm10 ⟨⟨_, _, rfl⟩, rfl⟩ rfl ?_
      refine w_iload (q := 264) hm10 ⟨⟨_, _, rfl⟩, rfl⟩ rfl ?_
      refine w_lconst (q := 265) hm10 ⟨⟨_, _, rfl⟩, rfl⟩ lconst_0 ?_
      refine w_call (q := 268) (n := 0) (vs := [.inr (.inr (some 70)), .inl (3 : Int32), .inl x1, .inl x4, .inr (.inl (0 : Int64))]) (rest := []) (la := [oR 70, oI (3 : Int32), oI x1, oI x4, oL (0 : Int64), none]) hm10 ⟨⟨_, _, rfl⟩, rfl⟩ rfl rfl rfl rfl hm9 rfl rfl (fun _ => ⟨_, _, rfl, rfl⟩) rfl (Wp.mono h ?_)
      rintro _ m4 ⟨rfl, h⟩
      change Wp _ _ 268 _ [] _ _
      refine w_iload_n (q := 269) hm10 ⟨⟨_, _, rfl⟩, rfl⟩ rfl ?_
      refine w_iload_n (q := 270) hm10 ⟨⟨_, _, rfl⟩, rfl⟩ rfl ?_
      refine w_iadd (q := 271) hm10 ⟨⟨_, _, rfl⟩, rfl⟩ ?_
      refine w_istore_n (q := 272) (l' := [oR 70, oI (x1 + x3), none, oI x3, oI x4, none, none, none]) hm10 ⟨⟨_, _, rfl⟩, rfl⟩ rfl rfl rfl ?_
      refine w_goto (q := 291) hm10 ⟨_, _, rfl⟩ ?_
      exact Wp.wk [true, true, false, false, false, false, false, false] h
  · have h := h.2 hc
    refine w_iload_n (q := 222) hm10 ⟨⟨_, _, rfl⟩, rfl⟩ rfl ?_
    refine w_iconst (q := 223) hm10 ⟨⟨_, _, rfl⟩, rfl⟩ iconst_4 ?_
    refine w_icmp_ge (q := 226) (X := x3.toInt) (Y := 4) hm10 ⟨⟨_, _, rfl⟩, rfl⟩ rfl (by decide) (fun hc => ?_) (fun hc => ?_)
    · have h := h.1 hc
      exact h
    · have h := h.2 hc
      refine w_bipush (q := 228) hm10 ⟨⟨_, _, rfl⟩, rfl⟩ bipush_10 ?_
      refine w_iload (q := 230) hm10 ⟨⟨_, _, rfl⟩, rfl⟩ rfl ?_
      refine w_imul (q := 231) hm10 ⟨⟨_, _, rfl⟩, rfl⟩ ?_
      refine w_aload_n (q := 232) hm10 ⟨⟨_, _, rfl⟩, rfl⟩ rfl ?_
      refine w_iload_n (q := 233) hm10 ⟨⟨_, _, rfl⟩, rfl⟩ rfl ?_
      refine w_iload_n (q := 234) hm10 ⟨⟨_, _, rfl⟩, rfl⟩ rfl ?_
      refine w_iadd (q := 235) hm10 ⟨⟨_, _, rfl⟩, rfl⟩ ?_
      refine w_call (q := 238) (n := 0) (vs := [.inr (.inr (some 70)), .inl (x1 + x3)]) (rest := [.inl ((10 : Int32) * x4)]) (la := [oR 70, oI (x1 + x3)]) hm10 ⟨⟨_, _, rfl⟩, rfl⟩ rfl rfl rfl rfl hm4 rfl rfl (fun _ => ⟨_, _, rfl, rfl⟩) rfl (Wp.mono h ?_)
      rintro _ m5 ⟨r5, rfl, h⟩
      change Wp _ _ 238 _ [.inl r5, .inl ((10 : Int32) * x4)] _ _
      refine w_iadd (q := 239) hm10 ⟨⟨_, _, rfl⟩, rfl⟩ ?_
      refine w_bipush (q := 241) hm10 ⟨⟨_, _, rfl⟩, rfl⟩ bipush_48 ?_
      refine w_isub (q := 242) hm10 ⟨⟨_, _, rfl⟩, rfl⟩ ?_
      refine w_istore (q := 244) (l' := [oR 70, oI x1, none, oI x3, oI ((((10 : Int32) * x4) + r5) - (48 : Int32)), none, none, none]) hm10 ⟨⟨_, _, rfl⟩, rfl⟩ rfl rfl rfl ?_
      exact h
theorem v_X12_cutsUp_70_244 {d : Nat} {x1 : Int32} {x3 : Int32} {x4 : Int32} {m : dM} {Q : dM → Prop} (h : j_X12_cutsUp_70_208 (d + 1) x1 (x3 + (1 : Int32)) x4 m Q) : j_X12_cutsUp_70_244 (d + 1) x1 x3 x4 m Q := by
  refine w_iinc (q := 247) (l' := [oR 70, oI x1, none, oI (x3 + (1 : Int32)), oI x4, none, none, none]) hm10 ⟨⟨_, _, rfl⟩, rfl⟩ rfl rfl rfl iconst_1 rfl ?_
  refine w_goto (q := 208) hm10 ⟨_, _, rfl⟩ ?_
  exact h
theorem v_X12_cutsUp_70_291 {d : Nat} {x1 : Int32} {m : dM} {Q : dM → Prop} (h : j_X12_cutsUp_70_7 (d + 1) x1 m Q) : j_X12_cutsUp_70_291 (d + 1) x1 m Q := by
  refine w_goto (q := 7) hm10 ⟨_, _, rfl⟩ ?_
  exact h
theorem v_X12_plain_70 {d : Nat} {x1 : Int32} {m : dM} {Q : dM → Prop} (h : ((0 ≤ x1.toInt ∧ x1.toInt < 2) ∧ ((0 ≤ x1.toInt ∧ x1.toInt < 2) ∧ ((0 ≤ x1.toInt ∧ x1.toInt < 2) ∧ ((0 ≤ x1.toInt ∧ x1.toInt < 2) ∧ ((0 ≤ x1.toInt ∧ x1.toInt < 2) ∧ ((0 ≤ x1.toInt ∧ x1.toInt < 2) ∧ ((0 ≤ x1.toInt ∧ x1.toInt < 2) ∧ j_X12_plain_70_52 (d + 1) x1 (0 : Int32) (dSet (dSet (dSet (dSet (dSet (dSet (dSet m 80 x1.toNatClampNeg (0 : Int32)) 82 x1.toNatClampNeg (0 : Int32)) 86 x1.toNatClampNeg (0 : Int32)) 91 x1.toNatClampNeg (0 : Int32)) 92 x1.toNatClampNeg (0 : Int32)) 93 x1.toNatClampNeg (100 : Int32)) 94 x1.toNatClampNeg (0 : Int32)) Q)))))))) : c_X12_plain_70 (d + 1) x1 m Q := by
  refine w_aload_n (q := 1) hm17 ⟨⟨_, _, rfl⟩, rfl⟩ rfl ?_
  refine w_getr (q := 4) hm17 ⟨⟨_, _, rfl⟩, rfl⟩ rfl ?_
  refine w_iload_n (q := 5) hm17 ⟨⟨_, _, rfl⟩, rfl⟩ rfl ?_
  refine w_iconst (q := 6) hm17 ⟨⟨_, _, rfl⟩, rfl⟩ iconst_0 ?_
  obtain ⟨hi, h⟩ := h
  refine w_iast (q := 7) hm17 ⟨⟨_, _, rfl⟩, rfl⟩ rfl hi rfl rfl ?_
  refine w_aload_n (q := 8) hm17 ⟨⟨_, _, rfl⟩, rfl⟩ rfl ?_
  refine w_getr (q := 11) hm17 ⟨⟨_, _, rfl⟩, rfl⟩ rfl ?_
  refine w_iload_n (q := 12) hm17 ⟨⟨_, _, rfl⟩, rfl⟩ rfl ?_
  refine w_iconst (q := 13) hm17 ⟨⟨_, _, rfl⟩, rfl⟩ iconst_0 ?_
  obtain ⟨hi, h⟩ := h
  refine w_iast (q := 14) hm17 ⟨⟨_, _, rfl⟩, rfl⟩ rfl hi rfl rfl ?_
  refine w_aload_n (q := 15) hm17 ⟨⟨_, _, rfl⟩, rfl⟩ rfl ?_
  refine w_getr (q := 18) hm17 ⟨⟨_, _, rfl⟩, rfl⟩ rfl ?_
  refine w_iload_n (q := 19) hm17 ⟨⟨_, _, rfl⟩, rfl⟩ rfl ?_
  refine w_iconst (q := 20) hm17 ⟨⟨_, _, rfl⟩, rfl⟩ iconst_0 ?_
  obtain ⟨hi, h⟩ := h
  refine w_iast (q := 21) hm17 ⟨⟨_, _, rfl⟩, rfl⟩ rfl hi rfl rfl ?_
  refine w_aload_n (q := 22) hm17 ⟨⟨_, _, rfl⟩, rfl⟩ rfl ?_
  refine w_getr (q := 25) hm17 ⟨⟨_, _, rfl⟩, rfl⟩ rfl ?_
  refine w_iload_n (q := 26) hm17 ⟨⟨_, _, rfl⟩, rfl⟩ rfl ?_
  refine w_iconst (q := 27) hm17 ⟨⟨_, _, rfl⟩, rfl⟩ iconst_0 ?_
  obtain ⟨hi, h⟩ := h
  refine w_iast (q := 28) hm17 ⟨⟨_, _, rfl⟩, rfl⟩ rfl hi rfl rfl ?_
  refine w_aload_n (q := 29) hm17 ⟨⟨_, _, rfl⟩, rfl⟩ rfl ?_
  refine w_getr (q := 32) hm17 ⟨⟨_, _, rfl⟩, rfl⟩ rfl ?_
  refine w_iload_n (q := 33) hm17 ⟨⟨_, _, rfl⟩, rfl⟩ rfl ?_
  refine w_iconst (q := 34) hm17 ⟨⟨_, _, rfl⟩, rfl⟩ iconst_0 ?_
  obtain ⟨hi, h⟩ := h
  refine w_iast (q := 35) hm17 ⟨⟨_, _, rfl⟩, rfl⟩ rfl hi rfl rfl ?_
  refine w_aload_n (q := 36) hm17 ⟨⟨_, _, rfl⟩, rfl⟩ rfl ?_
  refine w_getr (q := 39) hm17 ⟨⟨_, _, rfl⟩, rfl⟩ rfl ?_
  refine w_iload_n (q := 40) hm17 ⟨⟨_, _, rfl⟩, rfl⟩ rfl ?_
  refine w_bipush (q := 42) hm17 ⟨⟨_, _, rfl⟩, rfl⟩ bipush_100 ?_
  obtain ⟨hi, h⟩ := h
  refine w_iast (q := 43) hm17 ⟨⟨_, _, rfl⟩, rfl⟩ rfl hi rfl rfl ?_
  refine w_aload_n (q := 44) hm17 ⟨⟨_, _, rfl⟩, rfl⟩ rfl ?_
  refine w_getr (q := 47) hm17 ⟨⟨_, _, rfl⟩, rfl⟩ rfl ?_
  refine w_iload_n (q := 48) hm17 ⟨⟨_, _, rfl⟩, rfl⟩ rfl ?_
  refine w_iconst (q := 49) hm17 ⟨⟨_, _, rfl⟩, rfl⟩ iconst_0 ?_
  obtain ⟨hi, h⟩ := h
  refine w_iast (q := 50) hm17 ⟨⟨_, _, rfl⟩, rfl⟩ rfl hi rfl rfl ?_
  refine w_iconst (q := 51) hm17 ⟨⟨_, _, rfl⟩, rfl⟩ iconst_0 ?_
  refine w_istore_n (q := 52) (l' := [oR 70, oI x1, oI (0 : Int32)]) hm17 ⟨⟨_, _, rfl⟩, rfl⟩ rfl rfl rfl ?_
  exact h
theorem v_X12_plain_70_52 {d : Nat} {x1 : Int32} {x2 : Int32} {m : dM} {Q : dM → Prop} (h : ((4 ≤ x2.toInt → Q m) ∧ (x2.toInt < 4 → ((0 ≤ (((4 : Int32) * x1) + x2).toInt ∧ (((4 : Int32) * x1) + x2).toInt < 8) ∧ ((0 ≤ (((4 : Int32) * x1) + x2).toInt ∧ (((4 : Int32) * x1) + x2).toInt < 8) ∧ j_X12_plain_70_52 (d + 1) x1 (x2 + (1 : Int32)) (dSet (dSet m 95 (((4 : Int32) * x1) + x2).toNatClampNeg (0 : Int32)) 96 (((4 : Int32) * x1) + x2).toNatClampNeg (0 : Int32)) Q))))) : j_X12_plain_70_52 (d + 1) x1 x2 m Q := by
  refine w_iload_n (q := 53) hm17 ⟨⟨_, _, rfl⟩, rfl⟩ rfl ?_
  refine w_iconst (q := 54) hm17 ⟨⟨_, _, rfl⟩, rfl⟩ iconst_4 ?_
  refine w_icmp_ge (q := 57) (X := x2.toInt) (Y := 4) hm17 ⟨⟨_, _, rfl⟩, rfl⟩ rfl (by decide) (fun hc => ?_) (fun hc => ?_)
  · have h := h.1 hc
    exact w_retv hm17 ⟨⟨_, _, rfl⟩, rfl⟩ rfl h
  · have h := h.2 hc
    refine w_aload_n (q := 58) hm17 ⟨⟨_, _, rfl⟩, rfl⟩ rfl ?_
    refine w_getr (q := 61) hm17 ⟨⟨_, _, rfl⟩, rfl⟩ rfl ?_
    refine w_iconst (q := 62) hm17 ⟨⟨_, _, rfl⟩, rfl⟩ iconst_4 ?_
    refine w_iload_n (q := 63) hm17 ⟨⟨_, _, rfl⟩, rfl⟩ rfl ?_
    refine w_imul (q := 64) hm17 ⟨⟨_, _, rfl⟩, rfl⟩ ?_
    refine w_iload_n (q := 65) hm17 ⟨⟨_, _, rfl⟩, rfl⟩ rfl ?_
    refine w_iadd (q := 66) hm17 ⟨⟨_, _, rfl⟩, rfl⟩ ?_
    refine w_iconst (q := 67) hm17 ⟨⟨_, _, rfl⟩, rfl⟩ iconst_0 ?_
    obtain ⟨hi, h⟩ := h
    refine w_iast (q := 68) hm17 ⟨⟨_, _, rfl⟩, rfl⟩ rfl hi rfl rfl ?_
    refine w_aload_n (q := 69) hm17 ⟨⟨_, _, rfl⟩, rfl⟩ rfl ?_
    refine w_getr (q := 72) hm17 ⟨⟨_, _, rfl⟩, rfl⟩ rfl ?_
    refine w_iconst (q := 73) hm17 ⟨⟨_, _, rfl⟩, rfl⟩ iconst_4 ?_
    refine w_iload_n (q := 74) hm17 ⟨⟨_, _, rfl⟩, rfl⟩ rfl ?_
    refine w_imul (q := 75) hm17 ⟨⟨_, _, rfl⟩, rfl⟩ ?_
    refine w_iload_n (q := 76) hm17 ⟨⟨_, _, rfl⟩, rfl⟩ rfl ?_
    refine w_iadd (q := 77) hm17 ⟨⟨_, _, rfl⟩, rfl⟩ ?_
    refine w_iconst (q := 78) hm17 ⟨⟨_, _, rfl⟩, rfl⟩ iconst_0 ?_
    obtain ⟨hi, h⟩ := h
    refine w_iast (q := 79) hm17 ⟨⟨_, _, rfl⟩, rfl⟩ rfl hi rfl rfl ?_
    refine w_iinc (q := 82) (l' := [oR 70, oI x1, oI (x2 + (1 : Int32))]) hm17 ⟨⟨_, _, rfl⟩, rfl⟩ rfl rfl rfl iconst_1 rfl ?_
    refine w_goto (q := 52) hm17 ⟨_, _, rfl⟩ ?_
    exact h
theorem v_X12_is_70 {d : Nat} {x1 : Int32} {m : dM} {Q : Int32 → dM → Prop} (h : (((m.1 70 13).toInt ≠ 0 → j_X12_is_70_24 (d + 1) m Q) ∧ ((m.1 70 13).toInt = 0 → ((0 ≤ (m.1 70 11).toInt ∧ (m.1 70 11).toInt < 403) ∧ (((m.1 73 (m.1 70 11).toNatClampNeg).toInt ≠ x1.toInt → j_X12_is_70_24 (d + 1) m Q) ∧ ((m.1 73 (m.1 70 11).toNatClampNeg).toInt = x1.toInt → Q (1 : Int32) m)))))) : c_X12_is_70 (d + 1) x1 m Q := by
  refine w_aload_n (q := 1) hm12 ⟨⟨_, _, rfl⟩, rfl⟩ rfl ?_
  refine w_getf (q := 4) (v := (m.1 70 13)) hm12 ⟨⟨_, _, rfl⟩, rfl⟩ rfl rfl ?_
  refine w_if_ne (q := 7) (X := (m.1 70 13).toInt) hm12 ⟨⟨_, _, rfl⟩, rfl⟩ rfl (fun hc => ?_) (fun hc => ?_)
  · have h := h.1 hc
    exact Wp.wk [false, false] h
  · have h := h.2 hc
    refine w_aload_n (q := 8) hm12 ⟨⟨_, _, rfl⟩, rfl⟩ rfl ?_
    refine w_getr (q := 11) hm12 ⟨⟨_, _, rfl⟩, rfl⟩ rfl ?_
    refine w_aload_n (q := 12) hm12 ⟨⟨_, _, rfl⟩, rfl⟩ rfl ?_
    refine w_getf (q := 15) (v := (m.1 70 11)) hm12 ⟨⟨_, _, rfl⟩, rfl⟩ rfl rfl ?_
    obtain ⟨hi, h⟩ := h
    refine w_iald (q := 16) (v := (m.1 73 (m.1 70 11).toNatClampNeg)) hm12 ⟨⟨_, _, rfl⟩, rfl⟩ rfl hi rfl rfl ?_
    refine w_iload_n (q := 17) hm12 ⟨⟨_, _, rfl⟩, rfl⟩ rfl ?_
    refine w_icmp_ne (q := 20) (X := (m.1 73 (m.1 70 11).toNatClampNeg).toInt) (Y := x1.toInt) hm12 ⟨⟨_, _, rfl⟩, rfl⟩ rfl rfl (fun hc => ?_) (fun hc => ?_)
    · have h := h.1 hc
      exact Wp.wk [false, false] h
    · have h := h.2 hc
      refine w_iconst (q := 21) hm12 ⟨⟨_, _, rfl⟩, rfl⟩ iconst_1 ?_
      refine w_goto (q := 25) hm12 ⟨_, _, rfl⟩ ?_
      exact w_retz hm12 ⟨⟨_, _, rfl⟩, rfl⟩ rfl (by decide) h
theorem v_X12_is_70_24 {d : Nat} {m : dM} {Q : Int32 → dM → Prop} (h : Q (0 : Int32) m) : j_X12_is_70_24 (d + 1) m Q := by
  refine w_iconst (q := 25) hm12 ⟨⟨_, _, rfl⟩, rfl⟩ iconst_0 ?_
  exact w_retz hm12 ⟨⟨_, _, rfl⟩, rfl⟩ rfl (by decide) h
theorem v_X12_fail_70 {d : Nat} {x1 : Int32} {m : dM} {Q : dM → Prop} (h : (((m.1 70 13).toInt ≤ 0 → ((0 ≤ (m.1 70 11).toInt ∧ (m.1 70 11).toInt < 403) ∧ Q (dSet (dSet m 70 13 x1) 70 14 (m.1 74 (m.1 70 11).toNatClampNeg)))) ∧ (0 < (m.1 70 13).toInt → Q m))) : c_X12_fail_70 (d + 1) x1 m Q := by
  refine w_aload_n (q := 1) hm13 ⟨⟨_, _, rfl⟩, rfl⟩ rfl ?_
  refine w_getf (q := 4) (v := (m.1 70 13)) hm13 ⟨⟨_, _, rfl⟩, rfl⟩ rfl rfl ?_
  refine w_if_le (q := 7) (X := (m.1 70 13).toInt) hm13 ⟨⟨_, _, rfl⟩, rfl⟩ rfl (fun hc => ?_) (fun hc => ?_)
  · have h := h.1 hc
    refine w_aload_n (q := 9) hm13 ⟨⟨_, _, rfl⟩, rfl⟩ rfl ?_
    refine w_iload_n (q := 10) hm13 ⟨⟨_, _, rfl⟩, rfl⟩ rfl ?_
    refine w_putf (q := 13) hm13 ⟨⟨_, _, rfl⟩, rfl⟩ rfl rfl rfl ?_
    refine w_aload_n (q := 14) hm13 ⟨⟨_, _, rfl⟩, rfl⟩ rfl ?_
    refine w_aload_n (q := 15) hm13 ⟨⟨_, _, rfl⟩, rfl⟩ rfl ?_
    refine w_getr (q := 18) hm13 ⟨⟨_, _, rfl⟩, rfl⟩ rfl ?_
    refine w_aload_n (q := 19) hm13 ⟨⟨_, _, rfl⟩, rfl⟩ rfl ?_
    refine w_getf (q := 22) (v := (m.1 70 11)) hm13 ⟨⟨_, _, rfl⟩, rfl⟩ rfl rfl ?_
    obtain ⟨hi, h⟩ := h
    refine w_iald (q := 23) (v := (m.1 74 (m.1 70 11).toNatClampNeg)) hm13 ⟨⟨_, _, rfl⟩, rfl⟩ rfl hi rfl rfl ?_
    refine w_putf (q := 26) hm13 ⟨⟨_, _, rfl⟩, rfl⟩ rfl rfl rfl ?_
    exact w_retv hm13 ⟨⟨_, _, rfl⟩, rfl⟩ rfl h
  · have h := h.2 hc
    exact w_retv hm13 ⟨⟨_, _, rfl⟩, rfl⟩ rfl h
theorem v_X12_goesOn_70 {d : Nat} {m : dM} {Q : dM → Prop} (h : (((m.1 70 11).toInt ≠ 400 → j_X12_goesOn_70_28 (d + 1) (dSet m 70 11 ((m.1 70 11) + (1 : Int32))) Q) ∧ ((m.1 70 11).toInt = 400 → c_X12_fail_70 d (2 : Int32) m (fun m1 => j_X12_goesOn_70_28 (d + 1) m1 Q)))) : c_X12_goesOn_70 (d + 1) m Q := by
  refine w_aload_n (q := 1) hm15 ⟨⟨_, _, rfl⟩, rfl⟩ rfl ?_
  refine w_getf (q := 4) (v := (m.1 70 11)) hm15 ⟨⟨_, _, rfl⟩, rfl⟩ rfl rfl ?_
  refine w_sipush (q := 7) hm15 ⟨⟨_, _, rfl⟩, rfl⟩ sipush_400 ?_
  refine w_icmp_ne (q := 10) (X := (m.1 70 11).toInt) (Y := 400) hm15 ⟨⟨_, _, rfl⟩, rfl⟩ rfl (by decide) (fun hc => ?_) (fun hc => ?_)
  · have h := h.1 hc
    refine w_aload_n (q := 19) hm15 ⟨⟨_, _, rfl⟩, rfl⟩ rfl ?_
    refine w_dup (q := 20) hm15 ⟨⟨_, _, rfl⟩, rfl⟩ rfl ?_
    refine w_getf (q := 23) (v := (m.1 70 11)) hm15 ⟨⟨_, _, rfl⟩, rfl⟩ rfl rfl ?_
    refine w_iconst (q := 24) hm15 ⟨⟨_, _, rfl⟩, rfl⟩ iconst_1 ?_
    refine w_iadd (q := 25) hm15 ⟨⟨_, _, rfl⟩, rfl⟩ ?_
    refine w_putf (q := 28) hm15 ⟨⟨_, _, rfl⟩, rfl⟩ rfl rfl rfl ?_
    exact Wp.wk [false] h
  · have h := h.2 hc
    refine w_aload_n (q := 11) hm15 ⟨⟨_, _, rfl⟩, rfl⟩ rfl ?_
    refine w_iconst (q := 12) hm15 ⟨⟨_, _, rfl⟩, rfl⟩ iconst_2 ?_
    refine w_call (q := 15) (n := 0) (vs := [.inr (.inr (some 70)), .inl (2 : Int32)]) (rest := []) (la := [oR 70, oI (2 : Int32)]) hm15 ⟨⟨_, _, rfl⟩, rfl⟩ rfl rfl rfl rfl hm13 rfl rfl (fun _ => ⟨_, _, rfl, rfl⟩) rfl (Wp.mono h ?_)
    rintro _ m1 ⟨rfl, h⟩
    change Wp _ _ 15 _ [] _ _
    refine w_goto (q := 28) hm15 ⟨_, _, rfl⟩ ?_
    exact Wp.wk [false] h
theorem v_X12_goesOn_70_28 {d : Nat} {m : dM} {Q : dM → Prop} (h : Q m) : j_X12_goesOn_70_28 (d + 1) m Q := by
  exact w_retv hm15 ⟨⟨_, _, rfl⟩, rfl⟩ rfl h
theorem v_X12_roomFor_70 {d : Nat} {x1 : Int32} {x2 : Int32} {m : dM} {Q : dM → Prop} (h : ((x1.toInt ≠ x2.toInt → j_X12_roomFor_70_10 (d + 1) m Q) ∧ (x1.toInt = x2.toInt → c_X12_fail_70 d (2 : Int32) m (fun m1 => j_X12_roomFor_70_10 (d + 1) m1 Q)))) : c_X12_roomFor_70 (d + 1) x1 x2 m Q := by
  refine w_iload_n (q := 1) hm20 ⟨⟨_, _, rfl⟩, rfl⟩ rfl ?_
  refine w_iload_n (q := 2) hm20 ⟨⟨_, _, rfl⟩, rfl⟩ rfl ?_
  refine w_icmp_ne (q := 5) (X := x1.toInt) (Y := x2.toInt) hm20 ⟨⟨_, _, rfl⟩, rfl⟩ rfl rfl (fun hc => ?_) (fun hc => ?_)
  · have h := h.1 hc
    exact Wp.wk [true, false, false] h
  · have h := h.2 hc
    refine w_aload_n (q := 6) hm20 ⟨⟨_, _, rfl⟩, rfl⟩ rfl ?_
    refine w_iconst (q := 7) hm20 ⟨⟨_, _, rfl⟩, rfl⟩ iconst_2 ?_
    refine w_call (q := 10) (n := 0) (vs := [.inr (.inr (some 70)), .inl (2 : Int32)]) (rest := []) (la := [oR 70, oI (2 : Int32)]) hm20 ⟨⟨_, _, rfl⟩, rfl⟩ rfl rfl rfl rfl hm13 rfl rfl (fun _ => ⟨_, _, rfl, rfl⟩) rfl (Wp.mono h ?_)
    rintro _ m1 ⟨rfl, h⟩
    change Wp _ _ 10 _ [] _ _
    exact Wp.wk [true, false, false] h
theorem v_X12_roomFor_70_10 {d : Nat} {m : dM} {Q : dM → Prop} (h : (((m.1 70 13).toInt ≠ 0 → j_X12_roomFor_70_21 (d + 1) m Q) ∧ ((m.1 70 13).toInt = 0 → c_X12_goesOn_70 d m (fun m1 => j_X12_roomFor_70_21 (d + 1) m1 Q)))) : j_X12_roomFor_70_10 (d + 1) m Q := by
  refine w_aload_n (q := 11) hm20 ⟨⟨_, _, rfl⟩, rfl⟩ rfl ?_
  refine w_getf (q := 14) (v := (m.1 70 13)) hm20 ⟨⟨_, _, rfl⟩, rfl⟩ rfl rfl ?_
  refine w_if_ne (q := 17) (X := (m.1 70 13).toInt) hm20 ⟨⟨_, _, rfl⟩, rfl⟩ rfl (fun hc => ?_) (fun hc => ?_)
  · have h := h.1 hc
    exact Wp.wk [false, false, false] h
  · have h := h.2 hc
    refine w_aload_n (q := 18) hm20 ⟨⟨_, _, rfl⟩, rfl⟩ rfl ?_
    refine w_call (q := 21) (n := 0) (vs := [.inr (.inr (some 70))]) (rest := []) (la := [oR 70]) hm20 ⟨⟨_, _, rfl⟩, rfl⟩ rfl rfl rfl rfl hm15 rfl rfl (fun _ => ⟨_, _, rfl, rfl⟩) rfl (Wp.mono h ?_)
    rintro _ m1 ⟨rfl, h⟩
    change Wp _ _ 21 _ [] _ _
    exact Wp.wk [false, false, false] h
theorem v_X12_roomFor_70_21 {d : Nat} {m : dM} {Q : dM → Prop} (h : Q m) : j_X12_roomFor_70_21 (d + 1) m Q := by
  exact w_retv hm20 ⟨⟨_, _, rfl⟩, rfl⟩ rfl h
theorem v_X12_must_70 {d : Nat} {x1 : Int32} {m : dM} {Q : dM → Prop} (h : c_X12_is_70 d x1 m (fun r1 m1 => ((r1.toInt = 0 → c_X12_fail_70 d (1 : Int32) m1 (fun m2 => j_X12_must_70_20 (d + 1) m2 Q)) ∧ (r1.toInt ≠ 0 → c_X12_goesOn_70 d m1 (fun m3 => j_X12_must_70_20 (d + 1) m3 Q))))) : c_X12_must_70 (d + 1) x1 m Q := by
  refine w_aload_n (q := 1) hm16 ⟨⟨_, _, rfl⟩, rfl⟩ rfl ?_
  refine w_iload_n (q := 2) hm16 ⟨⟨_, _, rfl⟩, rfl⟩ rfl ?_
  refine w_call (q := 5) (n := 0) (vs := [.inr (.inr (some 70)), .inl x1]) (rest := []) (la := [oR 70, oI x1]) hm16 ⟨⟨_, _, rfl⟩, rfl⟩ rfl rfl rfl rfl hm12 rfl rfl (fun _ => ⟨_, _, rfl, rfl⟩) rfl (Wp.mono h ?_)
  rintro _ m1 ⟨r1, rfl, h⟩
  change Wp _ _ 5 _ [.inl r1] _ _
  refine w_if_eq (q := 8) (X := r1.toInt) hm16 ⟨⟨_, _, rfl⟩, rfl⟩ rfl (fun hc => ?_) (fun hc => ?_)
  · have h := h.1 hc
    refine w_aload_n (q := 16) hm16 ⟨⟨_, _, rfl⟩, rfl⟩ rfl ?_
    refine w_iconst (q := 17) hm16 ⟨⟨_, _, rfl⟩, rfl⟩ iconst_1 ?_
    refine w_call (q := 20) (n := 0) (vs := [.inr (.inr (some 70)), .inl (1 : Int32)]) (rest := []) (la := [oR 70, oI (1 : Int32)]) hm16 ⟨⟨_, _, rfl⟩, rfl⟩ rfl rfl rfl rfl hm13 rfl rfl (fun _ => ⟨_, _, rfl, rfl⟩) rfl (Wp.mono h ?_)
    rintro _ m2 ⟨rfl, h⟩
    change Wp _ _ 20 _ [] _ _
    exact Wp.wk [false, false] h
  · have h := h.2 hc
    refine w_aload_n (q := 9) hm16 ⟨⟨_, _, rfl⟩, rfl⟩ rfl ?_
    refine w_call (q := 12) (n := 0) (vs := [.inr (.inr (some 70))]) (rest := []) (la := [oR 70]) hm16 ⟨⟨_, _, rfl⟩, rfl⟩ rfl rfl rfl rfl hm15 rfl rfl (fun _ => ⟨_, _, rfl, rfl⟩) rfl (Wp.mono h ?_)
    rintro _ m3 ⟨rfl, h⟩
    change Wp _ _ 12 _ [] _ _
    refine w_goto (q := 20) hm16 ⟨_, _, rfl⟩ ?_
    exact Wp.wk [false, false] h
theorem v_X12_must_70_20 {d : Nat} {m : dM} {Q : dM → Prop} (h : Q m) : j_X12_must_70_20 (d + 1) m Q := by
  exact w_retv hm16 ⟨⟨_, _, rfl⟩, rfl⟩ rfl h
theorem v_X12_wrong_70 {d : Nat} {x1 : Int32} {x2 : Int32} {m : dM} {Q : dM → Prop} (h : ((0 ≤ x2.toInt ∧ x2.toInt < 403) ∧ ((0 < (m.1 70 13).toInt → j_X12_wrong_70_45 (d + 1) m Q) ∧ ((m.1 70 13).toInt ≤ 0 → (((m.1 70 15).toInt = 0 → j_X12_wrong_70_46 (d + 1) x1 (m.1 74 x2.toNatClampNeg) m Q) ∧ ((m.1 70 15).toInt ≠ 0 → (((m.1 70 16).toInt < (m.1 74 x2.toNatClampNeg).toInt → j_X12_wrong_70_45 (d + 1) m Q) ∧ ((m.1 74 x2.toNatClampNeg).toInt ≤ (m.1 70 16).toInt → (((m.1 74 x2.toNatClampNeg).toInt ≠ (m.1 70 16).toInt → j_X12_wrong_70_46 (d + 1) x1 (m.1 74 x2.toNatClampNeg) m Q) ∧ ((m.1 74 x2.toNatClampNeg).toInt = (m.1 70 16).toInt → ((x1.toInt < (m.1 70 15).toInt → j_X12_wrong_70_46 (d + 1) x1 (m.1 74 x2.toNatClampNeg) m Q) ∧ ((m.1 70 15).toInt ≤ x1.toInt → j_X12_wrong_70_45 (d + 1) m Q)))))))))))) : c_X12_wrong_70 (d + 1) x1 x2 m Q := by
  refine w_aload_n (q := 1) hm14 ⟨⟨_, _, rfl⟩, rfl⟩ rfl ?_
  refine w_getr (q := 4) hm14 ⟨⟨_, _, rfl⟩, rfl⟩ rfl ?_
  refine w_iload_n (q := 5) hm14 ⟨⟨_, _, rfl⟩, rfl⟩ rfl ?_
  obtain ⟨hi, h⟩ := h
  refine w_iald (q := 6) (v := (m.1 74 x2.toNatClampNeg)) hm14 ⟨⟨_, _, rfl⟩, rfl⟩ rfl hi rfl rfl ?_
  refine w_istore_n (q := 7) (l' := [oR 70, oI x1, oI x2, oI (m.1 74 x2.toNatClampNeg)]) hm14 ⟨⟨_, _, rfl⟩, rfl⟩ rfl rfl rfl ?_
  refine w_aload_n (q := 8) hm14 ⟨⟨_, _, rfl⟩, rfl⟩ rfl ?_
  refine w_getf (q := 11) (v := (m.1 70 13)) hm14 ⟨⟨_, _, rfl⟩, rfl⟩ rfl rfl ?_
  refine w_if_gt (q := 14) (X := (m.1 70 13).toInt) hm14 ⟨⟨_, _, rfl⟩, rfl⟩ rfl (fun hc => ?_) (fun hc => ?_)
  · have h := h.1 hc
    exact Wp.wk [false, false, false, false] h
  · have h := h.2 hc
    refine w_aload_n (q := 15) hm14 ⟨⟨_, _, rfl⟩, rfl⟩ rfl ?_
    refine w_getf (q := 18) (v := (m.1 70 15)) hm14 ⟨⟨_, _, rfl⟩, rfl⟩ rfl rfl ?_
    refine w_if_eq (q := 21) (X := (m.1 70 15).toInt) hm14 ⟨⟨_, _, rfl⟩, rfl⟩ rfl (fun hc => ?_) (fun hc => ?_)
    · have h := h.1 hc
      exact Wp.wk [true, true, false, true] h
    · have h := h.2 hc
      refine w_iload_n (q := 22) hm14 ⟨⟨_, _, rfl⟩, rfl⟩ rfl ?_
      refine w_aload_n (q := 23) hm14 ⟨⟨_, _, rfl⟩, rfl⟩ rfl ?_
      refine w_getf (q := 26) (v := (m.1 70 16)) hm14 ⟨⟨_, _, rfl⟩, rfl⟩ rfl rfl ?_
      refine w_icmp_gt (q := 29) (X := (m.1 74 x2.toNatClampNeg).toInt) (Y := (m.1 70 16).toInt) hm14 ⟨⟨_, _, rfl⟩, rfl⟩ rfl rfl (fun hc => ?_) (fun hc => ?_)
      · have h := h.1 hc
        exact Wp.wk [false, false, false, false] h
      · have h := h.2 hc
        refine w_iload_n (q := 30) hm14 ⟨⟨_, _, rfl⟩, rfl⟩ rfl ?_
        refine w_aload_n (q := 31) hm14 ⟨⟨_, _, rfl⟩, rfl⟩ rfl ?_
        refine w_getf (q := 34) (v := (m.1 70 16)) hm14 ⟨⟨_, _, rfl⟩, rfl⟩ rfl rfl ?_
        refine w_icmp_ne (q := 37) (X := (m.1 74 x2.toNatClampNeg).toInt) (Y := (m.1 70 16).toInt) hm14 ⟨⟨_, _, rfl⟩, rfl⟩ rfl rfl (fun hc => ?_) (fun hc => ?_)
        · have h := h.1 hc
          exact Wp.wk [true, true, false, true] h
        · have h := h.2 hc
          refine w_iload_n (q := 38) hm14 ⟨⟨_, _, rfl⟩, rfl⟩ rfl ?_
          refine w_aload_n (q := 39) hm14 ⟨⟨_, _, rfl⟩, rfl⟩ rfl ?_
          refine w_getf (q := 42) (v := (m.1 70 15)) hm14 ⟨⟨_, _, rfl⟩, rfl⟩ rfl rfl ?_
          refine w_icmp_lt (q := 45) (X := x1.toInt) (Y := (m.1 70 15).toInt) hm14 ⟨⟨_, _, rfl⟩, rfl⟩ rfl rfl (fun hc => ?_) (fun hc => ?_)
          · have h := h.1 hc
            exact Wp.wk [true, true, false, true] h
          · have h := h.2 hc
            exact Wp.wk [false, false, false, false] h
theorem v_X12_wrong_70_45 {d : Nat} {m : dM} {Q : dM → Prop} (h : Q m) : j_X12_wrong_70_45 (d + 1) m Q := by
  exact w_retv hm14 ⟨⟨_, _, rfl⟩, rfl⟩ rfl h
theorem v_X12_wrong_70_46 {d : Nat} {x1 : Int32} {x3 : Int32} {m : dM} {Q : dM → Prop} (h : Q (dSet (dSet m 70 15 x1) 70 16 x3)) : j_X12_wrong_70_46 (d + 1) x1 x3 m Q := by
  refine w_aload_n (q := 47) hm14 ⟨⟨_, _, rfl⟩, rfl⟩ rfl ?_
  refine w_iload_n (q := 48) hm14 ⟨⟨_, _, rfl⟩, rfl⟩ rfl ?_
  refine w_putf (q := 51) hm14 ⟨⟨_, _, rfl⟩, rfl⟩ rfl rfl rfl ?_
  refine w_aload_n (q := 52) hm14 ⟨⟨_, _, rfl⟩, rfl⟩ rfl ?_
  refine w_iload_n (q := 53) hm14 ⟨⟨_, _, rfl⟩, rfl⟩ rfl ?_
  refine w_putf (q := 56) hm14 ⟨⟨_, _, rfl⟩, rfl⟩ rfl rfl rfl ?_
  exact w_retv hm14 ⟨⟨_, _, rfl⟩, rfl⟩ rfl h
theorem v_X12_named_70 {d : Nat} {m : dM} {Q : Int32 → dM → Prop} (h : c_X12_must_70 d (1 : Int32) m (fun m1 => j_X12_named_70_12 (d + 1) (m.1 70 11) (0 : Int32) m1 Q)) : c_X12_named_70 (d + 1) m Q := by
  refine w_aload_n (q := 1) hm22 ⟨⟨_, _, rfl⟩, rfl⟩ rfl ?_
  refine w_getf (q := 4) (v := (m.1 70 11)) hm22 ⟨⟨_, _, rfl⟩, rfl⟩ rfl rfl ?_
  refine w_istore_n (q := 5) (l' := [oR 70, oI (m.1 70 11), none]) hm22 ⟨⟨_, _, rfl⟩, rfl⟩ rfl rfl rfl ?_
  refine w_aload_n (q := 6) hm22 ⟨⟨_, _, rfl⟩, rfl⟩ rfl ?_
  refine w_iconst (q := 7) hm22 ⟨⟨_, _, rfl⟩, rfl⟩ iconst_1 ?_
  refine w_call (q := 10) (n := 0) (vs := [.inr (.inr (some 70)), .inl (1 : Int32)]) (rest := []) (la := [oR 70, oI (1 : Int32)]) hm22 ⟨⟨_, _, rfl⟩, rfl⟩ rfl rfl rfl rfl hm16 rfl rfl (fun _ => ⟨_, _, rfl, rfl⟩) rfl (Wp.mono h ?_)
  rintro _ m1 ⟨rfl, h⟩
  change Wp _ _ 10 _ [] _ _
  refine w_iconst (q := 11) hm22 ⟨⟨_, _, rfl⟩, rfl⟩ iconst_0 ?_
  refine w_istore_n (q := 12) (l' := [oR 70, oI (m.1 70 11), oI (0 : Int32)]) hm22 ⟨⟨_, _, rfl⟩, rfl⟩ rfl rfl rfl ?_
  exact h
theorem v_X12_named_70_12 {d : Nat} {x1 : Int32} {x2 : Int32} {m : dM} {Q : Int32 → dM → Prop} (h : (((m.1 70 20).toInt ≤ x2.toInt → j_X12_named_70_55 (d + 1) x1 m Q) ∧ (x2.toInt < (m.1 70 20).toInt → (((m.1 70 13).toInt ≠ 0 → j_X12_named_70_55 (d + 1) x1 m Q) ∧ ((m.1 70 13).toInt = 0 → ((0 ≤ x2.toInt ∧ x2.toInt < 15) ∧ ((0 ≤ x1.toInt ∧ x1.toInt < 403) ∧ (((lg_cmp (m.2.1 78 x2.toNatClampNeg) (m.2.1 76 x1.toNatClampNeg)).toInt ≠ 0 → j_X12_named_70_49 (d + 1) x1 x2 m Q) ∧ ((lg_cmp (m.2.1 78 x2.toNatClampNeg) (m.2.1 76 x1.toNatClampNeg)).toInt = 0 → c_X12_wrong_70 d (3 : Int32) x1 m (fun m1 => j_X12_named_70_49 (d + 1) x1 x2 m1 Q)))))))))) : j_X12_named_70_12 (d + 1) x1 x2 m Q := by
  refine w_iload_n (q := 13) hm22 ⟨⟨_, _, rfl⟩, rfl⟩ rfl ?_
  refine w_aload_n (q := 14) hm22 ⟨⟨_, _, rfl⟩, rfl⟩ rfl ?_
  refine w_getf (q := 17) (v := (m.1 70 20)) hm22 ⟨⟨_, _, rfl⟩, rfl⟩ rfl rfl ?_
  refine w_icmp_ge (q := 20) (X := x2.toInt) (Y := (m.1 70 20).toInt) hm22 ⟨⟨_, _, rfl⟩, rfl⟩ rfl rfl (fun hc => ?_) (fun hc => ?_)
  · have h := h.1 hc
    exact Wp.wk [false, true, false] h
  · have h := h.2 hc
    refine w_aload_n (q := 21) hm22 ⟨⟨_, _, rfl⟩, rfl⟩ rfl ?_
    refine w_getf (q := 24) (v := (m.1 70 13)) hm22 ⟨⟨_, _, rfl⟩, rfl⟩ rfl rfl ?_
    refine w_if_ne (q := 27) (X := (m.1 70 13).toInt) hm22 ⟨⟨_, _, rfl⟩, rfl⟩ rfl (fun hc => ?_) (fun hc => ?_)
    · have h := h.1 hc
      exact Wp.wk [false, true, false] h
    · have h := h.2 hc
      refine w_aload_n (q := 28) hm22 ⟨⟨_, _, rfl⟩, rfl⟩ rfl ?_
      refine w_getr (q := 31) hm22 ⟨⟨_, _, rfl⟩, rfl⟩ rfl ?_
      refine w_iload_n (q := 32) hm22 ⟨⟨_, _, rfl⟩, rfl⟩ rfl ?_
      obtain ⟨hi, h⟩ := h
      refine w_lald (q := 33) (v := (m.2.1 78 x2.toNatClampNeg)) hm22 ⟨⟨_, _, rfl⟩, rfl⟩ rfl hi rfl rfl ?_
      refine w_aload_n (q := 34) hm22 ⟨⟨_, _, rfl⟩, rfl⟩ rfl ?_
      refine w_getr (q := 37) hm22 ⟨⟨_, _, rfl⟩, rfl⟩ rfl ?_
      refine w_iload_n (q := 38) hm22 ⟨⟨_, _, rfl⟩, rfl⟩ rfl ?_
      obtain ⟨hi, h⟩ := h
      refine w_lald (q := 39) (v := (m.2.1 76 x1.toNatClampNeg)) hm22 ⟨⟨_, _, rfl⟩, rfl⟩ rfl hi rfl rfl ?_
      refine w_lcmp (q := 40) hm22 ⟨⟨_, _, rfl⟩, rfl⟩ ?_
      refine w_if_ne (q := 43) (X := (lg_cmp (m.2.1 78 x2.toNatClampNeg) (m.2.1 76 x1.toNatClampNeg)).toInt) hm22 ⟨⟨_, _, rfl⟩, rfl⟩ rfl (fun hc => ?_) (fun hc => ?_)
      · have h := h.1 hc
        exact h
      · have h := h.2 hc
        refine w_aload_n (q := 44) hm22 ⟨⟨_, _, rfl⟩, rfl⟩ rfl ?_
        refine w_iconst (q := 45) hm22 ⟨⟨_, _, rfl⟩, rfl⟩ iconst_3 ?_
        refine w_iload_n (q := 46) hm22 ⟨⟨_, _, rfl⟩, rfl⟩ rfl ?_
        refine w_call (q := 49) (n := 1) (vs := [.inr (.inr (some 70)), .inl (3 : Int32), .inl x1]) (rest := []) (la := [oR 70, oI (3 : Int32), oI x1, none]) hm22 ⟨⟨_, _, rfl⟩, rfl⟩ rfl rfl rfl rfl hm14 rfl rfl (fun _ => ⟨_, _, rfl, rfl⟩) rfl (Wp.mono h ?_)
        rintro _ m1 ⟨rfl, h⟩
        change Wp _ _ 49 _ [] _ _
        exact h
theorem v_X12_named_70_49 {d : Nat} {x1 : Int32} {x2 : Int32} {m : dM} {Q : Int32 → dM → Prop} (h : j_X12_named_70_12 (d + 1) x1 (x2 + (1 : Int32)) m Q) : j_X12_named_70_49 (d + 1) x1 x2 m Q := by
  refine w_iinc (q := 52) (l' := [oR 70, oI x1, oI (x2 + (1 : Int32))]) hm22 ⟨⟨_, _, rfl⟩, rfl⟩ rfl rfl rfl iconst_1 rfl ?_
  refine w_goto (q := 12) hm22 ⟨_, _, rfl⟩ ?_
  exact h
theorem v_X12_named_70_55 {d : Nat} {x1 : Int32} {m : dM} {Q : Int32 → dM → Prop} (h : Q x1 m) : j_X12_named_70_55 (d + 1) x1 m Q := by
  refine w_iload_n (q := 56) hm22 ⟨⟨_, _, rfl⟩, rfl⟩ rfl ?_
  exact w_reti hm22 ⟨⟨_, _, rfl⟩, rfl⟩ rfl h
theorem v_X12_bounded_70 {d : Nat} {x1 : Int32} {x2 : Int32} {m : dM} {Q : Int32 → dM → Prop} (h : ((0 < (m.1 70 13).toInt → j_X12_bounded_70_15 (d + 1) x1 m Q) ∧ ((m.1 70 13).toInt ≤ 0 → c_X12_is_70 d (2 : Int32) m (fun r1 m1 => ((r1.toInt ≠ 0 → ((0 ≤ (m1.1 70 11).toInt ∧ (m1.1 70 11).toInt < 403) ∧ (((m1.1 75 (m1.1 70 11).toNatClampNeg).toInt < x1.toInt → j_X12_bounded_70_42 (d + 1) (m1.1 75 (m1.1 70 11).toNatClampNeg) m1 Q) ∧ (x1.toInt ≤ (m1.1 75 (m1.1 70 11).toNatClampNeg).toInt → (((m1.1 75 (m1.1 70 11).toNatClampNeg).toInt ≤ x2.toInt → j_X12_bounded_70_51 (d + 1) (m1.1 75 (m1.1 70 11).toNatClampNeg) m1 Q) ∧ (x2.toInt < (m1.1 75 (m1.1 70 11).toNatClampNeg).toInt → j_X12_bounded_70_42 (d + 1) (m1.1 75 (m1.1 70 11).toNatClampNeg) m1 Q)))))) ∧ (r1.toInt = 0 → j_X12_bounded_70_15 (d + 1) x1 m1 Q)))))) : c_X12_bounded_70 (d + 1) x1 x2 m Q := by
  refine w_aload_n (q := 1) hm25 ⟨⟨_, _, rfl⟩, rfl⟩ rfl ?_
  refine w_getf (q := 4) (v := (m.1 70 13)) hm25 ⟨⟨_, _, rfl⟩, rfl⟩ rfl rfl ?_
  refine w_if_gt (q := 7) (X := (m.1 70 13).toInt) hm25 ⟨⟨_, _, rfl⟩, rfl⟩ rfl (fun hc => ?_) (fun hc => ?_)
  · have h := h.1 hc
    exact Wp.wk [true, true, false, false] h
  · have h := h.2 hc
    refine w_aload_n (q := 8) hm25 ⟨⟨_, _, rfl⟩, rfl⟩ rfl ?_
    refine w_iconst (q := 9) hm25 ⟨⟨_, _, rfl⟩, rfl⟩ iconst_2 ?_
    refine w_call (q := 12) (n := 0) (vs := [.inr (.inr (some 70)), .inl (2 : Int32)]) (rest := []) (la := [oR 70, oI (2 : Int32)]) hm25 ⟨⟨_, _, rfl⟩, rfl⟩ rfl rfl rfl rfl hm12 rfl rfl (fun _ => ⟨_, _, rfl, rfl⟩) rfl (Wp.mono h ?_)
    rintro _ m1 ⟨r1, rfl, h⟩
    change Wp _ _ 12 _ [.inl r1] _ _
    refine w_if_ne (q := 15) (X := r1.toInt) hm25 ⟨⟨_, _, rfl⟩, rfl⟩ rfl (fun hc => ?_) (fun hc => ?_)
    · have h := h.1 hc
      refine w_aload_n (q := 23) hm25 ⟨⟨_, _, rfl⟩, rfl⟩ rfl ?_
      refine w_getr (q := 26) hm25 ⟨⟨_, _, rfl⟩, rfl⟩ rfl ?_
      refine w_aload_n (q := 27) hm25 ⟨⟨_, _, rfl⟩, rfl⟩ rfl ?_
      refine w_getf (q := 30) (v := (m1.1 70 11)) hm25 ⟨⟨_, _, rfl⟩, rfl⟩ rfl rfl ?_
      obtain ⟨hi, h⟩ := h
      refine w_iald (q := 31) (v := (m1.1 75 (m1.1 70 11).toNatClampNeg)) hm25 ⟨⟨_, _, rfl⟩, rfl⟩ rfl hi rfl rfl ?_
      refine w_istore_n (q := 32) (l' := [oR 70, oI x1, oI x2, oI (m1.1 75 (m1.1 70 11).toNatClampNeg)]) hm25 ⟨⟨_, _, rfl⟩, rfl⟩ rfl rfl rfl ?_
      refine w_iload_n (q := 33) hm25 ⟨⟨_, _, rfl⟩, rfl⟩ rfl ?_
      refine w_iload_n (q := 34) hm25 ⟨⟨_, _, rfl⟩, rfl⟩ rfl ?_
      refine w_icmp_lt (q := 37) (X := (m1.1 75 (m1.1 70 11).toNatClampNeg).toInt) (Y := x1.toInt) hm25 ⟨⟨_, _, rfl⟩, rfl⟩ rfl rfl (fun hc => ?_) (fun hc => ?_)
      · have h := h.1 hc
        exact Wp.wk [true, false, false, true] h
      · have h := h.2 hc
        refine w_iload_n (q := 38) hm25 ⟨⟨_, _, rfl⟩, rfl⟩ rfl ?_
        refine w_iload_n (q := 39) hm25 ⟨⟨_, _, rfl⟩, rfl⟩ rfl ?_
        refine w_icmp_le (q := 42) (X := (m1.1 75 (m1.1 70 11).toNatClampNeg).toInt) (Y := x2.toInt) hm25 ⟨⟨_, _, rfl⟩, rfl⟩ rfl rfl (fun hc => ?_) (fun hc => ?_)
        · have h := h.1 hc
          exact Wp.wk [true, false, false, true] h
        · have h := h.2 hc
          exact Wp.wk [true, false, false, true] h
    · have h := h.2 hc
      exact Wp.wk [true, true, false, false] h
theorem v_X12_bounded_70_15 {d : Nat} {x1 : Int32} {m : dM} {Q : Int32 → dM → Prop} (h : c_X12_fail_70 d (1 : Int32) m (fun m1 => Q x1 m1)) : j_X12_bounded_70_15 (d + 1) x1 m Q := by
  refine w_aload_n (q := 16) hm25 ⟨⟨_, _, rfl⟩, rfl⟩ rfl ?_
  refine w_iconst (q := 17) hm25 ⟨⟨_, _, rfl⟩, rfl⟩ iconst_1 ?_
  refine w_call (q := 20) (n := 0) (vs := [.inr (.inr (some 70)), .inl (1 : Int32)]) (rest := []) (la := [oR 70, oI (1 : Int32)]) hm25 ⟨⟨_, _, rfl⟩, rfl⟩ rfl rfl rfl rfl hm13 rfl rfl (fun _ => ⟨_, _, rfl, rfl⟩) rfl (Wp.mono h ?_)
  rintro _ m1 ⟨rfl, h⟩
  change Wp _ _ 20 _ [] _ _
  refine w_iload_n (q := 21) hm25 ⟨⟨_, _, rfl⟩, rfl⟩ rfl ?_
  exact w_reti hm25 ⟨⟨_, _, rfl⟩, rfl⟩ rfl h
theorem v_X12_bounded_70_42 {d : Nat} {x3 : Int32} {m : dM} {Q : Int32 → dM → Prop} (h : c_X12_wrong_70 d (5 : Int32) (m.1 70 11) m (fun m1 => j_X12_bounded_70_51 (d + 1) x3 m1 Q)) : j_X12_bounded_70_42 (d + 1) x3 m Q := by
  refine w_aload_n (q := 43) hm25 ⟨⟨_, _, rfl⟩, rfl⟩ rfl ?_
  refine w_iconst (q := 44) hm25 ⟨⟨_, _, rfl⟩, rfl⟩ iconst_5 ?_
  refine w_aload_n (q := 45) hm25 ⟨⟨_, _, rfl⟩, rfl⟩ rfl ?_
  refine w_getf (q := 48) (v := (m.1 70 11)) hm25 ⟨⟨_, _, rfl⟩, rfl⟩ rfl rfl ?_
  refine w_call (q := 51) (n := 1) (vs := [.inr (.inr (some 70)), .inl (5 : Int32), .inl (m.1 70 11)]) (rest := []) (la := [oR 70, oI (5 : Int32), oI (m.1 70 11), none]) hm25 ⟨⟨_, _, rfl⟩, rfl⟩ rfl rfl rfl rfl hm14 rfl rfl (fun _ => ⟨_, _, rfl, rfl⟩) rfl (Wp.mono h ?_)
  rintro _ m1 ⟨rfl, h⟩
  change Wp _ _ 51 _ [] _ _
  exact h
theorem v_X12_bounded_70_51 {d : Nat} {x3 : Int32} {m : dM} {Q : Int32 → dM → Prop} (h : c_X12_goesOn_70 d m (fun m1 => Q x3 m1)) : j_X12_bounded_70_51 (d + 1) x3 m Q := by
  refine w_aload_n (q := 52) hm25 ⟨⟨_, _, rfl⟩, rfl⟩ rfl ?_
  refine w_call (q := 55) (n := 0) (vs := [.inr (.inr (some 70))]) (rest := []) (la := [oR 70]) hm25 ⟨⟨_, _, rfl⟩, rfl⟩ rfl rfl rfl rfl hm15 rfl rfl (fun _ => ⟨_, _, rfl, rfl⟩) rfl (Wp.mono h ?_)
  rintro _ m1 ⟨rfl, h⟩
  change Wp _ _ 55 _ [] _ _
  refine w_iload_n (q := 56) hm25 ⟨⟨_, _, rfl⟩, rfl⟩ rfl ?_
  exact w_reti hm25 ⟨⟨_, _, rfl⟩, rfl⟩ rfl h
theorem v_X12_endsName_70 {d : Nat} {x1 : Int32} {x2 : Int32} {m : dM} {Q : dM → Prop} (h : c_X12_must_70 d (4 : Int32) m (fun m1 => (((m1.1 70 13).toInt ≤ 0 → ((0 ≤ x1.toInt ∧ x1.toInt < 403) ∧ ((0 ≤ (m1.1 70 20).toInt ∧ (m1.1 70 20).toInt < 15) ∧ ((0 ≤ (m1.1 70 20).toInt ∧ (m1.1 70 20).toInt < 15) ∧ Q (dSet (dSet (dSetL m1 78 (m1.1 70 20).toNatClampNeg (m1.2.1 76 x1.toNatClampNeg)) 79 (m1.1 70 20).toNatClampNeg x2) 70 20 ((m1.1 70 20) + (1 : Int32))))))) ∧ (0 < (m1.1 70 13).toInt → Q m1)))) : c_X12_endsName_70 (d + 1) x1 x2 m Q := by
  refine w_aload_n (q := 1) hm23 ⟨⟨_, _, rfl⟩, rfl⟩ rfl ?_
  refine w_iconst (q := 2) hm23 ⟨⟨_, _, rfl⟩, rfl⟩ iconst_4 ?_
  refine w_call (q := 5) (n := 0) (vs := [.inr (.inr (some 70)), .inl (4 : Int32)]) (rest := []) (la := [oR 70, oI (4 : Int32)]) hm23 ⟨⟨_, _, rfl⟩, rfl⟩ rfl rfl rfl rfl hm16 rfl rfl (fun _ => ⟨_, _, rfl, rfl⟩) rfl (Wp.mono h ?_)
  rintro _ m1 ⟨rfl, h⟩
  change Wp _ _ 5 _ [] _ _
  refine w_aload_n (q := 6) hm23 ⟨⟨_, _, rfl⟩, rfl⟩ rfl ?_
  refine w_getf (q := 9) (v := (m1.1 70 13)) hm23 ⟨⟨_, _, rfl⟩, rfl⟩ rfl rfl ?_
  refine w_if_le (q := 12) (X := (m1.1 70 13).toInt) hm23 ⟨⟨_, _, rfl⟩, rfl⟩ rfl (fun hc => ?_) (fun hc => ?_)
  · have h := h.1 hc
    refine w_aload_n (q := 14) hm23 ⟨⟨_, _, rfl⟩, rfl⟩ rfl ?_
    refine w_getr (q := 17) hm23 ⟨⟨_, _, rfl⟩, rfl⟩ rfl ?_
    refine w_aload_n (q := 18) hm23 ⟨⟨_, _, rfl⟩, rfl⟩ rfl ?_
    refine w_getf (q := 21) (v := (m1.1 70 20)) hm23 ⟨⟨_, _, rfl⟩, rfl⟩ rfl rfl ?_
    refine w_aload_n (q := 22) hm23 ⟨⟨_, _, rfl⟩, rfl⟩ rfl ?_
    refine w_getr (q := 25) hm23 ⟨⟨_, _, rfl⟩, rfl⟩ rfl ?_
    refine w_iload_n (q := 26) hm23 ⟨⟨_, _, rfl⟩, rfl⟩ rfl ?_
    obtain ⟨hi, h⟩ := h
    refine w_lald (q := 27) (v := (m1.2.1 76 x1.toNatClampNeg)) hm23 ⟨⟨_, _, rfl⟩, rfl⟩ rfl hi rfl rfl ?_
    obtain ⟨hi, h⟩ := h
    refine w_last (q := 28) hm23 ⟨⟨_, _, rfl⟩, rfl⟩ rfl hi rfl rfl ?_
    refine w_aload_n (q := 29) hm23 ⟨⟨_, _, rfl⟩, rfl⟩ rfl ?_
    refine w_getr (q := 32) hm23 ⟨⟨_, _, rfl⟩, rfl⟩ rfl ?_
    refine w_aload_n (q := 33) hm23 ⟨⟨_, _, rfl⟩, rfl⟩ rfl ?_
    refine w_getf (q := 36) (v := (m1.1 70 20)) hm23 ⟨⟨_, _, rfl⟩, rfl⟩ rfl rfl ?_
    refine w_iload_n (q := 37) hm23 ⟨⟨_, _, rfl⟩, rfl⟩ rfl ?_
    obtain ⟨hi, h⟩ := h
    refine w_iast (q := 38) hm23 ⟨⟨_, _, rfl⟩, rfl⟩ rfl hi rfl rfl ?_
    refine w_aload_n (q := 39) hm23 ⟨⟨_, _, rfl⟩, rfl⟩ rfl ?_
    refine w_dup (q := 40) hm23 ⟨⟨_, _, rfl⟩, rfl⟩ rfl ?_
    refine w_getf (q := 43) (v := (m1.1 70 20)) hm23 ⟨⟨_, _, rfl⟩, rfl⟩ rfl rfl ?_
    refine w_iconst (q := 44) hm23 ⟨⟨_, _, rfl⟩, rfl⟩ iconst_1 ?_
    refine w_iadd (q := 45) hm23 ⟨⟨_, _, rfl⟩, rfl⟩ ?_
    refine w_putf (q := 48) hm23 ⟨⟨_, _, rfl⟩, rfl⟩ rfl rfl rfl ?_
    exact w_retv hm23 ⟨⟨_, _, rfl⟩, rfl⟩ rfl h
  · have h := h.2 hc
    exact w_retv hm23 ⟨⟨_, _, rfl⟩, rfl⟩ rfl h
theorem v_X12_knownFlat_70 {d : Nat} {m : dM} {Q : Int32 → dM → Prop} (h : c_X12_must_70 d (1 : Int32) m (fun m1 => (((m1.1 70 13).toInt ≤ 0 → j_X12_knownFlat_70_21 (d + 1) (m.1 70 11) (0 : Int32) m1 Q) ∧ (0 < (m1.1 70 13).toInt → Q (-1 : Int32) m1)))) : c_X12_knownFlat_70 (d + 1) m Q := by
  refine w_aload_n (q := 1) hm24 ⟨⟨_, _, rfl⟩, rfl⟩ rfl ?_
  refine w_getf (q := 4) (v := (m.1 70 11)) hm24 ⟨⟨_, _, rfl⟩, rfl⟩ rfl rfl ?_
  refine w_istore_n (q := 5) (l' := [oR 70, oI (m.1 70 11), none]) hm24 ⟨⟨_, _, rfl⟩, rfl⟩ rfl rfl rfl ?_
  refine w_aload_n (q := 6) hm24 ⟨⟨_, _, rfl⟩, rfl⟩ rfl ?_
  refine w_iconst (q := 7) hm24 ⟨⟨_, _, rfl⟩, rfl⟩ iconst_1 ?_
  refine w_call (q := 10) (n := 0) (vs := [.inr (.inr (some 70)), .inl (1 : Int32)]) (rest := []) (la := [oR 70, oI (1 : Int32)]) hm24 ⟨⟨_, _, rfl⟩, rfl⟩ rfl rfl rfl rfl hm16 rfl rfl (fun _ => ⟨_, _, rfl, rfl⟩) rfl (Wp.mono h ?_)
  rintro _ m1 ⟨rfl, h⟩
  change Wp _ _ 10 _ [] _ _
  refine w_aload_n (q := 11) hm24 ⟨⟨_, _, rfl⟩, rfl⟩ rfl ?_
  refine w_getf (q := 14) (v := (m1.1 70 13)) hm24 ⟨⟨_, _, rfl⟩, rfl⟩ rfl rfl ?_
  refine w_if_le (q := 17) (X := (m1.1 70 13).toInt) hm24 ⟨⟨_, _, rfl⟩, rfl⟩ rfl (fun hc => ?_) (fun hc => ?_)
  · have h := h.1 hc
    refine w_iconst (q := 20) hm24 ⟨⟨_, _, rfl⟩, rfl⟩ iconst_0 ?_
    refine w_istore_n (q := 21) (l' := [oR 70, oI (m.1 70 11), oI (0 : Int32)]) hm24 ⟨⟨_, _, rfl⟩, rfl⟩ rfl rfl rfl ?_
    exact h
  · have h := h.2 hc
    refine w_iconst (q := 18) hm24 ⟨⟨_, _, rfl⟩, rfl⟩ iconst_m1 ?_
    exact w_reti hm24 ⟨⟨_, _, rfl⟩, rfl⟩ rfl h
theorem v_X12_knownFlat_70_21 {d : Nat} {x1 : Int32} {x2 : Int32} {m : dM} {Q : Int32 → dM → Prop} (h : (((m.1 70 20).toInt ≤ x2.toInt → c_X12_wrong_70 d (4 : Int32) x1 m (fun m1 => Q (-1 : Int32) m1)) ∧ (x2.toInt < (m.1 70 20).toInt → ((0 ≤ x2.toInt ∧ x2.toInt < 15) ∧ ((0 ≤ x1.toInt ∧ x1.toInt < 403) ∧ (((lg_cmp (m.2.1 78 x2.toNatClampNeg) (m.2.1 76 x1.toNatClampNeg)).toInt ≠ 0 → j_X12_knownFlat_70_61 (d + 1) x1 x2 m Q) ∧ ((lg_cmp (m.2.1 78 x2.toNatClampNeg) (m.2.1 76 x1.toNatClampNeg)).toInt = 0 → ((0 ≤ x2.toInt ∧ x2.toInt < 15) ∧ (((m.1 79 x2.toNatClampNeg).toInt < 0 → j_X12_knownFlat_70_61 (d + 1) x1 x2 m Q) ∧ (0 ≤ (m.1 79 x2.toNatClampNeg).toInt → ((0 ≤ x2.toInt ∧ x2.toInt < 15) ∧ Q (m.1 79 x2.toNatClampNeg) m))))))))))) : j_X12_knownFlat_70_21 (d + 1) x1 x2 m Q := by
  refine w_iload_n (q := 22) hm24 ⟨⟨_, _, rfl⟩, rfl⟩ rfl ?_
  refine w_aload_n (q := 23) hm24 ⟨⟨_, _, rfl⟩, rfl⟩ rfl ?_
  refine w_getf (q := 26) (v := (m.1 70 20)) hm24 ⟨⟨_, _, rfl⟩, rfl⟩ rfl rfl ?_
  refine w_icmp_ge (q := 29) (X := x2.toInt) (Y := (m.1 70 20).toInt) hm24 ⟨⟨_, _, rfl⟩, rfl⟩ rfl rfl (fun hc => ?_) (fun hc => ?_)
  · have h := h.1 hc
    refine w_aload_n (q := 68) hm24 ⟨⟨_, _, rfl⟩, rfl⟩ rfl ?_
    refine w_iconst (q := 69) hm24 ⟨⟨_, _, rfl⟩, rfl⟩ iconst_4 ?_
    refine w_iload_n (q := 70) hm24 ⟨⟨_, _, rfl⟩, rfl⟩ rfl ?_
    refine w_call (q := 73) (n := 1) (vs := [.inr (.inr (some 70)), .inl (4 : Int32), .inl x1]) (rest := []) (la := [oR 70, oI (4 : Int32), oI x1, none]) hm24 ⟨⟨_, _, rfl⟩, rfl⟩ rfl rfl rfl rfl hm14 rfl rfl (fun _ => ⟨_, _, rfl, rfl⟩) rfl (Wp.mono h ?_)
    rintro _ m1 ⟨rfl, h⟩
    change Wp _ _ 73 _ [] _ _
    refine w_iconst (q := 74) hm24 ⟨⟨_, _, rfl⟩, rfl⟩ iconst_m1 ?_
    exact w_reti hm24 ⟨⟨_, _, rfl⟩, rfl⟩ rfl h
  · have h := h.2 hc
    refine w_aload_n (q := 30) hm24 ⟨⟨_, _, rfl⟩, rfl⟩ rfl ?_
    refine w_getr (q := 33) hm24 ⟨⟨_, _, rfl⟩, rfl⟩ rfl ?_
    refine w_iload_n (q := 34) hm24 ⟨⟨_, _, rfl⟩, rfl⟩ rfl ?_
    obtain ⟨hi, h⟩ := h
    refine w_lald (q := 35) (v := (m.2.1 78 x2.toNatClampNeg)) hm24 ⟨⟨_, _, rfl⟩, rfl⟩ rfl hi rfl rfl ?_
    refine w_aload_n (q := 36) hm24 ⟨⟨_, _, rfl⟩, rfl⟩ rfl ?_
    refine w_getr (q := 39) hm24 ⟨⟨_, _, rfl⟩, rfl⟩ rfl ?_
    refine w_iload_n (q := 40) hm24 ⟨⟨_, _, rfl⟩, rfl⟩ rfl ?_
    obtain ⟨hi, h⟩ := h
    refine w_lald (q := 41) (v := (m.2.1 76 x1.toNatClampNeg)) hm24 ⟨⟨_, _, rfl⟩, rfl⟩ rfl hi rfl rfl ?_
    refine w_lcmp (q := 42) hm24 ⟨⟨_, _, rfl⟩, rfl⟩ ?_
    refine w_if_ne (q := 45) (X := (lg_cmp (m.2.1 78 x2.toNatClampNeg) (m.2.1 76 x1.toNatClampNeg)).toInt) hm24 ⟨⟨_, _, rfl⟩, rfl⟩ rfl (fun hc => ?_) (fun hc => ?_)
    · have h := h.1 hc
      exact h
    · have h := h.2 hc
      refine w_aload_n (q := 46) hm24 ⟨⟨_, _, rfl⟩, rfl⟩ rfl ?_
      refine w_getr (q := 49) hm24 ⟨⟨_, _, rfl⟩, rfl⟩ rfl ?_
      refine w_iload_n (q := 50) hm24 ⟨⟨_, _, rfl⟩, rfl⟩ rfl ?_
      obtain ⟨hi, h⟩ := h
      refine w_iald (q := 51) (v := (m.1 79 x2.toNatClampNeg)) hm24 ⟨⟨_, _, rfl⟩, rfl⟩ rfl hi rfl rfl ?_
      refine w_if_lt (q := 54) (X := (m.1 79 x2.toNatClampNeg).toInt) hm24 ⟨⟨_, _, rfl⟩, rfl⟩ rfl (fun hc => ?_) (fun hc => ?_)
      · have h := h.1 hc
        exact h
      · have h := h.2 hc
        refine w_aload_n (q := 55) hm24 ⟨⟨_, _, rfl⟩, rfl⟩ rfl ?_
        refine w_getr (q := 58) hm24 ⟨⟨_, _, rfl⟩, rfl⟩ rfl ?_
        refine w_iload_n (q := 59) hm24 ⟨⟨_, _, rfl⟩, rfl⟩ rfl ?_
        obtain ⟨hi, h⟩ := h
        refine w_iald (q := 60) (v := (m.1 79 x2.toNatClampNeg)) hm24 ⟨⟨_, _, rfl⟩, rfl⟩ rfl hi rfl rfl ?_
        exact w_reti hm24 ⟨⟨_, _, rfl⟩, rfl⟩ rfl h
theorem v_X12_knownFlat_70_61 {d : Nat} {x1 : Int32} {x2 : Int32} {m : dM} {Q : Int32 → dM → Prop} (h : j_X12_knownFlat_70_21 (d + 1) x1 (x2 + (1 : Int32)) m Q) : j_X12_knownFlat_70_61 (d + 1) x1 x2 m Q := by
  refine w_iinc (q := 64) (l' := [oR 70, oI x1, oI (x2 + (1 : Int32))]) hm24 ⟨⟨_, _, rfl⟩, rfl⟩ rfl rfl rfl iconst_1 rfl ?_
  refine w_goto (q := 21) hm24 ⟨_, _, rfl⟩ ?_
  exact h
theorem v_X12_areWired_70 {d : Nat} {x1 : Int32} {x2 : Int32} {m : dM} {Q : Int32 → dM → Prop} (h : j_X12_areWired_70_8 (d + 1) x1 x2 ((10 : Int32) * (m.1 70 19)) m Q) : c_X12_areWired_70 (d + 1) x1 x2 m Q := by
  refine w_bipush (q := 2) hm26 ⟨⟨_, _, rfl⟩, rfl⟩ bipush_10 ?_
  refine w_aload_n (q := 3) hm26 ⟨⟨_, _, rfl⟩, rfl⟩ rfl ?_
  refine w_getf (q := 6) (v := (m.1 70 19)) hm26 ⟨⟨_, _, rfl⟩, rfl⟩ rfl rfl ?_
  refine w_imul (q := 7) hm26 ⟨⟨_, _, rfl⟩, rfl⟩ ?_
  refine w_istore_n (q := 8) (l' := [oR 70, oI x1, oI x2, oI ((10 : Int32) * (m.1 70 19))]) hm26 ⟨⟨_, _, rfl⟩, rfl⟩ rfl rfl rfl ?_
  exact h
theorem v_X12_areWired_70_8 {d : Nat} {x1 : Int32} {x2 : Int32} {x3 : Int32} {m : dM} {Q : Int32 → dM → Prop} (h : ((0 ≤ (m.1 70 19).toInt ∧ (m.1 70 19).toInt < 2) ∧ (((((10 : Int32) * (m.1 70 19)) + (m.1 82 (m.1 70 19).toNatClampNeg)).toInt ≤ x3.toInt → Q (0 : Int32) m) ∧ (x3.toInt < (((10 : Int32) * (m.1 70 19)) + (m.1 82 (m.1 70 19).toNatClampNeg)).toInt → ((0 ≤ x3.toInt ∧ x3.toInt < 20) ∧ (((m.1 83 x3.toNatClampNeg).toInt ≠ x1.toInt → j_X12_areWired_70_49 (d + 1) x1 x2 x3 m Q) ∧ ((m.1 83 x3.toNatClampNeg).toInt = x1.toInt → ((0 ≤ x3.toInt ∧ x3.toInt < 20) ∧ (((m.1 84 x3.toNatClampNeg).toInt = x2.toInt → j_X12_areWired_70_69 (d + 1) m Q) ∧ ((m.1 84 x3.toNatClampNeg).toInt ≠ x2.toInt → j_X12_areWired_70_49 (d + 1) x1 x2 x3 m Q)))))))))) : j_X12_areWired_70_8 (d + 1) x1 x2 x3 m Q := by
  refine w_iload_n (q := 9) hm26 ⟨⟨_, _, rfl⟩, rfl⟩ rfl ?_
  refine w_bipush (q := 11) hm26 ⟨⟨_, _, rfl⟩, rfl⟩ bipush_10 ?_
  refine w_aload_n (q := 12) hm26 ⟨⟨_, _, rfl⟩, rfl⟩ rfl ?_
  refine w_getf (q := 15) (v := (m.1 70 19)) hm26 ⟨⟨_, _, rfl⟩, rfl⟩ rfl rfl ?_
  refine w_imul (q := 16) hm26 ⟨⟨_, _, rfl⟩, rfl⟩ ?_
  refine w_aload_n (q := 17) hm26 ⟨⟨_, _, rfl⟩, rfl⟩ rfl ?_
  refine w_getr (q := 20) hm26 ⟨⟨_, _, rfl⟩, rfl⟩ rfl ?_
  refine w_aload_n (q := 21) hm26 ⟨⟨_, _, rfl⟩, rfl⟩ rfl ?_
  refine w_getf (q := 24) (v := (m.1 70 19)) hm26 ⟨⟨_, _, rfl⟩, rfl⟩ rfl rfl ?_
  obtain ⟨hi, h⟩ := h
  refine w_iald (q := 25) (v := (m.1 82 (m.1 70 19).toNatClampNeg)) hm26 ⟨⟨_, _, rfl⟩, rfl⟩ rfl hi rfl rfl ?_
  refine w_iadd (q := 26) hm26 ⟨⟨_, _, rfl⟩, rfl⟩ ?_
  refine w_icmp_ge (q := 29) (X := x3.toInt) (Y := (((10 : Int32) * (m.1 70 19)) + (m.1 82 (m.1 70 19).toNatClampNeg)).toInt) hm26 ⟨⟨_, _, rfl⟩, rfl⟩ rfl rfl (fun hc => ?_) (fun hc => ?_)
  · have h := h.1 hc
    refine w_iconst (q := 78) hm26 ⟨⟨_, _, rfl⟩, rfl⟩ iconst_0 ?_
    exact w_retz hm26 ⟨⟨_, _, rfl⟩, rfl⟩ rfl (by decide) h
  · have h := h.2 hc
    refine w_aload_n (q := 30) hm26 ⟨⟨_, _, rfl⟩, rfl⟩ rfl ?_
    refine w_getr (q := 33) hm26 ⟨⟨_, _, rfl⟩, rfl⟩ rfl ?_
    refine w_iload_n (q := 34) hm26 ⟨⟨_, _, rfl⟩, rfl⟩ rfl ?_
    obtain ⟨hi, h⟩ := h
    refine w_iald (q := 35) (v := (m.1 83 x3.toNatClampNeg)) hm26 ⟨⟨_, _, rfl⟩, rfl⟩ rfl hi rfl rfl ?_
    refine w_iload_n (q := 36) hm26 ⟨⟨_, _, rfl⟩, rfl⟩ rfl ?_
    refine w_icmp_ne (q := 39) (X := (m.1 83 x3.toNatClampNeg).toInt) (Y := x1.toInt) hm26 ⟨⟨_, _, rfl⟩, rfl⟩ rfl rfl (fun hc => ?_) (fun hc => ?_)
    · have h := h.1 hc
      exact h
    · have h := h.2 hc
      refine w_aload_n (q := 40) hm26 ⟨⟨_, _, rfl⟩, rfl⟩ rfl ?_
      refine w_getr (q := 43) hm26 ⟨⟨_, _, rfl⟩, rfl⟩ rfl ?_
      refine w_iload_n (q := 44) hm26 ⟨⟨_, _, rfl⟩, rfl⟩ rfl ?_
      obtain ⟨hi, h⟩ := h
      refine w_iald (q := 45) (v := (m.1 84 x3.toNatClampNeg)) hm26 ⟨⟨_, _, rfl⟩, rfl⟩ rfl hi rfl rfl ?_
      refine w_iload_n (q := 46) hm26 ⟨⟨_, _, rfl⟩, rfl⟩ rfl ?_
      refine w_icmp_eq (q := 49) (X := (m.1 84 x3.toNatClampNeg).toInt) (Y := x2.toInt) hm26 ⟨⟨_, _, rfl⟩, rfl⟩ rfl rfl (fun hc => ?_) (fun hc => ?_)
      · have h := h.1 hc
        exact Wp.wk [false, false, false, false] h
      · have h := h.2 hc
        exact h
theorem v_X12_areWired_70_49 {d : Nat} {x1 : Int32} {x2 : Int32} {x3 : Int32} {m : dM} {Q : Int32 → dM → Prop} (h : ((0 ≤ x3.toInt ∧ x3.toInt < 20) ∧ (((m.1 83 x3.toNatClampNeg).toInt ≠ x2.toInt → j_X12_areWired_70_71 (d + 1) x1 x2 x3 m Q) ∧ ((m.1 83 x3.toNatClampNeg).toInt = x2.toInt → ((0 ≤ x3.toInt ∧ x3.toInt < 20) ∧ (((m.1 84 x3.toNatClampNeg).toInt ≠ x1.toInt → j_X12_areWired_70_71 (d + 1) x1 x2 x3 m Q) ∧ ((m.1 84 x3.toNatClampNeg).toInt = x1.toInt → j_X12_areWired_70_69 (d + 1) m Q))))))) : j_X12_areWired_70_49 (d + 1) x1 x2 x3 m Q := by
  refine w_aload_n (q := 50) hm26 ⟨⟨_, _, rfl⟩, rfl⟩ rfl ?_
  refine w_getr (q := 53) hm26 ⟨⟨_, _, rfl⟩, rfl⟩ rfl ?_
  refine w_iload_n (q := 54) hm26 ⟨⟨_, _, rfl⟩, rfl⟩ rfl ?_
  obtain ⟨hi, h⟩ := h
  refine w_iald (q := 55) (v := (m.1 83 x3.toNatClampNeg)) hm26 ⟨⟨_, _, rfl⟩, rfl⟩ rfl hi rfl rfl ?_
  refine w_iload_n (q := 56) hm26 ⟨⟨_, _, rfl⟩, rfl⟩ rfl ?_
  refine w_icmp_ne (q := 59) (X := (m.1 83 x3.toNatClampNeg).toInt) (Y := x2.toInt) hm26 ⟨⟨_, _, rfl⟩, rfl⟩ rfl rfl (fun hc => ?_) (fun hc => ?_)
  · have h := h.1 hc
    exact h
  · have h := h.2 hc
    refine w_aload_n (q := 60) hm26 ⟨⟨_, _, rfl⟩, rfl⟩ rfl ?_
    refine w_getr (q := 63) hm26 ⟨⟨_, _, rfl⟩, rfl⟩ rfl ?_
    refine w_iload_n (q := 64) hm26 ⟨⟨_, _, rfl⟩, rfl⟩ rfl ?_
    obtain ⟨hi, h⟩ := h
    refine w_iald (q := 65) (v := (m.1 84 x3.toNatClampNeg)) hm26 ⟨⟨_, _, rfl⟩, rfl⟩ rfl hi rfl rfl ?_
    refine w_iload_n (q := 66) hm26 ⟨⟨_, _, rfl⟩, rfl⟩ rfl ?_
    refine w_icmp_ne (q := 69) (X := (m.1 84 x3.toNatClampNeg).toInt) (Y := x1.toInt) hm26 ⟨⟨_, _, rfl⟩, rfl⟩ rfl rfl (fun hc => ?_) (fun hc => ?_)
    · have h := h.1 hc
      exact h
    · have h := h.2 hc
      exact Wp.wk [false, false, false, false] h
theorem v_X12_areWired_70_69 {d : Nat} {m : dM} {Q : Int32 → dM → Prop} (h : Q (1 : Int32) m) : j_X12_areWired_70_69 (d + 1) m Q := by
  refine w_iconst (q := 70) hm26 ⟨⟨_, _, rfl⟩, rfl⟩ iconst_1 ?_
  exact w_retz hm26 ⟨⟨_, _, rfl⟩, rfl⟩ rfl (by decide) h
theorem v_X12_areWired_70_71 {d : Nat} {x1 : Int32} {x2 : Int32} {x3 : Int32} {m : dM} {Q : Int32 → dM → Prop} (h : j_X12_areWired_70_8 (d + 1) x1 x2 (x3 + (1 : Int32)) m Q) : j_X12_areWired_70_71 (d + 1) x1 x2 x3 m Q := by
  refine w_iinc (q := 74) (l' := [oR 70, oI x1, oI x2, oI (x3 + (1 : Int32))]) hm26 ⟨⟨_, _, rfl⟩, rfl⟩ rfl rfl rfl iconst_1 rfl ?_
  refine w_goto (q := 8) hm26 ⟨_, _, rfl⟩ ?_
  exact h
theorem v_X12_tellWire_70 {d : Nat} {m : dM} {Q : dM → Prop} (h : ((0 ≤ (m.1 70 19).toInt ∧ (m.1 70 19).toInt < 2) ∧ c_X12_knownFlat_70 d m (fun r1 m1 => c_X12_knownFlat_70 d m1 (fun r2 m2 => (((m2.1 70 13).toInt ≠ 0 → j_X12_tellWire_70_72 (d + 1) (((10 : Int32) * (m.1 70 19)) + (m.1 82 (m.1 70 19).toNatClampNeg)) r1 r2 m2 Q) ∧ ((m2.1 70 13).toInt = 0 → ((r1.toInt < 0 → j_X12_tellWire_70_72 (d + 1) (((10 : Int32) * (m.1 70 19)) + (m.1 82 (m.1 70 19).toNatClampNeg)) r1 r2 m2 Q) ∧ (0 ≤ r1.toInt → ((r2.toInt < 0 → j_X12_tellWire_70_72 (d + 1) (((10 : Int32) * (m.1 70 19)) + (m.1 82 (m.1 70 19).toNatClampNeg)) r1 r2 m2 Q) ∧ (0 ≤ r2.toInt → ((r1.toInt = r2.toInt → j_X12_tellWire_70_66 (d + 1) (((10 : Int32) * (m.1 70 19)) + (m.1 82 (m.1 70 19).toNatClampNeg)) r1 (m1.1 70 11) r2 m2 Q) ∧ (r1.toInt ≠ r2.toInt → c_X12_areWired_70 d r1 r2 m2 (fun r3 m3 => ((r3.toInt = 0 → j_X12_tellWire_70_72 (d + 1) (((10 : Int32) * (m.1 70 19)) + (m.1 82 (m.1 70 19).toNatClampNeg)) r1 r2 m3 Q) ∧ (r3.toInt ≠ 0 → j_X12_tellWire_70_66 (d + 1) (((10 : Int32) * (m.1 70 19)) + (m.1 82 (m.1 70 19).toNatClampNeg)) r1 (m1.1 70 11) r2 m3 Q))))))))))))))) : c_X12_tellWire_70 (d + 1) m Q := by
  refine w_bipush (q := 2) hm27 ⟨⟨_, _, rfl⟩, rfl⟩ bipush_10 ?_
  refine w_aload_n (q := 3) hm27 ⟨⟨_, _, rfl⟩, rfl⟩ rfl ?_
  refine w_getf (q := 6) (v := (m.1 70 19)) hm27 ⟨⟨_, _, rfl⟩, rfl⟩ rfl rfl ?_
  refine w_imul (q := 7) hm27 ⟨⟨_, _, rfl⟩, rfl⟩ ?_
  refine w_aload_n (q := 8) hm27 ⟨⟨_, _, rfl⟩, rfl⟩ rfl ?_
  refine w_getr (q := 11) hm27 ⟨⟨_, _, rfl⟩, rfl⟩ rfl ?_
  refine w_aload_n (q := 12) hm27 ⟨⟨_, _, rfl⟩, rfl⟩ rfl ?_
  refine w_getf (q := 15) (v := (m.1 70 19)) hm27 ⟨⟨_, _, rfl⟩, rfl⟩ rfl rfl ?_
  obtain ⟨hi, h⟩ := h
  refine w_iald (q := 16) (v := (m.1 82 (m.1 70 19).toNatClampNeg)) hm27 ⟨⟨_, _, rfl⟩, rfl⟩ rfl hi rfl rfl ?_
  refine w_iadd (q := 17) hm27 ⟨⟨_, _, rfl⟩, rfl⟩ ?_
  refine w_istore_n (q := 18) (l' := [oR 70, oI (((10 : Int32) * (m.1 70 19)) + (m.1 82 (m.1 70 19).toNatClampNeg)), none, none, none]) hm27 ⟨⟨_, _, rfl⟩, rfl⟩ rfl rfl rfl ?_
  refine w_aload_n (q := 19) hm27 ⟨⟨_, _, rfl⟩, rfl⟩ rfl ?_
  refine w_call (q := 22) (n := 2) (vs := [.inr (.inr (some 70))]) (rest := []) (la := [oR 70, none, none]) hm27 ⟨⟨_, _, rfl⟩, rfl⟩ rfl rfl rfl rfl hm24 rfl rfl (fun _ => ⟨_, _, rfl, rfl⟩) rfl (Wp.mono h ?_)
  rintro _ m1 ⟨r1, rfl, h⟩
  change Wp _ _ 22 _ [.inl r1] _ _
  refine w_istore_n (q := 23) (l' := [oR 70, oI (((10 : Int32) * (m.1 70 19)) + (m.1 82 (m.1 70 19).toNatClampNeg)), oI r1, none, none]) hm27 ⟨⟨_, _, rfl⟩, rfl⟩ rfl rfl rfl ?_
  refine w_aload_n (q := 24) hm27 ⟨⟨_, _, rfl⟩, rfl⟩ rfl ?_
  refine w_getf (q := 27) (v := (m1.1 70 11)) hm27 ⟨⟨_, _, rfl⟩, rfl⟩ rfl rfl ?_
  refine w_istore_n (q := 28) (l' := [oR 70, oI (((10 : Int32) * (m.1 70 19)) + (m.1 82 (m.1 70 19).toNatClampNeg)), oI r1, oI (m1.1 70 11), none]) hm27 ⟨⟨_, _, rfl⟩, rfl⟩ rfl rfl rfl ?_
  refine w_aload_n (q := 29) hm27 ⟨⟨_, _, rfl⟩, rfl⟩ rfl ?_
  refine w_call (q := 32) (n := 2) (vs := [.inr (.inr (some 70))]) (rest := []) (la := [oR 70, none, none]) hm27 ⟨⟨_, _, rfl⟩, rfl⟩ rfl rfl rfl rfl hm24 rfl rfl (fun _ => ⟨_, _, rfl, rfl⟩) rfl (Wp.mono h ?_)
  rintro _ m2 ⟨r2, rfl, h⟩
  change Wp _ _ 32 _ [.inl r2] _ _
  refine w_istore (q := 34) (l' := [oR 70, oI (((10 : Int32) * (m.1 70 19)) + (m.1 82 (m.1 70 19).toNatClampNeg)), oI r1, oI (m1.1 70 11), oI r2]) hm27 ⟨⟨_, _, rfl⟩, rfl⟩ rfl rfl rfl ?_
  refine w_aload_n (q := 35) hm27 ⟨⟨_, _, rfl⟩, rfl⟩ rfl ?_
  refine w_getf (q := 38) (v := (m2.1 70 13)) hm27 ⟨⟨_, _, rfl⟩, rfl⟩ rfl rfl ?_
  refine w_if_ne (q := 41) (X := (m2.1 70 13).toInt) hm27 ⟨⟨_, _, rfl⟩, rfl⟩ rfl (fun hc => ?_) (fun hc => ?_)
  · have h := h.1 hc
    exact Wp.wk [true, true, true, false, true] h
  · have h := h.2 hc
    refine w_iload_n (q := 42) hm27 ⟨⟨_, _, rfl⟩, rfl⟩ rfl ?_
    refine w_if_lt (q := 45) (X := r1.toInt) hm27 ⟨⟨_, _, rfl⟩, rfl⟩ rfl (fun hc => ?_) (fun hc => ?_)
    · have h := h.1 hc
      exact Wp.wk [true, true, true, false, true] h
    · have h := h.2 hc
      refine w_iload (q := 47) hm27 ⟨⟨_, _, rfl⟩, rfl⟩ rfl ?_
      refine w_if_lt (q := 50) (X := r2.toInt) hm27 ⟨⟨_, _, rfl⟩, rfl⟩ rfl (fun hc => ?_) (fun hc => ?_)
      · have h := h.1 hc
        exact Wp.wk [true, true, true, false, true] h
      · have h := h.2 hc
        refine w_iload_n (q := 51) hm27 ⟨⟨_, _, rfl⟩, rfl⟩ rfl ?_
        refine w_iload (q := 53) hm27 ⟨⟨_, _, rfl⟩, rfl⟩ rfl ?_
        refine w_icmp_eq (q := 56) (X := r1.toInt) (Y := r2.toInt) hm27 ⟨⟨_, _, rfl⟩, rfl⟩ rfl rfl (fun hc => ?_) (fun hc => ?_)
        · have h := h.1 hc
          exact h
        · have h := h.2 hc
          refine w_aload_n (q := 57) hm27 ⟨⟨_, _, rfl⟩, rfl⟩ rfl ?_
          refine w_iload_n (q := 58) hm27 ⟨⟨_, _, rfl⟩, rfl⟩ rfl ?_
          refine w_iload (q := 60) hm27 ⟨⟨_, _, rfl⟩, rfl⟩ rfl ?_
          refine w_call (q := 63) (n := 1) (vs := [.inr (.inr (some 70)), .inl r1, .inl r2]) (rest := []) (la := [oR 70, oI r1, oI r2, none]) hm27 ⟨⟨_, _, rfl⟩, rfl⟩ rfl rfl rfl rfl hm26 rfl rfl (fun _ => ⟨_, _, rfl, rfl⟩) rfl (Wp.mono h ?_)
          rintro _ m3 ⟨r3, rfl, h⟩
          change Wp _ _ 63 _ [.inl r3] _ _
          refine w_if_eq (q := 66) (X := r3.toInt) hm27 ⟨⟨_, _, rfl⟩, rfl⟩ rfl (fun hc => ?_) (fun hc => ?_)
          · have h := h.1 hc
            exact Wp.wk [true, true, true, false, true] h
          · have h := h.2 hc
            exact h
theorem v_X12_tellWire_70_66 {d : Nat} {x1 : Int32} {x2 : Int32} {x3 : Int32} {x4 : Int32} {m : dM} {Q : dM → Prop} (h : c_X12_wrong_70 d (3 : Int32) x3 m (fun m1 => j_X12_tellWire_70_72 (d + 1) x1 x2 x4 m1 Q)) : j_X12_tellWire_70_66 (d + 1) x1 x2 x3 x4 m Q := by
  refine w_aload_n (q := 67) hm27 ⟨⟨_, _, rfl⟩, rfl⟩ rfl ?_
  refine w_iconst (q := 68) hm27 ⟨⟨_, _, rfl⟩, rfl⟩ iconst_3 ?_
  refine w_iload_n (q := 69) hm27 ⟨⟨_, _, rfl⟩, rfl⟩ rfl ?_
  refine w_call (q := 72) (n := 1) (vs := [.inr (.inr (some 70)), .inl (3 : Int32), .inl x3]) (rest := []) (la := [oR 70, oI (3 : Int32), oI x3, none]) hm27 ⟨⟨_, _, rfl⟩, rfl⟩ rfl rfl rfl rfl hm14 rfl rfl (fun _ => ⟨_, _, rfl, rfl⟩) rfl (Wp.mono h ?_)
  rintro _ m1 ⟨rfl, h⟩
  change Wp _ _ 72 _ [] _ _
  exact Wp.wk [true, true, true, false, true] h
theorem v_X12_tellWire_70_72 {d : Nat} {x1 : Int32} {x2 : Int32} {x4 : Int32} {m : dM} {Q : dM → Prop} (h : ((0 ≤ x1.toInt ∧ x1.toInt < 20) ∧ ((0 ≤ x1.toInt ∧ x1.toInt < 20) ∧ c_X12_bounded_70 d (1 : Int32) (99 : Int32) (dSet (dSet m 83 x1.toNatClampNeg x2) 84 x1.toNatClampNeg x4) (fun r1 m1 => ((0 ≤ x1.toInt ∧ x1.toInt < 20) ∧ c_X12_must_70 d (4 : Int32) (dSet m1 85 x1.toNatClampNeg r1) (fun m2 => (((m2.1 70 13).toInt ≠ 0 → j_X12_tellWire_70_125 (d + 1) m2 Q) ∧ ((m2.1 70 13).toInt = 0 → ((0 ≤ (m2.1 70 19).toInt ∧ (m2.1 70 19).toInt < 2) ∧ ((0 ≤ (m2.1 70 19).toInt ∧ (m2.1 70 19).toInt < 2) ∧ j_X12_tellWire_70_125 (d + 1) (dSet m2 82 (m2.1 70 19).toNatClampNeg ((m2.1 82 (m2.1 70 19).toNatClampNeg) + (1 : Int32))) Q)))))))))) : j_X12_tellWire_70_72 (d + 1) x1 x2 x4 m Q := by
  refine w_aload_n (q := 73) hm27 ⟨⟨_, _, rfl⟩, rfl⟩ rfl ?_
  refine w_getr (q := 76) hm27 ⟨⟨_, _, rfl⟩, rfl⟩ rfl ?_
  refine w_iload_n (q := 77) hm27 ⟨⟨_, _, rfl⟩, rfl⟩ rfl ?_
  refine w_iload_n (q := 78) hm27 ⟨⟨_, _, rfl⟩, rfl⟩ rfl ?_
  obtain ⟨hi, h⟩ := h
  refine w_iast (q := 79) hm27 ⟨⟨_, _, rfl⟩, rfl⟩ rfl hi rfl rfl ?_
  refine w_aload_n (q := 80) hm27 ⟨⟨_, _, rfl⟩, rfl⟩ rfl ?_
  refine w_getr (q := 83) hm27 ⟨⟨_, _, rfl⟩, rfl⟩ rfl ?_
  refine w_iload_n (q := 84) hm27 ⟨⟨_, _, rfl⟩, rfl⟩ rfl ?_
  refine w_iload (q := 86) hm27 ⟨⟨_, _, rfl⟩, rfl⟩ rfl ?_
  obtain ⟨hi, h⟩ := h
  refine w_iast (q := 87) hm27 ⟨⟨_, _, rfl⟩, rfl⟩ rfl hi rfl rfl ?_
  refine w_aload_n (q := 88) hm27 ⟨⟨_, _, rfl⟩, rfl⟩ rfl ?_
  refine w_getr (q := 91) hm27 ⟨⟨_, _, rfl⟩, rfl⟩ rfl ?_
  refine w_iload_n (q := 92) hm27 ⟨⟨_, _, rfl⟩, rfl⟩ rfl ?_
  refine w_aload_n (q := 93) hm27 ⟨⟨_, _, rfl⟩, rfl⟩ rfl ?_
  refine w_iconst (q := 94) hm27 ⟨⟨_, _, rfl⟩, rfl⟩ iconst_1 ?_
  refine w_bipush (q := 96) hm27 ⟨⟨_, _, rfl⟩, rfl⟩ bipush_99 ?_
  refine w_call (q := 99) (n := 1) (vs := [.inr (.inr (some 70)), .inl (1 : Int32), .inl (99 : Int32)]) (rest := [.inl x1, .inr (.inr (some 85))]) (la := [oR 70, oI (1 : Int32), oI (99 : Int32), none]) hm27 ⟨⟨_, _, rfl⟩, rfl⟩ rfl rfl rfl rfl hm25 rfl rfl (fun _ => ⟨_, _, rfl, rfl⟩) rfl (Wp.mono h ?_)
  rintro _ m1 ⟨r1, rfl, h⟩
  change Wp _ _ 99 _ [.inl r1, .inl x1, .inr (.inr (some 85))] _ _
  obtain ⟨hi, h⟩ := h
  refine w_iast (q := 100) hm27 ⟨⟨_, _, rfl⟩, rfl⟩ rfl hi rfl rfl ?_
  refine w_aload_n (q := 101) hm27 ⟨⟨_, _, rfl⟩, rfl⟩ rfl ?_
  refine w_iconst (q := 102) hm27 ⟨⟨_, _, rfl⟩, rfl⟩ iconst_4 ?_
  refine w_call (q := 105) (n := 0) (vs := [.inr (.inr (some 70)), .inl (4 : Int32)]) (rest := []) (la := [oR 70, oI (4 : Int32)]) hm27 ⟨⟨_, _, rfl⟩, rfl⟩ rfl rfl rfl rfl hm16 rfl rfl (fun _ => ⟨_, _, rfl, rfl⟩) rfl (Wp.mono h ?_)
  rintro _ m2 ⟨rfl, h⟩
  change Wp _ _ 105 _ [] _ _
  refine w_aload_n (q := 106) hm27 ⟨⟨_, _, rfl⟩, rfl⟩ rfl ?_
  refine w_getf (q := 109) (v := (m2.1 70 13)) hm27 ⟨⟨_, _, rfl⟩, rfl⟩ rfl rfl ?_
  refine w_if_ne (q := 112) (X := (m2.1 70 13).toInt) hm27 ⟨⟨_, _, rfl⟩, rfl⟩ rfl (fun hc => ?_) (fun hc => ?_)
  · have h := h.1 hc
    exact Wp.wk [false, false, false, false, false] h
  · have h := h.2 hc
    refine w_aload_n (q := 113) hm27 ⟨⟨_, _, rfl⟩, rfl⟩ rfl ?_
    refine w_getr (q := 116) hm27 ⟨⟨_, _, rfl⟩, rfl⟩ rfl ?_
    refine w_aload_n (q := 117) hm27 ⟨⟨_, _, rfl⟩, rfl⟩ rfl ?_
    refine w_getf (q := 120) (v := (m2.1 70 19)) hm27 ⟨⟨_, _, rfl⟩, rfl⟩ rfl rfl ?_
    refine w_dup2 (q := 121) hm27 ⟨⟨_, _, rfl⟩, rfl⟩ rfl ?_
    obtain ⟨hi, h⟩ := h
    refine w_iald (q := 122) (v := (m2.1 82 (m2.1 70 19).toNatClampNeg)) hm27 ⟨⟨_, _, rfl⟩, rfl⟩ rfl hi rfl rfl ?_
    refine w_iconst (q := 123) hm27 ⟨⟨_, _, rfl⟩, rfl⟩ iconst_1 ?_
    refine w_iadd (q := 124) hm27 ⟨⟨_, _, rfl⟩, rfl⟩ ?_
    obtain ⟨hi, h⟩ := h
    refine w_iast (q := 125) hm27 ⟨⟨_, _, rfl⟩, rfl⟩ rfl hi rfl rfl ?_
    exact Wp.wk [false, false, false, false, false] h
theorem v_X12_tellWire_70_125 {d : Nat} {m : dM} {Q : dM → Prop} (h : Q m) : j_X12_tellWire_70_125 (d + 1) m Q := by
  exact w_retv hm27 ⟨⟨_, _, rfl⟩, rfl⟩ rfl h
end
section
theorem v_X12_tellUse_70 {d : Nat} {m : dM} {Q : dM → Prop} (h : ((0 ≤ (m.1 70 19).toInt ∧ (m.1 70 19).toInt < 2) ∧ c_X12_named_70 d m (fun r1 m1 => c_X12_knownFlat_70 d m1 (fun r2 m2 => ((0 ≤ (((8 : Int32) * (m.1 70 19)) + (m.1 86 (m.1 70 19).toNatClampNeg)).toInt ∧ (((8 : Int32) * (m.1 70 19)) + (m.1 86 (m.1 70 19).toNatClampNeg)).toInt < 16) ∧ c_X12_bounded_70 d (1 : Int32) (19 : Int32) (dSet m2 87 (((8 : Int32) * (m.1 70 19)) + (m.1 86 (m.1 70 19).toNatClampNeg)).toNatClampNeg r2) (fun r3 m3 => ((0 ≤ (((8 : Int32) * (m.1 70 19)) + (m.1 86 (m.1 70 19).toNatClampNeg)).toInt ∧ (((8 : Int32) * (m.1 70 19)) + (m.1 86 (m.1 70 19).toNatClampNeg)).toInt < 16) ∧ c_X12_bounded_70 d (0 : Int32) (23 : Int32) (dSet m3 88 (((8 : Int32) * (m.1 70 19)) + (m.1 86 (m.1 70 19).toNatClampNeg)).toNatClampNeg r3) (fun r4 m4 => ((0 ≤ (((8 : Int32) * (m.1 70 19)) + (m.1 86 (m.1 70 19).toNatClampNeg)).toInt ∧ (((8 : Int32) * (m.1 70 19)) + (m.1 86 (m.1 70 19).toNatClampNeg)).toInt < 16) ∧ ((0 ≤ (((8 : Int32) * (m.1 70 19)) + (m.1 86 (m.1 70 19).toNatClampNeg)).toInt ∧ (((8 : Int32) * (m.1 70 19)) + (m.1 86 (m.1 70 19).toNatClampNeg)).toInt < 16) ∧ ((r4.toInt ≤ 23 → ((0 ≤ (((8 : Int32) * (m.1 70 19)) + (m.1 86 (m.1 70 19).toNatClampNeg)).toInt ∧ (((8 : Int32) * (m.1 70 19)) + (m.1 86 (m.1 70 19).toNatClampNeg)).toInt < 16) ∧ c_X12_bounded_70 d r4 (23 : Int32) (dSet m4 89 (((8 : Int32) * (m.1 70 19)) + (m.1 86 (m.1 70 19).toNatClampNeg)).toNatClampNeg r4) (fun r5 m5 => ((0 ≤ (((8 : Int32) * (m.1 70 19)) + (m.1 86 (m.1 70 19).toNatClampNeg)).toInt ∧ (((8 : Int32) * (m.1 70 19)) + (m.1 86 (m.1 70 19).toNatClampNeg)).toInt < 16) ∧ c_X12_endsName_70 d r1 (-1 : Int32) (dSet m5 90 (((8 : Int32) * (m.1 70 19)) + (m.1 86 (m.1 70 19).toNatClampNeg)).toNatClampNeg r5) (fun m6 => (((m6.1 70 13).toInt ≠ 0 → j_X12_tellUse_70_118 (d + 1) m6 Q) ∧ ((m6.1 70 13).toInt = 0 → ((0 ≤ (m6.1 70 19).toInt ∧ (m6.1 70 19).toInt < 2) ∧ ((0 ≤ (m6.1 70 19).toInt ∧ (m6.1 70 19).toInt < 2) ∧ j_X12_tellUse_70_118 (d + 1) (dSet m6 86 (m6.1 70 19).toNatClampNeg ((m6.1 86 (m6.1 70 19).toNatClampNeg) + (1 : Int32))) Q))))))))) ∧ (23 < r4.toInt → c_X12_bounded_70 d (0 : Int32) (23 : Int32) (dSet m4 89 (((8 : Int32) * (m.1 70 19)) + (m.1 86 (m.1 70 19).toNatClampNeg)).toNatClampNeg r4) (fun r7 m7 => ((0 ≤ (((8 : Int32) * (m.1 70 19)) + (m.1 86 (m.1 70 19).toNatClampNeg)).toInt ∧ (((8 : Int32) * (m.1 70 19)) + (m.1 86 (m.1 70 19).toNatClampNeg)).toInt < 16) ∧ c_X12_endsName_70 d r1 (-1 : Int32) (dSet m7 90 (((8 : Int32) * (m.1 70 19)) + (m.1 86 (m.1 70 19).toNatClampNeg)).toNatClampNeg r7) (fun m8 => (((m8.1 70 13).toInt ≠ 0 → j_X12_tellUse_70_118 (d + 1) m8 Q) ∧ ((m8.1 70 13).toInt = 0 → ((0 ≤ (m8.1 70 19).toInt ∧ (m8.1 70 19).toInt < 2) ∧ ((0 ≤ (m8.1 70 19).toInt ∧ (m8.1 70 19).toInt < 2) ∧ j_X12_tellUse_70_118 (d + 1) (dSet m8 86 (m8.1 70 19).toNatClampNeg ((m8.1 86 (m8.1 70 19).toNatClampNeg) + (1 : Int32))) Q))))))))))))))))))) : c_X12_tellUse_70 (d + 1) m Q := by
  refine w_bipush (q := 2) hm28 ⟨⟨_, _, rfl⟩, rfl⟩ bipush_8 ?_
  refine w_aload_n (q := 3) hm28 ⟨⟨_, _, rfl⟩, rfl⟩ rfl ?_
  refine w_getf (q := 6) (v := (m.1 70 19)) hm28 ⟨⟨_, _, rfl⟩, rfl⟩ rfl rfl ?_
  refine w_imul (q := 7) hm28 ⟨⟨_, _, rfl⟩, rfl⟩ ?_
  refine w_aload_n (q := 8) hm28 ⟨⟨_, _, rfl⟩, rfl⟩ rfl ?_
  refine w_getr (q := 11) hm28 ⟨⟨_, _, rfl⟩, rfl⟩ rfl ?_
  refine w_aload_n (q := 12) hm28 ⟨⟨_, _, rfl⟩, rfl⟩ rfl ?_
  refine w_getf (q := 15) (v := (m.1 70 19)) hm28 ⟨⟨_, _, rfl⟩, rfl⟩ rfl rfl ?_
  obtain ⟨hi, h⟩ := h
  refine w_iald (q := 16) (v := (m.1 86 (m.1 70 19).toNatClampNeg)) hm28 ⟨⟨_, _, rfl⟩, rfl⟩ rfl hi rfl rfl ?_
  refine w_iadd (q := 17) hm28 ⟨⟨_, _, rfl⟩, rfl⟩ ?_
  refine w_istore_n (q := 18) (l' := [oR 70, oI (((8 : Int32) * (m.1 70 19)) + (m.1 86 (m.1 70 19).toNatClampNeg)), none]) hm28 ⟨⟨_, _, rfl⟩, rfl⟩ rfl rfl rfl ?_
  refine w_aload_n (q := 19) hm28 ⟨⟨_, _, rfl⟩, rfl⟩ rfl ?_
  refine w_call (q := 22) (n := 2) (vs := [.inr (.inr (some 70))]) (rest := []) (la := [oR 70, none, none]) hm28 ⟨⟨_, _, rfl⟩, rfl⟩ rfl rfl rfl rfl hm22 rfl rfl (fun _ => ⟨_, _, rfl, rfl⟩) rfl (Wp.mono h ?_)
  rintro _ m1 ⟨r1, rfl, h⟩
  change Wp _ _ 22 _ [.inl r1] _ _
  refine w_istore_n (q := 23) (l' := [oR 70, oI (((8 : Int32) * (m.1 70 19)) + (m.1 86 (m.1 70 19).toNatClampNeg)), oI r1]) hm28 ⟨⟨_, _, rfl⟩, rfl⟩ rfl rfl rfl ?_
  refine w_aload_n (q := 24) hm28 ⟨⟨_, _, rfl⟩, rfl⟩ rfl ?_
  refine w_getr (q := 27) hm28 ⟨⟨_, _, rfl⟩, rfl⟩ rfl ?_
  refine w_iload_n (q := 28) hm28 ⟨⟨_, _, rfl⟩, rfl⟩ rfl ?_
  refine w_aload_n (q := 29) hm28 ⟨⟨_, _, rfl⟩, rfl⟩ rfl ?_
  refine w_call (q := 32) (n := 2) (vs := [.inr (.inr (some 70))]) (rest := [.inl (((8 : Int32) * (m.1 70 19)) + (m.1 86 (m.1 70 19).toNatClampNeg)), .inr (.inr (some 87))]) (la := [oR 70, none, none]) hm28 ⟨⟨_, _, rfl⟩, rfl⟩ rfl rfl rfl rfl hm24 rfl rfl (fun _ => ⟨_, _, rfl, rfl⟩) rfl (Wp.mono h ?_)
  rintro _ m2 ⟨r2, rfl, h⟩
  change Wp _ _ 32 _ [.inl r2, .inl (((8 : Int32) * (m.1 70 19)) + (m.1 86 (m.1 70 19).toNatClampNeg)), .inr (.inr (some 87))] _ _
  obtain ⟨hi, h⟩ := h
  refine w_iast (q := 33) hm28 ⟨⟨_, _, rfl⟩, rfl⟩ rfl hi rfl rfl ?_
  refine w_aload_n (q := 34) hm28 ⟨⟨_, _, rfl⟩, rfl⟩ rfl ?_
  refine w_getr (q := 37) hm28 ⟨⟨_, _, rfl⟩, rfl⟩ rfl ?_
  refine w_iload_n (q := 38) hm28 ⟨⟨_, _, rfl⟩, rfl⟩ rfl ?_
  refine w_aload_n (q := 39) hm28 ⟨⟨_, _, rfl⟩, rfl⟩ rfl ?_
  refine w_iconst (q := 40) hm28 ⟨⟨_, _, rfl⟩, rfl⟩ iconst_1 ?_
  refine w_bipush (q := 42) hm28 ⟨⟨_, _, rfl⟩, rfl⟩ bipush_19 ?_
  refine w_call (q := 45) (n := 1) (vs := [.inr (.inr (some 70)), .inl (1 : Int32), .inl (19 : Int32)]) (rest := [.inl (((8 : Int32) * (m.1 70 19)) + (m.1 86 (m.1 70 19).toNatClampNeg)), .inr (.inr (some 88))]) (la := [oR 70, oI (1 : Int32), oI (19 : Int32), none]) hm28 ⟨⟨_, _, rfl⟩, rfl⟩ rfl rfl rfl rfl hm25 rfl rfl (fun _ => ⟨_, _, rfl, rfl⟩) rfl (Wp.mono h ?_)
  rintro _ m3 ⟨r3, rfl, h⟩
  change Wp _ _ 45 _ [.inl r3, .inl (((8 : Int32) * (m.1 70 19)) + (m.1 86 (m.1 70 19).toNatClampNeg)), .inr (.inr (some 88))] _ _
  obtain ⟨hi, h⟩ := h
  refine w_iast (q := 46) hm28 ⟨⟨_, _, rfl⟩, rfl⟩ rfl hi rfl rfl ?_
  refine w_aload_n (q := 47) hm28 ⟨⟨_, _, rfl⟩, rfl⟩ rfl ?_
  refine w_getr (q := 50) hm28 ⟨⟨_, _, rfl⟩, rfl⟩ rfl ?_
  refine w_iload_n (q := 51) hm28 ⟨⟨_, _, rfl⟩, rfl⟩ rfl ?_
  refine w_aload_n (q := 52) hm28 ⟨⟨_, _, rfl⟩, rfl⟩ rfl ?_
  refine w_iconst (q := 53) hm28 ⟨⟨_, _, rfl⟩, rfl⟩ iconst_0 ?_
  refine w_bipush (q := 55) hm28 ⟨⟨_, _, rfl⟩, rfl⟩ bipush_23 ?_
  refine w_call (q := 58) (n := 1) (vs := [.inr (.inr (some 70)), .inl (0 : Int32), .inl (23 : Int32)]) (rest := [.inl (((8 : Int32) * (m.1 70 19)) + (m.1 86 (m.1 70 19).toNatClampNeg)), .inr (.inr (some 89))]) (la := [oR 70, oI (0 : Int32), oI (23 : Int32), none]) hm28 ⟨⟨_, _, rfl⟩, rfl⟩ rfl rfl rfl rfl hm25 rfl rfl (fun _ => ⟨_, _, rfl, rfl⟩) rfl (Wp.mono h ?_)
  rintro _ m4 ⟨r4, rfl, h⟩
  change Wp _ _ 58 _ [.inl r4, .inl (((8 : Int32) * (m.1 70 19)) + (m.1 86 (m.1 70 19).toNatClampNeg)), .inr (.inr (some 89))] _ _
  obtain ⟨hi, h⟩ := h
  refine w_iast (q := 59) hm28 ⟨⟨_, _, rfl⟩, rfl⟩ rfl hi rfl rfl ?_
  refine w_aload_n (q := 60) hm28 ⟨⟨_, _, rfl⟩, rfl⟩ rfl ?_
  refine w_getr (q := 63) hm28 ⟨⟨_, _, rfl⟩, rfl⟩ rfl ?_
  refine w_iload_n (q := 64) hm28 ⟨⟨_, _, rfl⟩, rfl⟩ rfl ?_
  refine w_aload_n (q := 65) hm28 ⟨⟨_, _, rfl⟩, rfl⟩ rfl ?_
  refine w_aload_n (q := 66) hm28 ⟨⟨_, _, rfl⟩, rfl⟩ rfl ?_
  refine w_getr (q := 69) hm28 ⟨⟨_, _, rfl⟩, rfl⟩ rfl ?_
  refine w_iload_n (q := 70) hm28 ⟨⟨_, _, rfl⟩, rfl⟩ rfl ?_
  obtain ⟨hi, h⟩ := h
  refine w_iald (q := 71) (v := r4) hm28 ⟨⟨_, _, rfl⟩, rfl⟩ rfl hi rfl (dSet_s m4 89 (((8 : Int32) * (m.1 70 19)) + (m.1 86 (m.1 70 19).toNatClampNeg)).toNatClampNeg r4) ?_
  refine w_bipush (q := 73) hm28 ⟨⟨_, _, rfl⟩, rfl⟩ bipush_23 ?_
  refine w_icmp_le (q := 76) (X := r4.toInt) (Y := 23) hm28 ⟨⟨_, _, rfl⟩, rfl⟩ rfl (by decide) (fun hc => ?_) (fun hc => ?_)
  · have h := h.1 hc
    refine w_aload_n (q := 81) hm28 ⟨⟨_, _, rfl⟩, rfl⟩ rfl ?_
    refine w_getr (q := 84) hm28 ⟨⟨_, _, rfl⟩, rfl⟩ rfl ?_
    refine w_iload_n (q := 85) hm28 ⟨⟨_, _, rfl⟩, rfl⟩ rfl ?_
    obtain ⟨hi, h⟩ := h
    refine w_iald (q := 86) (v := r4) hm28 ⟨⟨_, _, rfl⟩, rfl⟩ rfl hi rfl (dSet_s m4 89 (((8 : Int32) * (m.1 70 19)) + (m.1 86 (m.1 70 19).toNatClampNeg)).toNatClampNeg r4) ?_
    refine w_bipush (q := 88) hm28 ⟨⟨_, _, rfl⟩, rfl⟩ bipush_23 ?_
    refine w_call (q := 91) (n := 1) (vs := [.inr (.inr (some 70)), .inl r4, .inl (23 : Int32)]) (rest := [.inl (((8 : Int32) * (m.1 70 19)) + (m.1 86 (m.1 70 19).toNatClampNeg)), .inr (.inr (some 90))]) (la := [oR 70, oI r4, oI (23 : Int32), none]) hm28 ⟨⟨_, _, rfl⟩, rfl⟩ rfl rfl rfl rfl hm25 rfl rfl (fun _ => ⟨_, _, rfl, rfl⟩) rfl (Wp.mono h ?_)
    rintro _ m5 ⟨r5, rfl, h⟩
    change Wp _ _ 91 _ [.inl r5, .inl (((8 : Int32) * (m.1 70 19)) + (m.1 86 (m.1 70 19).toNatClampNeg)), .inr (.inr (some 90))] _ _
    obtain ⟨hi, h⟩ := h
    refine w_iast (q := 92) hm28 ⟨⟨_, _, rfl⟩, rfl⟩ rfl hi rfl rfl ?_
    refine w_aload_n (q := 93) hm28 ⟨⟨_, _, rfl⟩, rfl⟩ rfl ?_
    refine w_iload_n (q := 94) hm28 ⟨⟨_, _, rfl⟩, rfl⟩ rfl ?_
    refine w_iconst (q := 95) hm28 ⟨⟨_, _, rfl⟩, rfl⟩ iconst_m1 ?_
    refine w_call (q := 98) (n := 0) (vs := [.inr (.inr (some 70)), .inl r1, .inl (-1 : Int32)]) (rest := []) (la := [oR 70, oI r1, oI (-1 : Int32)]) hm28 ⟨⟨_, _, rfl⟩, rfl⟩ rfl rfl rfl rfl hm23 rfl rfl (fun _ => ⟨_, _, rfl, rfl⟩) rfl (Wp.mono h ?_)
    rintro _ m6 ⟨rfl, h⟩
    change Wp _ _ 98 _ [] _ _
    refine w_aload_n (q := 99) hm28 ⟨⟨_, _, rfl⟩, rfl⟩ rfl ?_
    refine w_getf (q := 102) (v := (m6.1 70 13)) hm28 ⟨⟨_, _, rfl⟩, rfl⟩ rfl rfl ?_
    refine w_if_ne (q := 105) (X := (m6.1 70 13).toInt) hm28 ⟨⟨_, _, rfl⟩, rfl⟩ rfl (fun hc => ?_) (fun hc => ?_)
    · have h := h.1 hc
      exact Wp.wk [false, false, false] h
    · have h := h.2 hc
      refine w_aload_n (q := 106) hm28 ⟨⟨_, _, rfl⟩, rfl⟩ rfl ?_
      refine w_getr (q := 109) hm28 ⟨⟨_, _, rfl⟩, rfl⟩ rfl ?_
      refine w_aload_n (q := 110) hm28 ⟨⟨_, _, rfl⟩, rfl⟩ rfl ?_
      refine w_getf (q := 113) (v := (m6.1 70 19)) hm28 ⟨⟨_, _, rfl⟩, rfl⟩ rfl rfl ?_
      refine w_dup2 (q := 114) hm28 ⟨⟨_, _, rfl⟩, rfl⟩ rfl ?_
      obtain ⟨hi, h⟩ := h
      refine w_iald (q := 115) (v := (m6.1 86 (m6.1 70 19).toNatClampNeg)) hm28 ⟨⟨_, _, rfl⟩, rfl⟩ rfl hi rfl rfl ?_
      refine w_iconst (q := 116) hm28 ⟨⟨_, _, rfl⟩, rfl⟩ iconst_1 ?_
      refine w_iadd (q := 117) hm28 ⟨⟨_, _, rfl⟩, rfl⟩ ?_
      obtain ⟨hi, h⟩ := h
      refine w_iast (q := 118) hm28 ⟨⟨_, _, rfl⟩, rfl⟩ rfl hi rfl rfl ?_
      exact Wp.wk [false, false, false] h
  · have h := h.2 hc
    refine w_iconst (q := 77) hm28 ⟨⟨_, _, rfl⟩, rfl⟩ iconst_0 ?_
    refine w_goto (q := 86) hm28 ⟨_, _, rfl⟩ ?_
    refine w_bipush (q := 88) hm28 ⟨⟨_, _, rfl⟩, rfl⟩ bipush_23 ?_
    refine w_call (q := 91) (n := 1) (vs := [.inr (.inr (some 70)), .inl (0 : Int32), .inl (23 : Int32)]) (rest := [.inl (((8 : Int32) * (m.1 70 19)) + (m.1 86 (m.1 70 19).toNatClampNeg)), .inr (.inr (some 90))]) (la := [oR 70, oI (0 : Int32), oI (23 : Int32), none]) hm28 ⟨⟨_, _, rfl⟩, rfl⟩ rfl rfl rfl rfl hm25 rfl rfl (fun _ => ⟨_, _, rfl, rfl⟩) rfl (Wp.mono h ?_)
    rintro _ m7 ⟨r7, rfl, h⟩
    change Wp _ _ 91 _ [.inl r7, .inl (((8 : Int32) * (m.1 70 19)) + (m.1 86 (m.1 70 19).toNatClampNeg)), .inr (.inr (some 90))] _ _
    obtain ⟨hi, h⟩ := h
    refine w_iast (q := 92) hm28 ⟨⟨_, _, rfl⟩, rfl⟩ rfl hi rfl rfl ?_
    refine w_aload_n (q := 93) hm28 ⟨⟨_, _, rfl⟩, rfl⟩ rfl ?_
    refine w_iload_n (q := 94) hm28 ⟨⟨_, _, rfl⟩, rfl⟩ rfl ?_
    refine w_iconst (q := 95) hm28 ⟨⟨_, _, rfl⟩, rfl⟩ iconst_m1 ?_
    refine w_call (q := 98) (n := 0) (vs := [.inr (.inr (some 70)), .inl r1, .inl (-1 : Int32)]) (rest := []) (la := [oR 70, oI r1, oI (-1 : Int32)]) hm28 ⟨⟨_, _, rfl⟩, rfl⟩ rfl rfl rfl rfl hm23 rfl rfl (fun _ => ⟨_, _, rfl, rfl⟩) rfl (Wp.mono h ?_)
    rintro _ m8 ⟨rfl, h⟩
    change Wp _ _ 98 _ [] _ _
    refine w_aload_n (q := 99) hm28 ⟨⟨_, _, rfl⟩, rfl⟩ rfl ?_
    refine w_getf (q := 102) (v := (m8.1 70 13)) hm28 ⟨⟨_, _, rfl⟩, rfl⟩ rfl rfl ?_
    refine w_if_ne (q := 105) (X := (m8.1 70 13).toInt) hm28 ⟨⟨_, _, rfl⟩, rfl⟩ rfl (fun hc => ?_) (fun hc => ?_)
    · have h := h.1 hc
      exact Wp.wk [false, false, false] h
    · have h := h.2 hc
      refine w_aload_n (q := 106) hm28 ⟨⟨_, _, rfl⟩, rfl⟩ rfl ?_
      refine w_getr (q := 109) hm28 ⟨⟨_, _, rfl⟩, rfl⟩ rfl ?_
      refine w_aload_n (q := 110) hm28 ⟨⟨_, _, rfl⟩, rfl⟩ rfl ?_
      refine w_getf (q := 113) (v := (m8.1 70 19)) hm28 ⟨⟨_, _, rfl⟩, rfl⟩ rfl rfl ?_
      refine w_dup2 (q := 114) hm28 ⟨⟨_, _, rfl⟩, rfl⟩ rfl ?_
      obtain ⟨hi, h⟩ := h
      refine w_iald (q := 115) (v := (m8.1 86 (m8.1 70 19).toNatClampNeg)) hm28 ⟨⟨_, _, rfl⟩, rfl⟩ rfl hi rfl rfl ?_
      refine w_iconst (q := 116) hm28 ⟨⟨_, _, rfl⟩, rfl⟩ iconst_1 ?_
      refine w_iadd (q := 117) hm28 ⟨⟨_, _, rfl⟩, rfl⟩ ?_
      obtain ⟨hi, h⟩ := h
      refine w_iast (q := 118) hm28 ⟨⟨_, _, rfl⟩, rfl⟩ rfl hi rfl rfl ?_
      exact Wp.wk [false, false, false] h
theorem v_X12_tellUse_70_118 {d : Nat} {m : dM} {Q : dM → Prop} (h : Q m) : j_X12_tellUse_70_118 (d + 1) m Q := by
  exact w_retv hm28 ⟨⟨_, _, rfl⟩, rfl⟩ rfl h
theorem v_X12_emit_70 {d : Nat} {x1 : Int32} {x2 : Int32} {m : dM} {Q : dM → Prop} (h : ((0 ≤ (m.1 70 46).toInt ∧ (m.1 70 46).toInt < 840) ∧ ((0 ≤ (m.1 70 46).toInt ∧ (m.1 70 46).toInt < 840) ∧ Q (dSet (dSet (dSet m 102 (m.1 70 46).toNatClampNeg x1) 103 (m.1 70 46).toNatClampNeg x2) 70 46 ((m.1 70 46) + (1 : Int32)))))) : c_X12_emit_70 (d + 1) x1 x2 m Q := by
  refine w_aload_n (q := 1) hm31 ⟨⟨_, _, rfl⟩, rfl⟩ rfl ?_
  refine w_getr (q := 4) hm31 ⟨⟨_, _, rfl⟩, rfl⟩ rfl ?_
  refine w_aload_n (q := 5) hm31 ⟨⟨_, _, rfl⟩, rfl⟩ rfl ?_
  refine w_getf (q := 8) (v := (m.1 70 46)) hm31 ⟨⟨_, _, rfl⟩, rfl⟩ rfl rfl ?_
  refine w_iload_n (q := 9) hm31 ⟨⟨_, _, rfl⟩, rfl⟩ rfl ?_
  obtain ⟨hi, h⟩ := h
  refine w_iast (q := 10) hm31 ⟨⟨_, _, rfl⟩, rfl⟩ rfl hi rfl rfl ?_
  refine w_aload_n (q := 11) hm31 ⟨⟨_, _, rfl⟩, rfl⟩ rfl ?_
  refine w_getr (q := 14) hm31 ⟨⟨_, _, rfl⟩, rfl⟩ rfl ?_
  refine w_aload_n (q := 15) hm31 ⟨⟨_, _, rfl⟩, rfl⟩ rfl ?_
  refine w_getf (q := 18) (v := (m.1 70 46)) hm31 ⟨⟨_, _, rfl⟩, rfl⟩ rfl rfl ?_
  refine w_iload_n (q := 19) hm31 ⟨⟨_, _, rfl⟩, rfl⟩ rfl ?_
  obtain ⟨hi, h⟩ := h
  refine w_iast (q := 20) hm31 ⟨⟨_, _, rfl⟩, rfl⟩ rfl hi rfl rfl ?_
  refine w_aload_n (q := 21) hm31 ⟨⟨_, _, rfl⟩, rfl⟩ rfl ?_
  refine w_dup (q := 22) hm31 ⟨⟨_, _, rfl⟩, rfl⟩ rfl ?_
  refine w_getf (q := 25) (v := (m.1 70 46)) hm31 ⟨⟨_, _, rfl⟩, rfl⟩ rfl rfl ?_
  refine w_iconst (q := 26) hm31 ⟨⟨_, _, rfl⟩, rfl⟩ iconst_1 ?_
  refine w_iadd (q := 27) hm31 ⟨⟨_, _, rfl⟩, rfl⟩ ?_
  refine w_putf (q := 30) hm31 ⟨⟨_, _, rfl⟩, rfl⟩ rfl rfl rfl ?_
  exact w_retv hm31 ⟨⟨_, _, rfl⟩, rfl⟩ rfl h
theorem v_X12_unit_70 {d : Nat} {m : dM} {Q : dM → Prop} (h : c_X12_is_70 d (2 : Int32) m (fun r1 m1 => ((r1.toInt = 0 → (((m1.1 70 13).toInt ≠ 0 → j_X12_unit_70_88 (d + 1) m1 Q) ∧ ((m1.1 70 13).toInt = 0 → ((0 ≤ (m1.1 70 11).toInt ∧ (m1.1 70 11).toInt < 403) ∧ (((m1.1 73 (m1.1 70 11).toNatClampNeg).toInt < 33 → j_X12_unit_70_88 (d + 1) m1 Q) ∧ (33 ≤ (m1.1 73 (m1.1 70 11).toNatClampNeg).toInt → ((0 ≤ (m1.1 70 11).toInt ∧ (m1.1 70 11).toInt < 403) ∧ ((41 < (m1.1 73 (m1.1 70 11).toNatClampNeg).toInt → j_X12_unit_70_88 (d + 1) m1 Q) ∧ ((m1.1 73 (m1.1 70 11).toNatClampNeg).toInt ≤ 41 → ((0 ≤ (m1.1 70 11).toInt ∧ (m1.1 70 11).toInt < 403) ∧ c_X12_emit_70 d (1 : Int32) ((m1.1 73 (m1.1 70 11).toNatClampNeg) - (33 : Int32)) m1 (fun m2 => c_X12_goesOn_70 d m2 (fun m3 => j_X12_unit_70_93 (d + 1) m3 Q)))))))))))) ∧ (r1.toInt ≠ 0 → ((0 ≤ (m1.1 70 11).toInt ∧ (m1.1 70 11).toInt < 403) ∧ c_X12_emit_70 d (0 : Int32) (m1.1 75 (m1.1 70 11).toNatClampNeg) m1 (fun m4 => c_X12_goesOn_70 d m4 (fun m5 => j_X12_unit_70_93 (d + 1) m5 Q))))))) : c_X12_unit_70 (d + 1) m Q := by
  refine w_aload_n (q := 1) hm34 ⟨⟨_, _, rfl⟩, rfl⟩ rfl ?_
  refine w_iconst (q := 2) hm34 ⟨⟨_, _, rfl⟩, rfl⟩ iconst_2 ?_
  refine w_call (q := 5) (n := 0) (vs := [.inr (.inr (some 70)), .inl (2 : Int32)]) (rest := []) (la := [oR 70, oI (2 : Int32)]) hm34 ⟨⟨_, _, rfl⟩, rfl⟩ rfl rfl rfl rfl hm12 rfl rfl (fun _ => ⟨_, _, rfl, rfl⟩) rfl (Wp.mono h ?_)
  rintro _ m1 ⟨r1, rfl, h⟩
  change Wp _ _ 5 _ [.inl r1] _ _
  refine w_if_eq (q := 8) (X := r1.toInt) hm34 ⟨⟨_, _, rfl⟩, rfl⟩ rfl (fun hc => ?_) (fun hc => ?_)
  · have h := h.1 hc
    refine w_aload_n (q := 30) hm34 ⟨⟨_, _, rfl⟩, rfl⟩ rfl ?_
    refine w_getf (q := 33) (v := (m1.1 70 13)) hm34 ⟨⟨_, _, rfl⟩, rfl⟩ rfl rfl ?_
    refine w_if_ne (q := 36) (X := (m1.1 70 13).toInt) hm34 ⟨⟨_, _, rfl⟩, rfl⟩ rfl (fun hc => ?_) (fun hc => ?_)
    · have h := h.1 hc
      exact h
    · have h := h.2 hc
      refine w_aload_n (q := 37) hm34 ⟨⟨_, _, rfl⟩, rfl⟩ rfl ?_
      refine w_getr (q := 40) hm34 ⟨⟨_, _, rfl⟩, rfl⟩ rfl ?_
      refine w_aload_n (q := 41) hm34 ⟨⟨_, _, rfl⟩, rfl⟩ rfl ?_
      refine w_getf (q := 44) (v := (m1.1 70 11)) hm34 ⟨⟨_, _, rfl⟩, rfl⟩ rfl rfl ?_
      obtain ⟨hi, h⟩ := h
      refine w_iald (q := 45) (v := (m1.1 73 (m1.1 70 11).toNatClampNeg)) hm34 ⟨⟨_, _, rfl⟩, rfl⟩ rfl hi rfl rfl ?_
      refine w_bipush (q := 47) hm34 ⟨⟨_, _, rfl⟩, rfl⟩ bipush_33 ?_
      refine w_icmp_lt (q := 50) (X := (m1.1 73 (m1.1 70 11).toNatClampNeg).toInt) (Y := 33) hm34 ⟨⟨_, _, rfl⟩, rfl⟩ rfl (by decide) (fun hc => ?_) (fun hc => ?_)
      · have h := h.1 hc
        exact h
      · have h := h.2 hc
        refine w_aload_n (q := 51) hm34 ⟨⟨_, _, rfl⟩, rfl⟩ rfl ?_
        refine w_getr (q := 54) hm34 ⟨⟨_, _, rfl⟩, rfl⟩ rfl ?_
        refine w_aload_n (q := 55) hm34 ⟨⟨_, _, rfl⟩, rfl⟩ rfl ?_
        refine w_getf (q := 58) (v := (m1.1 70 11)) hm34 ⟨⟨_, _, rfl⟩, rfl⟩ rfl rfl ?_
        obtain ⟨hi, h⟩ := h
        refine w_iald (q := 59) (v := (m1.1 73 (m1.1 70 11).toNatClampNeg)) hm34 ⟨⟨_, _, rfl⟩, rfl⟩ rfl hi rfl rfl ?_
        refine w_bipush (q := 61) hm34 ⟨⟨_, _, rfl⟩, rfl⟩ bipush_41 ?_
        refine w_icmp_gt (q := 64) (X := (m1.1 73 (m1.1 70 11).toNatClampNeg).toInt) (Y := 41) hm34 ⟨⟨_, _, rfl⟩, rfl⟩ rfl (by decide) (fun hc => ?_) (fun hc => ?_)
        · have h := h.1 hc
          exact h
        · have h := h.2 hc
          refine w_aload_n (q := 65) hm34 ⟨⟨_, _, rfl⟩, rfl⟩ rfl ?_
          refine w_iconst (q := 66) hm34 ⟨⟨_, _, rfl⟩, rfl⟩ iconst_1 ?_
          refine w_aload_n (q := 67) hm34 ⟨⟨_, _, rfl⟩, rfl⟩ rfl ?_
          refine w_getr (q := 70) hm34 ⟨⟨_, _, rfl⟩, rfl⟩ rfl ?_
          refine w_aload_n (q := 71) hm34 ⟨⟨_, _, rfl⟩, rfl⟩ rfl ?_
          refine w_getf (q := 74) (v := (m1.1 70 11)) hm34 ⟨⟨_, _, rfl⟩, rfl⟩ rfl rfl ?_
          obtain ⟨hi, h⟩ := h
          refine w_iald (q := 75) (v := (m1.1 73 (m1.1 70 11).toNatClampNeg)) hm34 ⟨⟨_, _, rfl⟩, rfl⟩ rfl hi rfl rfl ?_
          refine w_bipush (q := 77) hm34 ⟨⟨_, _, rfl⟩, rfl⟩ bipush_33 ?_
          refine w_isub (q := 78) hm34 ⟨⟨_, _, rfl⟩, rfl⟩ ?_
          refine w_call (q := 81) (n := 0) (vs := [.inr (.inr (some 70)), .inl (1 : Int32), .inl ((m1.1 73 (m1.1 70 11).toNatClampNeg) - (33 : Int32))]) (rest := []) (la := [oR 70, oI (1 : Int32), oI ((m1.1 73 (m1.1 70 11).toNatClampNeg) - (33 : Int32))]) hm34 ⟨⟨_, _, rfl⟩, rfl⟩ rfl rfl rfl rfl hm31 rfl rfl (fun _ => ⟨_, _, rfl, rfl⟩) rfl (Wp.mono h ?_)
          rintro _ m2 ⟨rfl, h⟩
          change Wp _ _ 81 _ [] _ _
          refine w_aload_n (q := 82) hm34 ⟨⟨_, _, rfl⟩, rfl⟩ rfl ?_
          refine w_call (q := 85) (n := 0) (vs := [.inr (.inr (some 70))]) (rest := []) (la := [oR 70]) hm34 ⟨⟨_, _, rfl⟩, rfl⟩ rfl rfl rfl rfl hm15 rfl rfl (fun _ => ⟨_, _, rfl, rfl⟩) rfl (Wp.mono h ?_)
          rintro _ m3 ⟨rfl, h⟩
          change Wp _ _ 85 _ [] _ _
          refine w_goto (q := 93) hm34 ⟨_, _, rfl⟩ ?_
          exact Wp.wk [false] h
  · have h := h.2 hc
    refine w_aload_n (q := 9) hm34 ⟨⟨_, _, rfl⟩, rfl⟩ rfl ?_
    refine w_iconst (q := 10) hm34 ⟨⟨_, _, rfl⟩, rfl⟩ iconst_0 ?_
    refine w_aload_n (q := 11) hm34 ⟨⟨_, _, rfl⟩, rfl⟩ rfl ?_
    refine w_getr (q := 14) hm34 ⟨⟨_, _, rfl⟩, rfl⟩ rfl ?_
    refine w_aload_n (q := 15) hm34 ⟨⟨_, _, rfl⟩, rfl⟩ rfl ?_
    refine w_getf (q := 18) (v := (m1.1 70 11)) hm34 ⟨⟨_, _, rfl⟩, rfl⟩ rfl rfl ?_
    obtain ⟨hi, h⟩ := h
    refine w_iald (q := 19) (v := (m1.1 75 (m1.1 70 11).toNatClampNeg)) hm34 ⟨⟨_, _, rfl⟩, rfl⟩ rfl hi rfl rfl ?_
    refine w_call (q := 22) (n := 0) (vs := [.inr (.inr (some 70)), .inl (0 : Int32), .inl (m1.1 75 (m1.1 70 11).toNatClampNeg)]) (rest := []) (la := [oR 70, oI (0 : Int32), oI (m1.1 75 (m1.1 70 11).toNatClampNeg)]) hm34 ⟨⟨_, _, rfl⟩, rfl⟩ rfl rfl rfl rfl hm31 rfl rfl (fun _ => ⟨_, _, rfl, rfl⟩) rfl (Wp.mono h ?_)
    rintro _ m4 ⟨rfl, h⟩
    change Wp _ _ 22 _ [] _ _
    refine w_aload_n (q := 23) hm34 ⟨⟨_, _, rfl⟩, rfl⟩ rfl ?_
    refine w_call (q := 26) (n := 0) (vs := [.inr (.inr (some 70))]) (rest := []) (la := [oR 70]) hm34 ⟨⟨_, _, rfl⟩, rfl⟩ rfl rfl rfl rfl hm15 rfl rfl (fun _ => ⟨_, _, rfl, rfl⟩) rfl (Wp.mono h ?_)
    rintro _ m5 ⟨rfl, h⟩
    change Wp _ _ 26 _ [] _ _
    refine w_goto (q := 93) hm34 ⟨_, _, rfl⟩ ?_
    exact Wp.wk [false] h
theorem v_X12_unit_70_88 {d : Nat} {m : dM} {Q : dM → Prop} (h : c_X12_fail_70 d (1 : Int32) m (fun m1 => j_X12_unit_70_93 (d + 1) m1 Q)) : j_X12_unit_70_88 (d + 1) m Q := by
  refine w_aload_n (q := 89) hm34 ⟨⟨_, _, rfl⟩, rfl⟩ rfl ?_
  refine w_iconst (q := 90) hm34 ⟨⟨_, _, rfl⟩, rfl⟩ iconst_1 ?_
  refine w_call (q := 93) (n := 0) (vs := [.inr (.inr (some 70)), .inl (1 : Int32)]) (rest := []) (la := [oR 70, oI (1 : Int32)]) hm34 ⟨⟨_, _, rfl⟩, rfl⟩ rfl rfl rfl rfl hm13 rfl rfl (fun _ => ⟨_, _, rfl, rfl⟩) rfl (Wp.mono h ?_)
  rintro _ m1 ⟨rfl, h⟩
  change Wp _ _ 93 _ [] _ _
  exact Wp.wk [false] h
theorem v_X12_unit_70_93 {d : Nat} {m : dM} {Q : dM → Prop} (h : Q m) : j_X12_unit_70_93 (d + 1) m Q := by
  exact w_retv hm34 ⟨⟨_, _, rfl⟩, rfl⟩ rfl h
theorem v_X12_comesOut_70 {d : Nat} {x1 : Int32} {m : dM} {Q : dM → Prop} (h : (((m.1 70 50).toInt ≤ 0 → Q m) ∧ (0 < (m.1 70 50).toInt → ((0 ≤ ((m.1 70 50) - (1 : Int32)).toInt ∧ ((m.1 70 50) - (1 : Int32)).toInt < 64) ∧ (((m.1 104 ((m.1 70 50) - (1 : Int32)).toNatClampNeg).toInt = 6 → j_X12_comesOut_70_41 (d + 1) m Q) ∧ ((m.1 104 ((m.1 70 50) - (1 : Int32)).toNatClampNeg).toInt ≠ 6 → ((x1.toInt = 0 → j_X12_comesOut_70_42 (d + 1) x1 (m.1 104 ((m.1 70 50) - (1 : Int32)).toNatClampNeg) m Q) ∧ (x1.toInt ≠ 0 → (((m.1 104 ((m.1 70 50) - (1 : Int32)).toNatClampNeg).toInt = 8 → j_X12_comesOut_70_41 (d + 1) m Q) ∧ ((m.1 104 ((m.1 70 50) - (1 : Int32)).toNatClampNeg).toInt ≠ 8 → (((m.1 104 ((m.1 70 50) - (1 : Int32)).toNatClampNeg).toInt ≠ 9 → j_X12_comesOut_70_42 (d + 1) x1 (m.1 104 ((m.1 70 50) - (1 : Int32)).toNatClampNeg) m Q) ∧ ((m.1 104 ((m.1 70 50) - (1 : Int32)).toNatClampNeg).toInt = 9 → j_X12_comesOut_70_41 (d + 1) m Q)))))))))))) : c_X12_comesOut_70 (d + 1) x1 m Q := by
  refine w_aload_n (q := 1) hm32 ⟨⟨_, _, rfl⟩, rfl⟩ rfl ?_
  refine w_getf (q := 4) (v := (m.1 70 50)) hm32 ⟨⟨_, _, rfl⟩, rfl⟩ rfl rfl ?_
  refine w_if_le (q := 7) (X := (m.1 70 50).toInt) hm32 ⟨⟨_, _, rfl⟩, rfl⟩ rfl (fun hc => ?_) (fun hc => ?_)
  · have h := h.1 hc
    exact w_retv hm32 ⟨⟨_, _, rfl⟩, rfl⟩ rfl h
  · have h := h.2 hc
    refine w_aload_n (q := 8) hm32 ⟨⟨_, _, rfl⟩, rfl⟩ rfl ?_
    refine w_getr (q := 11) hm32 ⟨⟨_, _, rfl⟩, rfl⟩ rfl ?_
    refine w_aload_n (q := 12) hm32 ⟨⟨_, _, rfl⟩, rfl⟩ rfl ?_
    refine w_getf (q := 15) (v := (m.1 70 50)) hm32 ⟨⟨_, _, rfl⟩, rfl⟩ rfl rfl ?_
    refine w_iconst (q := 16) hm32 ⟨⟨_, _, rfl⟩, rfl⟩ iconst_1 ?_
    refine w_isub (q := 17) hm32 ⟨⟨_, _, rfl⟩, rfl⟩ ?_
    obtain ⟨hi, h⟩ := h
    refine w_iald (q := 18) (v := (m.1 104 ((m.1 70 50) - (1 : Int32)).toNatClampNeg)) hm32 ⟨⟨_, _, rfl⟩, rfl⟩ rfl hi rfl rfl ?_
    refine w_istore_n (q := 19) (l' := [oR 70, oI x1, oI (m.1 104 ((m.1 70 50) - (1 : Int32)).toNatClampNeg)]) hm32 ⟨⟨_, _, rfl⟩, rfl⟩ rfl rfl rfl ?_
    refine w_iload_n (q := 20) hm32 ⟨⟨_, _, rfl⟩, rfl⟩ rfl ?_
    refine w_bipush (q := 22) hm32 ⟨⟨_, _, rfl⟩, rfl⟩ bipush_6 ?_
    refine w_icmp_eq (q := 25) (X := (m.1 104 ((m.1 70 50) - (1 : Int32)).toNatClampNeg).toInt) (Y := 6) hm32 ⟨⟨_, _, rfl⟩, rfl⟩ rfl (by decide) (fun hc => ?_) (fun hc => ?_)
    · have h := h.1 hc
      exact Wp.wk [false, false, false] h
    · have h := h.2 hc
      refine w_iload_n (q := 26) hm32 ⟨⟨_, _, rfl⟩, rfl⟩ rfl ?_
      refine w_if_eq (q := 29) (X := x1.toInt) hm32 ⟨⟨_, _, rfl⟩, rfl⟩ rfl (fun hc => ?_) (fun hc => ?_)
      · have h := h.1 hc
        exact h
      · have h := h.2 hc
        refine w_iload_n (q := 30) hm32 ⟨⟨_, _, rfl⟩, rfl⟩ rfl ?_
        refine w_bipush (q := 32) hm32 ⟨⟨_, _, rfl⟩, rfl⟩ bipush_8 ?_
        refine w_icmp_eq (q := 35) (X := (m.1 104 ((m.1 70 50) - (1 : Int32)).toNatClampNeg).toInt) (Y := 8) hm32 ⟨⟨_, _, rfl⟩, rfl⟩ rfl (by decide) (fun hc => ?_) (fun hc => ?_)
        · have h := h.1 hc
          exact Wp.wk [false, false, false] h
        · have h := h.2 hc
          refine w_iload_n (q := 36) hm32 ⟨⟨_, _, rfl⟩, rfl⟩ rfl ?_
          refine w_bipush (q := 38) hm32 ⟨⟨_, _, rfl⟩, rfl⟩ bipush_9 ?_
          refine w_icmp_ne (q := 41) (X := (m.1 104 ((m.1 70 50) - (1 : Int32)).toNatClampNeg).toInt) (Y := 9) hm32 ⟨⟨_, _, rfl⟩, rfl⟩ rfl (by decide) (fun hc => ?_) (fun hc => ?_)
          · have h := h.1 hc
            exact h
          · have h := h.2 hc
            exact Wp.wk [false, false, false] h
theorem v_X12_comesOut_70_0 {d : Nat} {x1 : Int32} {m : dM} {Q : dM → Prop} (h : (((m.1 70 50).toInt ≤ 0 → Q m) ∧ (0 < (m.1 70 50).toInt → ((0 ≤ ((m.1 70 50) - (1 : Int32)).toInt ∧ ((m.1 70 50) - (1 : Int32)).toInt < 64) ∧ (((m.1 104 ((m.1 70 50) - (1 : Int32)).toNatClampNeg).toInt = 6 → j_X12_comesOut_70_41 (d + 1) m Q) ∧ ((m.1 104 ((m.1 70 50) - (1 : Int32)).toNatClampNeg).toInt ≠ 6 → ((x1.toInt = 0 → j_X12_comesOut_70_42 (d + 1) x1 (m.1 104 ((m.1 70 50) - (1 : Int32)).toNatClampNeg) m Q) ∧ (x1.toInt ≠ 0 → (((m.1 104 ((m.1 70 50) - (1 : Int32)).toNatClampNeg).toInt = 8 → j_X12_comesOut_70_41 (d + 1) m Q) ∧ ((m.1 104 ((m.1 70 50) - (1 : Int32)).toNatClampNeg).toInt ≠ 8 → (((m.1 104 ((m.1 70 50) - (1 : Int32)).toNatClampNeg).toInt ≠ 9 → j_X12_comesOut_70_42 (d + 1) x1 (m.1 104 ((m.1 70 50) - (1 : Int32)).toNatClampNeg) m Q) ∧ ((m.1 104 ((m.1 70 50) - (1 : Int32)).toNatClampNeg).toInt = 9 → j_X12_comesOut_70_41 (d + 1) m Q)))))))))))) : j_X12_comesOut_70_0 (d + 1) x1 m Q := by
  refine w_aload_n (q := 1) hm32 ⟨⟨_, _, rfl⟩, rfl⟩ rfl ?_
  refine w_getf (q := 4) (v := (m.1 70 50)) hm32 ⟨⟨_, _, rfl⟩, rfl⟩ rfl rfl ?_
  refine w_if_le (q := 7) (X := (m.1 70 50).toInt) hm32 ⟨⟨_, _, rfl⟩, rfl⟩ rfl (fun hc => ?_) (fun hc => ?_)
  · have h := h.1 hc
    exact w_retv hm32 ⟨⟨_, _, rfl⟩, rfl⟩ rfl h
  · have h := h.2 hc
    refine w_aload_n (q := 8) hm32 ⟨⟨_, _, rfl⟩, rfl⟩ rfl ?_
    refine w_getr (q := 11) hm32 ⟨⟨_, _, rfl⟩, rfl⟩ rfl ?_
    refine w_aload_n (q := 12) hm32 ⟨⟨_, _, rfl⟩, rfl⟩ rfl ?_
    refine w_getf (q := 15) (v := (m.1 70 50)) hm32 ⟨⟨_, _, rfl⟩, rfl⟩ rfl rfl ?_
    refine w_iconst (q := 16) hm32 ⟨⟨_, _, rfl⟩, rfl⟩ iconst_1 ?_
    refine w_isub (q := 17) hm32 ⟨⟨_, _, rfl⟩, rfl⟩ ?_
    obtain ⟨hi, h⟩ := h
    refine w_iald (q := 18) (v := (m.1 104 ((m.1 70 50) - (1 : Int32)).toNatClampNeg)) hm32 ⟨⟨_, _, rfl⟩, rfl⟩ rfl hi rfl rfl ?_
    refine w_istore_n (q := 19) (l' := [oR 70, oI x1, oI (m.1 104 ((m.1 70 50) - (1 : Int32)).toNatClampNeg)]) hm32 ⟨⟨_, _, rfl⟩, rfl⟩ rfl rfl rfl ?_
    refine w_iload_n (q := 20) hm32 ⟨⟨_, _, rfl⟩, rfl⟩ rfl ?_
    refine w_bipush (q := 22) hm32 ⟨⟨_, _, rfl⟩, rfl⟩ bipush_6 ?_
    refine w_icmp_eq (q := 25) (X := (m.1 104 ((m.1 70 50) - (1 : Int32)).toNatClampNeg).toInt) (Y := 6) hm32 ⟨⟨_, _, rfl⟩, rfl⟩ rfl (by decide) (fun hc => ?_) (fun hc => ?_)
    · have h := h.1 hc
      exact Wp.wk [false, false, false] h
    · have h := h.2 hc
      refine w_iload_n (q := 26) hm32 ⟨⟨_, _, rfl⟩, rfl⟩ rfl ?_
      refine w_if_eq (q := 29) (X := x1.toInt) hm32 ⟨⟨_, _, rfl⟩, rfl⟩ rfl (fun hc => ?_) (fun hc => ?_)
      · have h := h.1 hc
        exact h
      · have h := h.2 hc
        refine w_iload_n (q := 30) hm32 ⟨⟨_, _, rfl⟩, rfl⟩ rfl ?_
        refine w_bipush (q := 32) hm32 ⟨⟨_, _, rfl⟩, rfl⟩ bipush_8 ?_
        refine w_icmp_eq (q := 35) (X := (m.1 104 ((m.1 70 50) - (1 : Int32)).toNatClampNeg).toInt) (Y := 8) hm32 ⟨⟨_, _, rfl⟩, rfl⟩ rfl (by decide) (fun hc => ?_) (fun hc => ?_)
        · have h := h.1 hc
          exact Wp.wk [false, false, false] h
        · have h := h.2 hc
          refine w_iload_n (q := 36) hm32 ⟨⟨_, _, rfl⟩, rfl⟩ rfl ?_
          refine w_bipush (q := 38) hm32 ⟨⟨_, _, rfl⟩, rfl⟩ bipush_9 ?_
          refine w_icmp_ne (q := 41) (X := (m.1 104 ((m.1 70 50) - (1 : Int32)).toNatClampNeg).toInt) (Y := 9) hm32 ⟨⟨_, _, rfl⟩, rfl⟩ rfl (by decide) (fun hc => ?_) (fun hc => ?_)
          · have h := h.1 hc
            exact h
          · have h := h.2 hc
            exact Wp.wk [false, false, false] h
theorem v_X12_comesOut_70_41 {d : Nat} {m : dM} {Q : dM → Prop} (h : Q m) : j_X12_comesOut_70_41 (d + 1) m Q := by
  exact w_retv hm32 ⟨⟨_, _, rfl⟩, rfl⟩ rfl h
theorem v_X12_comesOut_70_42 {d : Nat} {x1 : Int32} {x2 : Int32} {m : dM} {Q : dM → Prop} (h : ((x2.toInt ≠ 8 → ((x2.toInt ≠ 9 → ((x2.toInt ≠ 10 → c_X12_emit_70 d (5 : Int32) (0 : Int32) (dSet m 70 50 ((m.1 70 50) - (1 : Int32))) (fun m1 => j_X12_comesOut_70_0 (d + 1) x1 m1 Q)) ∧ (x2.toInt = 10 → c_X12_emit_70 d (4 : Int32) (0 : Int32) (dSet m 70 50 ((m.1 70 50) - (1 : Int32))) (fun m2 => j_X12_comesOut_70_0 (d + 1) x1 m2 Q)))) ∧ (x2.toInt = 9 → c_X12_emit_70 d (3 : Int32) (0 : Int32) (dSet m 70 50 ((m.1 70 50) - (1 : Int32))) (fun m3 => j_X12_comesOut_70_0 (d + 1) x1 m3 Q)))) ∧ (x2.toInt = 8 → c_X12_emit_70 d (2 : Int32) (0 : Int32) (dSet m 70 50 ((m.1 70 50) - (1 : Int32))) (fun m4 => j_X12_comesOut_70_0 (d + 1) x1 m4 Q)))) : j_X12_comesOut_70_42 (d + 1) x1 x2 m Q := by
  refine w_aload_n (q := 43) hm32 ⟨⟨_, _, rfl⟩, rfl⟩ rfl ?_
  refine w_dup (q := 44) hm32 ⟨⟨_, _, rfl⟩, rfl⟩ rfl ?_
  refine w_getf (q := 47) (v := (m.1 70 50)) hm32 ⟨⟨_, _, rfl⟩, rfl⟩ rfl rfl ?_
  refine w_iconst (q := 48) hm32 ⟨⟨_, _, rfl⟩, rfl⟩ iconst_1 ?_
  refine w_isub (q := 49) hm32 ⟨⟨_, _, rfl⟩, rfl⟩ ?_
  refine w_putf (q := 52) hm32 ⟨⟨_, _, rfl⟩, rfl⟩ rfl rfl rfl ?_
  refine w_aload_n (q := 53) hm32 ⟨⟨_, _, rfl⟩, rfl⟩ rfl ?_
  refine w_iload_n (q := 54) hm32 ⟨⟨_, _, rfl⟩, rfl⟩ rfl ?_
  refine w_bipush (q := 56) hm32 ⟨⟨_, _, rfl⟩, rfl⟩ bipush_8 ?_
  refine w_icmp_ne (q := 59) (X := x2.toInt) (Y := 8) hm32 ⟨⟨_, _, rfl⟩, rfl⟩ rfl (by decide) (fun hc => ?_) (fun hc => ?_)
  · have h := h.1 hc
    refine w_iload_n (q := 64) hm32 ⟨⟨_, _, rfl⟩, rfl⟩ rfl ?_
    refine w_bipush (q := 66) hm32 ⟨⟨_, _, rfl⟩, rfl⟩ bipush_9 ?_
    refine w_icmp_ne (q := 69) (X := x2.toInt) (Y := 9) hm32 ⟨⟨_, _, rfl⟩, rfl⟩ rfl (by decide) (fun hc => ?_) (fun hc => ?_)
    · have h := h.1 hc
      refine w_iload_n (q := 74) hm32 ⟨⟨_, _, rfl⟩, rfl⟩ rfl ?_
      refine w_bipush (q := 76) hm32 ⟨⟨_, _, rfl⟩, rfl⟩ bipush_10 ?_
      refine w_icmp_ne (q := 79) (X := x2.toInt) (Y := 10) hm32 ⟨⟨_, _, rfl⟩, rfl⟩ rfl (by decide) (fun hc => ?_) (fun hc => ?_)
      · have h := h.1 hc
        refine w_iconst (q := 84) hm32 ⟨⟨_, _, rfl⟩, rfl⟩ iconst_5 ?_
        refine w_iconst (q := 85) hm32 ⟨⟨_, _, rfl⟩, rfl⟩ iconst_0 ?_
        refine w_call (q := 88) (n := 0) (vs := [.inr (.inr (some 70)), .inl (5 : Int32), .inl (0 : Int32)]) (rest := []) (la := [oR 70, oI (5 : Int32), oI (0 : Int32)]) hm32 ⟨⟨_, _, rfl⟩, rfl⟩ rfl rfl rfl rfl hm31 rfl rfl (fun _ => ⟨_, _, rfl, rfl⟩) rfl (Wp.mono h ?_)
        rintro _ m1 ⟨rfl, h⟩
        change Wp _ _ 88 _ [] _ _
        refine w_goto (q := 0) hm32 ⟨_, _, rfl⟩ ?_
        exact Wp.wk [true, true, false] h
      · have h := h.2 hc
        refine w_iconst (q := 80) hm32 ⟨⟨_, _, rfl⟩, rfl⟩ iconst_4 ?_
        refine w_goto (q := 84) hm32 ⟨_, _, rfl⟩ ?_
        refine w_iconst (q := 85) hm32 ⟨⟨_, _, rfl⟩, rfl⟩ iconst_0 ?_
        refine w_call (q := 88) (n := 0) (vs := [.inr (.inr (some 70)), .inl (4 : Int32), .inl (0 : Int32)]) (rest := []) (la := [oR 70, oI (4 : Int32), oI (0 : Int32)]) hm32 ⟨⟨_, _, rfl⟩, rfl⟩ rfl rfl rfl rfl hm31 rfl rfl (fun _ => ⟨_, _, rfl, rfl⟩) rfl (Wp.mono h ?_)
        rintro _ m2 ⟨rfl, h⟩
        change Wp _ _ 88 _ [] _ _
        refine w_goto (q := 0) hm32 ⟨_, _, rfl⟩ ?_
        exact Wp.wk [true, true, false] h
    · have h := h.2 hc
      refine w_iconst (q := 70) hm32 ⟨⟨_, _, rfl⟩, rfl⟩ iconst_3 ?_
      refine w_goto (q := 84) hm32 ⟨_, _, rfl⟩ ?_
      refine w_iconst (q := 85) hm32 ⟨⟨_, _, rfl⟩, rfl⟩ iconst_0 ?_
      refine w_call (q := 88) (n := 0) (vs := [.inr (.inr (some 70)), .inl (3 : Int32), .inl (0 : Int32)]) (rest := []) (la := [oR 70, oI (3 : Int32), oI (0 : Int32)]) hm32 ⟨⟨_, _, rfl⟩, rfl⟩ rfl rfl rfl rfl hm31 rfl rfl (fun _ => ⟨_, _, rfl, rfl⟩) rfl (Wp.mono h ?_)
      rintro _ m3 ⟨rfl, h⟩
      change Wp _ _ 88 _ [] _ _
      refine w_goto (q := 0) hm32 ⟨_, _, rfl⟩ ?_
      exact Wp.wk [true, true, false] h
  · have h := h.2 hc
    refine w_iconst (q := 60) hm32 ⟨⟨_, _, rfl⟩, rfl⟩ iconst_2 ?_
    refine w_goto (q := 84) hm32 ⟨_, _, rfl⟩ ?_
    refine w_iconst (q := 85) hm32 ⟨⟨_, _, rfl⟩, rfl⟩ iconst_0 ?_
    refine w_call (q := 88) (n := 0) (vs := [.inr (.inr (some 70)), .inl (2 : Int32), .inl (0 : Int32)]) (rest := []) (la := [oR 70, oI (2 : Int32), oI (0 : Int32)]) hm32 ⟨⟨_, _, rfl⟩, rfl⟩ rfl rfl rfl rfl hm31 rfl rfl (fun _ => ⟨_, _, rfl, rfl⟩) rfl (Wp.mono h ?_)
    rintro _ m4 ⟨rfl, h⟩
    change Wp _ _ 88 _ [] _ _
    refine w_goto (q := 0) hm32 ⟨_, _, rfl⟩ ?_
    exact Wp.wk [true, true, false] h
theorem v_X12_expression_70 {d : Nat} {m : dM} {Q : dM → Prop} (h : j_X12_expression_70_12 (d + 1) (m.1 70 12) (1 : Int32) (dSet m 70 50 (0 : Int32)) Q) : c_X12_expression_70 (d + 1) m Q := by
  refine w_aload_n (q := 1) hm33 ⟨⟨_, _, rfl⟩, rfl⟩ rfl ?_
  refine w_iconst (q := 2) hm33 ⟨⟨_, _, rfl⟩, rfl⟩ iconst_0 ?_
  refine w_putf (q := 5) hm33 ⟨⟨_, _, rfl⟩, rfl⟩ rfl rfl rfl ?_
  refine w_aload_n (q := 6) hm33 ⟨⟨_, _, rfl⟩, rfl⟩ rfl ?_
  refine w_getf (q := 9) (v := (m.1 70 12)) hm33 ⟨⟨_, _, rfl⟩, rfl⟩ rfl rfl ?_
  refine w_istore_n (q := 10) (l' := [oR 70, oI (m.1 70 12), none]) hm33 ⟨⟨_, _, rfl⟩, rfl⟩ rfl rfl rfl ?_
  refine w_iconst (q := 11) hm33 ⟨⟨_, _, rfl⟩, rfl⟩ iconst_1 ?_
  refine w_istore_n (q := 12) (l' := [oR 70, oI (m.1 70 12), oI (1 : Int32)]) hm33 ⟨⟨_, _, rfl⟩, rfl⟩ rfl rfl rfl ?_
  exact h
theorem v_X12_expression_70_12 {d : Nat} {x1 : Int32} {x2 : Int32} {m : dM} {Q : dM → Prop} (h : ((x2.toInt = 0 → j_X12_expression_70_272 (d + 1) m Q) ∧ (x2.toInt ≠ 0 → (((m.1 70 13).toInt ≠ 0 → j_X12_expression_70_272 (d + 1) m Q) ∧ ((m.1 70 13).toInt = 0 → j_X12_expression_70_23 (d + 1) x1 m Q))))) : j_X12_expression_70_12 (d + 1) x1 x2 m Q := by
  refine w_iload_n (q := 13) hm33 ⟨⟨_, _, rfl⟩, rfl⟩ rfl ?_
  refine w_if_eq (q := 16) (X := x2.toInt) hm33 ⟨⟨_, _, rfl⟩, rfl⟩ rfl (fun hc => ?_) (fun hc => ?_)
  · have h := h.1 hc
    exact Wp.wk [false, false, false] h
  · have h := h.2 hc
    refine w_aload_n (q := 17) hm33 ⟨⟨_, _, rfl⟩, rfl⟩ rfl ?_
    refine w_getf (q := 20) (v := (m.1 70 13)) hm33 ⟨⟨_, _, rfl⟩, rfl⟩ rfl rfl ?_
    refine w_if_ne (q := 23) (X := (m.1 70 13).toInt) hm33 ⟨⟨_, _, rfl⟩, rfl⟩ rfl (fun hc => ?_) (fun hc => ?_)
    · have h := h.1 hc
      exact Wp.wk [false, false, false] h
    · have h := h.2 hc
      exact Wp.wk [true, true, false] h
theorem v_X12_expression_70_23 {d : Nat} {x1 : Int32} {m : dM} {Q : dM → Prop} (h : c_X12_is_70 d (6 : Int32) m (fun r1 m1 => ((r1.toInt = 0 → c_X12_unit_70 d m1 (fun m2 => (((m2.1 70 13).toInt ≤ 0 → j_X12_expression_70_96 (d + 1) x1 m2 Q) ∧ (0 < (m2.1 70 13).toInt → Q m2)))) ∧ (r1.toInt ≠ 0 → (((m1.1 70 12).toInt ≠ 6 → j_X12_expression_70_46 (d + 1) x1 m1 Q) ∧ ((m1.1 70 12).toInt = 6 → c_X12_fail_70 d (2 : Int32) m1 (fun m3 => j_X12_expression_70_46 (d + 1) x1 m3 Q))))))) : j_X12_expression_70_23 (d + 1) x1 m Q := by
  refine w_aload_n (q := 24) hm33 ⟨⟨_, _, rfl⟩, rfl⟩ rfl ?_
  refine w_bipush (q := 26) hm33 ⟨⟨_, _, rfl⟩, rfl⟩ bipush_6 ?_
  refine w_call (q := 29) (n := 0) (vs := [.inr (.inr (some 70)), .inl (6 : Int32)]) (rest := []) (la := [oR 70, oI (6 : Int32)]) hm33 ⟨⟨_, _, rfl⟩, rfl⟩ rfl rfl rfl rfl hm12 rfl rfl (fun _ => ⟨_, _, rfl, rfl⟩) rfl (Wp.mono h ?_)
  rintro _ m1 ⟨r1, rfl, h⟩
  change Wp _ _ 29 _ [.inl r1] _ _
  refine w_if_eq (q := 32) (X := r1.toInt) hm33 ⟨⟨_, _, rfl⟩, rfl⟩ rfl (fun hc => ?_) (fun hc => ?_)
  · have h := h.1 hc
    refine w_aload_n (q := 85) hm33 ⟨⟨_, _, rfl⟩, rfl⟩ rfl ?_
    refine w_call (q := 88) (n := 0) (vs := [.inr (.inr (some 70))]) (rest := []) (la := [oR 70]) hm33 ⟨⟨_, _, rfl⟩, rfl⟩ rfl rfl rfl rfl hm34 rfl rfl (fun _ => ⟨_, _, rfl, rfl⟩) rfl (Wp.mono h ?_)
    rintro _ m2 ⟨rfl, h⟩
    change Wp _ _ 88 _ [] _ _
    refine w_aload_n (q := 89) hm33 ⟨⟨_, _, rfl⟩, rfl⟩ rfl ?_
    refine w_getf (q := 92) (v := (m2.1 70 13)) hm33 ⟨⟨_, _, rfl⟩, rfl⟩ rfl rfl ?_
    refine w_if_le (q := 95) (X := (m2.1 70 13).toInt) hm33 ⟨⟨_, _, rfl⟩, rfl⟩ rfl (fun hc => ?_) (fun hc => ?_)
    · have h := h.1 hc
      exact h
    · have h := h.2 hc
      exact w_retv hm33 ⟨⟨_, _, rfl⟩, rfl⟩ rfl h
  · have h := h.2 hc
    refine w_aload_n (q := 33) hm33 ⟨⟨_, _, rfl⟩, rfl⟩ rfl ?_
    refine w_getf (q := 36) (v := (m1.1 70 12)) hm33 ⟨⟨_, _, rfl⟩, rfl⟩ rfl rfl ?_
    refine w_bipush (q := 38) hm33 ⟨⟨_, _, rfl⟩, rfl⟩ bipush_6 ?_
    refine w_icmp_ne (q := 41) (X := (m1.1 70 12).toInt) (Y := 6) hm33 ⟨⟨_, _, rfl⟩, rfl⟩ rfl (by decide) (fun hc => ?_) (fun hc => ?_)
    · have h := h.1 hc
      exact h
    · have h := h.2 hc
      refine w_aload_n (q := 42) hm33 ⟨⟨_, _, rfl⟩, rfl⟩ rfl ?_
      refine w_iconst (q := 43) hm33 ⟨⟨_, _, rfl⟩, rfl⟩ iconst_2 ?_
      refine w_call (q := 46) (n := 0) (vs := [.inr (.inr (some 70)), .inl (2 : Int32)]) (rest := []) (la := [oR 70, oI (2 : Int32)]) hm33 ⟨⟨_, _, rfl⟩, rfl⟩ rfl rfl rfl rfl hm13 rfl rfl (fun _ => ⟨_, _, rfl, rfl⟩) rfl (Wp.mono h ?_)
      rintro _ m3 ⟨rfl, h⟩
      change Wp _ _ 46 _ [] _ _
      exact h
theorem v_X12_expression_70_46 {d : Nat} {x1 : Int32} {m : dM} {Q : dM → Prop} (h : c_X12_goesOn_70 d (dSet m 70 12 ((m.1 70 12) + (1 : Int32))) (fun m1 => ((0 ≤ (m1.1 70 50).toInt ∧ (m1.1 70 50).toInt < 64) ∧ j_X12_expression_70_23 (d + 1) x1 (dSet (dSet m1 104 (m1.1 70 50).toNatClampNeg (6 : Int32)) 70 50 ((m1.1 70 50) + (1 : Int32))) Q))) : j_X12_expression_70_46 (d + 1) x1 m Q := by
  refine w_aload_n (q := 47) hm33 ⟨⟨_, _, rfl⟩, rfl⟩ rfl ?_
  refine w_dup (q := 48) hm33 ⟨⟨_, _, rfl⟩, rfl⟩ rfl ?_
  refine w_getf (q := 51) (v := (m.1 70 12)) hm33 ⟨⟨_, _, rfl⟩, rfl⟩ rfl rfl ?_
  refine w_iconst (q := 52) hm33 ⟨⟨_, _, rfl⟩, rfl⟩ iconst_1 ?_
  refine w_iadd (q := 53) hm33 ⟨⟨_, _, rfl⟩, rfl⟩ ?_
  refine w_putf (q := 56) hm33 ⟨⟨_, _, rfl⟩, rfl⟩ rfl rfl rfl ?_
  refine w_aload_n (q := 57) hm33 ⟨⟨_, _, rfl⟩, rfl⟩ rfl ?_
  refine w_call (q := 60) (n := 0) (vs := [.inr (.inr (some 70))]) (rest := []) (la := [oR 70]) hm33 ⟨⟨_, _, rfl⟩, rfl⟩ rfl rfl rfl rfl hm15 rfl rfl (fun _ => ⟨_, _, rfl, rfl⟩) rfl (Wp.mono h ?_)
  rintro _ m1 ⟨rfl, h⟩
  change Wp _ _ 60 _ [] _ _
  refine w_aload_n (q := 61) hm33 ⟨⟨_, _, rfl⟩, rfl⟩ rfl ?_
  refine w_getr (q := 64) hm33 ⟨⟨_, _, rfl⟩, rfl⟩ rfl ?_
  refine w_aload_n (q := 65) hm33 ⟨⟨_, _, rfl⟩, rfl⟩ rfl ?_
  refine w_getf (q := 68) (v := (m1.1 70 50)) hm33 ⟨⟨_, _, rfl⟩, rfl⟩ rfl rfl ?_
  refine w_bipush (q := 70) hm33 ⟨⟨_, _, rfl⟩, rfl⟩ bipush_6 ?_
  obtain ⟨hi, h⟩ := h
  refine w_iast (q := 71) hm33 ⟨⟨_, _, rfl⟩, rfl⟩ rfl hi rfl rfl ?_
  refine w_aload_n (q := 72) hm33 ⟨⟨_, _, rfl⟩, rfl⟩ rfl ?_
  refine w_dup (q := 73) hm33 ⟨⟨_, _, rfl⟩, rfl⟩ rfl ?_
  refine w_getf (q := 76) (v := (m1.1 70 50)) hm33 ⟨⟨_, _, rfl⟩, rfl⟩ rfl rfl ?_
  refine w_iconst (q := 77) hm33 ⟨⟨_, _, rfl⟩, rfl⟩ iconst_1 ?_
  refine w_iadd (q := 78) hm33 ⟨⟨_, _, rfl⟩, rfl⟩ ?_
  refine w_putf (q := 81) hm33 ⟨⟨_, _, rfl⟩, rfl⟩ rfl rfl rfl ?_
  refine w_goto (q := 23) hm33 ⟨_, _, rfl⟩ ?_
  exact h
theorem v_X12_expression_70_96 {d : Nat} {x1 : Int32} {m : dM} {Q : dM → Prop} (h : c_X12_is_70 d (7 : Int32) m (fun r1 m1 => ((r1.toInt = 0 → j_X12_expression_70_145 (d + 1) x1 m1 Q) ∧ (r1.toInt ≠ 0 → (((m1.1 70 12).toInt ≤ x1.toInt → j_X12_expression_70_145 (d + 1) x1 m1 Q) ∧ (x1.toInt < (m1.1 70 12).toInt → c_X12_comesOut_70 d (0 : Int32) m1 (fun m2 => c_X12_goesOn_70 d (dSet (dSet m2 70 50 ((m2.1 70 50) - (1 : Int32))) 70 12 ((m2.1 70 12) - (1 : Int32))) (fun m3 => j_X12_expression_70_96 (d + 1) x1 m3 Q)))))))) : j_X12_expression_70_96 (d + 1) x1 m Q := by
  refine w_aload_n (q := 97) hm33 ⟨⟨_, _, rfl⟩, rfl⟩ rfl ?_
  refine w_bipush (q := 99) hm33 ⟨⟨_, _, rfl⟩, rfl⟩ bipush_7 ?_
  refine w_call (q := 102) (n := 0) (vs := [.inr (.inr (some 70)), .inl (7 : Int32)]) (rest := []) (la := [oR 70, oI (7 : Int32)]) hm33 ⟨⟨_, _, rfl⟩, rfl⟩ rfl rfl rfl rfl hm12 rfl rfl (fun _ => ⟨_, _, rfl, rfl⟩) rfl (Wp.mono h ?_)
  rintro _ m1 ⟨r1, rfl, h⟩
  change Wp _ _ 102 _ [.inl r1] _ _
  refine w_if_eq (q := 105) (X := r1.toInt) hm33 ⟨⟨_, _, rfl⟩, rfl⟩ rfl (fun hc => ?_) (fun hc => ?_)
  · have h := h.1 hc
    exact h
  · have h := h.2 hc
    refine w_aload_n (q := 106) hm33 ⟨⟨_, _, rfl⟩, rfl⟩ rfl ?_
    refine w_getf (q := 109) (v := (m1.1 70 12)) hm33 ⟨⟨_, _, rfl⟩, rfl⟩ rfl rfl ?_
    refine w_iload_n (q := 110) hm33 ⟨⟨_, _, rfl⟩, rfl⟩ rfl ?_
    refine w_icmp_le (q := 113) (X := (m1.1 70 12).toInt) (Y := x1.toInt) hm33 ⟨⟨_, _, rfl⟩, rfl⟩ rfl rfl (fun hc => ?_) (fun hc => ?_)
    · have h := h.1 hc
      exact h
    · have h := h.2 hc
      refine w_aload_n (q := 114) hm33 ⟨⟨_, _, rfl⟩, rfl⟩ rfl ?_
      refine w_iconst (q := 115) hm33 ⟨⟨_, _, rfl⟩, rfl⟩ iconst_0 ?_
      refine w_call (q := 118) (n := 1) (vs := [.inr (.inr (some 70)), .inl (0 : Int32)]) (rest := []) (la := [oR 70, oI (0 : Int32), none]) hm33 ⟨⟨_, _, rfl⟩, rfl⟩ rfl rfl rfl rfl hm32 rfl rfl (fun _ => ⟨_, _, rfl, rfl⟩) rfl (Wp.mono h ?_)
      rintro _ m2 ⟨rfl, h⟩
      change Wp _ _ 118 _ [] _ _
      refine w_aload_n (q := 119) hm33 ⟨⟨_, _, rfl⟩, rfl⟩ rfl ?_
      refine w_dup (q := 120) hm33 ⟨⟨_, _, rfl⟩, rfl⟩ rfl ?_
      refine w_getf (q := 123) (v := (m2.1 70 50)) hm33 ⟨⟨_, _, rfl⟩, rfl⟩ rfl rfl ?_
      refine w_iconst (q := 124) hm33 ⟨⟨_, _, rfl⟩, rfl⟩ iconst_1 ?_
      refine w_isub (q := 125) hm33 ⟨⟨_, _, rfl⟩, rfl⟩ ?_
      refine w_putf (q := 128) hm33 ⟨⟨_, _, rfl⟩, rfl⟩ rfl rfl rfl ?_
      refine w_aload_n (q := 129) hm33 ⟨⟨_, _, rfl⟩, rfl⟩ rfl ?_
      refine w_dup (q := 130) hm33 ⟨⟨_, _, rfl⟩, rfl⟩ rfl ?_
      refine w_getf (q := 133) (v := (m2.1 70 12)) hm33 ⟨⟨_, _, rfl⟩, rfl⟩ rfl rfl ?_
      refine w_iconst (q := 134) hm33 ⟨⟨_, _, rfl⟩, rfl⟩ iconst_1 ?_
      refine w_isub (q := 135) hm33 ⟨⟨_, _, rfl⟩, rfl⟩ ?_
      refine w_putf (q := 138) hm33 ⟨⟨_, _, rfl⟩, rfl⟩ rfl rfl rfl ?_
      refine w_aload_n (q := 139) hm33 ⟨⟨_, _, rfl⟩, rfl⟩ rfl ?_
      refine w_call (q := 142) (n := 0) (vs := [.inr (.inr (some 70))]) (rest := []) (la := [oR 70]) hm33 ⟨⟨_, _, rfl⟩, rfl⟩ rfl rfl rfl rfl hm15 rfl rfl (fun _ => ⟨_, _, rfl, rfl⟩) rfl (Wp.mono h ?_)
      rintro _ m3 ⟨rfl, h⟩
      change Wp _ _ 142 _ [] _ _
      refine w_goto (q := 96) hm33 ⟨_, _, rfl⟩ ?_
      exact h
theorem v_X12_expression_70_145 {d : Nat} {x1 : Int32} {m : dM} {Q : dM → Prop} (h : c_X12_is_70 d (8 : Int32) m (fun r1 m1 => ((r1.toInt ≠ 0 → j_X12_expression_70_181 (d + 1) x1 m1 Q) ∧ (r1.toInt = 0 → c_X12_is_70 d (9 : Int32) m1 (fun r2 m2 => ((r2.toInt ≠ 0 → j_X12_expression_70_181 (d + 1) x1 m2 Q) ∧ (r2.toInt = 0 → c_X12_is_70 d (10 : Int32) m2 (fun r3 m3 => ((r3.toInt ≠ 0 → j_X12_expression_70_181 (d + 1) x1 m3 Q) ∧ (r3.toInt = 0 → c_X12_is_70 d (15 : Int32) m3 (fun r4 m4 => ((r4.toInt = 0 → (((m4.1 70 12).toInt ≤ x1.toInt → j_X12_expression_70_204 (d + 1) m4 Q) ∧ (x1.toInt < (m4.1 70 12).toInt → c_X12_fail_70 d (1 : Int32) m4 (fun m5 => j_X12_expression_70_204 (d + 1) m5 Q)))) ∧ (r4.toInt ≠ 0 → j_X12_expression_70_181 (d + 1) x1 m4 Q))))))))))))) : j_X12_expression_70_145 (d + 1) x1 m Q := by
  refine w_aload_n (q := 146) hm33 ⟨⟨_, _, rfl⟩, rfl⟩ rfl ?_
  refine w_bipush (q := 148) hm33 ⟨⟨_, _, rfl⟩, rfl⟩ bipush_8 ?_
  refine w_call (q := 151) (n := 0) (vs := [.inr (.inr (some 70)), .inl (8 : Int32)]) (rest := []) (la := [oR 70, oI (8 : Int32)]) hm33 ⟨⟨_, _, rfl⟩, rfl⟩ rfl rfl rfl rfl hm12 rfl rfl (fun _ => ⟨_, _, rfl, rfl⟩) rfl (Wp.mono h ?_)
  rintro _ m1 ⟨r1, rfl, h⟩
  change Wp _ _ 151 _ [.inl r1] _ _
  refine w_if_ne (q := 154) (X := r1.toInt) hm33 ⟨⟨_, _, rfl⟩, rfl⟩ rfl (fun hc => ?_) (fun hc => ?_)
  · have h := h.1 hc
    exact h
  · have h := h.2 hc
    refine w_aload_n (q := 155) hm33 ⟨⟨_, _, rfl⟩, rfl⟩ rfl ?_
    refine w_bipush (q := 157) hm33 ⟨⟨_, _, rfl⟩, rfl⟩ bipush_9 ?_
    refine w_call (q := 160) (n := 0) (vs := [.inr (.inr (some 70)), .inl (9 : Int32)]) (rest := []) (la := [oR 70, oI (9 : Int32)]) hm33 ⟨⟨_, _, rfl⟩, rfl⟩ rfl rfl rfl rfl hm12 rfl rfl (fun _ => ⟨_, _, rfl, rfl⟩) rfl (Wp.mono h ?_)
    rintro _ m2 ⟨r2, rfl, h⟩
    change Wp _ _ 160 _ [.inl r2] _ _
    refine w_if_ne (q := 163) (X := r2.toInt) hm33 ⟨⟨_, _, rfl⟩, rfl⟩ rfl (fun hc => ?_) (fun hc => ?_)
    · have h := h.1 hc
      exact h
    · have h := h.2 hc
      refine w_aload_n (q := 164) hm33 ⟨⟨_, _, rfl⟩, rfl⟩ rfl ?_
      refine w_bipush (q := 166) hm33 ⟨⟨_, _, rfl⟩, rfl⟩ bipush_10 ?_
      refine w_call (q := 169) (n := 0) (vs := [.inr (.inr (some 70)), .inl (10 : Int32)]) (rest := []) (la := [oR 70, oI (10 : Int32)]) hm33 ⟨⟨_, _, rfl⟩, rfl⟩ rfl rfl rfl rfl hm12 rfl rfl (fun _ => ⟨_, _, rfl, rfl⟩) rfl (Wp.mono h ?_)
      rintro _ m3 ⟨r3, rfl, h⟩
      change Wp _ _ 169 _ [.inl r3] _ _
      refine w_if_ne (q := 172) (X := r3.toInt) hm33 ⟨⟨_, _, rfl⟩, rfl⟩ rfl (fun hc => ?_) (fun hc => ?_)
      · have h := h.1 hc
        exact h
      · have h := h.2 hc
        refine w_aload_n (q := 173) hm33 ⟨⟨_, _, rfl⟩, rfl⟩ rfl ?_
        refine w_bipush (q := 175) hm33 ⟨⟨_, _, rfl⟩, rfl⟩ bipush_15 ?_
        refine w_call (q := 178) (n := 0) (vs := [.inr (.inr (some 70)), .inl (15 : Int32)]) (rest := []) (la := [oR 70, oI (15 : Int32)]) hm33 ⟨⟨_, _, rfl⟩, rfl⟩ rfl rfl rfl rfl hm12 rfl rfl (fun _ => ⟨_, _, rfl, rfl⟩) rfl (Wp.mono h ?_)
        rintro _ m4 ⟨r4, rfl, h⟩
        change Wp _ _ 178 _ [.inl r4] _ _
        refine w_if_eq (q := 181) (X := r4.toInt) hm33 ⟨⟨_, _, rfl⟩, rfl⟩ rfl (fun hc => ?_) (fun hc => ?_)
        · have h := h.1 hc
          refine w_iconst (q := 186) hm33 ⟨⟨_, _, rfl⟩, rfl⟩ iconst_0 ?_
          refine w_istore_n (q := 187) (l' := [oR 70, oI x1, oI (0 : Int32)]) hm33 ⟨⟨_, _, rfl⟩, rfl⟩ rfl rfl rfl ?_
          refine w_iload_n (q := 188) hm33 ⟨⟨_, _, rfl⟩, rfl⟩ rfl ?_
          refine w_if_ne (q := 191) (X := 0) hm33 ⟨⟨_, _, rfl⟩, rfl⟩ (by decide) (fun hc => absurd hc (by decide)) (fun _ => ?_)
          refine w_aload_n (q := 192) hm33 ⟨⟨_, _, rfl⟩, rfl⟩ rfl ?_
          refine w_getf (q := 195) (v := (m4.1 70 12)) hm33 ⟨⟨_, _, rfl⟩, rfl⟩ rfl rfl ?_
          refine w_iload_n (q := 196) hm33 ⟨⟨_, _, rfl⟩, rfl⟩ rfl ?_
          refine w_icmp_le (q := 199) (X := (m4.1 70 12).toInt) (Y := x1.toInt) hm33 ⟨⟨_, _, rfl⟩, rfl⟩ rfl rfl (fun hc => ?_) (fun hc => ?_)
          · have h := h.1 hc
            exact Wp.wk [true, false, false] h
          · have h := h.2 hc
            refine w_aload_n (q := 200) hm33 ⟨⟨_, _, rfl⟩, rfl⟩ rfl ?_
            refine w_iconst (q := 201) hm33 ⟨⟨_, _, rfl⟩, rfl⟩ iconst_1 ?_
            refine w_call (q := 204) (n := 0) (vs := [.inr (.inr (some 70)), .inl (1 : Int32)]) (rest := []) (la := [oR 70, oI (1 : Int32)]) hm33 ⟨⟨_, _, rfl⟩, rfl⟩ rfl rfl rfl rfl hm13 rfl rfl (fun _ => ⟨_, _, rfl, rfl⟩) rfl (Wp.mono h ?_)
            rintro _ m5 ⟨rfl, h⟩
            change Wp _ _ 204 _ [] _ _
            exact Wp.wk [true, false, false] h
        · have h := h.2 hc
          exact h
theorem v_X12_expression_70_181 {d : Nat} {x1 : Int32} {m : dM} {Q : dM → Prop} (h : c_X12_is_70 d (10 : Int32) m (fun r1 m1 => ((r1.toInt ≠ 0 → c_X12_comesOut_70 d (1 : Int32) m1 (fun m2 => ((0 ≤ (m2.1 70 11).toInt ∧ (m2.1 70 11).toInt < 403) ∧ ((0 ≤ (m2.1 70 50).toInt ∧ (m2.1 70 50).toInt < 64) ∧ c_X12_goesOn_70 d (dSet (dSet m2 104 (m2.1 70 50).toNatClampNeg (m2.1 73 (m2.1 70 11).toNatClampNeg)) 70 50 ((m2.1 70 50) + (1 : Int32))) (fun m3 => j_X12_expression_70_12 (d + 1) x1 (1 : Int32) m3 Q))))) ∧ (r1.toInt = 0 → c_X12_is_70 d (15 : Int32) m1 (fun r4 m4 => ((r4.toInt = 0 → c_X12_comesOut_70 d (0 : Int32) m4 (fun m5 => ((0 ≤ (m5.1 70 11).toInt ∧ (m5.1 70 11).toInt < 403) ∧ ((0 ≤ (m5.1 70 50).toInt ∧ (m5.1 70 50).toInt < 64) ∧ c_X12_goesOn_70 d (dSet (dSet m5 104 (m5.1 70 50).toNatClampNeg (m5.1 73 (m5.1 70 11).toNatClampNeg)) 70 50 ((m5.1 70 50) + (1 : Int32))) (fun m6 => j_X12_expression_70_12 (d + 1) x1 (1 : Int32) m6 Q))))) ∧ (r4.toInt ≠ 0 → c_X12_comesOut_70 d (1 : Int32) m4 (fun m7 => ((0 ≤ (m7.1 70 11).toInt ∧ (m7.1 70 11).toInt < 403) ∧ ((0 ≤ (m7.1 70 50).toInt ∧ (m7.1 70 50).toInt < 64) ∧ c_X12_goesOn_70 d (dSet (dSet m7 104 (m7.1 70 50).toNatClampNeg (m7.1 73 (m7.1 70 11).toNatClampNeg)) 70 50 ((m7.1 70 50) + (1 : Int32))) (fun m8 => j_X12_expression_70_12 (d + 1) x1 (1 : Int32) m8 Q))))))))))) : j_X12_expression_70_181 (d + 1) x1 m Q := by
  refine w_iconst (q := 182) hm33 ⟨⟨_, _, rfl⟩, rfl⟩ iconst_1 ?_
  refine w_goto (q := 186) hm33 ⟨_, _, rfl⟩ ?_
  refine w_istore_n (q := 187) (l' := [oR 70, oI x1, oI (1 : Int32)]) hm33 ⟨⟨_, _, rfl⟩, rfl⟩ rfl rfl rfl ?_
  refine w_iload_n (q := 188) hm33 ⟨⟨_, _, rfl⟩, rfl⟩ rfl ?_
  refine w_if_ne (q := 191) (X := 1) hm33 ⟨⟨_, _, rfl⟩, rfl⟩ (by decide) (fun _ => ?_) (fun hc => absurd hc (by decide))
  refine w_aload_n (q := 211) hm33 ⟨⟨_, _, rfl⟩, rfl⟩ rfl ?_
  refine w_aload_n (q := 212) hm33 ⟨⟨_, _, rfl⟩, rfl⟩ rfl ?_
  refine w_bipush (q := 214) hm33 ⟨⟨_, _, rfl⟩, rfl⟩ bipush_10 ?_
  refine w_call (q := 217) (n := 0) (vs := [.inr (.inr (some 70)), .inl (10 : Int32)]) (rest := [.inr (.inr (some 70))]) (la := [oR 70, oI (10 : Int32)]) hm33 ⟨⟨_, _, rfl⟩, rfl⟩ rfl rfl rfl rfl hm12 rfl rfl (fun _ => ⟨_, _, rfl, rfl⟩) rfl (Wp.mono h ?_)
  rintro _ m1 ⟨r1, rfl, h⟩
  change Wp _ _ 217 _ [.inl r1, .inr (.inr (some 70))] _ _
  refine w_if_ne (q := 220) (X := r1.toInt) hm33 ⟨⟨_, _, rfl⟩, rfl⟩ rfl (fun hc => ?_) (fun hc => ?_)
  · have h := h.1 hc
    refine w_iconst (q := 230) hm33 ⟨⟨_, _, rfl⟩, rfl⟩ iconst_1 ?_
    refine w_goto (q := 234) hm33 ⟨_, _, rfl⟩ ?_
    refine w_call (q := 237) (n := 1) (vs := [.inr (.inr (some 70)), .inl (1 : Int32)]) (rest := []) (la := [oR 70, oI (1 : Int32), none]) hm33 ⟨⟨_, _, rfl⟩, rfl⟩ rfl rfl rfl rfl hm32 rfl rfl (fun _ => ⟨_, _, rfl, rfl⟩) rfl (Wp.mono h ?_)
    rintro _ m2 ⟨rfl, h⟩
    change Wp _ _ 237 _ [] _ _
    refine w_aload_n (q := 238) hm33 ⟨⟨_, _, rfl⟩, rfl⟩ rfl ?_
    refine w_getr (q := 241) hm33 ⟨⟨_, _, rfl⟩, rfl⟩ rfl ?_
    refine w_aload_n (q := 242) hm33 ⟨⟨_, _, rfl⟩, rfl⟩ rfl ?_
    refine w_getf (q := 245) (v := (m2.1 70 50)) hm33 ⟨⟨_, _, rfl⟩, rfl⟩ rfl rfl ?_
    refine w_aload_n (q := 246) hm33 ⟨⟨_, _, rfl⟩, rfl⟩ rfl ?_
    refine w_getr (q := 249) hm33 ⟨⟨_, _, rfl⟩, rfl⟩ rfl ?_
    refine w_aload_n (q := 250) hm33 ⟨⟨_, _, rfl⟩, rfl⟩ rfl ?_
    refine w_getf (q := 253) (v := (m2.1 70 11)) hm33 ⟨⟨_, _, rfl⟩, rfl⟩ rfl rfl ?_
    obtain ⟨hi, h⟩ := h
    refine w_iald (q := 254) (v := (m2.1 73 (m2.1 70 11).toNatClampNeg)) hm33 ⟨⟨_, _, rfl⟩, rfl⟩ rfl hi rfl rfl ?_
    obtain ⟨hi, h⟩ := h
    refine w_iast (q := 255) hm33 ⟨⟨_, _, rfl⟩, rfl⟩ rfl hi rfl rfl ?_
    refine w_aload_n (q := 256) hm33 ⟨⟨_, _, rfl⟩, rfl⟩ rfl ?_
    refine w_dup (q := 257) hm33 ⟨⟨_, _, rfl⟩, rfl⟩ rfl ?_
    refine w_getf (q := 260) (v := (m2.1 70 50)) hm33 ⟨⟨_, _, rfl⟩, rfl⟩ rfl rfl ?_
    refine w_iconst (q := 261) hm33 ⟨⟨_, _, rfl⟩, rfl⟩ iconst_1 ?_
    refine w_iadd (q := 262) hm33 ⟨⟨_, _, rfl⟩, rfl⟩ ?_
    refine w_putf (q := 265) hm33 ⟨⟨_, _, rfl⟩, rfl⟩ rfl rfl rfl ?_
    refine w_aload_n (q := 266) hm33 ⟨⟨_, _, rfl⟩, rfl⟩ rfl ?_
    refine w_call (q := 269) (n := 0) (vs := [.inr (.inr (some 70))]) (rest := []) (la := [oR 70]) hm33 ⟨⟨_, _, rfl⟩, rfl⟩ rfl rfl rfl rfl hm15 rfl rfl (fun _ => ⟨_, _, rfl, rfl⟩) rfl (Wp.mono h ?_)
    rintro _ m3 ⟨rfl, h⟩
    change Wp _ _ 269 _ [] _ _
    refine w_goto (q := 12) hm33 ⟨_, _, rfl⟩ ?_
    exact h
  · have h := h.2 hc
    refine w_aload_n (q := 221) hm33 ⟨⟨_, _, rfl⟩, rfl⟩ rfl ?_
    refine w_bipush (q := 223) hm33 ⟨⟨_, _, rfl⟩, rfl⟩ bipush_15 ?_
    refine w_call (q := 226) (n := 0) (vs := [.inr (.inr (some 70)), .inl (15 : Int32)]) (rest := [.inr (.inr (some 70))]) (la := [oR 70, oI (15 : Int32)]) hm33 ⟨⟨_, _, rfl⟩, rfl⟩ rfl rfl rfl rfl hm12 rfl rfl (fun _ => ⟨_, _, rfl, rfl⟩) rfl (Wp.mono h ?_)
    rintro _ m4 ⟨r4, rfl, h⟩
    change Wp _ _ 226 _ [.inl r4, .inr (.inr (some 70))] _ _
    refine w_if_eq (q := 229) (X := r4.toInt) hm33 ⟨⟨_, _, rfl⟩, rfl⟩ rfl (fun hc => ?_) (fun hc => ?_)
    · have h := h.1 hc
      refine w_iconst (q := 234) hm33 ⟨⟨_, _, rfl⟩, rfl⟩ iconst_0 ?_
      refine w_call (q := 237) (n := 1) (vs := [.inr (.inr (some 70)), .inl (0 : Int32)]) (rest := []) (la := [oR 70, oI (0 : Int32), none]) hm33 ⟨⟨_, _, rfl⟩, rfl⟩ rfl rfl rfl rfl hm32 rfl rfl (fun _ => ⟨_, _, rfl, rfl⟩) rfl (Wp.mono h ?_)
      rintro _ m5 ⟨rfl, h⟩
      change Wp _ _ 237 _ [] _ _
      refine w_aload_n (q := 238) hm33 ⟨⟨_, _, rfl⟩, rfl⟩ rfl ?_
      refine w_getr (q := 241) hm33 ⟨⟨_, _, rfl⟩, rfl⟩ rfl ?_
      refine w_aload_n (q := 242) hm33 ⟨⟨_, _, rfl⟩, rfl⟩ rfl ?_
      refine w_getf (q := 245) (v := (m5.1 70 50)) hm33 ⟨⟨_, _, rfl⟩, rfl⟩ rfl rfl ?_
      refine w_aload_n (q := 246) hm33 ⟨⟨_, _, rfl⟩, rfl⟩ rfl ?_
      refine w_getr (q := 249) hm33 ⟨⟨_, _, rfl⟩, rfl⟩ rfl ?_
      refine w_aload_n (q := 250) hm33 ⟨⟨_, _, rfl⟩, rfl⟩ rfl ?_
      refine w_getf (q := 253) (v := (m5.1 70 11)) hm33 ⟨⟨_, _, rfl⟩, rfl⟩ rfl rfl ?_
      obtain ⟨hi, h⟩ := h
      refine w_iald (q := 254) (v := (m5.1 73 (m5.1 70 11).toNatClampNeg)) hm33 ⟨⟨_, _, rfl⟩, rfl⟩ rfl hi rfl rfl ?_
      obtain ⟨hi, h⟩ := h
      refine w_iast (q := 255) hm33 ⟨⟨_, _, rfl⟩, rfl⟩ rfl hi rfl rfl ?_
      refine w_aload_n (q := 256) hm33 ⟨⟨_, _, rfl⟩, rfl⟩ rfl ?_
      refine w_dup (q := 257) hm33 ⟨⟨_, _, rfl⟩, rfl⟩ rfl ?_
      refine w_getf (q := 260) (v := (m5.1 70 50)) hm33 ⟨⟨_, _, rfl⟩, rfl⟩ rfl rfl ?_
      refine w_iconst (q := 261) hm33 ⟨⟨_, _, rfl⟩, rfl⟩ iconst_1 ?_
      refine w_iadd (q := 262) hm33 ⟨⟨_, _, rfl⟩, rfl⟩ ?_
      refine w_putf (q := 265) hm33 ⟨⟨_, _, rfl⟩, rfl⟩ rfl rfl rfl ?_
      refine w_aload_n (q := 266) hm33 ⟨⟨_, _, rfl⟩, rfl⟩ rfl ?_
      refine w_call (q := 269) (n := 0) (vs := [.inr (.inr (some 70))]) (rest := []) (la := [oR 70]) hm33 ⟨⟨_, _, rfl⟩, rfl⟩ rfl rfl rfl rfl hm15 rfl rfl (fun _ => ⟨_, _, rfl, rfl⟩) rfl (Wp.mono h ?_)
      rintro _ m6 ⟨rfl, h⟩
      change Wp _ _ 269 _ [] _ _
      refine w_goto (q := 12) hm33 ⟨_, _, rfl⟩ ?_
      exact h
    · have h := h.2 hc
      refine w_iconst (q := 230) hm33 ⟨⟨_, _, rfl⟩, rfl⟩ iconst_1 ?_
      refine w_goto (q := 234) hm33 ⟨_, _, rfl⟩ ?_
      refine w_call (q := 237) (n := 1) (vs := [.inr (.inr (some 70)), .inl (1 : Int32)]) (rest := []) (la := [oR 70, oI (1 : Int32), none]) hm33 ⟨⟨_, _, rfl⟩, rfl⟩ rfl rfl rfl rfl hm32 rfl rfl (fun _ => ⟨_, _, rfl, rfl⟩) rfl (Wp.mono h ?_)
      rintro _ m7 ⟨rfl, h⟩
      change Wp _ _ 237 _ [] _ _
      refine w_aload_n (q := 238) hm33 ⟨⟨_, _, rfl⟩, rfl⟩ rfl ?_
      refine w_getr (q := 241) hm33 ⟨⟨_, _, rfl⟩, rfl⟩ rfl ?_
      refine w_aload_n (q := 242) hm33 ⟨⟨_, _, rfl⟩, rfl⟩ rfl ?_
      refine w_getf (q := 245) (v := (m7.1 70 50)) hm33 ⟨⟨_, _, rfl⟩, rfl⟩ rfl rfl ?_
      refine w_aload_n (q := 246) hm33 ⟨⟨_, _, rfl⟩, rfl⟩ rfl ?_
      refine w_getr (q := 249) hm33 ⟨⟨_, _, rfl⟩, rfl⟩ rfl ?_
      refine w_aload_n (q := 250) hm33 ⟨⟨_, _, rfl⟩, rfl⟩ rfl ?_
      refine w_getf (q := 253) (v := (m7.1 70 11)) hm33 ⟨⟨_, _, rfl⟩, rfl⟩ rfl rfl ?_
      obtain ⟨hi, h⟩ := h
      refine w_iald (q := 254) (v := (m7.1 73 (m7.1 70 11).toNatClampNeg)) hm33 ⟨⟨_, _, rfl⟩, rfl⟩ rfl hi rfl rfl ?_
      obtain ⟨hi, h⟩ := h
      refine w_iast (q := 255) hm33 ⟨⟨_, _, rfl⟩, rfl⟩ rfl hi rfl rfl ?_
      refine w_aload_n (q := 256) hm33 ⟨⟨_, _, rfl⟩, rfl⟩ rfl ?_
      refine w_dup (q := 257) hm33 ⟨⟨_, _, rfl⟩, rfl⟩ rfl ?_
      refine w_getf (q := 260) (v := (m7.1 70 50)) hm33 ⟨⟨_, _, rfl⟩, rfl⟩ rfl rfl ?_
      refine w_iconst (q := 261) hm33 ⟨⟨_, _, rfl⟩, rfl⟩ iconst_1 ?_
      refine w_iadd (q := 262) hm33 ⟨⟨_, _, rfl⟩, rfl⟩ ?_
      refine w_putf (q := 265) hm33 ⟨⟨_, _, rfl⟩, rfl⟩ rfl rfl rfl ?_
      refine w_aload_n (q := 266) hm33 ⟨⟨_, _, rfl⟩, rfl⟩ rfl ?_
      refine w_call (q := 269) (n := 0) (vs := [.inr (.inr (some 70))]) (rest := []) (la := [oR 70]) hm33 ⟨⟨_, _, rfl⟩, rfl⟩ rfl rfl rfl rfl hm15 rfl rfl (fun _ => ⟨_, _, rfl, rfl⟩) rfl (Wp.mono h ?_)
      rintro _ m8 ⟨rfl, h⟩
      change Wp _ _ 269 _ [] _ _
      refine w_goto (q := 12) hm33 ⟨_, _, rfl⟩ ?_
      exact h
theorem v_X12_expression_70_204 {d : Nat} {m : dM} {Q : dM → Prop} (h : c_X12_comesOut_70 d (0 : Int32) m (fun m1 => Q m1)) : j_X12_expression_70_204 (d + 1) m Q := by
  refine w_aload_n (q := 205) hm33 ⟨⟨_, _, rfl⟩, rfl⟩ rfl ?_
  refine w_iconst (q := 206) hm33 ⟨⟨_, _, rfl⟩, rfl⟩ iconst_0 ?_
  refine w_call (q := 209) (n := 1) (vs := [.inr (.inr (some 70)), .inl (0 : Int32)]) (rest := []) (la := [oR 70, oI (0 : Int32), none]) hm33 ⟨⟨_, _, rfl⟩, rfl⟩ rfl rfl rfl rfl hm32 rfl rfl (fun _ => ⟨_, _, rfl, rfl⟩) rfl (Wp.mono h ?_)
  rintro _ m1 ⟨rfl, h⟩
  change Wp _ _ 209 _ [] _ _
  exact w_retv hm33 ⟨⟨_, _, rfl⟩, rfl⟩ rfl h
theorem v_X12_expression_70_272 {d : Nat} {m : dM} {Q : dM → Prop} (h : Q m) : j_X12_expression_70_272 (d + 1) m Q := by
  exact w_retv hm33 ⟨⟨_, _, rfl⟩, rfl⟩ rfl h
theorem v_X12_term_70 {d : Nat} {m : dM} {Q : dM → Prop} (h : ((0 ≤ (m.1 70 40).toInt ∧ (m.1 70 40).toInt < 260) ∧ (((m.1 70 13).toInt ≠ 0 → j_X12_term_70_24 (d + 1) (dSet m 100 (m.1 70 40).toNatClampNeg (m.1 70 46)) Q) ∧ ((m.1 70 13).toInt = 0 → c_X12_expression_70 d (dSet m 100 (m.1 70 40).toNatClampNeg (m.1 70 46)) (fun m1 => j_X12_term_70_24 (d + 1) m1 Q))))) : c_X12_term_70 (d + 1) m Q := by
  refine w_aload_n (q := 1) hm30 ⟨⟨_, _, rfl⟩, rfl⟩ rfl ?_
  refine w_getr (q := 4) hm30 ⟨⟨_, _, rfl⟩, rfl⟩ rfl ?_
  refine w_aload_n (q := 5) hm30 ⟨⟨_, _, rfl⟩, rfl⟩ rfl ?_
  refine w_getf (q := 8) (v := (m.1 70 40)) hm30 ⟨⟨_, _, rfl⟩, rfl⟩ rfl rfl ?_
  refine w_aload_n (q := 9) hm30 ⟨⟨_, _, rfl⟩, rfl⟩ rfl ?_
  refine w_getf (q := 12) (v := (m.1 70 46)) hm30 ⟨⟨_, _, rfl⟩, rfl⟩ rfl rfl ?_
  obtain ⟨hi, h⟩ := h
  refine w_iast (q := 13) hm30 ⟨⟨_, _, rfl⟩, rfl⟩ rfl hi rfl rfl ?_
  refine w_aload_n (q := 14) hm30 ⟨⟨_, _, rfl⟩, rfl⟩ rfl ?_
  refine w_getf (q := 17) (v := (m.1 70 13)) hm30 ⟨⟨_, _, rfl⟩, rfl⟩ rfl rfl ?_
  refine w_if_ne (q := 20) (X := (m.1 70 13).toInt) hm30 ⟨⟨_, _, rfl⟩, rfl⟩ rfl (fun hc => ?_) (fun hc => ?_)
  · have h := h.1 hc
    exact h
  · have h := h.2 hc
    refine w_aload_n (q := 21) hm30 ⟨⟨_, _, rfl⟩, rfl⟩ rfl ?_
    refine w_call (q := 24) (n := 2) (vs := [.inr (.inr (some 70))]) (rest := []) (la := [oR 70, none, none]) hm30 ⟨⟨_, _, rfl⟩, rfl⟩ rfl rfl rfl rfl hm33 rfl rfl (fun _ => ⟨_, _, rfl, rfl⟩) rfl (Wp.mono h ?_)
    rintro _ m1 ⟨rfl, h⟩
    change Wp _ _ 24 _ [] _ _
    exact h
theorem v_X12_term_70_24 {d : Nat} {m : dM} {Q : dM → Prop} (h : ((0 ≤ (m.1 70 40).toInt ∧ (m.1 70 40).toInt < 260) ∧ Q (dSet (dSet m 101 (m.1 70 40).toNatClampNeg (m.1 70 46)) 70 40 ((m.1 70 40) + (1 : Int32))))) : j_X12_term_70_24 (d + 1) m Q := by
  refine w_aload_n (q := 25) hm30 ⟨⟨_, _, rfl⟩, rfl⟩ rfl ?_
  refine w_getr (q := 28) hm30 ⟨⟨_, _, rfl⟩, rfl⟩ rfl ?_
  refine w_aload_n (q := 29) hm30 ⟨⟨_, _, rfl⟩, rfl⟩ rfl ?_
  refine w_getf (q := 32) (v := (m.1 70 40)) hm30 ⟨⟨_, _, rfl⟩, rfl⟩ rfl rfl ?_
  refine w_aload_n (q := 33) hm30 ⟨⟨_, _, rfl⟩, rfl⟩ rfl ?_
  refine w_getf (q := 36) (v := (m.1 70 46)) hm30 ⟨⟨_, _, rfl⟩, rfl⟩ rfl rfl ?_
  obtain ⟨hi, h⟩ := h
  refine w_iast (q := 37) hm30 ⟨⟨_, _, rfl⟩, rfl⟩ rfl hi rfl rfl ?_
  refine w_aload_n (q := 38) hm30 ⟨⟨_, _, rfl⟩, rfl⟩ rfl ?_
  refine w_dup (q := 39) hm30 ⟨⟨_, _, rfl⟩, rfl⟩ rfl ?_
  refine w_getf (q := 42) (v := (m.1 70 40)) hm30 ⟨⟨_, _, rfl⟩, rfl⟩ rfl rfl ?_
  refine w_iconst (q := 43) hm30 ⟨⟨_, _, rfl⟩, rfl⟩ iconst_1 ?_
  refine w_iadd (q := 44) hm30 ⟨⟨_, _, rfl⟩, rfl⟩ ?_
  refine w_putf (q := 47) hm30 ⟨⟨_, _, rfl⟩, rfl⟩ rfl rfl rfl ?_
  exact w_retv hm30 ⟨⟨_, _, rfl⟩, rfl⟩ rfl h
theorem v_X12_tellLaw_70 {d : Nat} {x1 : Int32} {m : dM} {Q : dM → Prop} (h : c_X12_must_70 d (5 : Int32) m (fun m1 => j_X12_tellLaw_70_12 (d + 1) x1 (m1.1 70 40) (0 : Int32) m1 Q)) : c_X12_tellLaw_70 (d + 1) x1 m Q := by
  refine w_aload_n (q := 1) hm29 ⟨⟨_, _, rfl⟩, rfl⟩ rfl ?_
  refine w_iconst (q := 2) hm29 ⟨⟨_, _, rfl⟩, rfl⟩ iconst_5 ?_
  refine w_call (q := 5) (n := 0) (vs := [.inr (.inr (some 70)), .inl (5 : Int32)]) (rest := []) (la := [oR 70, oI (5 : Int32)]) hm29 ⟨⟨_, _, rfl⟩, rfl⟩ rfl rfl rfl rfl hm16 rfl rfl (fun _ => ⟨_, _, rfl, rfl⟩) rfl (Wp.mono h ?_)
  rintro _ m1 ⟨rfl, h⟩
  change Wp _ _ 5 _ [] _ _
  refine w_aload_n (q := 6) hm29 ⟨⟨_, _, rfl⟩, rfl⟩ rfl ?_
  refine w_getf (q := 9) (v := (m1.1 70 40)) hm29 ⟨⟨_, _, rfl⟩, rfl⟩ rfl rfl ?_
  refine w_istore_n (q := 10) (l' := [oR 70, oI x1, oI (m1.1 70 40), none]) hm29 ⟨⟨_, _, rfl⟩, rfl⟩ rfl rfl rfl ?_
  refine w_iconst (q := 11) hm29 ⟨⟨_, _, rfl⟩, rfl⟩ iconst_0 ?_
  refine w_istore_n (q := 12) (l' := [oR 70, oI x1, oI (m1.1 70 40), oI (0 : Int32)]) hm29 ⟨⟨_, _, rfl⟩, rfl⟩ rfl rfl rfl ?_
  exact h
theorem v_X12_tellLaw_70_12 {d : Nat} {x1 : Int32} {x2 : Int32} {x3 : Int32} {m : dM} {Q : dM → Prop} (h : (((m.1 70 13).toInt ≠ 0 → j_X12_tellLaw_70_129 (d + 1) x1 x2 m Q) ∧ ((m.1 70 13).toInt = 0 → c_X12_is_70 d (30 : Int32) m (fun r1 m1 => ((r1.toInt = 0 → j_X12_tellLaw_70_129 (d + 1) x1 x2 m1 Q) ∧ (r1.toInt ≠ 0 → ((x3.toInt ≠ 4 → j_X12_tellLaw_70_38 (d + 1) x1 x2 x3 m1 Q) ∧ (x3.toInt = 4 → c_X12_fail_70 d (2 : Int32) m1 (fun m2 => j_X12_tellLaw_70_38 (d + 1) x1 x2 x3 m2 Q))))))))) : j_X12_tellLaw_70_12 (d + 1) x1 x2 x3 m Q := by
  refine w_aload_n (q := 13) hm29 ⟨⟨_, _, rfl⟩, rfl⟩ rfl ?_
  refine w_getf (q := 16) (v := (m.1 70 13)) hm29 ⟨⟨_, _, rfl⟩, rfl⟩ rfl rfl ?_
  refine w_if_ne (q := 19) (X := (m.1 70 13).toInt) hm29 ⟨⟨_, _, rfl⟩, rfl⟩ rfl (fun hc => ?_) (fun hc => ?_)
  · have h := h.1 hc
    exact Wp.wk [true, true, true, false] h
  · have h := h.2 hc
    refine w_aload_n (q := 20) hm29 ⟨⟨_, _, rfl⟩, rfl⟩ rfl ?_
    refine w_bipush (q := 22) hm29 ⟨⟨_, _, rfl⟩, rfl⟩ bipush_30 ?_
    refine w_call (q := 25) (n := 0) (vs := [.inr (.inr (some 70)), .inl (30 : Int32)]) (rest := []) (la := [oR 70, oI (30 : Int32)]) hm29 ⟨⟨_, _, rfl⟩, rfl⟩ rfl rfl rfl rfl hm12 rfl rfl (fun _ => ⟨_, _, rfl, rfl⟩) rfl (Wp.mono h ?_)
    rintro _ m1 ⟨r1, rfl, h⟩
    change Wp _ _ 25 _ [.inl r1] _ _
    refine w_if_eq (q := 28) (X := r1.toInt) hm29 ⟨⟨_, _, rfl⟩, rfl⟩ rfl (fun hc => ?_) (fun hc => ?_)
    · have h := h.1 hc
      exact Wp.wk [true, true, true, false] h
    · have h := h.2 hc
      refine w_iload_n (q := 29) hm29 ⟨⟨_, _, rfl⟩, rfl⟩ rfl ?_
      refine w_iconst (q := 30) hm29 ⟨⟨_, _, rfl⟩, rfl⟩ iconst_4 ?_
      refine w_icmp_ne (q := 33) (X := x3.toInt) (Y := 4) hm29 ⟨⟨_, _, rfl⟩, rfl⟩ rfl (by decide) (fun hc => ?_) (fun hc => ?_)
      · have h := h.1 hc
        exact h
      · have h := h.2 hc
        refine w_aload_n (q := 34) hm29 ⟨⟨_, _, rfl⟩, rfl⟩ rfl ?_
        refine w_iconst (q := 35) hm29 ⟨⟨_, _, rfl⟩, rfl⟩ iconst_2 ?_
        refine w_call (q := 38) (n := 0) (vs := [.inr (.inr (some 70)), .inl (2 : Int32)]) (rest := []) (la := [oR 70, oI (2 : Int32)]) hm29 ⟨⟨_, _, rfl⟩, rfl⟩ rfl rfl rfl rfl hm13 rfl rfl (fun _ => ⟨_, _, rfl, rfl⟩) rfl (Wp.mono h ?_)
        rintro _ m2 ⟨rfl, h⟩
        change Wp _ _ 38 _ [] _ _
        exact h
theorem v_X12_tellLaw_70_38 {d : Nat} {x1 : Int32} {x2 : Int32} {x3 : Int32} {m : dM} {Q : dM → Prop} (h : (((m.1 70 13).toInt ≤ 0 → c_X12_goesOn_70 d m (fun m1 => ((0 ≤ (m1.1 70 40).toInt ∧ (m1.1 70 40).toInt < 260) ∧ ((0 ≤ (m1.1 70 40).toInt ∧ (m1.1 70 40).toInt < 260) ∧ c_X12_expression_70 d (dSet (dSet m1 97 (m1.1 70 40).toNatClampNeg (1 : Int32)) 98 (m1.1 70 40).toNatClampNeg (m1.1 70 46)) (fun m2 => c_X12_must_70 d (13 : Int32) m2 (fun m3 => ((0 ≤ (m3.1 70 40).toInt ∧ (m3.1 70 40).toInt < 260) ∧ (((m3.1 70 13).toInt ≠ 0 → j_X12_tellLaw_70_110 (d + 1) x1 x2 (x3 + (1 : Int32)) (dSet m3 99 (m3.1 70 40).toNatClampNeg (m3.1 70 46)) Q) ∧ ((m3.1 70 13).toInt = 0 → c_X12_expression_70 d (dSet m3 99 (m3.1 70 40).toNatClampNeg (m3.1 70 46)) (fun m4 => j_X12_tellLaw_70_110 (d + 1) x1 x2 (x3 + (1 : Int32)) m4 Q)))))))))) ∧ (0 < (m.1 70 13).toInt → Q m))) : j_X12_tellLaw_70_38 (d + 1) x1 x2 x3 m Q := by
  refine w_aload_n (q := 39) hm29 ⟨⟨_, _, rfl⟩, rfl⟩ rfl ?_
  refine w_getf (q := 42) (v := (m.1 70 13)) hm29 ⟨⟨_, _, rfl⟩, rfl⟩ rfl rfl ?_
  refine w_if_le (q := 45) (X := (m.1 70 13).toInt) hm29 ⟨⟨_, _, rfl⟩, rfl⟩ rfl (fun hc => ?_) (fun hc => ?_)
  · have h := h.1 hc
    refine w_iinc (q := 49) (l' := [oR 70, oI x1, oI x2, oI (x3 + (1 : Int32))]) hm29 ⟨⟨_, _, rfl⟩, rfl⟩ rfl rfl rfl iconst_1 rfl ?_
    refine w_aload_n (q := 50) hm29 ⟨⟨_, _, rfl⟩, rfl⟩ rfl ?_
    refine w_call (q := 53) (n := 0) (vs := [.inr (.inr (some 70))]) (rest := []) (la := [oR 70]) hm29 ⟨⟨_, _, rfl⟩, rfl⟩ rfl rfl rfl rfl hm15 rfl rfl (fun _ => ⟨_, _, rfl, rfl⟩) rfl (Wp.mono h ?_)
    rintro _ m1 ⟨rfl, h⟩
    change Wp _ _ 53 _ [] _ _
    refine w_aload_n (q := 54) hm29 ⟨⟨_, _, rfl⟩, rfl⟩ rfl ?_
    refine w_getr (q := 57) hm29 ⟨⟨_, _, rfl⟩, rfl⟩ rfl ?_
    refine w_aload_n (q := 58) hm29 ⟨⟨_, _, rfl⟩, rfl⟩ rfl ?_
    refine w_getf (q := 61) (v := (m1.1 70 40)) hm29 ⟨⟨_, _, rfl⟩, rfl⟩ rfl rfl ?_
    refine w_iconst (q := 62) hm29 ⟨⟨_, _, rfl⟩, rfl⟩ iconst_1 ?_
    obtain ⟨hi, h⟩ := h
    refine w_zast (q := 63) hm29 ⟨⟨_, _, rfl⟩, rfl⟩ rfl (by decide) hi rfl rfl ?_
    refine w_aload_n (q := 64) hm29 ⟨⟨_, _, rfl⟩, rfl⟩ rfl ?_
    refine w_getr (q := 67) hm29 ⟨⟨_, _, rfl⟩, rfl⟩ rfl ?_
    refine w_aload_n (q := 68) hm29 ⟨⟨_, _, rfl⟩, rfl⟩ rfl ?_
    refine w_getf (q := 71) (v := (m1.1 70 40)) hm29 ⟨⟨_, _, rfl⟩, rfl⟩ rfl rfl ?_
    refine w_aload_n (q := 72) hm29 ⟨⟨_, _, rfl⟩, rfl⟩ rfl ?_
    refine w_getf (q := 75) (v := (m1.1 70 46)) hm29 ⟨⟨_, _, rfl⟩, rfl⟩ rfl rfl ?_
    obtain ⟨hi, h⟩ := h
    refine w_iast (q := 76) hm29 ⟨⟨_, _, rfl⟩, rfl⟩ rfl hi rfl rfl ?_
    refine w_aload_n (q := 77) hm29 ⟨⟨_, _, rfl⟩, rfl⟩ rfl ?_
    refine w_call (q := 80) (n := 2) (vs := [.inr (.inr (some 70))]) (rest := []) (la := [oR 70, none, none]) hm29 ⟨⟨_, _, rfl⟩, rfl⟩ rfl rfl rfl rfl hm33 rfl rfl (fun _ => ⟨_, _, rfl, rfl⟩) rfl (Wp.mono h ?_)
    rintro _ m2 ⟨rfl, h⟩
    change Wp _ _ 80 _ [] _ _
    refine w_aload_n (q := 81) hm29 ⟨⟨_, _, rfl⟩, rfl⟩ rfl ?_
    refine w_bipush (q := 83) hm29 ⟨⟨_, _, rfl⟩, rfl⟩ bipush_13 ?_
    refine w_call (q := 86) (n := 0) (vs := [.inr (.inr (some 70)), .inl (13 : Int32)]) (rest := []) (la := [oR 70, oI (13 : Int32)]) hm29 ⟨⟨_, _, rfl⟩, rfl⟩ rfl rfl rfl rfl hm16 rfl rfl (fun _ => ⟨_, _, rfl, rfl⟩) rfl (Wp.mono h ?_)
    rintro _ m3 ⟨rfl, h⟩
    change Wp _ _ 86 _ [] _ _
    refine w_aload_n (q := 87) hm29 ⟨⟨_, _, rfl⟩, rfl⟩ rfl ?_
    refine w_getr (q := 90) hm29 ⟨⟨_, _, rfl⟩, rfl⟩ rfl ?_
    refine w_aload_n (q := 91) hm29 ⟨⟨_, _, rfl⟩, rfl⟩ rfl ?_
    refine w_getf (q := 94) (v := (m3.1 70 40)) hm29 ⟨⟨_, _, rfl⟩, rfl⟩ rfl rfl ?_
    refine w_aload_n (q := 95) hm29 ⟨⟨_, _, rfl⟩, rfl⟩ rfl ?_
    refine w_getf (q := 98) (v := (m3.1 70 46)) hm29 ⟨⟨_, _, rfl⟩, rfl⟩ rfl rfl ?_
    obtain ⟨hi, h⟩ := h
    refine w_iast (q := 99) hm29 ⟨⟨_, _, rfl⟩, rfl⟩ rfl hi rfl rfl ?_
    refine w_aload_n (q := 100) hm29 ⟨⟨_, _, rfl⟩, rfl⟩ rfl ?_
    refine w_getf (q := 103) (v := (m3.1 70 13)) hm29 ⟨⟨_, _, rfl⟩, rfl⟩ rfl rfl ?_
    refine w_if_ne (q := 106) (X := (m3.1 70 13).toInt) hm29 ⟨⟨_, _, rfl⟩, rfl⟩ rfl (fun hc => ?_) (fun hc => ?_)
    · have h := h.1 hc
      exact h
    · have h := h.2 hc
      refine w_aload_n (q := 107) hm29 ⟨⟨_, _, rfl⟩, rfl⟩ rfl ?_
      refine w_call (q := 110) (n := 2) (vs := [.inr (.inr (some 70))]) (rest := []) (la := [oR 70, none, none]) hm29 ⟨⟨_, _, rfl⟩, rfl⟩ rfl rfl rfl rfl hm33 rfl rfl (fun _ => ⟨_, _, rfl, rfl⟩) rfl (Wp.mono h ?_)
      rintro _ m4 ⟨rfl, h⟩
      change Wp _ _ 110 _ [] _ _
      exact h
  · have h := h.2 hc
    exact w_retv hm29 ⟨⟨_, _, rfl⟩, rfl⟩ rfl h
theorem v_X12_tellLaw_70_110 {d : Nat} {x1 : Int32} {x2 : Int32} {x3 : Int32} {m : dM} {Q : dM → Prop} (h : c_X12_must_70 d (31 : Int32) m (fun m1 => c_X12_term_70 d m1 (fun m2 => c_X12_must_70 d (32 : Int32) m2 (fun m3 => j_X12_tellLaw_70_12 (d + 1) x1 x2 x3 m3 Q)))) : j_X12_tellLaw_70_110 (d + 1) x1 x2 x3 m Q := by
  refine w_aload_n (q := 111) hm29 ⟨⟨_, _, rfl⟩, rfl⟩ rfl ?_
  refine w_bipush (q := 113) hm29 ⟨⟨_, _, rfl⟩, rfl⟩ bipush_31 ?_
  refine w_call (q := 116) (n := 0) (vs := [.inr (.inr (some 70)), .inl (31 : Int32)]) (rest := []) (la := [oR 70, oI (31 : Int32)]) hm29 ⟨⟨_, _, rfl⟩, rfl⟩ rfl rfl rfl rfl hm16 rfl rfl (fun _ => ⟨_, _, rfl, rfl⟩) rfl (Wp.mono h ?_)
  rintro _ m1 ⟨rfl, h⟩
  change Wp _ _ 116 _ [] _ _
  refine w_aload_n (q := 117) hm29 ⟨⟨_, _, rfl⟩, rfl⟩ rfl ?_
  refine w_call (q := 120) (n := 0) (vs := [.inr (.inr (some 70))]) (rest := []) (la := [oR 70]) hm29 ⟨⟨_, _, rfl⟩, rfl⟩ rfl rfl rfl rfl hm30 rfl rfl (fun _ => ⟨_, _, rfl, rfl⟩) rfl (Wp.mono h ?_)
  rintro _ m2 ⟨rfl, h⟩
  change Wp _ _ 120 _ [] _ _
  refine w_aload_n (q := 121) hm29 ⟨⟨_, _, rfl⟩, rfl⟩ rfl ?_
  refine w_bipush (q := 123) hm29 ⟨⟨_, _, rfl⟩, rfl⟩ bipush_32 ?_
  refine w_call (q := 126) (n := 0) (vs := [.inr (.inr (some 70)), .inl (32 : Int32)]) (rest := []) (la := [oR 70, oI (32 : Int32)]) hm29 ⟨⟨_, _, rfl⟩, rfl⟩ rfl rfl rfl rfl hm16 rfl rfl (fun _ => ⟨_, _, rfl, rfl⟩) rfl (Wp.mono h ?_)
  rintro _ m3 ⟨rfl, h⟩
  change Wp _ _ 126 _ [] _ _
  refine w_goto (q := 12) hm29 ⟨_, _, rfl⟩ ?_
  exact h
theorem v_X12_tellLaw_70_129 {d : Nat} {x1 : Int32} {x2 : Int32} {m : dM} {Q : dM → Prop} (h : ((0 ≤ (m.1 70 40).toInt ∧ (m.1 70 40).toInt < 260) ∧ c_X12_term_70 d (dSet m 97 (m.1 70 40).toNatClampNeg (0 : Int32)) (fun m1 => c_X12_must_70 d (4 : Int32) m1 (fun m2 => (((m2.1 70 13).toInt ≤ 0 → ((0 ≤ (((4 : Int32) * (m2.1 70 19)) + x1).toInt ∧ (((4 : Int32) * (m2.1 70 19)) + x1).toInt < 8) ∧ ((0 ≤ (((4 : Int32) * (m2.1 70 19)) + x1).toInt ∧ (((4 : Int32) * (m2.1 70 19)) + x1).toInt < 8) ∧ Q (dSet (dSet m2 95 (((4 : Int32) * (m2.1 70 19)) + x1).toNatClampNeg x2) 96 (((4 : Int32) * (m2.1 70 19)) + x1).toNatClampNeg (m2.1 70 40))))) ∧ (0 < (m2.1 70 13).toInt → Q m2)))))) : j_X12_tellLaw_70_129 (d + 1) x1 x2 m Q := by
  refine w_aload_n (q := 130) hm29 ⟨⟨_, _, rfl⟩, rfl⟩ rfl ?_
  refine w_getr (q := 133) hm29 ⟨⟨_, _, rfl⟩, rfl⟩ rfl ?_
  refine w_aload_n (q := 134) hm29 ⟨⟨_, _, rfl⟩, rfl⟩ rfl ?_
  refine w_getf (q := 137) (v := (m.1 70 40)) hm29 ⟨⟨_, _, rfl⟩, rfl⟩ rfl rfl ?_
  refine w_iconst (q := 138) hm29 ⟨⟨_, _, rfl⟩, rfl⟩ iconst_0 ?_
  obtain ⟨hi, h⟩ := h
  refine w_zast (q := 139) hm29 ⟨⟨_, _, rfl⟩, rfl⟩ rfl (by decide) hi rfl rfl ?_
  refine w_aload_n (q := 140) hm29 ⟨⟨_, _, rfl⟩, rfl⟩ rfl ?_
  refine w_call (q := 143) (n := 0) (vs := [.inr (.inr (some 70))]) (rest := []) (la := [oR 70]) hm29 ⟨⟨_, _, rfl⟩, rfl⟩ rfl rfl rfl rfl hm30 rfl rfl (fun _ => ⟨_, _, rfl, rfl⟩) rfl (Wp.mono h ?_)
  rintro _ m1 ⟨rfl, h⟩
  change Wp _ _ 143 _ [] _ _
  refine w_aload_n (q := 144) hm29 ⟨⟨_, _, rfl⟩, rfl⟩ rfl ?_
  refine w_iconst (q := 145) hm29 ⟨⟨_, _, rfl⟩, rfl⟩ iconst_4 ?_
  refine w_call (q := 148) (n := 0) (vs := [.inr (.inr (some 70)), .inl (4 : Int32)]) (rest := []) (la := [oR 70, oI (4 : Int32)]) hm29 ⟨⟨_, _, rfl⟩, rfl⟩ rfl rfl rfl rfl hm16 rfl rfl (fun _ => ⟨_, _, rfl, rfl⟩) rfl (Wp.mono h ?_)
  rintro _ m2 ⟨rfl, h⟩
  change Wp _ _ 148 _ [] _ _
  refine w_aload_n (q := 149) hm29 ⟨⟨_, _, rfl⟩, rfl⟩ rfl ?_
  refine w_getf (q := 152) (v := (m2.1 70 13)) hm29 ⟨⟨_, _, rfl⟩, rfl⟩ rfl rfl ?_
  refine w_if_le (q := 155) (X := (m2.1 70 13).toInt) hm29 ⟨⟨_, _, rfl⟩, rfl⟩ rfl (fun hc => ?_) (fun hc => ?_)
  · have h := h.1 hc
    refine w_aload_n (q := 157) hm29 ⟨⟨_, _, rfl⟩, rfl⟩ rfl ?_
    refine w_getr (q := 160) hm29 ⟨⟨_, _, rfl⟩, rfl⟩ rfl ?_
    refine w_iconst (q := 161) hm29 ⟨⟨_, _, rfl⟩, rfl⟩ iconst_4 ?_
    refine w_aload_n (q := 162) hm29 ⟨⟨_, _, rfl⟩, rfl⟩ rfl ?_
    refine w_getf (q := 165) (v := (m2.1 70 19)) hm29 ⟨⟨_, _, rfl⟩, rfl⟩ rfl rfl ?_
    refine w_imul (q := 166) hm29 ⟨⟨_, _, rfl⟩, rfl⟩ ?_
    refine w_iload_n (q := 167) hm29 ⟨⟨_, _, rfl⟩, rfl⟩ rfl ?_
    refine w_iadd (q := 168) hm29 ⟨⟨_, _, rfl⟩, rfl⟩ ?_
    refine w_iload_n (q := 169) hm29 ⟨⟨_, _, rfl⟩, rfl⟩ rfl ?_
    obtain ⟨hi, h⟩ := h
    refine w_iast (q := 170) hm29 ⟨⟨_, _, rfl⟩, rfl⟩ rfl hi rfl rfl ?_
    refine w_aload_n (q := 171) hm29 ⟨⟨_, _, rfl⟩, rfl⟩ rfl ?_
    refine w_getr (q := 174) hm29 ⟨⟨_, _, rfl⟩, rfl⟩ rfl ?_
    refine w_iconst (q := 175) hm29 ⟨⟨_, _, rfl⟩, rfl⟩ iconst_4 ?_
    refine w_aload_n (q := 176) hm29 ⟨⟨_, _, rfl⟩, rfl⟩ rfl ?_
    refine w_getf (q := 179) (v := (m2.1 70 19)) hm29 ⟨⟨_, _, rfl⟩, rfl⟩ rfl rfl ?_
    refine w_imul (q := 180) hm29 ⟨⟨_, _, rfl⟩, rfl⟩ ?_
    refine w_iload_n (q := 181) hm29 ⟨⟨_, _, rfl⟩, rfl⟩ rfl ?_
    refine w_iadd (q := 182) hm29 ⟨⟨_, _, rfl⟩, rfl⟩ ?_
    refine w_aload_n (q := 183) hm29 ⟨⟨_, _, rfl⟩, rfl⟩ rfl ?_
    refine w_getf (q := 186) (v := (m2.1 70 40)) hm29 ⟨⟨_, _, rfl⟩, rfl⟩ rfl rfl ?_
    obtain ⟨hi, h⟩ := h
    refine w_iast (q := 187) hm29 ⟨⟨_, _, rfl⟩, rfl⟩ rfl hi rfl rfl ?_
    exact w_retv hm29 ⟨⟨_, _, rfl⟩, rfl⟩ rfl h
  · have h := h.2 hc
    exact w_retv hm29 ⟨⟨_, _, rfl⟩, rfl⟩ rfl h
theorem v_X12_tellOne_70 {d : Nat} {m : dM} {Q : dM → Prop} (h : ((0 ≤ (m.1 70 11).toInt ∧ (m.1 70 11).toInt < 403) ∧ (((m.1 73 (m.1 70 11).toNatClampNeg).toInt = 20 → ((0 ≤ (m.1 70 19).toInt ∧ (m.1 70 19).toInt < 2) ∧ c_X12_roomFor_70 d (m.1 80 (m.1 70 19).toNatClampNeg) (7 : Int32) m (fun m1 => (((m1.1 70 13).toInt ≤ 0 → c_X12_named_70 d m1 (fun r2 m2 => ((0 ≤ (m2.1 70 19).toInt ∧ (m2.1 70 19).toInt < 2) ∧ c_X12_bounded_70 d (0 : Int32) (9 : Int32) m2 (fun r3 m3 => ((0 ≤ (((7 : Int32) * (m2.1 70 19)) + (m2.1 80 (m2.1 70 19).toNatClampNeg)).toInt ∧ (((7 : Int32) * (m2.1 70 19)) + (m2.1 80 (m2.1 70 19).toNatClampNeg)).toInt < 14) ∧ ((0 ≤ (m3.1 70 19).toInt ∧ (m3.1 70 19).toInt < 2) ∧ c_X12_endsName_70 d r2 (m3.1 80 (m3.1 70 19).toNatClampNeg) (dSet m3 81 (((7 : Int32) * (m2.1 70 19)) + (m2.1 80 (m2.1 70 19).toNatClampNeg)).toNatClampNeg r3) (fun m4 => (((m4.1 70 13).toInt ≠ 0 → j_X12_tellOne_70_371 (d + 1) m4 Q) ∧ ((m4.1 70 13).toInt = 0 → ((0 ≤ (m4.1 70 19).toInt ∧ (m4.1 70 19).toInt < 2) ∧ ((0 ≤ (m4.1 70 19).toInt ∧ (m4.1 70 19).toInt < 2) ∧ j_X12_tellOne_70_371 (d + 1) (dSet m4 80 (m4.1 70 19).toNatClampNeg ((m4.1 80 (m4.1 70 19).toNatClampNeg) + (1 : Int32))) Q))))))))))) ∧ (0 < (m1.1 70 13).toInt → Q m1))))) ∧ ((m.1 73 (m.1 70 11).toNatClampNeg).toInt = 21 → ((0 ≤ (m.1 70 19).toInt ∧ (m.1 70 19).toInt < 2) ∧ c_X12_roomFor_70 d (m.1 82 (m.1 70 19).toNatClampNeg) (10 : Int32) m (fun m5 => (((m5.1 70 13).toInt ≠ 0 → j_X12_tellOne_70_371 (d + 1) m5 Q) ∧ ((m5.1 70 13).toInt = 0 → c_X12_tellWire_70 d m5 (fun m6 => j_X12_tellOne_70_371 (d + 1) m6 Q)))))) ∧ ((m.1 73 (m.1 70 11).toNatClampNeg).toInt = 22 → ((0 ≤ (m.1 70 19).toInt ∧ (m.1 70 19).toInt < 2) ∧ c_X12_roomFor_70 d (m.1 86 (m.1 70 19).toNatClampNeg) (8 : Int32) m (fun m7 => (((m7.1 70 13).toInt ≠ 0 → j_X12_tellOne_70_371 (d + 1) m7 Q) ∧ ((m7.1 70 13).toInt = 0 → c_X12_tellUse_70 d m7 (fun m8 => j_X12_tellOne_70_371 (d + 1) m8 Q)))))) ∧ ((m.1 73 (m.1 70 11).toNatClampNeg).toInt = 23 → ((0 ≤ (m.1 70 11).toInt ∧ (m.1 70 11).toInt < 403) ∧ ((((m.1 73 (m.1 70 11).toNatClampNeg) - (23 : Int32)).toInt < 0 → j_X12_tellOne_70_349 (d + 1) ((m.1 73 (m.1 70 11).toNatClampNeg) - (23 : Int32)) m Q) ∧ (0 ≤ ((m.1 73 (m.1 70 11).toNatClampNeg) - (23 : Int32)).toInt → ((0 ≤ (m.1 70 11).toInt ∧ (m.1 70 11).toInt < 403) ∧ (((m.1 73 (m.1 70 11).toNatClampNeg).toInt ≤ 26 → j_X12_tellOne_70_354 (d + 1) ((m.1 73 (m.1 70 11).toNatClampNeg) - (23 : Int32)) m Q) ∧ (26 < (m.1 73 (m.1 70 11).toNatClampNeg).toInt → j_X12_tellOne_70_349 (d + 1) ((m.1 73 (m.1 70 11).toNatClampNeg) - (23 : Int32)) m Q))))))) ∧ ((m.1 73 (m.1 70 11).toNatClampNeg).toInt = 24 → ((0 ≤ (m.1 70 11).toInt ∧ (m.1 70 11).toInt < 403) ∧ ((((m.1 73 (m.1 70 11).toNatClampNeg) - (23 : Int32)).toInt < 0 → j_X12_tellOne_70_349 (d + 1) ((m.1 73 (m.1 70 11).toNatClampNeg) - (23 : Int32)) m Q) ∧ (0 ≤ ((m.1 73 (m.1 70 11).toNatClampNeg) - (23 : Int32)).toInt → ((0 ≤ (m.1 70 11).toInt ∧ (m.1 70 11).toInt < 403) ∧ (((m.1 73 (m.1 70 11).toNatClampNeg).toInt ≤ 26 → j_X12_tellOne_70_354 (d + 1) ((m.1 73 (m.1 70 11).toNatClampNeg) - (23 : Int32)) m Q) ∧ (26 < (m.1 73 (m.1 70 11).toNatClampNeg).toInt → j_X12_tellOne_70_349 (d + 1) ((m.1 73 (m.1 70 11).toNatClampNeg) - (23 : Int32)) m Q))))))) ∧ ((m.1 73 (m.1 70 11).toNatClampNeg).toInt = 25 → ((0 ≤ (m.1 70 11).toInt ∧ (m.1 70 11).toInt < 403) ∧ ((((m.1 73 (m.1 70 11).toNatClampNeg) - (23 : Int32)).toInt < 0 → j_X12_tellOne_70_349 (d + 1) ((m.1 73 (m.1 70 11).toNatClampNeg) - (23 : Int32)) m Q) ∧ (0 ≤ ((m.1 73 (m.1 70 11).toNatClampNeg) - (23 : Int32)).toInt → ((0 ≤ (m.1 70 11).toInt ∧ (m.1 70 11).toInt < 403) ∧ (((m.1 73 (m.1 70 11).toNatClampNeg).toInt ≤ 26 → j_X12_tellOne_70_354 (d + 1) ((m.1 73 (m.1 70 11).toNatClampNeg) - (23 : Int32)) m Q) ∧ (26 < (m.1 73 (m.1 70 11).toNatClampNeg).toInt → j_X12_tellOne_70_349 (d + 1) ((m.1 73 (m.1 70 11).toNatClampNeg) - (23 : Int32)) m Q))))))) ∧ ((m.1 73 (m.1 70 11).toNatClampNeg).toInt = 26 → ((0 ≤ (m.1 70 11).toInt ∧ (m.1 70 11).toInt < 403) ∧ ((((m.1 73 (m.1 70 11).toNatClampNeg) - (23 : Int32)).toInt < 0 → j_X12_tellOne_70_349 (d + 1) ((m.1 73 (m.1 70 11).toNatClampNeg) - (23 : Int32)) m Q) ∧ (0 ≤ ((m.1 73 (m.1 70 11).toNatClampNeg) - (23 : Int32)).toInt → ((0 ≤ (m.1 70 11).toInt ∧ (m.1 70 11).toInt < 403) ∧ (((m.1 73 (m.1 70 11).toNatClampNeg).toInt ≤ 26 → j_X12_tellOne_70_354 (d + 1) ((m.1 73 (m.1 70 11).toNatClampNeg) - (23 : Int32)) m Q) ∧ (26 < (m.1 73 (m.1 70 11).toNatClampNeg).toInt → j_X12_tellOne_70_349 (d + 1) ((m.1 73 (m.1 70 11).toNatClampNeg) - (23 : Int32)) m Q))))))) ∧ ((m.1 73 (m.1 70 11).toNatClampNeg).toInt = 27 → c_X12_goesOn_70 d m (fun m9 => c_X12_bounded_70 d (0 : Int32) (100 : Int32) m9 (fun r10 m10 => ((0 ≤ (m9.1 70 19).toInt ∧ (m9.1 70 19).toInt < 2) ∧ c_X12_bounded_70 d (0 : Int32) (19 : Int32) (dSet m10 91 (m9.1 70 19).toNatClampNeg r10) (fun r11 m11 => ((0 ≤ (m10.1 70 19).toInt ∧ (m10.1 70 19).toInt < 2) ∧ c_X12_must_70 d (4 : Int32) (dSet m11 92 (m10.1 70 19).toNatClampNeg r11) (fun m12 => j_X12_tellOne_70_371 (d + 1) m12 Q))))))) ∧ ((m.1 73 (m.1 70 11).toNatClampNeg).toInt = 28 → c_X12_goesOn_70 d m (fun m13 => c_X12_bounded_70 d (0 : Int32) (999 : Int32) m13 (fun r14 m14 => ((0 ≤ (m13.1 70 19).toInt ∧ (m13.1 70 19).toInt < 2) ∧ c_X12_must_70 d (4 : Int32) (dSet m14 93 (m13.1 70 19).toNatClampNeg r14) (fun m15 => j_X12_tellOne_70_371 (d + 1) m15 Q))))) ∧ ((m.1 73 (m.1 70 11).toNatClampNeg).toInt = 29 → c_X12_goesOn_70 d m (fun m16 => c_X12_bounded_70 d (0 : Int32) (9999 : Int32) m16 (fun r17 m17 => ((0 ≤ (m16.1 70 19).toInt ∧ (m16.1 70 19).toInt < 2) ∧ c_X12_must_70 d (4 : Int32) (dSet m17 94 (m16.1 70 19).toNatClampNeg r17) (fun m18 => j_X12_tellOne_70_371 (d + 1) m18 Q))))) ∧ ((m.1 73 (m.1 70 11).toNatClampNeg).toInt < 20 ∨ 29 < (m.1 73 (m.1 70 11).toNatClampNeg).toInt → ((0 ≤ (m.1 70 11).toInt ∧ (m.1 70 11).toInt < 403) ∧ ((((m.1 73 (m.1 70 11).toNatClampNeg) - (23 : Int32)).toInt < 0 → j_X12_tellOne_70_349 (d + 1) ((m.1 73 (m.1 70 11).toNatClampNeg) - (23 : Int32)) m Q) ∧ (0 ≤ ((m.1 73 (m.1 70 11).toNatClampNeg) - (23 : Int32)).toInt → ((0 ≤ (m.1 70 11).toInt ∧ (m.1 70 11).toInt < 403) ∧ (((m.1 73 (m.1 70 11).toNatClampNeg).toInt ≤ 26 → j_X12_tellOne_70_354 (d + 1) ((m.1 73 (m.1 70 11).toNatClampNeg) - (23 : Int32)) m Q) ∧ (26 < (m.1 73 (m.1 70 11).toNatClampNeg).toInt → j_X12_tellOne_70_349 (d + 1) ((m.1 73 (m.1 70 11).toNatClampNeg) - (23 : Int32)) m Q)))))))))) : c_X12_tellOne_70 (d + 1) m Q := by
  refine w_aload_n (q := 1) hm21 ⟨⟨_, _, rfl⟩, rfl⟩ rfl ?_
  refine w_getr (q := 4) hm21 ⟨⟨_, _, rfl⟩, rfl⟩ rfl ?_
  refine w_aload_n (q := 5) hm21 ⟨⟨_, _, rfl⟩, rfl⟩ rfl ?_
  refine w_getf (q := 8) (v := (m.1 70 11)) hm21 ⟨⟨_, _, rfl⟩, rfl⟩ rfl rfl ?_
  obtain ⟨hi, h⟩ := h
  refine w_iald (q := 9) (v := (m.1 73 (m.1 70 11).toNatClampNeg)) hm21 ⟨⟨_, _, rfl⟩, rfl⟩ rfl hi rfl rfl ?_
  refine w_tsw (X := (m.1 73 (m.1 70 11).toNatClampNeg).toInt) hm21 ⟨_, _, rfl⟩ (by decide) (by decide) rfl ((And.intro (fun hc => ?_) (And.intro (fun hc => ?_) (And.intro (fun hc => ?_) (And.intro (fun hc => ?_) (And.intro (fun hc => ?_) (And.intro (fun hc => ?_) (And.intro (fun hc => ?_) (And.intro (fun hc => ?_) (And.intro (fun hc => ?_) (And.intro (fun hc => ?_) trivial))))))))))) (fun hc => ?_)
  · have h := (h.1) hc
    change Wp _ _ 64 _ _ _ _
    refine w_aload_n (q := 65) hm21 ⟨⟨_, _, rfl⟩, rfl⟩ rfl ?_
    refine w_aload_n (q := 66) hm21 ⟨⟨_, _, rfl⟩, rfl⟩ rfl ?_
    refine w_getr (q := 69) hm21 ⟨⟨_, _, rfl⟩, rfl⟩ rfl ?_
    refine w_aload_n (q := 70) hm21 ⟨⟨_, _, rfl⟩, rfl⟩ rfl ?_
    refine w_getf (q := 73) (v := (m.1 70 19)) hm21 ⟨⟨_, _, rfl⟩, rfl⟩ rfl rfl ?_
    obtain ⟨hi, h⟩ := h
    refine w_iald (q := 74) (v := (m.1 80 (m.1 70 19).toNatClampNeg)) hm21 ⟨⟨_, _, rfl⟩, rfl⟩ rfl hi rfl rfl ?_
    refine w_bipush (q := 76) hm21 ⟨⟨_, _, rfl⟩, rfl⟩ bipush_7 ?_
    refine w_call (q := 79) (n := 0) (vs := [.inr (.inr (some 70)), .inl (m.1 80 (m.1 70 19).toNatClampNeg), .inl (7 : Int32)]) (rest := []) (la := [oR 70, oI (m.1 80 (m.1 70 19).toNatClampNeg), oI (7 : Int32)]) hm21 ⟨⟨_, _, rfl⟩, rfl⟩ rfl rfl rfl rfl hm20 rfl rfl (fun _ => ⟨_, _, rfl, rfl⟩) rfl (Wp.mono h ?_)
    rintro _ m1 ⟨rfl, h⟩
    change Wp _ _ 79 _ [] _ _
    refine w_aload_n (q := 80) hm21 ⟨⟨_, _, rfl⟩, rfl⟩ rfl ?_
    refine w_getf (q := 83) (v := (m1.1 70 13)) hm21 ⟨⟨_, _, rfl⟩, rfl⟩ rfl rfl ?_
    refine w_if_le (q := 86) (X := (m1.1 70 13).toInt) hm21 ⟨⟨_, _, rfl⟩, rfl⟩ rfl (fun hc => ?_) (fun hc => ?_)
    · have h := h.1 hc
      refine w_aload_n (q := 88) hm21 ⟨⟨_, _, rfl⟩, rfl⟩ rfl ?_
      refine w_call (q := 91) (n := 2) (vs := [.inr (.inr (some 70))]) (rest := []) (la := [oR 70, none, none]) hm21 ⟨⟨_, _, rfl⟩, rfl⟩ rfl rfl rfl rfl hm22 rfl rfl (fun _ => ⟨_, _, rfl, rfl⟩) rfl (Wp.mono h ?_)
      rintro _ m2 ⟨r2, rfl, h⟩
      change Wp _ _ 91 _ [.inl r2] _ _
      refine w_istore_n (q := 92) (l' := [oR 70, oI r2]) hm21 ⟨⟨_, _, rfl⟩, rfl⟩ rfl rfl rfl ?_
      refine w_aload_n (q := 93) hm21 ⟨⟨_, _, rfl⟩, rfl⟩ rfl ?_
      refine w_getr (q := 96) hm21 ⟨⟨_, _, rfl⟩, rfl⟩ rfl ?_
      refine w_bipush (q := 98) hm21 ⟨⟨_, _, rfl⟩, rfl⟩ bipush_7 ?_
      refine w_aload_n (q := 99) hm21 ⟨⟨_, _, rfl⟩, rfl⟩ rfl ?_
      refine w_getf (q := 102) (v := (m2.1 70 19)) hm21 ⟨⟨_, _, rfl⟩, rfl⟩ rfl rfl ?_
      refine w_imul (q := 103) hm21 ⟨⟨_, _, rfl⟩, rfl⟩ ?_
      refine w_aload_n (q := 104) hm21 ⟨⟨_, _, rfl⟩, rfl⟩ rfl ?_
      refine w_getr (q := 107) hm21 ⟨⟨_, _, rfl⟩, rfl⟩ rfl ?_
      refine w_aload_n (q := 108) hm21 ⟨⟨_, _, rfl⟩, rfl⟩ rfl ?_
      refine w_getf (q := 111) (v := (m2.1 70 19)) hm21 ⟨⟨_, _, rfl⟩, rfl⟩ rfl rfl ?_
      obtain ⟨hi, h⟩ := h
      refine w_iald (q := 112) (v := (m2.1 80 (m2.1 70 19).toNatClampNeg)) hm21 ⟨⟨_, _, rfl⟩, rfl⟩ rfl hi rfl rfl ?_
      refine w_iadd (q := 113) hm21 ⟨⟨_, _, rfl⟩, rfl⟩ ?_
      refine w_aload_n (q := 114) hm21 ⟨⟨_, _, rfl⟩, rfl⟩ rfl ?_
      refine w_iconst (q := 115) hm21 ⟨⟨_, _, rfl⟩, rfl⟩ iconst_0 ?_
      refine w_bipush (q := 117) hm21 ⟨⟨_, _, rfl⟩, rfl⟩ bipush_9 ?_
      refine w_call (q := 120) (n := 1) (vs := [.inr (.inr (some 70)), .inl (0 : Int32), .inl (9 : Int32)]) (rest := [.inl (((7 : Int32) * (m2.1 70 19)) + (m2.1 80 (m2.1 70 19).toNatClampNeg)), .inr (.inr (some 81))]) (la := [oR 70, oI (0 : Int32), oI (9 : Int32), none]) hm21 ⟨⟨_, _, rfl⟩, rfl⟩ rfl rfl rfl rfl hm25 rfl rfl (fun _ => ⟨_, _, rfl, rfl⟩) rfl (Wp.mono h ?_)
      rintro _ m3 ⟨r3, rfl, h⟩
      change Wp _ _ 120 _ [.inl r3, .inl (((7 : Int32) * (m2.1 70 19)) + (m2.1 80 (m2.1 70 19).toNatClampNeg)), .inr (.inr (some 81))] _ _
      obtain ⟨hi, h⟩ := h
      refine w_iast (q := 121) hm21 ⟨⟨_, _, rfl⟩, rfl⟩ rfl hi rfl rfl ?_
      refine w_aload_n (q := 122) hm21 ⟨⟨_, _, rfl⟩, rfl⟩ rfl ?_
      refine w_iload_n (q := 123) hm21 ⟨⟨_, _, rfl⟩, rfl⟩ rfl ?_
      refine w_aload_n (q := 124) hm21 ⟨⟨_, _, rfl⟩, rfl⟩ rfl ?_
      refine w_getr (q := 127) hm21 ⟨⟨_, _, rfl⟩, rfl⟩ rfl ?_
      refine w_aload_n (q := 128) hm21 ⟨⟨_, _, rfl⟩, rfl⟩ rfl ?_
      refine w_getf (q := 131) (v := (m3.1 70 19)) hm21 ⟨⟨_, _, rfl⟩, rfl⟩ rfl rfl ?_
      obtain ⟨hi, h⟩ := h
      refine w_iald (q := 132) (v := (m3.1 80 (m3.1 70 19).toNatClampNeg)) hm21 ⟨⟨_, _, rfl⟩, rfl⟩ rfl hi rfl rfl ?_
      refine w_call (q := 135) (n := 0) (vs := [.inr (.inr (some 70)), .inl r2, .inl (m3.1 80 (m3.1 70 19).toNatClampNeg)]) (rest := []) (la := [oR 70, oI r2, oI (m3.1 80 (m3.1 70 19).toNatClampNeg)]) hm21 ⟨⟨_, _, rfl⟩, rfl⟩ rfl rfl rfl rfl hm23 rfl rfl (fun _ => ⟨_, _, rfl, rfl⟩) rfl (Wp.mono h ?_)
      rintro _ m4 ⟨rfl, h⟩
      change Wp _ _ 135 _ [] _ _
      refine w_aload_n (q := 136) hm21 ⟨⟨_, _, rfl⟩, rfl⟩ rfl ?_
      refine w_getf (q := 139) (v := (m4.1 70 13)) hm21 ⟨⟨_, _, rfl⟩, rfl⟩ rfl rfl ?_
      refine w_if_ne (q := 142) (X := (m4.1 70 13).toInt) hm21 ⟨⟨_, _, rfl⟩, rfl⟩ rfl (fun hc => ?_) (fun hc => ?_)
      · have h := h.1 hc
        exact Wp.wk [false, false] h
      · have h := h.2 hc
        refine w_aload_n (q := 143) hm21 ⟨⟨_, _, rfl⟩, rfl⟩ rfl ?_
        refine w_getr (q := 146) hm21 ⟨⟨_, _, rfl⟩, rfl⟩ rfl ?_
        refine w_aload_n (q := 147) hm21 ⟨⟨_, _, rfl⟩, rfl⟩ rfl ?_
        refine w_getf (q := 150) (v := (m4.1 70 19)) hm21 ⟨⟨_, _, rfl⟩, rfl⟩ rfl rfl ?_
        refine w_dup2 (q := 151) hm21 ⟨⟨_, _, rfl⟩, rfl⟩ rfl ?_
        obtain ⟨hi, h⟩ := h
        refine w_iald (q := 152) (v := (m4.1 80 (m4.1 70 19).toNatClampNeg)) hm21 ⟨⟨_, _, rfl⟩, rfl⟩ rfl hi rfl rfl ?_
        refine w_iconst (q := 153) hm21 ⟨⟨_, _, rfl⟩, rfl⟩ iconst_1 ?_
        refine w_iadd (q := 154) hm21 ⟨⟨_, _, rfl⟩, rfl⟩ ?_
        obtain ⟨hi, h⟩ := h
        refine w_iast (q := 155) hm21 ⟨⟨_, _, rfl⟩, rfl⟩ rfl hi rfl rfl ?_
        refine w_goto (q := 371) hm21 ⟨_, _, rfl⟩ ?_
        exact Wp.wk [false, false] h
    · have h := h.2 hc
      exact w_retv hm21 ⟨⟨_, _, rfl⟩, rfl⟩ rfl h
  · have h := (h.2.1) hc
    change Wp _ _ 158 _ _ _ _
    refine w_aload_n (q := 159) hm21 ⟨⟨_, _, rfl⟩, rfl⟩ rfl ?_
    refine w_aload_n (q := 160) hm21 ⟨⟨_, _, rfl⟩, rfl⟩ rfl ?_
    refine w_getr (q := 163) hm21 ⟨⟨_, _, rfl⟩, rfl⟩ rfl ?_
    refine w_aload_n (q := 164) hm21 ⟨⟨_, _, rfl⟩, rfl⟩ rfl ?_
    refine w_getf (q := 167) (v := (m.1 70 19)) hm21 ⟨⟨_, _, rfl⟩, rfl⟩ rfl rfl ?_
    obtain ⟨hi, h⟩ := h
    refine w_iald (q := 168) (v := (m.1 82 (m.1 70 19).toNatClampNeg)) hm21 ⟨⟨_, _, rfl⟩, rfl⟩ rfl hi rfl rfl ?_
    refine w_bipush (q := 170) hm21 ⟨⟨_, _, rfl⟩, rfl⟩ bipush_10 ?_
    refine w_call (q := 173) (n := 0) (vs := [.inr (.inr (some 70)), .inl (m.1 82 (m.1 70 19).toNatClampNeg), .inl (10 : Int32)]) (rest := []) (la := [oR 70, oI (m.1 82 (m.1 70 19).toNatClampNeg), oI (10 : Int32)]) hm21 ⟨⟨_, _, rfl⟩, rfl⟩ rfl rfl rfl rfl hm20 rfl rfl (fun _ => ⟨_, _, rfl, rfl⟩) rfl (Wp.mono h ?_)
    rintro _ m5 ⟨rfl, h⟩
    change Wp _ _ 173 _ [] _ _
    refine w_aload_n (q := 174) hm21 ⟨⟨_, _, rfl⟩, rfl⟩ rfl ?_
    refine w_getf (q := 177) (v := (m5.1 70 13)) hm21 ⟨⟨_, _, rfl⟩, rfl⟩ rfl rfl ?_
    refine w_if_ne (q := 180) (X := (m5.1 70 13).toInt) hm21 ⟨⟨_, _, rfl⟩, rfl⟩ rfl (fun hc => ?_) (fun hc => ?_)
    · have h := h.1 hc
      exact Wp.wk [false, false] h
    · have h := h.2 hc
      refine w_aload_n (q := 181) hm21 ⟨⟨_, _, rfl⟩, rfl⟩ rfl ?_
      refine w_call (q := 184) (n := 4) (vs := [.inr (.inr (some 70))]) (rest := []) (la := [oR 70, none, none, none, none]) hm21 ⟨⟨_, _, rfl⟩, rfl⟩ rfl rfl rfl rfl hm27 rfl rfl (fun _ => ⟨_, _, rfl, rfl⟩) rfl (Wp.mono h ?_)
      rintro _ m6 ⟨rfl, h⟩
      change Wp _ _ 184 _ [] _ _
      refine w_goto (q := 371) hm21 ⟨_, _, rfl⟩ ?_
      exact Wp.wk [false, false] h
  · have h := (h.2.2.1) hc
    change Wp _ _ 187 _ _ _ _
    refine w_aload_n (q := 188) hm21 ⟨⟨_, _, rfl⟩, rfl⟩ rfl ?_
    refine w_aload_n (q := 189) hm21 ⟨⟨_, _, rfl⟩, rfl⟩ rfl ?_
    refine w_getr (q := 192) hm21 ⟨⟨_, _, rfl⟩, rfl⟩ rfl ?_
    refine w_aload_n (q := 193) hm21 ⟨⟨_, _, rfl⟩, rfl⟩ rfl ?_
    refine w_getf (q := 196) (v := (m.1 70 19)) hm21 ⟨⟨_, _, rfl⟩, rfl⟩ rfl rfl ?_
    obtain ⟨hi, h⟩ := h
    refine w_iald (q := 197) (v := (m.1 86 (m.1 70 19).toNatClampNeg)) hm21 ⟨⟨_, _, rfl⟩, rfl⟩ rfl hi rfl rfl ?_
    refine w_bipush (q := 199) hm21 ⟨⟨_, _, rfl⟩, rfl⟩ bipush_8 ?_
    refine w_call (q := 202) (n := 0) (vs := [.inr (.inr (some 70)), .inl (m.1 86 (m.1 70 19).toNatClampNeg), .inl (8 : Int32)]) (rest := []) (la := [oR 70, oI (m.1 86 (m.1 70 19).toNatClampNeg), oI (8 : Int32)]) hm21 ⟨⟨_, _, rfl⟩, rfl⟩ rfl rfl rfl rfl hm20 rfl rfl (fun _ => ⟨_, _, rfl, rfl⟩) rfl (Wp.mono h ?_)
    rintro _ m7 ⟨rfl, h⟩
    change Wp _ _ 202 _ [] _ _
    refine w_aload_n (q := 203) hm21 ⟨⟨_, _, rfl⟩, rfl⟩ rfl ?_
    refine w_getf (q := 206) (v := (m7.1 70 13)) hm21 ⟨⟨_, _, rfl⟩, rfl⟩ rfl rfl ?_
    refine w_if_ne (q := 209) (X := (m7.1 70 13).toInt) hm21 ⟨⟨_, _, rfl⟩, rfl⟩ rfl (fun hc => ?_) (fun hc => ?_)
    · have h := h.1 hc
      exact Wp.wk [false, false] h
    · have h := h.2 hc
      refine w_aload_n (q := 210) hm21 ⟨⟨_, _, rfl⟩, rfl⟩ rfl ?_
      refine w_call (q := 213) (n := 2) (vs := [.inr (.inr (some 70))]) (rest := []) (la := [oR 70, none, none]) hm21 ⟨⟨_, _, rfl⟩, rfl⟩ rfl rfl rfl rfl hm28 rfl rfl (fun _ => ⟨_, _, rfl, rfl⟩) rfl (Wp.mono h ?_)
      rintro _ m8 ⟨rfl, h⟩
      change Wp _ _ 213 _ [] _ _
      refine w_goto (q := 371) hm21 ⟨_, _, rfl⟩ ?_
      exact Wp.wk [false, false] h
  · have h := (h.2.2.2.1) hc
    change Wp _ _ 318 _ _ _ _
    refine w_aload_n (q := 319) hm21 ⟨⟨_, _, rfl⟩, rfl⟩ rfl ?_
    refine w_getr (q := 322) hm21 ⟨⟨_, _, rfl⟩, rfl⟩ rfl ?_
    refine w_aload_n (q := 323) hm21 ⟨⟨_, _, rfl⟩, rfl⟩ rfl ?_
    refine w_getf (q := 326) (v := (m.1 70 11)) hm21 ⟨⟨_, _, rfl⟩, rfl⟩ rfl rfl ?_
    obtain ⟨hi, h⟩ := h
    refine w_iald (q := 327) (v := (m.1 73 (m.1 70 11).toNatClampNeg)) hm21 ⟨⟨_, _, rfl⟩, rfl⟩ rfl hi rfl rfl ?_
    refine w_bipush (q := 329) hm21 ⟨⟨_, _, rfl⟩, rfl⟩ bipush_23 ?_
    refine w_isub (q := 330) hm21 ⟨⟨_, _, rfl⟩, rfl⟩ ?_
    refine w_istore_n (q := 331) (l' := [oR 70, oI ((m.1 73 (m.1 70 11).toNatClampNeg) - (23 : Int32))]) hm21 ⟨⟨_, _, rfl⟩, rfl⟩ rfl rfl rfl ?_
    refine w_iload_n (q := 332) hm21 ⟨⟨_, _, rfl⟩, rfl⟩ rfl ?_
    refine w_if_lt (q := 335) (X := ((m.1 73 (m.1 70 11).toNatClampNeg) - (23 : Int32)).toInt) hm21 ⟨⟨_, _, rfl⟩, rfl⟩ rfl (fun hc => ?_) (fun hc => ?_)
    · have h := h.1 hc
      exact h
    · have h := h.2 hc
      refine w_aload_n (q := 336) hm21 ⟨⟨_, _, rfl⟩, rfl⟩ rfl ?_
      refine w_getr (q := 339) hm21 ⟨⟨_, _, rfl⟩, rfl⟩ rfl ?_
      refine w_aload_n (q := 340) hm21 ⟨⟨_, _, rfl⟩, rfl⟩ rfl ?_
      refine w_getf (q := 343) (v := (m.1 70 11)) hm21 ⟨⟨_, _, rfl⟩, rfl⟩ rfl rfl ?_
      obtain ⟨hi, h⟩ := h
      refine w_iald (q := 344) (v := (m.1 73 (m.1 70 11).toNatClampNeg)) hm21 ⟨⟨_, _, rfl⟩, rfl⟩ rfl hi rfl rfl ?_
      refine w_bipush (q := 346) hm21 ⟨⟨_, _, rfl⟩, rfl⟩ bipush_26 ?_
      refine w_icmp_le (q := 349) (X := (m.1 73 (m.1 70 11).toNatClampNeg).toInt) (Y := 26) hm21 ⟨⟨_, _, rfl⟩, rfl⟩ rfl (by decide) (fun hc => ?_) (fun hc => ?_)
      · have h := h.1 hc
        exact h
      · have h := h.2 hc
        exact h
  · have h := (h.2.2.2.2.1) hc
    change Wp _ _ 318 _ _ _ _
    refine w_aload_n (q := 319) hm21 ⟨⟨_, _, rfl⟩, rfl⟩ rfl ?_
    refine w_getr (q := 322) hm21 ⟨⟨_, _, rfl⟩, rfl⟩ rfl ?_
    refine w_aload_n (q := 323) hm21 ⟨⟨_, _, rfl⟩, rfl⟩ rfl ?_
    refine w_getf (q := 326) (v := (m.1 70 11)) hm21 ⟨⟨_, _, rfl⟩, rfl⟩ rfl rfl ?_
    obtain ⟨hi, h⟩ := h
    refine w_iald (q := 327) (v := (m.1 73 (m.1 70 11).toNatClampNeg)) hm21 ⟨⟨_, _, rfl⟩, rfl⟩ rfl hi rfl rfl ?_
    refine w_bipush (q := 329) hm21 ⟨⟨_, _, rfl⟩, rfl⟩ bipush_23 ?_
    refine w_isub (q := 330) hm21 ⟨⟨_, _, rfl⟩, rfl⟩ ?_
    refine w_istore_n (q := 331) (l' := [oR 70, oI ((m.1 73 (m.1 70 11).toNatClampNeg) - (23 : Int32))]) hm21 ⟨⟨_, _, rfl⟩, rfl⟩ rfl rfl rfl ?_
    refine w_iload_n (q := 332) hm21 ⟨⟨_, _, rfl⟩, rfl⟩ rfl ?_
    refine w_if_lt (q := 335) (X := ((m.1 73 (m.1 70 11).toNatClampNeg) - (23 : Int32)).toInt) hm21 ⟨⟨_, _, rfl⟩, rfl⟩ rfl (fun hc => ?_) (fun hc => ?_)
    · have h := h.1 hc
      exact h
    · have h := h.2 hc
      refine w_aload_n (q := 336) hm21 ⟨⟨_, _, rfl⟩, rfl⟩ rfl ?_
      refine w_getr (q := 339) hm21 ⟨⟨_, _, rfl⟩, rfl⟩ rfl ?_
      refine w_aload_n (q := 340) hm21 ⟨⟨_, _, rfl⟩, rfl⟩ rfl ?_
      refine w_getf (q := 343) (v := (m.1 70 11)) hm21 ⟨⟨_, _, rfl⟩, rfl⟩ rfl rfl ?_
      obtain ⟨hi, h⟩ := h
      refine w_iald (q := 344) (v := (m.1 73 (m.1 70 11).toNatClampNeg)) hm21 ⟨⟨_, _, rfl⟩, rfl⟩ rfl hi rfl rfl ?_
      refine w_bipush (q := 346) hm21 ⟨⟨_, _, rfl⟩, rfl⟩ bipush_26 ?_
      refine w_icmp_le (q := 349) (X := (m.1 73 (m.1 70 11).toNatClampNeg).toInt) (Y := 26) hm21 ⟨⟨_, _, rfl⟩, rfl⟩ rfl (by decide) (fun hc => ?_) (fun hc => ?_)
      · have h := h.1 hc
        exact h
      · have h := h.2 hc
        exact h
  · have h := (h.2.2.2.2.2.1) hc
    change Wp _ _ 318 _ _ _ _
    refine w_aload_n (q := 319) hm21 ⟨⟨_, _, rfl⟩, rfl⟩ rfl ?_
    refine w_getr (q := 322) hm21 ⟨⟨_, _, rfl⟩, rfl⟩ rfl ?_
    refine w_aload_n (q := 323) hm21 ⟨⟨_, _, rfl⟩, rfl⟩ rfl ?_
    refine w_getf (q := 326) (v := (m.1 70 11)) hm21 ⟨⟨_, _, rfl⟩, rfl⟩ rfl rfl ?_
    obtain ⟨hi, h⟩ := h
    refine w_iald (q := 327) (v := (m.1 73 (m.1 70 11).toNatClampNeg)) hm21 ⟨⟨_, _, rfl⟩, rfl⟩ rfl hi rfl rfl ?_
    refine w_bipush (q := 329) hm21 ⟨⟨_, _, rfl⟩, rfl⟩ bipush_23 ?_
    refine w_isub (q := 330) hm21 ⟨⟨_, _, rfl⟩, rfl⟩ ?_
    refine w_istore_n (q := 331) (l' := [oR 70, oI ((m.1 73 (m.1 70 11).toNatClampNeg) - (23 : Int32))]) hm21 ⟨⟨_, _, rfl⟩, rfl⟩ rfl rfl rfl ?_
    refine w_iload_n (q := 332) hm21 ⟨⟨_, _, rfl⟩, rfl⟩ rfl ?_
    refine w_if_lt (q := 335) (X := ((m.1 73 (m.1 70 11).toNatClampNeg) - (23 : Int32)).toInt) hm21 ⟨⟨_, _, rfl⟩, rfl⟩ rfl (fun hc => ?_) (fun hc => ?_)
    · have h := h.1 hc
      exact h
    · have h := h.2 hc
      refine w_aload_n (q := 336) hm21 ⟨⟨_, _, rfl⟩, rfl⟩ rfl ?_
      refine w_getr (q := 339) hm21 ⟨⟨_, _, rfl⟩, rfl⟩ rfl ?_
      refine w_aload_n (q := 340) hm21 ⟨⟨_, _, rfl⟩, rfl⟩ rfl ?_
      refine w_getf (q := 343) (v := (m.1 70 11)) hm21 ⟨⟨_, _, rfl⟩, rfl⟩ rfl rfl ?_
      obtain ⟨hi, h⟩ := h
      refine w_iald (q := 344) (v := (m.1 73 (m.1 70 11).toNatClampNeg)) hm21 ⟨⟨_, _, rfl⟩, rfl⟩ rfl hi rfl rfl ?_
      refine w_bipush (q := 346) hm21 ⟨⟨_, _, rfl⟩, rfl⟩ bipush_26 ?_
      refine w_icmp_le (q := 349) (X := (m.1 73 (m.1 70 11).toNatClampNeg).toInt) (Y := 26) hm21 ⟨⟨_, _, rfl⟩, rfl⟩ rfl (by decide) (fun hc => ?_) (fun hc => ?_)
      · have h := h.1 hc
        exact h
      · have h := h.2 hc
        exact h
  · have h := (h.2.2.2.2.2.2.1) hc
    change Wp _ _ 318 _ _ _ _
    refine w_aload_n (q := 319) hm21 ⟨⟨_, _, rfl⟩, rfl⟩ rfl ?_
    refine w_getr (q := 322) hm21 ⟨⟨_, _, rfl⟩, rfl⟩ rfl ?_
    refine w_aload_n (q := 323) hm21 ⟨⟨_, _, rfl⟩, rfl⟩ rfl ?_
    refine w_getf (q := 326) (v := (m.1 70 11)) hm21 ⟨⟨_, _, rfl⟩, rfl⟩ rfl rfl ?_
    obtain ⟨hi, h⟩ := h
    refine w_iald (q := 327) (v := (m.1 73 (m.1 70 11).toNatClampNeg)) hm21 ⟨⟨_, _, rfl⟩, rfl⟩ rfl hi rfl rfl ?_
    refine w_bipush (q := 329) hm21 ⟨⟨_, _, rfl⟩, rfl⟩ bipush_23 ?_
    refine w_isub (q := 330) hm21 ⟨⟨_, _, rfl⟩, rfl⟩ ?_
    refine w_istore_n (q := 331) (l' := [oR 70, oI ((m.1 73 (m.1 70 11).toNatClampNeg) - (23 : Int32))]) hm21 ⟨⟨_, _, rfl⟩, rfl⟩ rfl rfl rfl ?_
    refine w_iload_n (q := 332) hm21 ⟨⟨_, _, rfl⟩, rfl⟩ rfl ?_
    refine w_if_lt (q := 335) (X := ((m.1 73 (m.1 70 11).toNatClampNeg) - (23 : Int32)).toInt) hm21 ⟨⟨_, _, rfl⟩, rfl⟩ rfl (fun hc => ?_) (fun hc => ?_)
    · have h := h.1 hc
      exact h
    · have h := h.2 hc
      refine w_aload_n (q := 336) hm21 ⟨⟨_, _, rfl⟩, rfl⟩ rfl ?_
      refine w_getr (q := 339) hm21 ⟨⟨_, _, rfl⟩, rfl⟩ rfl ?_
      refine w_aload_n (q := 340) hm21 ⟨⟨_, _, rfl⟩, rfl⟩ rfl ?_
      refine w_getf (q := 343) (v := (m.1 70 11)) hm21 ⟨⟨_, _, rfl⟩, rfl⟩ rfl rfl ?_
      obtain ⟨hi, h⟩ := h
      refine w_iald (q := 344) (v := (m.1 73 (m.1 70 11).toNatClampNeg)) hm21 ⟨⟨_, _, rfl⟩, rfl⟩ rfl hi rfl rfl ?_
      refine w_bipush (q := 346) hm21 ⟨⟨_, _, rfl⟩, rfl⟩ bipush_26 ?_
      refine w_icmp_le (q := 349) (X := (m.1 73 (m.1 70 11).toNatClampNeg).toInt) (Y := 26) hm21 ⟨⟨_, _, rfl⟩, rfl⟩ rfl (by decide) (fun hc => ?_) (fun hc => ?_)
      · have h := h.1 hc
        exact h
      · have h := h.2 hc
        exact h
  · have h := (h.2.2.2.2.2.2.2.1) hc
    change Wp _ _ 216 _ _ _ _
    refine w_aload_n (q := 217) hm21 ⟨⟨_, _, rfl⟩, rfl⟩ rfl ?_
    refine w_call (q := 220) (n := 0) (vs := [.inr (.inr (some 70))]) (rest := []) (la := [oR 70]) hm21 ⟨⟨_, _, rfl⟩, rfl⟩ rfl rfl rfl rfl hm15 rfl rfl (fun _ => ⟨_, _, rfl, rfl⟩) rfl (Wp.mono h ?_)
    rintro _ m9 ⟨rfl, h⟩
    change Wp _ _ 220 _ [] _ _
    refine w_aload_n (q := 221) hm21 ⟨⟨_, _, rfl⟩, rfl⟩ rfl ?_
    refine w_getr (q := 224) hm21 ⟨⟨_, _, rfl⟩, rfl⟩ rfl ?_
    refine w_aload_n (q := 225) hm21 ⟨⟨_, _, rfl⟩, rfl⟩ rfl ?_
    refine w_getf (q := 228) (v := (m9.1 70 19)) hm21 ⟨⟨_, _, rfl⟩, rfl⟩ rfl rfl ?_
    refine w_aload_n (q := 229) hm21 ⟨⟨_, _, rfl⟩, rfl⟩ rfl ?_
    refine w_iconst (q := 230) hm21 ⟨⟨_, _, rfl⟩, rfl⟩ iconst_0 ?_
    refine w_bipush (q := 232) hm21 ⟨⟨_, _, rfl⟩, rfl⟩ bipush_100 ?_
    refine w_call (q := 235) (n := 1) (vs := [.inr (.inr (some 70)), .inl (0 : Int32), .inl (100 : Int32)]) (rest := [.inl (m9.1 70 19), .inr (.inr (some 91))]) (la := [oR 70, oI (0 : Int32), oI (100 : Int32), none]) hm21 ⟨⟨_, _, rfl⟩, rfl⟩ rfl rfl rfl rfl hm25 rfl rfl (fun _ => ⟨_, _, rfl, rfl⟩) rfl (Wp.mono h ?_)
    rintro _ m10 ⟨r10, rfl, h⟩
    change Wp _ _ 235 _ [.inl r10, .inl (m9.1 70 19), .inr (.inr (some 91))] _ _
    obtain ⟨hi, h⟩ := h
    refine w_iast (q := 236) hm21 ⟨⟨_, _, rfl⟩, rfl⟩ rfl hi rfl rfl ?_
    refine w_aload_n (q := 237) hm21 ⟨⟨_, _, rfl⟩, rfl⟩ rfl ?_
    refine w_getr (q := 240) hm21 ⟨⟨_, _, rfl⟩, rfl⟩ rfl ?_
    refine w_aload_n (q := 241) hm21 ⟨⟨_, _, rfl⟩, rfl⟩ rfl ?_
    refine w_getf (q := 244) (v := (m10.1 70 19)) hm21 ⟨⟨_, _, rfl⟩, rfl⟩ rfl rfl ?_
    refine w_aload_n (q := 245) hm21 ⟨⟨_, _, rfl⟩, rfl⟩ rfl ?_
    refine w_iconst (q := 246) hm21 ⟨⟨_, _, rfl⟩, rfl⟩ iconst_0 ?_
    refine w_bipush (q := 248) hm21 ⟨⟨_, _, rfl⟩, rfl⟩ bipush_19 ?_
    refine w_call (q := 251) (n := 1) (vs := [.inr (.inr (some 70)), .inl (0 : Int32), .inl (19 : Int32)]) (rest := [.inl (m10.1 70 19), .inr (.inr (some 92))]) (la := [oR 70, oI (0 : Int32), oI (19 : Int32), none]) hm21 ⟨⟨_, _, rfl⟩, rfl⟩ rfl rfl rfl rfl hm25 rfl rfl (fun _ => ⟨_, _, rfl, rfl⟩) rfl (Wp.mono h ?_)
    rintro _ m11 ⟨r11, rfl, h⟩
    change Wp _ _ 251 _ [.inl r11, .inl (m10.1 70 19), .inr (.inr (some 92))] _ _
    obtain ⟨hi, h⟩ := h
    refine w_iast (q := 252) hm21 ⟨⟨_, _, rfl⟩, rfl⟩ rfl hi rfl rfl ?_
    refine w_aload_n (q := 253) hm21 ⟨⟨_, _, rfl⟩, rfl⟩ rfl ?_
    refine w_iconst (q := 254) hm21 ⟨⟨_, _, rfl⟩, rfl⟩ iconst_4 ?_
    refine w_call (q := 257) (n := 0) (vs := [.inr (.inr (some 70)), .inl (4 : Int32)]) (rest := []) (la := [oR 70, oI (4 : Int32)]) hm21 ⟨⟨_, _, rfl⟩, rfl⟩ rfl rfl rfl rfl hm16 rfl rfl (fun _ => ⟨_, _, rfl, rfl⟩) rfl (Wp.mono h ?_)
    rintro _ m12 ⟨rfl, h⟩
    change Wp _ _ 257 _ [] _ _
    refine w_goto (q := 371) hm21 ⟨_, _, rfl⟩ ?_
    exact Wp.wk [false, false] h
  · have h := (h.2.2.2.2.2.2.2.2.1) hc
    change Wp _ _ 260 _ _ _ _
    refine w_aload_n (q := 261) hm21 ⟨⟨_, _, rfl⟩, rfl⟩ rfl ?_
    refine w_call (q := 264) (n := 0) (vs := [.inr (.inr (some 70))]) (rest := []) (la := [oR 70]) hm21 ⟨⟨_, _, rfl⟩, rfl⟩ rfl rfl rfl rfl hm15 rfl rfl (fun _ => ⟨_, _, rfl, rfl⟩) rfl (Wp.mono h ?_)
    rintro _ m13 ⟨rfl, h⟩
    change Wp _ _ 264 _ [] _ _
    refine w_aload_n (q := 265) hm21 ⟨⟨_, _, rfl⟩, rfl⟩ rfl ?_
    refine w_getr (q := 268) hm21 ⟨⟨_, _, rfl⟩, rfl⟩ rfl ?_
    refine w_aload_n (q := 269) hm21 ⟨⟨_, _, rfl⟩, rfl⟩ rfl ?_
    refine w_getf (q := 272) (v := (m13.1 70 19)) hm21 ⟨⟨_, _, rfl⟩, rfl⟩ rfl rfl ?_
    refine w_aload_n (q := 273) hm21 ⟨⟨_, _, rfl⟩, rfl⟩ rfl ?_
    refine w_iconst (q := 274) hm21 ⟨⟨_, _, rfl⟩, rfl⟩ iconst_0 ?_
    refine w_sipush (q := 277) hm21 ⟨⟨_, _, rfl⟩, rfl⟩ sipush_999 ?_
    refine w_call (q := 280) (n := 1) (vs := [.inr (.inr (some 70)), .inl (0 : Int32), .inl (999 : Int32)]) (rest := [.inl (m13.1 70 19), .inr (.inr (some 93))]) (la := [oR 70, oI (0 : Int32), oI (999 : Int32), none]) hm21 ⟨⟨_, _, rfl⟩, rfl⟩ rfl rfl rfl rfl hm25 rfl rfl (fun _ => ⟨_, _, rfl, rfl⟩) rfl (Wp.mono h ?_)
    rintro _ m14 ⟨r14, rfl, h⟩
    change Wp _ _ 280 _ [.inl r14, .inl (m13.1 70 19), .inr (.inr (some 93))] _ _
    obtain ⟨hi, h⟩ := h
    refine w_iast (q := 281) hm21 ⟨⟨_, _, rfl⟩, rfl⟩ rfl hi rfl rfl ?_
    refine w_aload_n (q := 282) hm21 ⟨⟨_, _, rfl⟩, rfl⟩ rfl ?_
    refine w_iconst (q := 283) hm21 ⟨⟨_, _, rfl⟩, rfl⟩ iconst_4 ?_
    refine w_call (q := 286) (n := 0) (vs := [.inr (.inr (some 70)), .inl (4 : Int32)]) (rest := []) (la := [oR 70, oI (4 : Int32)]) hm21 ⟨⟨_, _, rfl⟩, rfl⟩ rfl rfl rfl rfl hm16 rfl rfl (fun _ => ⟨_, _, rfl, rfl⟩) rfl (Wp.mono h ?_)
    rintro _ m15 ⟨rfl, h⟩
    change Wp _ _ 286 _ [] _ _
    refine w_goto (q := 371) hm21 ⟨_, _, rfl⟩ ?_
    exact Wp.wk [false, false] h
  · have h := (h.2.2.2.2.2.2.2.2.2.1) hc
    change Wp _ _ 289 _ _ _ _
    refine w_aload_n (q := 290) hm21 ⟨⟨_, _, rfl⟩, rfl⟩ rfl ?_
    refine w_call (q := 293) (n := 0) (vs := [.inr (.inr (some 70))]) (rest := []) (la := [oR 70]) hm21 ⟨⟨_, _, rfl⟩, rfl⟩ rfl rfl rfl rfl hm15 rfl rfl (fun _ => ⟨_, _, rfl, rfl⟩) rfl (Wp.mono h ?_)
    rintro _ m16 ⟨rfl, h⟩
    change Wp _ _ 293 _ [] _ _
    refine w_aload_n (q := 294) hm21 ⟨⟨_, _, rfl⟩, rfl⟩ rfl ?_
    refine w_getr (q := 297) hm21 ⟨⟨_, _, rfl⟩, rfl⟩ rfl ?_
    refine w_aload_n (q := 298) hm21 ⟨⟨_, _, rfl⟩, rfl⟩ rfl ?_
    refine w_getf (q := 301) (v := (m16.1 70 19)) hm21 ⟨⟨_, _, rfl⟩, rfl⟩ rfl rfl ?_
    refine w_aload_n (q := 302) hm21 ⟨⟨_, _, rfl⟩, rfl⟩ rfl ?_
    refine w_iconst (q := 303) hm21 ⟨⟨_, _, rfl⟩, rfl⟩ iconst_0 ?_
    refine w_sipush (q := 306) hm21 ⟨⟨_, _, rfl⟩, rfl⟩ sipush_9999 ?_
    refine w_call (q := 309) (n := 1) (vs := [.inr (.inr (some 70)), .inl (0 : Int32), .inl (9999 : Int32)]) (rest := [.inl (m16.1 70 19), .inr (.inr (some 94))]) (la := [oR 70, oI (0 : Int32), oI (9999 : Int32), none]) hm21 ⟨⟨_, _, rfl⟩, rfl⟩ rfl rfl rfl rfl hm25 rfl rfl (fun _ => ⟨_, _, rfl, rfl⟩) rfl (Wp.mono h ?_)
    rintro _ m17 ⟨r17, rfl, h⟩
    change Wp _ _ 309 _ [.inl r17, .inl (m16.1 70 19), .inr (.inr (some 94))] _ _
    obtain ⟨hi, h⟩ := h
    refine w_iast (q := 310) hm21 ⟨⟨_, _, rfl⟩, rfl⟩ rfl hi rfl rfl ?_
    refine w_aload_n (q := 311) hm21 ⟨⟨_, _, rfl⟩, rfl⟩ rfl ?_
    refine w_iconst (q := 312) hm21 ⟨⟨_, _, rfl⟩, rfl⟩ iconst_4 ?_
    refine w_call (q := 315) (n := 0) (vs := [.inr (.inr (some 70)), .inl (4 : Int32)]) (rest := []) (la := [oR 70, oI (4 : Int32)]) hm21 ⟨⟨_, _, rfl⟩, rfl⟩ rfl rfl rfl rfl hm16 rfl rfl (fun _ => ⟨_, _, rfl, rfl⟩) rfl (Wp.mono h ?_)
    rintro _ m18 ⟨rfl, h⟩
    change Wp _ _ 315 _ [] _ _
    refine w_goto (q := 371) hm21 ⟨_, _, rfl⟩ ?_
    exact Wp.wk [false, false] h
  · have h := (h.2.2.2.2.2.2.2.2.2.2) hc
    change Wp _ _ 318 _ _ _ _
    refine w_aload_n (q := 319) hm21 ⟨⟨_, _, rfl⟩, rfl⟩ rfl ?_
    refine w_getr (q := 322) hm21 ⟨⟨_, _, rfl⟩, rfl⟩ rfl ?_
    refine w_aload_n (q := 323) hm21 ⟨⟨_, _, rfl⟩, rfl⟩ rfl ?_
    refine w_getf (q := 326) (v := (m.1 70 11)) hm21 ⟨⟨_, _, rfl⟩, rfl⟩ rfl rfl ?_
    obtain ⟨hi, h⟩ := h
    refine w_iald (q := 327) (v := (m.1 73 (m.1 70 11).toNatClampNeg)) hm21 ⟨⟨_, _, rfl⟩, rfl⟩ rfl hi rfl rfl ?_
    refine w_bipush (q := 329) hm21 ⟨⟨_, _, rfl⟩, rfl⟩ bipush_23 ?_
    refine w_isub (q := 330) hm21 ⟨⟨_, _, rfl⟩, rfl⟩ ?_
    refine w_istore_n (q := 331) (l' := [oR 70, oI ((m.1 73 (m.1 70 11).toNatClampNeg) - (23 : Int32))]) hm21 ⟨⟨_, _, rfl⟩, rfl⟩ rfl rfl rfl ?_
    refine w_iload_n (q := 332) hm21 ⟨⟨_, _, rfl⟩, rfl⟩ rfl ?_
    refine w_if_lt (q := 335) (X := ((m.1 73 (m.1 70 11).toNatClampNeg) - (23 : Int32)).toInt) hm21 ⟨⟨_, _, rfl⟩, rfl⟩ rfl (fun hc => ?_) (fun hc => ?_)
    · have h := h.1 hc
      exact h
    · have h := h.2 hc
      refine w_aload_n (q := 336) hm21 ⟨⟨_, _, rfl⟩, rfl⟩ rfl ?_
      refine w_getr (q := 339) hm21 ⟨⟨_, _, rfl⟩, rfl⟩ rfl ?_
      refine w_aload_n (q := 340) hm21 ⟨⟨_, _, rfl⟩, rfl⟩ rfl ?_
      refine w_getf (q := 343) (v := (m.1 70 11)) hm21 ⟨⟨_, _, rfl⟩, rfl⟩ rfl rfl ?_
      obtain ⟨hi, h⟩ := h
      refine w_iald (q := 344) (v := (m.1 73 (m.1 70 11).toNatClampNeg)) hm21 ⟨⟨_, _, rfl⟩, rfl⟩ rfl hi rfl rfl ?_
      refine w_bipush (q := 346) hm21 ⟨⟨_, _, rfl⟩, rfl⟩ bipush_26 ?_
      refine w_icmp_le (q := 349) (X := (m.1 73 (m.1 70 11).toNatClampNeg).toInt) (Y := 26) hm21 ⟨⟨_, _, rfl⟩, rfl⟩ rfl (by decide) (fun hc => ?_) (fun hc => ?_)
      · have h := h.1 hc
        exact h
      · have h := h.2 hc
        exact h
theorem v_X12_tellOne_70_349 {d : Nat} {x1 : Int32} {m : dM} {Q : dM → Prop} (h : c_X12_fail_70 d (1 : Int32) m (fun m1 => j_X12_tellOne_70_354 (d + 1) x1 m1 Q)) : j_X12_tellOne_70_349 (d + 1) x1 m Q := by
  refine w_aload_n (q := 350) hm21 ⟨⟨_, _, rfl⟩, rfl⟩ rfl ?_
  refine w_iconst (q := 351) hm21 ⟨⟨_, _, rfl⟩, rfl⟩ iconst_1 ?_
  refine w_call (q := 354) (n := 0) (vs := [.inr (.inr (some 70)), .inl (1 : Int32)]) (rest := []) (la := [oR 70, oI (1 : Int32)]) hm21 ⟨⟨_, _, rfl⟩, rfl⟩ rfl rfl rfl rfl hm13 rfl rfl (fun _ => ⟨_, _, rfl, rfl⟩) rfl (Wp.mono h ?_)
  rintro _ m1 ⟨rfl, h⟩
  change Wp _ _ 354 _ [] _ _
  exact h
theorem v_X12_tellOne_70_354 {d : Nat} {x1 : Int32} {m : dM} {Q : dM → Prop} (h : (((m.1 70 13).toInt ≤ 0 → c_X12_goesOn_70 d m (fun m1 => c_X12_tellLaw_70 d x1 m1 (fun m2 => j_X12_tellOne_70_371 (d + 1) m2 Q))) ∧ (0 < (m.1 70 13).toInt → Q m))) : j_X12_tellOne_70_354 (d + 1) x1 m Q := by
  refine w_aload_n (q := 355) hm21 ⟨⟨_, _, rfl⟩, rfl⟩ rfl ?_
  refine w_getf (q := 358) (v := (m.1 70 13)) hm21 ⟨⟨_, _, rfl⟩, rfl⟩ rfl rfl ?_
  refine w_if_le (q := 361) (X := (m.1 70 13).toInt) hm21 ⟨⟨_, _, rfl⟩, rfl⟩ rfl (fun hc => ?_) (fun hc => ?_)
  · have h := h.1 hc
    refine w_aload_n (q := 363) hm21 ⟨⟨_, _, rfl⟩, rfl⟩ rfl ?_
    refine w_call (q := 366) (n := 0) (vs := [.inr (.inr (some 70))]) (rest := []) (la := [oR 70]) hm21 ⟨⟨_, _, rfl⟩, rfl⟩ rfl rfl rfl rfl hm15 rfl rfl (fun _ => ⟨_, _, rfl, rfl⟩) rfl (Wp.mono h ?_)
    rintro _ m1 ⟨rfl, h⟩
    change Wp _ _ 366 _ [] _ _
    refine w_aload_n (q := 367) hm21 ⟨⟨_, _, rfl⟩, rfl⟩ rfl ?_
    refine w_iload_n (q := 368) hm21 ⟨⟨_, _, rfl⟩, rfl⟩ rfl ?_
    refine w_call (q := 371) (n := 2) (vs := [.inr (.inr (some 70)), .inl x1]) (rest := []) (la := [oR 70, oI x1, none, none]) hm21 ⟨⟨_, _, rfl⟩, rfl⟩ rfl rfl rfl rfl hm29 rfl rfl (fun _ => ⟨_, _, rfl, rfl⟩) rfl (Wp.mono h ?_)
    rintro _ m2 ⟨rfl, h⟩
    change Wp _ _ 371 _ [] _ _
    exact Wp.wk [false, false] h
  · have h := h.2 hc
    exact w_retv hm21 ⟨⟨_, _, rfl⟩, rfl⟩ rfl h
theorem v_X12_tellOne_70_371 {d : Nat} {m : dM} {Q : dM → Prop} (h : Q m) : j_X12_tellOne_70_371 (d + 1) m Q := by
  exact w_retv hm21 ⟨⟨_, _, rfl⟩, rfl⟩ rfl h
end
