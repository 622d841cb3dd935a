theorem tc1_0 : tC1_0.all (kEn tY1.1 tY1.2.1) = true := by decide +kernel
theorem tc1_1 : tC1_1.all (kEn tY1.1 tY1.2.1) = true := by decide +kernel
theorem tm1 : kM tM1 tY1 ((tWs[1]?).getD (0, 0, 0, 0)) = true := by decide +kernel
set_option maxRecDepth 20000 in
theorem tw1 : kW ((tWs[1]?).getD (0, 0, 0, 0)).1 = some (.code tY1.1 tY1.2.1 tM1.2.1 tY1.2.2) := rfl
theorem tk1 : eMok tCl lw_g tNs tMs tYs tM1 tY1 := kM_ok (q := (tWs[1]?).getD (0, 0, 0, 0)) (show ∀ ch ∈ tC1, _ from List.forall_mem_cons.mpr ⟨tc1_0, List.forall_mem_cons.mpr ⟨tc1_1, fun _ h => absurd h List.not_mem_nil⟩⟩) tw1 tm1
theorem tc2_0 : tC2_0.all (kEn tY2.1 tY2.2.1) = true := by decide +kernel
theorem tc2_1 : tC2_1.all (kEn tY2.1 tY2.2.1) = true := by decide +kernel
theorem tm2 : kM tM2 tY2 ((tWs[2]?).getD (0, 0, 0, 0)) = true := by decide +kernel
set_option maxRecDepth 20000 in
theorem tw2 : kW ((tWs[2]?).getD (0, 0, 0, 0)).1 = some (.code tY2.1 tY2.2.1 tM2.2.1 tY2.2.2) := rfl
theorem tk2 : eMok tCl lw_g tNs tMs tYs tM2 tY2 := kM_ok (q := (tWs[2]?).getD (0, 0, 0, 0)) (show ∀ ch ∈ tC2, _ from List.forall_mem_cons.mpr ⟨tc2_0, List.forall_mem_cons.mpr ⟨tc2_1, fun _ h => absurd h List.not_mem_nil⟩⟩) tw2 tm2
theorem tc3_0 : tC3_0.all (kEn tY3.1 tY3.2.1) = true := by decide +kernel
theorem tm3 : kM tM3 tY3 ((tWs[3]?).getD (0, 0, 0, 0)) = true := by decide +kernel
set_option maxRecDepth 20000 in
theorem tw3 : kW ((tWs[3]?).getD (0, 0, 0, 0)).1 = some (.code tY3.1 tY3.2.1 tM3.2.1 tY3.2.2) := rfl
theorem tk3 : eMok tCl lw_g tNs tMs tYs tM3 tY3 := kM_ok (q := (tWs[3]?).getD (0, 0, 0, 0)) (show ∀ ch ∈ tC3, _ from List.forall_mem_cons.mpr ⟨tc3_0, fun _ h => absurd h List.not_mem_nil⟩) tw3 tm3
theorem tc4_0 : tC4_0.all (kEn tY4.1 tY4.2.1) = true := by decide +kernel
theorem tm4 : kM tM4 tY4 ((tWs[4]?).getD (0, 0, 0, 0)) = true := by decide +kernel
set_option maxRecDepth 20000 in
theorem tw4 : kW ((tWs[4]?).getD (0, 0, 0, 0)).1 = some (.code tY4.1 tY4.2.1 tM4.2.1 tY4.2.2) := rfl
theorem tk4 : eMok tCl lw_g tNs tMs tYs tM4 tY4 := kM_ok (q := (tWs[4]?).getD (0, 0, 0, 0)) (show ∀ ch ∈ tC4, _ from List.forall_mem_cons.mpr ⟨tc4_0, fun _ h => absurd h List.not_mem_nil⟩) tw4 tm4
theorem tc5_0 : tC5_0.all (kEn tY5.1 tY5.2.1) = true := by decide +kernel
theorem tm5 : kM tM5 tY5 ((tWs[5]?).getD (0, 0, 0, 0)) = true := by decide +kernel
set_option maxRecDepth 20000 in
theorem tw5 : kW ((tWs[5]?).getD (0, 0, 0, 0)).1 = some (.code tY5.1 tY5.2.1 tM5.2.1 tY5.2.2) := rfl
theorem tk5 : eMok tCl lw_g tNs tMs tYs tM5 tY5 := kM_ok (q := (tWs[5]?).getD (0, 0, 0, 0)) (show ∀ ch ∈ tC5, _ from List.forall_mem_cons.mpr ⟨tc5_0, fun _ h => absurd h List.not_mem_nil⟩) tw5 tm5
theorem tc6_0 : tC6_0.all (kEn tY6.1 tY6.2.1) = true := by decide +kernel
theorem tm6 : kM tM6 tY6 ((tWs[6]?).getD (0, 0, 0, 0)) = true := by decide +kernel
set_option maxRecDepth 20000 in
theorem tw6 : kW ((tWs[6]?).getD (0, 0, 0, 0)).1 = some (.code tY6.1 tY6.2.1 tM6.2.1 tY6.2.2) := rfl
theorem tk6 : eMok tCl lw_g tNs tMs tYs tM6 tY6 := kM_ok (q := (tWs[6]?).getD (0, 0, 0, 0)) (show ∀ ch ∈ tC6, _ from List.forall_mem_cons.mpr ⟨tc6_0, fun _ h => absurd h List.not_mem_nil⟩) tw6 tm6
theorem tc7_0 : tC7_0.all (kEn tY7.1 tY7.2.1) = true := by decide +kernel
theorem tm7 : kM tM7 tY7 ((tWs[7]?).getD (0, 0, 0, 0)) = true := by decide +kernel
set_option maxRecDepth 20000 in
theorem tw7 : kW ((tWs[7]?).getD (0, 0, 0, 0)).1 = some (.code tY7.1 tY7.2.1 tM7.2.1 tY7.2.2) := rfl
theorem tk7 : eMok tCl lw_g tNs tMs tYs tM7 tY7 := kM_ok (q := (tWs[7]?).getD (0, 0, 0, 0)) (show ∀ ch ∈ tC7, _ from List.forall_mem_cons.mpr ⟨tc7_0, fun _ h => absurd h List.not_mem_nil⟩) tw7 tm7
theorem tc8_0 : tC8_0.all (kEn tY8.1 tY8.2.1) = true := by decide +kernel
theorem tc8_1 : tC8_1.all (kEn tY8.1 tY8.2.1) = true := by decide +kernel
theorem tm8 : kM tM8 tY8 ((tWs[8]?).getD (0, 0, 0, 0)) = true := by decide +kernel
set_option maxRecDepth 20000 in
theorem tw8 : kW ((tWs[8]?).getD (0, 0, 0, 0)).1 = some (.code tY8.1 tY8.2.1 tM8.2.1 tY8.2.2) := rfl
theorem tk8 : eMok tCl lw_g tNs tMs tYs tM8 tY8 := kM_ok (q := (tWs[8]?).getD (0, 0, 0, 0)) (show ∀ ch ∈ tC8, _ from List.forall_mem_cons.mpr ⟨tc8_0, List.forall_mem_cons.mpr ⟨tc8_1, fun _ h => absurd h List.not_mem_nil⟩⟩) tw8 tm8
theorem tc9_0 : tC9_0.all (kEn tY9.1 tY9.2.1) = true := by decide +kernel
theorem tc9_1 : tC9_1.all (kEn tY9.1 tY9.2.1) = true := by decide +kernel
theorem tm9 : kM tM9 tY9 ((tWs[9]?).getD (0, 0, 0, 0)) = true := by decide +kernel
set_option maxRecDepth 20000 in
theorem tw9 : kW ((tWs[9]?).getD (0, 0, 0, 0)).1 = some (.code tY9.1 tY9.2.1 tM9.2.1 tY9.2.2) := rfl
theorem tk9 : eMok tCl lw_g tNs tMs tYs tM9 tY9 := kM_ok (q := (tWs[9]?).getD (0, 0, 0, 0)) (show ∀ ch ∈ tC9, _ from List.forall_mem_cons.mpr ⟨tc9_0, List.forall_mem_cons.mpr ⟨tc9_1, fun _ h => absurd h List.not_mem_nil⟩⟩) tw9 tm9
theorem tc10_0 : tC10_0.all (kEn tY10.1 tY10.2.1) = true := by decide +kernel
theorem tc10_1 : tC10_1.all (kEn tY10.1 tY10.2.1) = true := by decide +kernel
theorem tc10_2 : tC10_2.all (kEn tY10.1 tY10.2.1) = true := by decide +kernel
theorem tc10_3 : tC10_3.all (kEn tY10.1 tY10.2.1) = true := by decide +kernel
theorem tc10_4 : tC10_4.all (kEn tY10.1 tY10.2.1) = true := by decide +kernel
theorem tc10_5 : tC10_5.all (kEn tY10.1 tY10.2.1) = true := by decide +kernel
theorem tc10_6 : tC10_6.all (kEn tY10.1 tY10.2.1) = true := by decide +kernel
theorem tc10_7 : tC10_7.all (kEn tY10.1 tY10.2.1) = true := by decide +kernel
theorem tc10_8 : tC10_8.all (kEn tY10.1 tY10.2.1) = true := by decide +kernel
theorem tc10_9 : tC10_9.all (kEn tY10.1 tY10.2.1) = true := by decide +kernel
theorem tm10 : kM tM10 tY10 ((tWs[10]?).getD (0, 0, 0, 0)) = true := by decide +kernel
set_option maxRecDepth 20000 in
theorem tw10 : kW ((tWs[10]?).getD (0, 0, 0, 0)).1 = some (.code tY10.1 tY10.2.1 tM10.2.1 tY10.2.2) := rfl
theorem tk10 : eMok tCl lw_g tNs tMs tYs tM10 tY10 := kM_ok (q := (tWs[10]?).getD (0, 0, 0, 0)) (show ∀ ch ∈ tC10, _ from List.forall_mem_cons.mpr ⟨tc10_0, List.forall_mem_cons.mpr ⟨tc10_1, List.forall_mem_cons.mpr ⟨tc10_2, List.forall_mem_cons.mpr ⟨tc10_3, List.forall_mem_cons.mpr ⟨tc10_4, List.forall_mem_cons.mpr ⟨tc10_5, List.forall_mem_cons.mpr ⟨tc10_6, List.forall_mem_cons.mpr ⟨tc10_7, List.forall_mem_cons.mpr ⟨tc10_8, List.forall_mem_cons.mpr ⟨tc10_9, fun _ h => absurd h List.not_mem_nil⟩⟩⟩⟩⟩⟩⟩⟩⟩⟩) tw10 tm10
theorem tc11_0 : tC11_0.all (kEn tY11.1 tY11.2.1) = true := by decide +kernel
theorem tc11_1 : tC11_1.all (kEn tY11.1 tY11.2.1) = true := by decide +kernel
theorem tc11_2 : tC11_2.all (kEn tY11.1 tY11.2.1) = true := by decide +kernel
theorem tc11_3 : tC11_3.all (kEn tY11.1 tY11.2.1) = true := by decide +kernel
theorem tm11 : kM tM11 tY11 ((tWs[11]?).getD (0, 0, 0, 0)) = true := by decide +kernel
set_option maxRecDepth 20000 in
theorem tw11 : kW ((tWs[11]?).getD (0, 0, 0, 0)).1 = some (.code tY11.1 tY11.2.1 tM11.2.1 tY11.2.2) := rfl
theorem tk11 : eMok tCl lw_g tNs tMs tYs tM11 tY11 := kM_ok (q := (tWs[11]?).getD (0, 0, 0, 0)) (show ∀ ch ∈ tC11, _ from List.forall_mem_cons.mpr ⟨tc11_0, List.forall_mem_cons.mpr ⟨tc11_1, List.forall_mem_cons.mpr ⟨tc11_2, List.forall_mem_cons.mpr ⟨tc11_3, fun _ h => absurd h List.not_mem_nil⟩⟩⟩⟩) tw11 tm11
theorem tc12_0 : tC12_0.all (kEn tY12.1 tY12.2.1) = true := by decide +kernel
theorem tm12 : kM tM12 tY12 ((tWs[12]?).getD (0, 0, 0, 0)) = true := by decide +kernel
set_option maxRecDepth 20000 in
theorem tw12 : kW ((tWs[12]?).getD (0, 0, 0, 0)).1 = some (.code tY12.1 tY12.2.1 tM12.2.1 tY12.2.2) := rfl
theorem tk12 : eMok tCl lw_g tNs tMs tYs tM12 tY12 := kM_ok (q := (tWs[12]?).getD (0, 0, 0, 0)) (show ∀ ch ∈ tC12, _ from List.forall_mem_cons.mpr ⟨tc12_0, fun _ h => absurd h List.not_mem_nil⟩) tw12 tm12
theorem tc13_0 : tC13_0.all (kEn tY13.1 tY13.2.1) = true := by decide +kernel
theorem tm13 : kM tM13 tY13 ((tWs[13]?).getD (0, 0, 0, 0)) = true := by decide +kernel
set_option maxRecDepth 20000 in
theorem tw13 : kW ((tWs[13]?).getD (0, 0, 0, 0)).1 = some (.code tY13.1 tY13.2.1 tM13.2.1 tY13.2.2) := rfl
theorem tk13 : eMok tCl lw_g tNs tMs tYs tM13 tY13 := kM_ok (q := (tWs[13]?).getD (0, 0, 0, 0)) (show ∀ ch ∈ tC13, _ from List.forall_mem_cons.mpr ⟨tc13_0, fun _ h => absurd h List.not_mem_nil⟩) tw13 tm13
theorem tc14_0 : tC14_0.all (kEn tY14.1 tY14.2.1) = true := by decide +kernel
theorem tc14_1 : tC14_1.all (kEn tY14.1 tY14.2.1) = true := by decide +kernel
theorem tm14 : kM tM14 tY14 ((tWs[14]?).getD (0, 0, 0, 0)) = true := by decide +kernel
set_option maxRecDepth 20000 in
theorem tw14 : kW ((tWs[14]?).getD (0, 0, 0, 0)).1 = some (.code tY14.1 tY14.2.1 tM14.2.1 tY14.2.2) := rfl
theorem tk14 : eMok tCl lw_g tNs tMs tYs tM14 tY14 := kM_ok (q := (tWs[14]?).getD (0, 0, 0, 0)) (show ∀ ch ∈ tC14, _ from List.forall_mem_cons.mpr ⟨tc14_0, List.forall_mem_cons.mpr ⟨tc14_1, fun _ h => absurd h List.not_mem_nil⟩⟩) tw14 tm14
theorem tc15_0 : tC15_0.all (kEn tY15.1 tY15.2.1) = true := by decide +kernel
theorem tm15 : kM tM15 tY15 ((tWs[15]?).getD (0, 0, 0, 0)) = true := by decide +kernel
set_option maxRecDepth 20000 in
theorem tw15 : kW ((tWs[15]?).getD (0, 0, 0, 0)).1 = some (.code tY15.1 tY15.2.1 tM15.2.1 tY15.2.2) := rfl
theorem tk15 : eMok tCl lw_g tNs tMs tYs tM15 tY15 := kM_ok (q := (tWs[15]?).getD (0, 0, 0, 0)) (show ∀ ch ∈ tC15, _ from List.forall_mem_cons.mpr ⟨tc15_0, fun _ h => absurd h List.not_mem_nil⟩) tw15 tm15
theorem tc16_0 : tC16_0.all (kEn tY16.1 tY16.2.1) = true := by decide +kernel
theorem tm16 : kM tM16 tY16 ((tWs[16]?).getD (0, 0, 0, 0)) = true := by decide +kernel
set_option maxRecDepth 20000 in
theorem tw16 : kW ((tWs[16]?).getD (0, 0, 0, 0)).1 = some (.code tY16.1 tY16.2.1 tM16.2.1 tY16.2.2) := rfl
theorem tk16 : eMok tCl lw_g tNs tMs tYs tM16 tY16 := kM_ok (q := (tWs[16]?).getD (0, 0, 0, 0)) (show ∀ ch ∈ tC16, _ from List.forall_mem_cons.mpr ⟨tc16_0, fun _ h => absurd h List.not_mem_nil⟩) tw16 tm16
theorem tc17_0 : tC17_0.all (kEn tY17.1 tY17.2.1) = true := by decide +kernel
theorem tc17_1 : tC17_1.all (kEn tY17.1 tY17.2.1) = true := by decide +kernel
theorem tc17_2 : tC17_2.all (kEn tY17.1 tY17.2.1) = true := by decide +kernel
theorem tm17 : kM tM17 tY17 ((tWs[17]?).getD (0, 0, 0, 0)) = true := by decide +kernel
set_option maxRecDepth 20000 in
theorem tw17 : kW ((tWs[17]?).getD (0, 0, 0, 0)).1 = some (.code tY17.1 tY17.2.1 tM17.2.1 tY17.2.2) := rfl
theorem tk17 : eMok tCl lw_g tNs tMs tYs tM17 tY17 := kM_ok (q := (tWs[17]?).getD (0, 0, 0, 0)) (show ∀ ch ∈ tC17, _ from List.forall_mem_cons.mpr ⟨tc17_0, List.forall_mem_cons.mpr ⟨tc17_1, List.forall_mem_cons.mpr ⟨tc17_2, fun _ h => absurd h List.not_mem_nil⟩⟩⟩) tw17 tm17
theorem tc18_0 : tC18_0.all (kEn tY18.1 tY18.2.1) = true := by decide +kernel
theorem tc18_1 : tC18_1.all (kEn tY18.1 tY18.2.1) = true := by decide +kernel
theorem tc18_2 : tC18_2.all (kEn tY18.1 tY18.2.1) = true := by decide +kernel
theorem tc18_3 : tC18_3.all (kEn tY18.1 tY18.2.1) = true := by decide +kernel
theorem tc18_4 : tC18_4.all (kEn tY18.1 tY18.2.1) = true := by decide +kernel
theorem tc18_5 : tC18_5.all (kEn tY18.1 tY18.2.1) = true := by decide +kernel
theorem tc18_6 : tC18_6.all (kEn tY18.1 tY18.2.1) = true := by decide +kernel
theorem tc18_7 : tC18_7.all (kEn tY18.1 tY18.2.1) = true := by decide +kernel
theorem tm18 : kM tM18 tY18 ((tWs[18]?).getD (0, 0, 0, 0)) = true := by decide +kernel
set_option maxRecDepth 20000 in
theorem tw18 : kW ((tWs[18]?).getD (0, 0, 0, 0)).1 = some (.code tY18.1 tY18.2.1 tM18.2.1 tY18.2.2) := rfl
theorem tk18 : eMok tCl lw_g tNs tMs tYs tM18 tY18 := kM_ok (q := (tWs[18]?).getD (0, 0, 0, 0)) (show ∀ ch ∈ tC18, _ from List.forall_mem_cons.mpr ⟨tc18_0, List.forall_mem_cons.mpr ⟨tc18_1, List.forall_mem_cons.mpr ⟨tc18_2, List.forall_mem_cons.mpr ⟨tc18_3, List.forall_mem_cons.mpr ⟨tc18_4, List.forall_mem_cons.mpr ⟨tc18_5, List.forall_mem_cons.mpr ⟨tc18_6, List.forall_mem_cons.mpr ⟨tc18_7, fun _ h => absurd h List.not_mem_nil⟩⟩⟩⟩⟩⟩⟩⟩) tw18 tm18
theorem tc19_0 : tC19_0.all (kEn tY19.1 tY19.2.1) = true := by decide +kernel
theorem tm19 : kM tM19 tY19 ((tWs[19]?).getD (0, 0, 0, 0)) = true := by decide +kernel
set_option maxRecDepth 20000 in
theorem tw19 : kW ((tWs[19]?).getD (0, 0, 0, 0)).1 = some (.code tY19.1 tY19.2.1 tM19.2.1 tY19.2.2) := rfl
theorem tk19 : eMok tCl lw_g tNs tMs tYs tM19 tY19 := kM_ok (q := (tWs[19]?).getD (0, 0, 0, 0)) (show ∀ ch ∈ tC19, _ from List.forall_mem_cons.mpr ⟨tc19_0, fun _ h => absurd h List.not_mem_nil⟩) tw19 tm19
theorem tc20_0 : tC20_0.all (kEn tY20.1 tY20.2.1) = true := by decide +kernel
theorem tm20 : kM tM20 tY20 ((tWs[20]?).getD (0, 0, 0, 0)) = true := by decide +kernel
set_option maxRecDepth 20000 in
theorem tw20 : kW ((tWs[20]?).getD (0, 0, 0, 0)).1 = some (.code tY20.1 tY20.2.1 tM20.2.1 tY20.2.2) := rfl
theorem tk20 : eMok tCl lw_g tNs tMs tYs tM20 tY20 := kM_ok (q := (tWs[20]?).getD (0, 0, 0, 0)) (show ∀ ch ∈ tC20, _ from List.forall_mem_cons.mpr ⟨tc20_0, fun _ h => absurd h List.not_mem_nil⟩) tw20 tm20
theorem tc21_0 : tC21_0.all (kEn tY21.1 tY21.2.1) = true := by decide +kernel
theorem tc21_1 : tC21_1.all (kEn tY21.1 tY21.2.1) = true := by decide +kernel
theorem tc21_2 : tC21_2.all (kEn tY21.1 tY21.2.1) = true := by decide +kernel
theorem tc21_3 : tC21_3.all (kEn tY21.1 tY21.2.1) = true := by decide +kernel
theorem tc21_4 : tC21_4.all (kEn tY21.1 tY21.2.1) = true := by decide +kernel
theorem tc21_5 : tC21_5.all (kEn tY21.1 tY21.2.1) = true := by decide +kernel
theorem tc21_6 : tC21_6.all (kEn tY21.1 tY21.2.1) = true := by decide +kernel
theorem tc21_7 : tC21_7.all (kEn tY21.1 tY21.2.1) = true := by decide +kernel
theorem tc21_8 : tC21_8.all (kEn tY21.1 tY21.2.1) = true := by decide +kernel
theorem tc21_9 : tC21_9.all (kEn tY21.1 tY21.2.1) = true := by decide +kernel
theorem tc21_10 : tC21_10.all (kEn tY21.1 tY21.2.1) = true := by decide +kernel
theorem tc21_11 : tC21_11.all (kEn tY21.1 tY21.2.1) = true := by decide +kernel
theorem tm21 : kM tM21 tY21 ((tWs[21]?).getD (0, 0, 0, 0)) = true := by decide +kernel
set_option maxRecDepth 20000 in
theorem tw21 : kW ((tWs[21]?).getD (0, 0, 0, 0)).1 = some (.code tY21.1 tY21.2.1 tM21.2.1 tY21.2.2) := rfl
theorem tk21 : eMok tCl lw_g tNs tMs tYs tM21 tY21 := kM_ok (q := (tWs[21]?).getD (0, 0, 0, 0)) (show ∀ ch ∈ tC21, _ from List.forall_mem_cons.mpr ⟨tc21_0, List.forall_mem_cons.mpr ⟨tc21_1, List.forall_mem_cons.mpr ⟨tc21_2, List.forall_mem_cons.mpr ⟨tc21_3, List.forall_mem_cons.mpr ⟨tc21_4, List.forall_mem_cons.mpr ⟨tc21_5, List.forall_mem_cons.mpr ⟨tc21_6, List.forall_mem_cons.mpr ⟨tc21_7, List.forall_mem_cons.mpr ⟨tc21_8, List.forall_mem_cons.mpr ⟨tc21_9, List.forall_mem_cons.mpr ⟨tc21_10, List.forall_mem_cons.mpr ⟨tc21_11, fun _ h => absurd h List.not_mem_nil⟩⟩⟩⟩⟩⟩⟩⟩⟩⟩⟩⟩) tw21 tm21
theorem tc22_0 : tC22_0.all (kEn tY22.1 tY22.2.1) = true := by decide +kernel
theorem tc22_1 : tC22_1.all (kEn tY22.1 tY22.2.1) = true := by decide +kernel
theorem tm22 : kM tM22 tY22 ((tWs[22]?).getD (0, 0, 0, 0)) = true := by decide +kernel
set_option maxRecDepth 20000 in
theorem tw22 : kW ((tWs[22]?).getD (0, 0, 0, 0)).1 = some (.code tY22.1 tY22.2.1 tM22.2.1 tY22.2.2) := rfl
theorem tk22 : eMok tCl lw_g tNs tMs tYs tM22 tY22 := kM_ok (q := (tWs[22]?).getD (0, 0, 0, 0)) (show ∀ ch ∈ tC22, _ from List.forall_mem_cons.mpr ⟨tc22_0, List.forall_mem_cons.mpr ⟨tc22_1, fun _ h => absurd h List.not_mem_nil⟩⟩) tw22 tm22
theorem tc23_0 : tC23_0.all (kEn tY23.1 tY23.2.1) = true := by decide +kernel
theorem tc23_1 : tC23_1.all (kEn tY23.1 tY23.2.1) = true := by decide +kernel
theorem tm23 : kM tM23 tY23 ((tWs[23]?).getD (0, 0, 0, 0)) = true := by decide +kernel
set_option maxRecDepth 20000 in
theorem tw23 : kW ((tWs[23]?).getD (0, 0, 0, 0)).1 = some (.code tY23.1 tY23.2.1 tM23.2.1 tY23.2.2) := rfl
theorem tk23 : eMok tCl lw_g tNs tMs tYs tM23 tY23 := kM_ok (q := (tWs[23]?).getD (0, 0, 0, 0)) (show ∀ ch ∈ tC23, _ from List.forall_mem_cons.mpr ⟨tc23_0, List.forall_mem_cons.mpr ⟨tc23_1, fun _ h => absurd h List.not_mem_nil⟩⟩) tw23 tm23
theorem tc24_0 : tC24_0.all (kEn tY24.1 tY24.2.1) = true := by decide +kernel
theorem tc24_1 : tC24_1.all (kEn tY24.1 tY24.2.1) = true := by decide +kernel
theorem tc24_2 : tC24_2.all (kEn tY24.1 tY24.2.1) = true := by decide +kernel
theorem tm24 : kM tM24 tY24 ((tWs[24]?).getD (0, 0, 0, 0)) = true := by decide +kernel
set_option maxRecDepth 20000 in
theorem tw24 : kW ((tWs[24]?).getD (0, 0, 0, 0)).1 = some (.code tY24.1 tY24.2.1 tM24.2.1 tY24.2.2) := rfl
theorem tk24 : eMok tCl lw_g tNs tMs tYs tM24 tY24 := kM_ok (q := (tWs[24]?).getD (0, 0, 0, 0)) (show ∀ ch ∈ tC24, _ from List.forall_mem_cons.mpr ⟨tc24_0, List.forall_mem_cons.mpr ⟨tc24_1, List.forall_mem_cons.mpr ⟨tc24_2, fun _ h => absurd h List.not_mem_nil⟩⟩⟩) tw24 tm24
theorem tc25_0 : tC25_0.all (kEn tY25.1 tY25.2.1) = true := by decide +kernel
theorem tc25_1 : tC25_1.all (kEn tY25.1 tY25.2.1) = true := by decide +kernel
theorem tm25 : kM tM25 tY25 ((tWs[25]?).getD (0, 0, 0, 0)) = true := by decide +kernel
set_option maxRecDepth 20000 in
theorem tw25 : kW ((tWs[25]?).getD (0, 0, 0, 0)).1 = some (.code tY25.1 tY25.2.1 tM25.2.1 tY25.2.2) := rfl
theorem tk25 : eMok tCl lw_g tNs tMs tYs tM25 tY25 := kM_ok (q := (tWs[25]?).getD (0, 0, 0, 0)) (show ∀ ch ∈ tC25, _ from List.forall_mem_cons.mpr ⟨tc25_0, List.forall_mem_cons.mpr ⟨tc25_1, fun _ h => absurd h List.not_mem_nil⟩⟩) tw25 tm25
