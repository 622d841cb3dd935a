theorem tc0_0 : tC0_0.all (kEn tY0.1 tY0.2.1) = true := by decide +kernel
theorem tc0_1 : tC0_1.all (kEn tY0.1 tY0.2.1) = true := by decide +kernel
theorem tc0_2 : tC0_2.all (kEn tY0.1 tY0.2.1) = true := by decide +kernel
theorem tc0_3 : tC0_3.all (kEn tY0.1 tY0.2.1) = true := by decide +kernel
theorem tc0_4 : tC0_4.all (kEn tY0.1 tY0.2.1) = true := by decide +kernel
theorem tc0_5 : tC0_5.all (kEn tY0.1 tY0.2.1) = true := by decide +kernel
theorem tc0_6 : tC0_6.all (kEn tY0.1 tY0.2.1) = true := by decide +kernel
theorem tc0_7 : tC0_7.all (kEn tY0.1 tY0.2.1) = true := by decide +kernel
theorem tc0_8 : tC0_8.all (kEn tY0.1 tY0.2.1) = true := by decide +kernel
theorem tc0_9 : tC0_9.all (kEn tY0.1 tY0.2.1) = true := by decide +kernel
theorem tc0_10 : tC0_10.all (kEn tY0.1 tY0.2.1) = true := by decide +kernel
theorem tc0_11 : tC0_11.all (kEn tY0.1 tY0.2.1) = true := by decide +kernel
theorem tc0_12 : tC0_12.all (kEn tY0.1 tY0.2.1) = true := by decide +kernel
theorem tc0_13 : tC0_13.all (kEn tY0.1 tY0.2.1) = true := by decide +kernel
theorem tc0_14 : tC0_14.all (kEn tY0.1 tY0.2.1) = true := by decide +kernel
theorem tc0_15 : tC0_15.all (kEn tY0.1 tY0.2.1) = true := by decide +kernel
theorem tc0_16 : tC0_16.all (kEn tY0.1 tY0.2.1) = true := by decide +kernel
theorem tc0_17 : tC0_17.all (kEn tY0.1 tY0.2.1) = true := by decide +kernel
theorem tc0_18 : tC0_18.all (kEn tY0.1 tY0.2.1) = true := by decide +kernel
theorem tc0_19 : tC0_19.all (kEn tY0.1 tY0.2.1) = true := by decide +kernel
theorem tc0_20 : tC0_20.all (kEn tY0.1 tY0.2.1) = true := by decide +kernel
theorem tc0_21 : tC0_21.all (kEn tY0.1 tY0.2.1) = true := by decide +kernel
theorem tc0_22 : tC0_22.all (kEn tY0.1 tY0.2.1) = true := by decide +kernel
theorem tc0_23 : tC0_23.all (kEn tY0.1 tY0.2.1) = true := by decide +kernel
theorem tc0_24 : tC0_24.all (kEn tY0.1 tY0.2.1) = true := by decide +kernel
theorem tc0_25 : tC0_25.all (kEn tY0.1 tY0.2.1) = true := by decide +kernel
theorem tc0_26 : tC0_26.all (kEn tY0.1 tY0.2.1) = true := by decide +kernel
theorem tm0 : kM tM0 tY0 ((tWs[0]?).getD (0, 0, 0, 0)) = true := by decide +kernel
set_option maxRecDepth 20000 in
theorem tw0 : kW ((tWs[0]?).getD (0, 0, 0, 0)).1 = some (.code tY0.1 tY0.2.1 tM0.2.1 tY0.2.2) := rfl
theorem tk0 : eMok tCl lw_g tNs tMs tYs tM0 tY0 := kM_ok (q := (tWs[0]?).getD (0, 0, 0, 0)) (show ∀ ch ∈ tC0, _ from List.forall_mem_cons.mpr ⟨tc0_0, List.forall_mem_cons.mpr ⟨tc0_1, List.forall_mem_cons.mpr ⟨tc0_2, List.forall_mem_cons.mpr ⟨tc0_3, List.forall_mem_cons.mpr ⟨tc0_4, List.forall_mem_cons.mpr ⟨tc0_5, List.forall_mem_cons.mpr ⟨tc0_6, List.forall_mem_cons.mpr ⟨tc0_7, List.forall_mem_cons.mpr ⟨tc0_8, List.forall_mem_cons.mpr ⟨tc0_9, List.forall_mem_cons.mpr ⟨tc0_10, List.forall_mem_cons.mpr ⟨tc0_11, List.forall_mem_cons.mpr ⟨tc0_12, List.forall_mem_cons.mpr ⟨tc0_13, List.forall_mem_cons.mpr ⟨tc0_14, List.forall_mem_cons.mpr ⟨tc0_15, List.forall_mem_cons.mpr ⟨tc0_16, List.forall_mem_cons.mpr ⟨tc0_17, List.forall_mem_cons.mpr ⟨tc0_18, List.forall_mem_cons.mpr ⟨tc0_19, List.forall_mem_cons.mpr ⟨tc0_20, List.forall_mem_cons.mpr ⟨tc0_21, List.forall_mem_cons.mpr ⟨tc0_22, List.forall_mem_cons.mpr ⟨tc0_23, List.forall_mem_cons.mpr ⟨tc0_24, List.forall_mem_cons.mpr ⟨tc0_25, List.forall_mem_cons.mpr ⟨tc0_26, fun _ h => absurd h List.not_mem_nil⟩⟩⟩⟩⟩⟩⟩⟩⟩⟩⟩⟩⟩⟩⟩⟩⟩⟩⟩⟩⟩⟩⟩⟩⟩⟩⟩) tw0 tm0
