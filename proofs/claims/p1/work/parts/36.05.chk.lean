theorem tc181_0 : tC181_0.all (kEn tY181.1 tY181.2.1) = true := by decide +kernel
theorem tm181 : kM tM181 tY181 ((tWs[181]?).getD (0, 0, 0, 0)) = true := by decide +kernel
set_option maxRecDepth 20000 in
theorem tw181 : kW ((tWs[181]?).getD (0, 0, 0, 0)).1 = some (.code tY181.1 tY181.2.1 tM181.2.1 tY181.2.2) := rfl
theorem tk181 : eMok tCl lw_g tNs tMs tYs tM181 tY181 := kM_ok (q := (tWs[181]?).getD (0, 0, 0, 0)) (show ∀ ch ∈ tC181, _ from List.forall_mem_cons.mpr ⟨tc181_0, fun _ h => absurd h List.not_mem_nil⟩) tw181 tm181
