/-! HOLD, exactly: both answer true where the slot is 0 to 2 -/
theorem h_X11_hold {x1 : Int32} {m : dM} {Q : Int32 → dM → Prop} (hO : Ok m) (hQ : ∀ (r : Int32) (m' : dM), Inv m.1 m' → ((0 ≤ x1.toInt ∧ x1.toInt ≤ 2) ∧ r = 1 ∨ ¬ (0 ≤ x1.toInt ∧ x1.toInt ≤ 2) ∧ r = 0) → Q r m') : c_X11_hold_0 3 x1 m Q := by
  refine v_X11_hold_0 ?_
  refine v_X6_store_51_47 ⟨fun hc => v_X6_store_51_47_9 ⟨Or.inl rfl, hQ _ _ hO.2 (Or.inr ⟨by omega, rfl⟩)⟩, fun hc => ⟨fun hc2 => ?_, fun hc2 => v_X6_store_51_47_9 ⟨Or.inl rfl, hQ _ _ hO.2 (Or.inr ⟨by omega, rfl⟩)⟩⟩⟩
  have f3 := dMulE (X := x1.toInt) (Y := 33) (x := x1) (y := (33 : Int32)) rfl (by decide) (by omega) (by omega)
  refine Wp.deep (s_X7_writeTo_47_53 hO.1 hO.2 (by omega) (fun M4 I4 => ?_)) (Nat.le_of_ble_eq_true rfl)
  exact ⟨Or.inr rfl, hQ _ _ (Inv.setA I4 rfl) (Or.inl ⟨by omega, rfl⟩)⟩
theorem h_X12_hold_20 {g : gM} {x1 : Int32} {Q : Int32 → dM → Prop} (hx : 0 ≤ x1.toInt ∧ x1.toInt ≤ 2) (hQ : ∀ m' : dM, Inv g m' → Q 1 m') : ∀ (n : Nat) (x2 : Int32) (m : dM), Inv g m → 0 ≤ x2.toInt ∧ x2.toInt ≤ 58 → 58 - x2.toInt < n → j_X12_hold_70_20 2 x1 x2 m Q := by
  intro n
  induction n with
  | zero => intro x2 m hI h2 hμ; exfalso; omega
  | succ n ih =>
    intro x2 m hI h2 hμ
    refine v_X12_hold_70_20 ⟨fun _ => hQ _ hI, fun hc => ⟨by omega, ?_⟩⟩
    have f2 := dMulE (X := 58) (Y := x1.toInt) (x := (58 : Int32)) (y := x1) (by decide) rfl (by omega) (by omega)
    have f3 := dAddE (X := ((58 : Int32) * x1).toInt) (Y := x2.toInt) (x := ((58 : Int32) * x1)) (y := x2) rfl rfl (by omega) (by omega)
    have f4 := dAddE (X := x2.toInt) (Y := 1) (x := x2) (y := (1 : Int32)) rfl (by decide) (by omega) (by omega)
    exact ⟨by omega, ih _ _ (Inv.setA hI rfl) (by omega) (by omega)⟩
theorem h_X12_hold {x1 : Int32} {m : dM} {Q : Int32 → dM → Prop} (hO : Ok m) (hQ : ∀ (r : Int32) (m' : dM), Inv m.1 m' → ((0 ≤ x1.toInt ∧ x1.toInt ≤ 2) ∧ r = 1 ∨ ¬ (0 ≤ x1.toInt ∧ x1.toInt ≤ 2) ∧ r = 0) → Q r m') : c_X12_hold_70 2 x1 m Q := by
  have f0 := ti_0
  have f2 := ti_2
  have f1 := ti_1
  refine v_X12_hold_70 (v_X12_in ⟨fun hc => v_X12_in_14 ⟨fun q => absurd f0 q, fun _ => hQ _ _ hO.2 (Or.inr ⟨by omega, rfl⟩)⟩, fun hc => ⟨fun hc2 => v_X12_in_14 ⟨fun q => absurd f0 q, fun _ => hQ _ _ hO.2 (Or.inr ⟨by omega, rfl⟩)⟩, fun hc2 => ⟨fun _ => ⟨by omega, ?_⟩, fun q => by exfalso; omega⟩⟩⟩)
  exact h_X12_hold_20 (g := m.1) (by omega) (fun m' I' => hQ _ _ I' (Or.inl ⟨by omega, rfl⟩)) 60 _ _ (Inv.setA hO.2 rfl) (by decide) (by decide)
