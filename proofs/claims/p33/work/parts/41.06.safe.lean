theorem s_X11_count_0 {g : gM} {x1 : Int32} {m : dM} {Q : Int32 → dM → Prop} (hG : Gd g) (hI : Inv g m) (hQ : ∀ (r : Int32) (m' : dM), Inv g m' → Q r m') : c_X11_count_0 5 x1 m Q := by
  refine v_X11_count_0 ?_
  refine ⟨fun hc1 => ?_, fun hc1 => ?_, fun hc1 => ?_, fun hc1 => ?_, fun hc1 => ?_, fun hc1 => ?_, fun hc1 => ?_, fun hc1 => ?_, fun hc1 => ?_, fun hc1 => ?_, fun hc1 => ?_, fun hc1 => ?_, fun hc1 => ?_, fun hc1 => ?_, fun hc1 => ?_, fun hc1 => ?_, fun hc1 => ?_⟩
  · skip
    have f2 := congrArg Int32.toInt (hI.2 2 0 rfl)
    have f3 := Inv.s hG hI (k := 2) (j := 0) rfl rfl
    exact hQ _ _ hI
  · skip
    have f2 := congrArg Int32.toInt (hI.2 2 1 rfl)
    have f3 := Inv.s hG hI (k := 2) (j := 1) rfl rfl
    exact hQ _ _ hI
  · skip
    have f2 := congrArg Int32.toInt (hI.2 2 2 rfl)
    have f3 := Inv.s hG hI (k := 2) (j := 2) rfl rfl
    exact hQ _ _ hI
  · skip
    exact hQ _ _ hI
  · skip
    exact hQ _ _ hI
  · skip
    exact hQ _ _ hI
  · skip
    exact hQ _ _ hI
  · skip
    refine Wp.deep (s_X3_litWithout_2 hG hI (fun R2 => ?_)) (Nat.le_of_ble_eq_true rfl)
    exact hQ _ _ hI
  · skip
    refine Wp.deep (s_X0_usesNow_54_47 hG hI (fun R2 M2 I2 => ?_)) (Nat.le_of_ble_eq_true rfl)
    exact hQ _ _ I2
  · skip
    have f2 := congrArg Int32.toInt (hI.2 0 1 rfl)
    have f3 := Inv.s hG hI (k := 0) (j := 1) rfl rfl
    exact hQ _ _ hI
  · skip
    exact hQ _ _ hI
  · skip
    have f2 := congrArg Int32.toInt (hI.2 67 3 rfl)
    have f3 := Inv.s hG hI (k := 67) (j := 3) rfl rfl
    exact hQ _ _ hI
  · skip
    have f2 := congrArg Int32.toInt (hI.2 51 4 rfl)
    refine Wp.deep (s_J6_bitCount hG hI (fun R3 hr3 => ?_)) (Nat.le_of_ble_eq_true rfl)
    exact hQ _ _ hI
  · skip
    have f2 := congrArg Int32.toInt (hI.2 2 6 rfl)
    refine Wp.deep (s_X0_isSurge_54 hG hI (fun R3 hr3 => ?_)) (Nat.le_of_ble_eq_true rfl)
    refine ⟨fun hc4 => ?_, fun hc4 => ?_⟩
    · skip
      have f5 := ti_0
      exact hQ _ _ hI
    · skip
      have f5 := ti_1
      exact hQ _ _ hI
  · skip
    exact hQ _ _ hI
  · skip
    refine Wp.deep (s_X11_wholeRatings_0 hG hI (fun R2 => ?_)) (Nat.le_of_ble_eq_true rfl)
    exact hQ _ _ hI
  · skip
    have f2 := ti_m1
    exact hQ _ _ hI
