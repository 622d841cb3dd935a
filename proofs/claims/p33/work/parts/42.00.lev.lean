theorem s_X1_cutBy_2_L0 {g : gM} {x1 : Int32} {x2 : Int32} {x3 : Int32} {x4 : Int32} {m : dM} {Q : Int32 → dM → Prop} (hG : Gd g) (hI : Inv g m) (h1 : 0 ≤ x1.toInt ∧ x1.toInt ≤ 6) (h3 : 0 ≤ x3.toInt ∧ x3.toInt ≤ 11) (h4 : 0 ≤ x4.toInt ∧ x4.toInt ≤ 0) (hQ : ∀ r : Int32, Q r m) : c_X1_cutBy_2 12 x1 x2 x3 x4 m Q := by
  refine v_X1_cutBy_2 ?_
  refine ⟨fun hc1 => ?_, fun hc1 => ?_⟩
  · skip
    exfalso; omega
  · skip
    refine Wp.deep (s_X3_litWithout_2 hG hI (fun R2 => ?_)) (Nat.le_of_ble_eq_true rfl)
    refine v_X11_has ?_
    have f3 := ti_1
    have f4 := dAndE (x := (R2.toUInt32 >>> (x1.toUInt32 &&& Int32.toUInt32 31)).toInt32) (y := (1 : Int32)) (by decide)
    refine ⟨fun hc5 => ?_, fun hc5 => ?_⟩
    · skip
      have f6 := ti_0
      refine ⟨fun hc7 => ?_, fun hc7 => ?_⟩
      · skip
        exact hQ _
      · skip
        exfalso; omega
    · skip
      refine ⟨fun hc6 => ?_, fun hc6 => ?_⟩
      · skip
        exfalso; omega
      · skip
        have f7 := ti_m1
        exact hQ _
theorem s_X1_cutBy_2_L1_all {g : gM} {Q : Int32 → dM → Prop} {m : dM} (hG : Gd g) (hI : Inv g m) (hQ : ∀ r : Int32, Q r m) : ∀ n : Nat, (∀ (x1 : Int32) (x2 : Int32) (x4 : Int32) (x5 : Int32), (0 ≤ x1.toInt ∧ x1.toInt ≤ 6) → (1 ≤ x4.toInt ∧ x4.toInt ≤ 1) → (0 ≤ x5.toInt ∧ x5.toInt ≤ 11) → 23 - 2 * x5.toInt < (n : Int) → j_X1_cutBy_2_26 13 x1 x2 x4 x5 m Q) ∧ (∀ (x1 : Int32) (x2 : Int32) (x4 : Int32) (x5 : Int32), (0 ≤ x1.toInt ∧ x1.toInt ≤ 6) → (1 ≤ x4.toInt ∧ x4.toInt ≤ 1) → (0 ≤ x5.toInt ∧ x5.toInt ≤ 9) → 22 - 2 * x5.toInt < (n : Int) → j_X1_cutBy_2_79 13 x1 x2 x4 x5 m Q) := by
  intro n
  induction n with
  | zero => exact ⟨fun x1 x2 x4 x5 h1 h4 h5 hμ => by exfalso; omega, fun x1 x2 x4 x5 h1 h4 h5 hμ => by exfalso; omega⟩
  | succ n ih =>
    refine ⟨?_, ?_⟩
    · intro x1 x2 x4 x5 h1 h4 h5 hμ
      refine v_X1_cutBy_2_26 ?_
      have f1 := congrArg Int32.toInt (hI.2 2 1 rfl)
      have f2 := Inv.s hG hI (k := 2) (j := 1) rfl rfl
      refine ⟨fun hc3 => ?_, fun hc3 => ?_⟩
      · skip
        have f4 := ti_m1
        exact hQ _
      · skip
        refine v_X11_has ?_
        have f4 := ti_1
        have f5 := dAndE (x := (x2.toUInt32 >>> (x5.toUInt32 &&& Int32.toUInt32 31)).toInt32) (y := (1 : Int32)) (by decide)
        refine ⟨fun hc6 => ?_, fun hc6 => ?_⟩
        · skip
          have f7 := ti_0
          refine ⟨fun hc8 => ?_, fun hc8 => ?_⟩
          · skip
            exfalso; omega
          · skip
            have f9 := dShl10 (x := x5) (by omega) (by omega)
            have f10 := dAddE (X := x5.toInt) (Y := 1) (x := x5) (y := (1 : Int32)) rfl (by decide) (by omega) (by omega)
            have f11 := dSubE (X := x4.toInt) (Y := 1) (x := x4) (y := (1 : Int32)) rfl (by decide) (by omega) (by omega)
            refine Wp.deep (s_X1_cutBy_2_L0 hG hI (by omega) (by omega) (by omega) (fun R12 => ?_)) (Nat.le_of_ble_eq_true rfl)
            refine ⟨fun hc13 => ?_, fun hc13 => ?_⟩
            · skip
              exact ih.2 _ _ _ _ (by omega) (by omega) (by omega) (by omega)
            · skip
              exact hQ _
        · skip
          refine ⟨fun hc7 => ?_, fun hc7 => ?_⟩
          · skip
            exact ih.2 _ _ _ _ (by omega) (by omega) (by omega) (by omega)
          · skip
            exfalso; omega
    · intro x1 x2 x4 x5 h1 h4 h5 hμ
      refine v_X1_cutBy_2_79 ?_
      have f1 := dAddE (X := x5.toInt) (Y := 1) (x := x5) (y := (1 : Int32)) rfl (by decide) (by omega) (by omega)
      exact ih.1 _ _ _ _ (by omega) (by omega) (by omega) (by omega)
theorem s_X1_cutBy_2_L1 {g : gM} {x1 : Int32} {x2 : Int32} {x3 : Int32} {x4 : Int32} {m : dM} {Q : Int32 → dM → Prop} (hG : Gd g) (hI : Inv g m) (h1 : 0 ≤ x1.toInt ∧ x1.toInt ≤ 6) (h3 : 0 ≤ x3.toInt ∧ x3.toInt ≤ 11) (h4 : 1 ≤ x4.toInt ∧ x4.toInt ≤ 1) (hQ : ∀ r : Int32, Q r m) : c_X1_cutBy_2 13 x1 x2 x3 x4 m Q := by
  refine v_X1_cutBy_2 ?_
  refine ⟨fun hc1 => ?_, fun hc1 => ?_⟩
  · skip
    exact (s_X1_cutBy_2_L1_all hG hI hQ 25).1 _ _ _ _ (by omega) (by omega) (by omega) (by omega)
  · skip
    exfalso; omega
theorem s_X1_cutBy_2_L2_all {g : gM} {Q : Int32 → dM → Prop} {m : dM} (hG : Gd g) (hI : Inv g m) (hQ : ∀ r : Int32, Q r m) : ∀ n : Nat, (∀ (x1 : Int32) (x2 : Int32) (x4 : Int32) (x5 : Int32), (0 ≤ x1.toInt ∧ x1.toInt ≤ 6) → (2 ≤ x4.toInt ∧ x4.toInt ≤ 2) → (0 ≤ x5.toInt ∧ x5.toInt ≤ 11) → 23 - 2 * x5.toInt < (n : Int) → j_X1_cutBy_2_26 14 x1 x2 x4 x5 m Q) ∧ (∀ (x1 : Int32) (x2 : Int32) (x4 : Int32) (x5 : Int32), (0 ≤ x1.toInt ∧ x1.toInt ≤ 6) → (2 ≤ x4.toInt ∧ x4.toInt ≤ 2) → (0 ≤ x5.toInt ∧ x5.toInt ≤ 9) → 22 - 2 * x5.toInt < (n : Int) → j_X1_cutBy_2_79 14 x1 x2 x4 x5 m Q) := by
  intro n
  induction n with
  | zero => exact ⟨fun x1 x2 x4 x5 h1 h4 h5 hμ => by exfalso; omega, fun x1 x2 x4 x5 h1 h4 h5 hμ => by exfalso; omega⟩
  | succ n ih =>
    refine ⟨?_, ?_⟩
    · intro x1 x2 x4 x5 h1 h4 h5 hμ
      refine v_X1_cutBy_2_26 ?_
      have f1 := congrArg Int32.toInt (hI.2 2 1 rfl)
      have f2 := Inv.s hG hI (k := 2) (j := 1) rfl rfl
      refine ⟨fun hc3 => ?_, fun hc3 => ?_⟩
      · skip
        have f4 := ti_m1
        exact hQ _
      · skip
        refine v_X11_has ?_
        have f4 := ti_1
        have f5 := dAndE (x := (x2.toUInt32 >>> (x5.toUInt32 &&& Int32.toUInt32 31)).toInt32) (y := (1 : Int32)) (by decide)
        refine ⟨fun hc6 => ?_, fun hc6 => ?_⟩
        · skip
          have f7 := ti_0
          refine ⟨fun hc8 => ?_, fun hc8 => ?_⟩
          · skip
            exfalso; omega
          · skip
            have f9 := dShl10 (x := x5) (by omega) (by omega)
            have f10 := dAddE (X := x5.toInt) (Y := 1) (x := x5) (y := (1 : Int32)) rfl (by decide) (by omega) (by omega)
            have f11 := dSubE (X := x4.toInt) (Y := 1) (x := x4) (y := (1 : Int32)) rfl (by decide) (by omega) (by omega)
            refine Wp.deep (s_X1_cutBy_2_L1 hG hI (by omega) (by omega) (by omega) (fun R12 => ?_)) (Nat.le_of_ble_eq_true rfl)
            refine ⟨fun hc13 => ?_, fun hc13 => ?_⟩
            · skip
              exact ih.2 _ _ _ _ (by omega) (by omega) (by omega) (by omega)
            · skip
              exact hQ _
        · skip
          refine ⟨fun hc7 => ?_, fun hc7 => ?_⟩
          · skip
            exact ih.2 _ _ _ _ (by omega) (by omega) (by omega) (by omega)
          · skip
            exfalso; omega
    · intro x1 x2 x4 x5 h1 h4 h5 hμ
      refine v_X1_cutBy_2_79 ?_
      have f1 := dAddE (X := x5.toInt) (Y := 1) (x := x5) (y := (1 : Int32)) rfl (by decide) (by omega) (by omega)
      exact ih.1 _ _ _ _ (by omega) (by omega) (by omega) (by omega)
theorem s_X1_cutBy_2_L2 {g : gM} {x1 : Int32} {x2 : Int32} {x3 : Int32} {x4 : Int32} {m : dM} {Q : Int32 → dM → Prop} (hG : Gd g) (hI : Inv g m) (h1 : 0 ≤ x1.toInt ∧ x1.toInt ≤ 6) (h3 : 0 ≤ x3.toInt ∧ x3.toInt ≤ 11) (h4 : 2 ≤ x4.toInt ∧ x4.toInt ≤ 2) (hQ : ∀ r : Int32, Q r m) : c_X1_cutBy_2 14 x1 x2 x3 x4 m Q := by
  refine v_X1_cutBy_2 ?_
  refine ⟨fun hc1 => ?_, fun hc1 => ?_⟩
  · skip
    exact (s_X1_cutBy_2_L2_all hG hI hQ 25).1 _ _ _ _ (by omega) (by omega) (by omega) (by omega)
  · skip
    exfalso; omega
theorem s_X1_cutBy_2_L3_all {g : gM} {Q : Int32 → dM → Prop} {m : dM} (hG : Gd g) (hI : Inv g m) (hQ : ∀ r : Int32, Q r m) : ∀ n : Nat, (∀ (x1 : Int32) (x2 : Int32) (x4 : Int32) (x5 : Int32), (0 ≤ x1.toInt ∧ x1.toInt ≤ 6) → (3 ≤ x4.toInt ∧ x4.toInt ≤ 3) → (0 ≤ x5.toInt ∧ x5.toInt ≤ 11) → 23 - 2 * x5.toInt < (n : Int) → j_X1_cutBy_2_26 15 x1 x2 x4 x5 m Q) ∧ (∀ (x1 : Int32) (x2 : Int32) (x4 : Int32) (x5 : Int32), (0 ≤ x1.toInt ∧ x1.toInt ≤ 6) → (3 ≤ x4.toInt ∧ x4.toInt ≤ 3) → (0 ≤ x5.toInt ∧ x5.toInt ≤ 9) → 22 - 2 * x5.toInt < (n : Int) → j_X1_cutBy_2_79 15 x1 x2 x4 x5 m Q) := by
  intro n
  induction n with
  | zero => exact ⟨fun x1 x2 x4 x5 h1 h4 h5 hμ => by exfalso; omega, fun x1 x2 x4 x5 h1 h4 h5 hμ => by exfalso; omega⟩
  | succ n ih =>
    refine ⟨?_, ?_⟩
    · intro x1 x2 x4 x5 h1 h4 h5 hμ
      refine v_X1_cutBy_2_26 ?_
      have f1 := congrArg Int32.toInt (hI.2 2 1 rfl)
      have f2 := Inv.s hG hI (k := 2) (j := 1) rfl rfl
      refine ⟨fun hc3 => ?_, fun hc3 => ?_⟩
      · skip
        have f4 := ti_m1
        exact hQ _
      · skip
        refine v_X11_has ?_
        have f4 := ti_1
        have f5 := dAndE (x := (x2.toUInt32 >>> (x5.toUInt32 &&& Int32.toUInt32 31)).toInt32) (y := (1 : Int32)) (by decide)
        refine ⟨fun hc6 => ?_, fun hc6 => ?_⟩
        · skip
          have f7 := ti_0
          refine ⟨fun hc8 => ?_, fun hc8 => ?_⟩
          · skip
            exfalso; omega
          · skip
            have f9 := dShl10 (x := x5) (by omega) (by omega)
            have f10 := dAddE (X := x5.toInt) (Y := 1) (x := x5) (y := (1 : Int32)) rfl (by decide) (by omega) (by omega)
            have f11 := dSubE (X := x4.toInt) (Y := 1) (x := x4) (y := (1 : Int32)) rfl (by decide) (by omega) (by omega)
            refine Wp.deep (s_X1_cutBy_2_L2 hG hI (by omega) (by omega) (by omega) (fun R12 => ?_)) (Nat.le_of_ble_eq_true rfl)
            refine ⟨fun hc13 => ?_, fun hc13 => ?_⟩
            · skip
              exact ih.2 _ _ _ _ (by omega) (by omega) (by omega) (by omega)
            · skip
              exact hQ _
        · skip
          refine ⟨fun hc7 => ?_, fun hc7 => ?_⟩
          · skip
            exact ih.2 _ _ _ _ (by omega) (by omega) (by omega) (by omega)
          · skip
            exfalso; omega
    · intro x1 x2 x4 x5 h1 h4 h5 hμ
      refine v_X1_cutBy_2_79 ?_
      have f1 := dAddE (X := x5.toInt) (Y := 1) (x := x5) (y := (1 : Int32)) rfl (by decide) (by omega) (by omega)
      exact ih.1 _ _ _ _ (by omega) (by omega) (by omega) (by omega)
theorem s_X1_cutBy_2_L3 {g : gM} {x1 : Int32} {x2 : Int32} {x3 : Int32} {x4 : Int32} {m : dM} {Q : Int32 → dM → Prop} (hG : Gd g) (hI : Inv g m) (h1 : 0 ≤ x1.toInt ∧ x1.toInt ≤ 6) (h3 : 0 ≤ x3.toInt ∧ x3.toInt ≤ 11) (h4 : 3 ≤ x4.toInt ∧ x4.toInt ≤ 3) (hQ : ∀ r : Int32, Q r m) : c_X1_cutBy_2 15 x1 x2 x3 x4 m Q := by
  refine v_X1_cutBy_2 ?_
  refine ⟨fun hc1 => ?_, fun hc1 => ?_⟩
  · skip
    exact (s_X1_cutBy_2_L3_all hG hI hQ 25).1 _ _ _ _ (by omega) (by omega) (by omega) (by omega)
  · skip
    exfalso; omega
theorem s_X2_unit_43_L6 {g : gM} {x1 : Int32} {m : dM} {Q : Int32 → dM → Prop} (hG : Gd g) (hI : Inv g m) (h1 : 6 ≤ x1.toInt ∧ x1.toInt ≤ 6) (hQ : ∀ (r : Int32) (m' : dM), Inv g m' → (0 ≤ r.toInt ∧ r.toInt ≤ 1) → Q r m') : c_X2_unit_43 6 x1 m Q := by
  refine v_X2_unit_43 ?_
  refine v_X2_kind_43 ?_
  refine ⟨fun hc1 => ?_, fun hc1 => ?_⟩
  · skip
    refine v_X2_kind_43_32 ?_
    have f2 := ti_24
    refine ⟨fun hc3 => ?_, fun hc3 => ?_⟩
    · skip
      refine ⟨fun hc4 => ?_, fun hc4 => ?_⟩
      · skip
        exfalso; omega
      · skip
        refine ⟨fun hc5 => ?_, fun hc5 => ?_⟩
        · skip
          refine v_X2_unit_43_67 ?_
          refine ⟨fun hc6 => ?_, fun hc6 => ?_⟩
          · skip
            exfalso; omega
          · skip
            have f7 := ti_1
            refine Wp.deep (s_X2_fail_43 hG hI (fun R8 M8 I8 hr8 => ?_)) (Nat.le_of_ble_eq_true rfl)
            refine ⟨dB01 (by omega), ?_⟩
            exact hQ _ _ I8 (by omega)
        · skip
          exfalso; omega
    · skip
      exfalso; omega
  · skip
    refine ⟨fun hc2 => ?_, fun hc2 => ?_⟩
    · skip
      refine v_X2_kind_43_32 ?_
      have f3 := ti_24
      refine ⟨fun hc4 => ?_, fun hc4 => ?_⟩
      · skip
        refine ⟨fun hc5 => ?_, fun hc5 => ?_⟩
        · skip
          exfalso; omega
        · skip
          refine ⟨fun hc6 => ?_, fun hc6 => ?_⟩
          · skip
            refine v_X2_unit_43_67 ?_
            refine ⟨fun hc7 => ?_, fun hc7 => ?_⟩
            · skip
              exfalso; omega
            · skip
              have f8 := ti_1
              refine Wp.deep (s_X2_fail_43 hG hI (fun R9 M9 I9 hr9 => ?_)) (Nat.le_of_ble_eq_true rfl)
              refine ⟨dB01 (by omega), ?_⟩
              exact hQ _ _ I9 (by omega)
          · skip
            exfalso; omega
      · skip
        exfalso; omega
    · skip
      refine ⟨by omega, ?_⟩
      refine ⟨fun hc3 => ?_, fun hc3 => ?_⟩
      · skip
        refine ⟨fun hc4 => ?_, fun hc4 => ?_⟩
        · skip
          refine v_X2_unit_43_67 ?_
          refine ⟨fun hc5 => ?_, fun hc5 => ?_⟩
          · skip
            exfalso; omega
          · skip
            have f6 := ti_1
            refine Wp.deep (s_X2_fail_43 hG hI (fun R7 M7 I7 hr7 => ?_)) (Nat.le_of_ble_eq_true rfl)
            refine ⟨dB01 (by omega), ?_⟩
            exact hQ _ _ I7 (by omega)
        · skip
          refine ⟨fun hc5 => ?_, fun hc5 => ?_⟩
          · skip
            refine v_X2_unit_43_67 ?_
            refine ⟨fun hc6 => ?_, fun hc6 => ?_⟩
            · skip
              refine ⟨fun hc7 => ?_, fun hc7 => ?_⟩
              · skip
                exfalso; omega
              · skip
                have f8 := ti_2
                refine Wp.deep (s_X2_fail_43 hG hI (fun R9 M9 I9 hr9 => ?_)) (Nat.le_of_ble_eq_true rfl)
                refine ⟨dB01 (by omega), ?_⟩
                exact hQ _ _ I9 (by omega)
            · skip
              have f7 := ti_1
              refine Wp.deep (s_X2_fail_43 hG hI (fun R8 M8 I8 hr8 => ?_)) (Nat.le_of_ble_eq_true rfl)
              refine ⟨dB01 (by omega), ?_⟩
              exact hQ _ _ I8 (by omega)
          · skip
            have f6 := dAddE (X := 4) (Y := (m.1 39 (m.1 43 2).toNatClampNeg).toInt) (x := (4 : Int32)) (y := (m.1 39 (m.1 43 2).toNatClampNeg)) (by decide) rfl (by omega) (by omega)
            have f7 := dSubE (X := ((4 : Int32) + (m.1 39 (m.1 43 2).toNatClampNeg)).toInt) (Y := 13) (x := ((4 : Int32) + (m.1 39 (m.1 43 2).toNatClampNeg))) (y := (13 : Int32)) rfl (by decide) (by omega) (by omega)
            refine Wp.deep (s_X4_put_29 hG hI (fun M8 I8 => ?_)) (Nat.le_of_ble_eq_true rfl)
            refine Wp.deep (s_X2_step_43 hG I8 (fun R9 M9 I9 hr9 => ?_)) (Nat.le_of_ble_eq_true rfl)
            refine ⟨dB01 (by omega), ?_⟩
            exact hQ _ _ I9 (by omega)
      · skip
        refine Wp.deep (s_X8_numberAt_38 hG hI (fun R4 => ?_)) (Nat.le_of_ble_eq_true rfl)
        refine Wp.deep (s_X4_put_29 hG hI (fun M5 I5 => ?_)) (Nat.le_of_ble_eq_true rfl)
        refine Wp.deep (s_X2_step_43 hG I5 (fun R6 M6 I6 hr6 => ?_)) (Nat.le_of_ble_eq_true rfl)
        refine ⟨dB01 (by omega), ?_⟩
        exact hQ _ _ I6 (by omega)
theorem s_X2_product_43_L6_all {g : gM} {Q : Int32 → dM → Prop} (hG : Gd g) (hQ : ∀ (r : Int32) (m' : dM), Inv g m' → (0 ≤ r.toInt ∧ r.toInt ≤ 1) → Q r m') : ∀ n : Nat, (∀ (x1 : Int32) (x2 : Int32) (m : dM), Inv g m → (6 ≤ x1.toInt ∧ x1.toInt ≤ 6) → (0 ≤ x2.toInt ∧ x2.toInt ≤ 401) → 805 - 2 * x2.toInt < (n : Int) → j_X2_product_43_12 7 x1 x2 m Q) ∧ (∀ (x1 : Int32) (x2 : Int32) (m : dM), Inv g m → (6 ≤ x1.toInt ∧ x1.toInt ≤ 6) → (0 ≤ x2.toInt ∧ x2.toInt ≤ 400) → 804 - 2 * x2.toInt < (n : Int) → j_X2_product_43_37 7 x1 x2 m Q) ∧ (∀ (m : dM), Inv g m → 1 < (n : Int) → j_X2_product_43_67 7 m Q) ∧ (∀ (m : dM), Inv g m → 0 < (n : Int) → j_X2_product_43_83 7 m Q) := by
  intro n
  induction n with
  | zero => exact ⟨fun x1 x2 m hI h1 h2 hμ => by exfalso; omega, fun x1 x2 m hI h1 h2 hμ => by exfalso; omega, fun m hI hμ => by exfalso; omega, fun m hI hμ => by exfalso; omega⟩
  | succ n ih =>
    refine ⟨?_, ?_, ?_, ?_⟩
    · intro x1 x2 m hI h1 h2 hμ
      refine v_X2_product_43_12 ?_
      refine ⟨fun hc1 => ?_, fun hc1 => ?_⟩
      · skip
        exact ih.2.2.2 _ hI (by omega)
      · skip
        refine v_X2_kind_43 ?_
        refine ⟨fun hc2 => ?_, fun hc2 => ?_⟩
        · skip
          refine v_X2_kind_43_32 ?_
          have f3 := ti_24
          refine ⟨fun hc4 => ?_, fun hc4 => ?_⟩
          · skip
            exfalso; omega
          · skip
            refine v_X2_kind_43 ?_
            refine ⟨fun hc5 => ?_, fun hc5 => ?_⟩
            · skip
              refine v_X2_kind_43_32 ?_
              refine ⟨fun hc6 => ?_, fun hc6 => ?_⟩
              · skip
                exact ih.2.2.2 _ hI (by omega)
              · skip
                exfalso; omega
            · skip
              exfalso; omega
        · skip
          refine ⟨fun hc3 => ?_, fun hc3 => ?_⟩
          · skip
            refine v_X2_kind_43_32 ?_
            have f4 := ti_24
            refine ⟨fun hc5 => ?_, fun hc5 => ?_⟩
            · skip
              exfalso; omega
            · skip
              refine v_X2_kind_43 ?_
              refine ⟨fun hc6 => ?_, fun hc6 => ?_⟩
              · skip
                exfalso; omega
              · skip
                refine ⟨fun hc7 => ?_, fun hc7 => ?_⟩
                · skip
                  refine v_X2_kind_43_32 ?_
                  refine ⟨fun hc8 => ?_, fun hc8 => ?_⟩
                  · skip
                    exact ih.2.2.2 _ hI (by omega)
                  · skip
                    exfalso; omega
                · skip
                  exfalso; omega
          · skip
            refine ⟨by omega, ?_⟩
            refine ⟨fun hc4 => ?_, fun hc4 => ?_⟩
            · skip
              exact ih.2.1 _ _ _ hI (by omega) (by omega) (by omega)
            · skip
              refine v_X2_kind_43 ?_
              refine ⟨fun hc5 => ?_, fun hc5 => ?_⟩
              · skip
                exfalso; omega
              · skip
                refine ⟨fun hc6 => ?_, fun hc6 => ?_⟩
                · skip
                  exfalso; omega
                · skip
                  refine ⟨by omega, ?_⟩
                  refine ⟨fun hc7 => ?_, fun hc7 => ?_⟩
                  · skip
                    exact ih.2.2.2 _ hI (by omega)
                  · skip
                    exact ih.2.1 _ _ _ hI (by omega) (by omega) (by omega)
    · intro x1 x2 m hI h1 h2 hμ
      refine v_X2_product_43_37 ?_
      refine v_X2_kind_43 ?_
      refine ⟨fun hc1 => ?_, fun hc1 => ?_⟩
      · skip
        refine v_X2_kind_43_32 ?_
        have f2 := ti_24
        refine ⟨fun hc3 => ?_, fun hc3 => ?_⟩
        · skip
          refine Wp.deep (s_X2_step_43 hG hI (fun R4 M4 I4 hr4 => ?_)) (Nat.le_of_ble_eq_true rfl)
          refine ⟨fun hc5 => ?_, fun hc5 => ?_⟩
          · skip
            exact ih.2.2.1 _ I4 (by omega)
          · skip
            refine Wp.deep (s_X2_unit_43_L6 hG I4 (by omega) (fun R6 M6 I6 hr6 => ?_)) (Nat.le_of_ble_eq_true rfl)
            refine ⟨fun hc7 => ?_, fun hc7 => ?_⟩
            · skip
              have f8 := ti_3
              refine Wp.deep (s_X4_put_29 hG I6 (fun M9 I9 => ?_)) (Nat.le_of_ble_eq_true rfl)
              have f10 := dAddE (X := x2.toInt) (Y := 1) (x := x2) (y := (1 : Int32)) rfl (by decide) (by omega) (by omega)
              exact ih.1 _ _ _ I9 (by omega) (by omega) (by omega)
            · skip
              exact ih.2.2.1 _ I6 (by omega)
        · skip
          exfalso; omega
      · skip
        refine ⟨fun hc2 => ?_, fun hc2 => ?_⟩
        · skip
          refine v_X2_kind_43_32 ?_
          have f3 := ti_24
          refine ⟨fun hc4 => ?_, fun hc4 => ?_⟩
          · skip
            refine Wp.deep (s_X2_step_43 hG hI (fun R5 M5 I5 hr5 => ?_)) (Nat.le_of_ble_eq_true rfl)
            refine ⟨fun hc6 => ?_, fun hc6 => ?_⟩
            · skip
              exact ih.2.2.1 _ I5 (by omega)
            · skip
              refine Wp.deep (s_X2_unit_43_L6 hG I5 (by omega) (fun R7 M7 I7 hr7 => ?_)) (Nat.le_of_ble_eq_true rfl)
              refine ⟨fun hc8 => ?_, fun hc8 => ?_⟩
              · skip
                have f9 := ti_3
                refine Wp.deep (s_X4_put_29 hG I7 (fun M10 I10 => ?_)) (Nat.le_of_ble_eq_true rfl)
                have f11 := dAddE (X := x2.toInt) (Y := 1) (x := x2) (y := (1 : Int32)) rfl (by decide) (by omega) (by omega)
                exact ih.1 _ _ _ I10 (by omega) (by omega) (by omega)
              · skip
                exact ih.2.2.1 _ I7 (by omega)
          · skip
            exfalso; omega
        · skip
          refine ⟨by omega, ?_⟩
          refine ⟨fun hc3 => ?_, fun hc3 => ?_⟩
          · skip
            refine Wp.deep (s_X2_step_43 hG hI (fun R4 M4 I4 hr4 => ?_)) (Nat.le_of_ble_eq_true rfl)
            refine ⟨fun hc5 => ?_, fun hc5 => ?_⟩
            · skip
              exact ih.2.2.1 _ I4 (by omega)
            · skip
              refine Wp.deep (s_X2_unit_43_L6 hG I4 (by omega) (fun R6 M6 I6 hr6 => ?_)) (Nat.le_of_ble_eq_true rfl)
              refine ⟨fun hc7 => ?_, fun hc7 => ?_⟩
              · skip
                have f8 := ti_3
                refine Wp.deep (s_X4_put_29 hG I6 (fun M9 I9 => ?_)) (Nat.le_of_ble_eq_true rfl)
                have f10 := dAddE (X := x2.toInt) (Y := 1) (x := x2) (y := (1 : Int32)) rfl (by decide) (by omega) (by omega)
                exact ih.1 _ _ _ I9 (by omega) (by omega) (by omega)
              · skip
                exact ih.2.2.1 _ I6 (by omega)
          · skip
            refine Wp.deep (s_X2_step_43 hG hI (fun R4 M4 I4 hr4 => ?_)) (Nat.le_of_ble_eq_true rfl)
            refine ⟨fun hc5 => ?_, fun hc5 => ?_⟩
            · skip
              exact ih.2.2.1 _ I4 (by omega)
            · skip
              refine Wp.deep (s_X2_unit_43_L6 hG I4 (by omega) (fun R6 M6 I6 hr6 => ?_)) (Nat.le_of_ble_eq_true rfl)
              refine ⟨fun hc7 => ?_, fun hc7 => ?_⟩
              · skip
                have f8 := ti_2
                refine Wp.deep (s_X4_put_29 hG I6 (fun M9 I9 => ?_)) (Nat.le_of_ble_eq_true rfl)
                have f10 := dAddE (X := x2.toInt) (Y := 1) (x := x2) (y := (1 : Int32)) rfl (by decide) (by omega) (by omega)
                exact ih.1 _ _ _ I9 (by omega) (by omega) (by omega)
              · skip
                exact ih.2.2.1 _ I6 (by omega)
    · intro m hI hμ
      refine v_X2_product_43_67 ?_
      have f1 := ti_0
      exact hQ _ _ hI (by omega)
    · intro m hI hμ
      refine v_X2_product_43_83 ?_
      have f1 := ti_1
      exact hQ _ _ hI (by omega)
theorem s_X2_product_43_L6 {g : gM} {x1 : Int32} {m : dM} {Q : Int32 → dM → Prop} (hG : Gd g) (hI : Inv g m) (h1 : 6 ≤ x1.toInt ∧ x1.toInt ≤ 6) (hQ : ∀ (r : Int32) (m' : dM), Inv g m' → (0 ≤ r.toInt ∧ r.toInt ≤ 1) → Q r m') : c_X2_product_43 7 x1 m Q := by
  refine v_X2_product_43 ?_
  refine Wp.deep (s_X2_unit_43_L6 hG hI (by omega) (fun R1 M1 I1 hr1 => ?_)) (Nat.le_of_ble_eq_true rfl)
  refine ⟨fun hc2 => ?_, fun hc2 => ?_⟩
  · skip
    have f3 := ti_0
    exact (s_X2_product_43_L6_all hG hQ 807).1 _ _ _ I1 (by omega) (by omega) (by omega)
  · skip
    have f3 := ti_0
    exact hQ _ _ I1 (by omega)
theorem s_X2_sum_43_L6_all {g : gM} {Q : Int32 → dM → Prop} (hG : Gd g) (hQ : ∀ (r : Int32) (m' : dM), Inv g m' → (0 ≤ r.toInt ∧ r.toInt ≤ 1) → Q r m') : ∀ n : Nat, (∀ (x1 : Int32) (x2 : Int32) (m : dM), Inv g m → (6 ≤ x1.toInt ∧ x1.toInt ≤ 6) → (0 ≤ x2.toInt ∧ x2.toInt ≤ 401) → 805 - 2 * x2.toInt < (n : Int) → j_X2_sum_43_12 8 x1 x2 m Q) ∧ (∀ (x1 : Int32) (x2 : Int32) (m : dM), Inv g m → (6 ≤ x1.toInt ∧ x1.toInt ≤ 6) → (0 ≤ x2.toInt ∧ x2.toInt ≤ 400) → 804 - 2 * x2.toInt < (n : Int) → j_X2_sum_43_37 8 x1 x2 m Q) ∧ (∀ (m : dM), Inv g m → 1 < (n : Int) → j_X2_sum_43_67 8 m Q) ∧ (∀ (m : dM), Inv g m → 0 < (n : Int) → j_X2_sum_43_83 8 m Q) := by
  intro n
  induction n with
  | zero => exact ⟨fun x1 x2 m hI h1 h2 hμ => by exfalso; omega, fun x1 x2 m hI h1 h2 hμ => by exfalso; omega, fun m hI hμ => by exfalso; omega, fun m hI hμ => by exfalso; omega⟩
  | succ n ih =>
    refine ⟨?_, ?_, ?_, ?_⟩
    · intro x1 x2 m hI h1 h2 hμ
      refine v_X2_sum_43_12 ?_
      refine ⟨fun hc1 => ?_, fun hc1 => ?_⟩
      · skip
        exact ih.2.2.2 _ hI (by omega)
      · skip
        refine v_X2_kind_43 ?_
        refine ⟨fun hc2 => ?_, fun hc2 => ?_⟩
        · skip
          refine v_X2_kind_43_32 ?_
          have f3 := ti_24
          refine ⟨fun hc4 => ?_, fun hc4 => ?_⟩
          · skip
            exfalso; omega
          · skip
            refine v_X2_kind_43 ?_
            refine ⟨fun hc5 => ?_, fun hc5 => ?_⟩
            · skip
              refine v_X2_kind_43_32 ?_
              refine ⟨fun hc6 => ?_, fun hc6 => ?_⟩
              · skip
                exact ih.2.2.2 _ hI (by omega)
              · skip
                exfalso; omega
            · skip
              exfalso; omega
        · skip
          refine ⟨fun hc3 => ?_, fun hc3 => ?_⟩
          · skip
            refine v_X2_kind_43_32 ?_
            have f4 := ti_24
            refine ⟨fun hc5 => ?_, fun hc5 => ?_⟩
            · skip
              exfalso; omega
            · skip
              refine v_X2_kind_43 ?_
              refine ⟨fun hc6 => ?_, fun hc6 => ?_⟩
              · skip
                exfalso; omega
              · skip
                refine ⟨fun hc7 => ?_, fun hc7 => ?_⟩
                · skip
                  refine v_X2_kind_43_32 ?_
                  refine ⟨fun hc8 => ?_, fun hc8 => ?_⟩
                  · skip
                    exact ih.2.2.2 _ hI (by omega)
                  · skip
                    exfalso; omega
                · skip
                  exfalso; omega
          · skip
            refine ⟨by omega, ?_⟩
            refine ⟨fun hc4 => ?_, fun hc4 => ?_⟩
            · skip
              exact ih.2.1 _ _ _ hI (by omega) (by omega) (by omega)
            · skip
              refine v_X2_kind_43 ?_
              refine ⟨fun hc5 => ?_, fun hc5 => ?_⟩
              · skip
                exfalso; omega
              · skip
                refine ⟨fun hc6 => ?_, fun hc6 => ?_⟩
                · skip
                  exfalso; omega
                · skip
                  refine ⟨by omega, ?_⟩
                  refine ⟨fun hc7 => ?_, fun hc7 => ?_⟩
                  · skip
                    exact ih.2.2.2 _ hI (by omega)
                  · skip
                    exact ih.2.1 _ _ _ hI (by omega) (by omega) (by omega)
    · intro x1 x2 m hI h1 h2 hμ
      refine v_X2_sum_43_37 ?_
      refine v_X2_kind_43 ?_
      refine ⟨fun hc1 => ?_, fun hc1 => ?_⟩
      · skip
        refine v_X2_kind_43_32 ?_
        have f2 := ti_24
        refine ⟨fun hc3 => ?_, fun hc3 => ?_⟩
        · skip
          refine Wp.deep (s_X2_step_43 hG hI (fun R4 M4 I4 hr4 => ?_)) (Nat.le_of_ble_eq_true rfl)
          refine ⟨fun hc5 => ?_, fun hc5 => ?_⟩
          · skip
            exact ih.2.2.1 _ I4 (by omega)
          · skip
            refine Wp.deep (s_X2_product_43_L6 hG I4 (by omega) (fun R6 M6 I6 hr6 => ?_)) (Nat.le_of_ble_eq_true rfl)
            refine ⟨fun hc7 => ?_, fun hc7 => ?_⟩
            · skip
              have f8 := ti_1
              refine Wp.deep (s_X4_put_29 hG I6 (fun M9 I9 => ?_)) (Nat.le_of_ble_eq_true rfl)
              have f10 := dAddE (X := x2.toInt) (Y := 1) (x := x2) (y := (1 : Int32)) rfl (by decide) (by omega) (by omega)
              exact ih.1 _ _ _ I9 (by omega) (by omega) (by omega)
            · skip
              exact ih.2.2.1 _ I6 (by omega)
        · skip
          exfalso; omega
      · skip
        refine ⟨fun hc2 => ?_, fun hc2 => ?_⟩
        · skip
          refine v_X2_kind_43_32 ?_
          have f3 := ti_24
          refine ⟨fun hc4 => ?_, fun hc4 => ?_⟩
          · skip
            refine Wp.deep (s_X2_step_43 hG hI (fun R5 M5 I5 hr5 => ?_)) (Nat.le_of_ble_eq_true rfl)
            refine ⟨fun hc6 => ?_, fun hc6 => ?_⟩
            · skip
              exact ih.2.2.1 _ I5 (by omega)
            · skip
              refine Wp.deep (s_X2_product_43_L6 hG I5 (by omega) (fun R7 M7 I7 hr7 => ?_)) (Nat.le_of_ble_eq_true rfl)
              refine ⟨fun hc8 => ?_, fun hc8 => ?_⟩
              · skip
                have f9 := ti_1
                refine Wp.deep (s_X4_put_29 hG I7 (fun M10 I10 => ?_)) (Nat.le_of_ble_eq_true rfl)
                have f11 := dAddE (X := x2.toInt) (Y := 1) (x := x2) (y := (1 : Int32)) rfl (by decide) (by omega) (by omega)
                exact ih.1 _ _ _ I10 (by omega) (by omega) (by omega)
              · skip
                exact ih.2.2.1 _ I7 (by omega)
          · skip
            exfalso; omega
        · skip
          refine ⟨by omega, ?_⟩
          refine ⟨fun hc3 => ?_, fun hc3 => ?_⟩
          · skip
            refine Wp.deep (s_X2_step_43 hG hI (fun R4 M4 I4 hr4 => ?_)) (Nat.le_of_ble_eq_true rfl)
            refine ⟨fun hc5 => ?_, fun hc5 => ?_⟩
            · skip
              exact ih.2.2.1 _ I4 (by omega)
            · skip
              refine Wp.deep (s_X2_product_43_L6 hG I4 (by omega) (fun R6 M6 I6 hr6 => ?_)) (Nat.le_of_ble_eq_true rfl)
              refine ⟨fun hc7 => ?_, fun hc7 => ?_⟩
              · skip
                have f8 := ti_1
                refine Wp.deep (s_X4_put_29 hG I6 (fun M9 I9 => ?_)) (Nat.le_of_ble_eq_true rfl)
                have f10 := dAddE (X := x2.toInt) (Y := 1) (x := x2) (y := (1 : Int32)) rfl (by decide) (by omega) (by omega)
                exact ih.1 _ _ _ I9 (by omega) (by omega) (by omega)
              · skip
                exact ih.2.2.1 _ I6 (by omega)
          · skip
            refine Wp.deep (s_X2_step_43 hG hI (fun R4 M4 I4 hr4 => ?_)) (Nat.le_of_ble_eq_true rfl)
            refine ⟨fun hc5 => ?_, fun hc5 => ?_⟩
            · skip
              exact ih.2.2.1 _ I4 (by omega)
            · skip
              refine Wp.deep (s_X2_product_43_L6 hG I4 (by omega) (fun R6 M6 I6 hr6 => ?_)) (Nat.le_of_ble_eq_true rfl)
              refine ⟨fun hc7 => ?_, fun hc7 => ?_⟩
              · skip
                have f8 := ti_0
                refine Wp.deep (s_X4_put_29 hG I6 (fun M9 I9 => ?_)) (Nat.le_of_ble_eq_true rfl)
                have f10 := dAddE (X := x2.toInt) (Y := 1) (x := x2) (y := (1 : Int32)) rfl (by decide) (by omega) (by omega)
                exact ih.1 _ _ _ I9 (by omega) (by omega) (by omega)
              · skip
                exact ih.2.2.1 _ I6 (by omega)
    · intro m hI hμ
      refine v_X2_sum_43_67 ?_
      have f1 := ti_0
      exact hQ _ _ hI (by omega)
    · intro m hI hμ
      refine v_X2_sum_43_83 ?_
      have f1 := ti_1
      exact hQ _ _ hI (by omega)
theorem s_X2_sum_43_L6 {g : gM} {x1 : Int32} {m : dM} {Q : Int32 → dM → Prop} (hG : Gd g) (hI : Inv g m) (h1 : 6 ≤ x1.toInt ∧ x1.toInt ≤ 6) (hQ : ∀ (r : Int32) (m' : dM), Inv g m' → (0 ≤ r.toInt ∧ r.toInt ≤ 1) → Q r m') : c_X2_sum_43 8 x1 m Q := by
  refine v_X2_sum_43 ?_
  refine Wp.deep (s_X2_product_43_L6 hG hI (by omega) (fun R1 M1 I1 hr1 => ?_)) (Nat.le_of_ble_eq_true rfl)
  refine ⟨fun hc2 => ?_, fun hc2 => ?_⟩
  · skip
    have f3 := ti_0
    exact (s_X2_sum_43_L6_all hG hQ 807).1 _ _ _ I1 (by omega) (by omega) (by omega)
  · skip
    have f3 := ti_0
    exact hQ _ _ I1 (by omega)
theorem s_X2_unit_43_L5 {g : gM} {x1 : Int32} {m : dM} {Q : Int32 → dM → Prop} (hG : Gd g) (hI : Inv g m) (h1 : 5 ≤ x1.toInt ∧ x1.toInt ≤ 5) (hQ : ∀ (r : Int32) (m' : dM), Inv g m' → (0 ≤ r.toInt ∧ r.toInt ≤ 1) → Q r m') : c_X2_unit_43 9 x1 m Q := by
  refine v_X2_unit_43 ?_
  refine v_X2_kind_43 ?_
  refine ⟨fun hc1 => ?_, fun hc1 => ?_⟩
  · skip
    refine v_X2_kind_43_32 ?_
    have f2 := ti_24
    refine ⟨fun hc3 => ?_, fun hc3 => ?_⟩
    · skip
      refine ⟨fun hc4 => ?_, fun hc4 => ?_⟩
      · skip
        exfalso; omega
      · skip
        refine ⟨fun hc5 => ?_, fun hc5 => ?_⟩
        · skip
          refine v_X2_unit_43_67 ?_
          refine ⟨fun hc6 => ?_, fun hc6 => ?_⟩
          · skip
            exfalso; omega
          · skip
            have f7 := ti_1
            refine Wp.deep (s_X2_fail_43 hG hI (fun R8 M8 I8 hr8 => ?_)) (Nat.le_of_ble_eq_true rfl)
            refine ⟨dB01 (by omega), ?_⟩
            exact hQ _ _ I8 (by omega)
        · skip
          exfalso; omega
    · skip
      exfalso; omega
  · skip
    refine ⟨fun hc2 => ?_, fun hc2 => ?_⟩
    · skip
      refine v_X2_kind_43_32 ?_
      have f3 := ti_24
      refine ⟨fun hc4 => ?_, fun hc4 => ?_⟩
      · skip
        refine ⟨fun hc5 => ?_, fun hc5 => ?_⟩
        · skip
          exfalso; omega
        · skip
          refine ⟨fun hc6 => ?_, fun hc6 => ?_⟩
          · skip
            refine v_X2_unit_43_67 ?_
            refine ⟨fun hc7 => ?_, fun hc7 => ?_⟩
            · skip
              exfalso; omega
            · skip
              have f8 := ti_1
              refine Wp.deep (s_X2_fail_43 hG hI (fun R9 M9 I9 hr9 => ?_)) (Nat.le_of_ble_eq_true rfl)
              refine ⟨dB01 (by omega), ?_⟩
              exact hQ _ _ I9 (by omega)
          · skip
            exfalso; omega
      · skip
        exfalso; omega
    · skip
      refine ⟨by omega, ?_⟩
      refine ⟨fun hc3 => ?_, fun hc3 => ?_⟩
      · skip
        refine ⟨fun hc4 => ?_, fun hc4 => ?_⟩
        · skip
          refine v_X2_unit_43_67 ?_
          refine ⟨fun hc5 => ?_, fun hc5 => ?_⟩
          · skip
            exfalso; omega
          · skip
            have f6 := ti_1
            refine Wp.deep (s_X2_fail_43 hG hI (fun R7 M7 I7 hr7 => ?_)) (Nat.le_of_ble_eq_true rfl)
            refine ⟨dB01 (by omega), ?_⟩
            exact hQ _ _ I7 (by omega)
        · skip
          refine ⟨fun hc5 => ?_, fun hc5 => ?_⟩
          · skip
            refine v_X2_unit_43_67 ?_
            refine ⟨fun hc6 => ?_, fun hc6 => ?_⟩
            · skip
              refine ⟨fun hc7 => ?_, fun hc7 => ?_⟩
              · skip
                refine Wp.deep (s_X2_step_43 hG hI (fun R8 M8 I8 hr8 => ?_)) (Nat.le_of_ble_eq_true rfl)
                refine ⟨fun hc9 => ?_, fun hc9 => ?_⟩
                · skip
                  refine v_X2_unit_43_123 ?_
                  have f10 := ti_0
                  exact hQ _ _ I8 (by omega)
                · skip
                  have f10 := dAddE (X := x1.toInt) (Y := 1) (x := x1) (y := (1 : Int32)) rfl (by decide) (by omega) (by omega)
                  refine Wp.deep (s_X2_sum_43_L6 hG I8 (by omega) (fun R11 M11 I11 hr11 => ?_)) (Nat.le_of_ble_eq_true rfl)
                  refine ⟨fun hc12 => ?_, fun hc12 => ?_⟩
                  · skip
                    refine v_X2_unit_43_123 ?_
                    have f13 := ti_0
                    exact hQ _ _ I11 (by omega)
                  · skip
                    have f13 := ti_41
                    refine Wp.deep (s_X2_need_43 hG I11 (fun R14 M14 I14 hr14 => ?_)) (Nat.le_of_ble_eq_true rfl)
                    refine ⟨fun hc15 => ?_, fun hc15 => ?_⟩
                    · skip
                      refine v_X2_unit_43_123 ?_
                      have f16 := ti_0
                      exact hQ _ _ I14 (by omega)
                    · skip
                      have f16 := ti_1
                      exact hQ _ _ I14 (by omega)
              · skip
                exfalso; omega
            · skip
              have f7 := ti_1
              refine Wp.deep (s_X2_fail_43 hG hI (fun R8 M8 I8 hr8 => ?_)) (Nat.le_of_ble_eq_true rfl)
              refine ⟨dB01 (by omega), ?_⟩
              exact hQ _ _ I8 (by omega)
          · skip
            have f6 := dAddE (X := 4) (Y := (m.1 39 (m.1 43 2).toNatClampNeg).toInt) (x := (4 : Int32)) (y := (m.1 39 (m.1 43 2).toNatClampNeg)) (by decide) rfl (by omega) (by omega)
            have f7 := dSubE (X := ((4 : Int32) + (m.1 39 (m.1 43 2).toNatClampNeg)).toInt) (Y := 13) (x := ((4 : Int32) + (m.1 39 (m.1 43 2).toNatClampNeg))) (y := (13 : Int32)) rfl (by decide) (by omega) (by omega)
            refine Wp.deep (s_X4_put_29 hG hI (fun M8 I8 => ?_)) (Nat.le_of_ble_eq_true rfl)
            refine Wp.deep (s_X2_step_43 hG I8 (fun R9 M9 I9 hr9 => ?_)) (Nat.le_of_ble_eq_true rfl)
            refine ⟨dB01 (by omega), ?_⟩
            exact hQ _ _ I9 (by omega)
      · skip
        refine Wp.deep (s_X8_numberAt_38 hG hI (fun R4 => ?_)) (Nat.le_of_ble_eq_true rfl)
        refine Wp.deep (s_X4_put_29 hG hI (fun M5 I5 => ?_)) (Nat.le_of_ble_eq_true rfl)
        refine Wp.deep (s_X2_step_43 hG I5 (fun R6 M6 I6 hr6 => ?_)) (Nat.le_of_ble_eq_true rfl)
        refine ⟨dB01 (by omega), ?_⟩
        exact hQ _ _ I6 (by omega)
theorem s_X2_product_43_L5_all {g : gM} {Q : Int32 → dM → Prop} (hG : Gd g) (hQ : ∀ (r : Int32) (m' : dM), Inv g m' → (0 ≤ r.toInt ∧ r.toInt ≤ 1) → Q r m') : ∀ n : Nat, (∀ (x1 : Int32) (x2 : Int32) (m : dM), Inv g m → (5 ≤ x1.toInt ∧ x1.toInt ≤ 5) → (0 ≤ x2.toInt ∧ x2.toInt ≤ 401) → 805 - 2 * x2.toInt < (n : Int) → j_X2_product_43_12 10 x1 x2 m Q) ∧ (∀ (x1 : Int32) (x2 : Int32) (m : dM), Inv g m → (5 ≤ x1.toInt ∧ x1.toInt ≤ 5) → (0 ≤ x2.toInt ∧ x2.toInt ≤ 400) → 804 - 2 * x2.toInt < (n : Int) → j_X2_product_43_37 10 x1 x2 m Q) ∧ (∀ (m : dM), Inv g m → 1 < (n : Int) → j_X2_product_43_67 10 m Q) ∧ (∀ (m : dM), Inv g m → 0 < (n : Int) → j_X2_product_43_83 10 m Q) := by
  intro n
  induction n with
  | zero => exact ⟨fun x1 x2 m hI h1 h2 hμ => by exfalso; omega, fun x1 x2 m hI h1 h2 hμ => by exfalso; omega, fun m hI hμ => by exfalso; omega, fun m hI hμ => by exfalso; omega⟩
  | succ n ih =>
    refine ⟨?_, ?_, ?_, ?_⟩
    · intro x1 x2 m hI h1 h2 hμ
      refine v_X2_product_43_12 ?_
      refine ⟨fun hc1 => ?_, fun hc1 => ?_⟩
      · skip
        exact ih.2.2.2 _ hI (by omega)
      · skip
        refine v_X2_kind_43 ?_
        refine ⟨fun hc2 => ?_, fun hc2 => ?_⟩
        · skip
          refine v_X2_kind_43_32 ?_
          have f3 := ti_24
          refine ⟨fun hc4 => ?_, fun hc4 => ?_⟩
          · skip
            exfalso; omega
          · skip
            refine v_X2_kind_43 ?_
            refine ⟨fun hc5 => ?_, fun hc5 => ?_⟩
            · skip
              refine v_X2_kind_43_32 ?_
              refine ⟨fun hc6 => ?_, fun hc6 => ?_⟩
              · skip
                exact ih.2.2.2 _ hI (by omega)
              · skip
                exfalso; omega
            · skip
              exfalso; omega
        · skip
          refine ⟨fun hc3 => ?_, fun hc3 => ?_⟩
          · skip
            refine v_X2_kind_43_32 ?_
            have f4 := ti_24
            refine ⟨fun hc5 => ?_, fun hc5 => ?_⟩
            · skip
              exfalso; omega
            · skip
              refine v_X2_kind_43 ?_
              refine ⟨fun hc6 => ?_, fun hc6 => ?_⟩
              · skip
                exfalso; omega
              · skip
                refine ⟨fun hc7 => ?_, fun hc7 => ?_⟩
                · skip
                  refine v_X2_kind_43_32 ?_
                  refine ⟨fun hc8 => ?_, fun hc8 => ?_⟩
                  · skip
                    exact ih.2.2.2 _ hI (by omega)
                  · skip
                    exfalso; omega
                · skip
                  exfalso; omega
          · skip
            refine ⟨by omega, ?_⟩
            refine ⟨fun hc4 => ?_, fun hc4 => ?_⟩
            · skip
              exact ih.2.1 _ _ _ hI (by omega) (by omega) (by omega)
            · skip
              refine v_X2_kind_43 ?_
              refine ⟨fun hc5 => ?_, fun hc5 => ?_⟩
              · skip
                exfalso; omega
              · skip
                refine ⟨fun hc6 => ?_, fun hc6 => ?_⟩
                · skip
                  exfalso; omega
                · skip
                  refine ⟨by omega, ?_⟩
                  refine ⟨fun hc7 => ?_, fun hc7 => ?_⟩
                  · skip
                    exact ih.2.2.2 _ hI (by omega)
                  · skip
                    exact ih.2.1 _ _ _ hI (by omega) (by omega) (by omega)
    · intro x1 x2 m hI h1 h2 hμ
      refine v_X2_product_43_37 ?_
      refine v_X2_kind_43 ?_
      refine ⟨fun hc1 => ?_, fun hc1 => ?_⟩
      · skip
        refine v_X2_kind_43_32 ?_
        have f2 := ti_24
        refine ⟨fun hc3 => ?_, fun hc3 => ?_⟩
        · skip
          refine Wp.deep (s_X2_step_43 hG hI (fun R4 M4 I4 hr4 => ?_)) (Nat.le_of_ble_eq_true rfl)
          refine ⟨fun hc5 => ?_, fun hc5 => ?_⟩
          · skip
            exact ih.2.2.1 _ I4 (by omega)
          · skip
            refine Wp.deep (s_X2_unit_43_L5 hG I4 (by omega) (fun R6 M6 I6 hr6 => ?_)) (Nat.le_of_ble_eq_true rfl)
            refine ⟨fun hc7 => ?_, fun hc7 => ?_⟩
            · skip
              have f8 := ti_3
              refine Wp.deep (s_X4_put_29 hG I6 (fun M9 I9 => ?_)) (Nat.le_of_ble_eq_true rfl)
              have f10 := dAddE (X := x2.toInt) (Y := 1) (x := x2) (y := (1 : Int32)) rfl (by decide) (by omega) (by omega)
              exact ih.1 _ _ _ I9 (by omega) (by omega) (by omega)
            · skip
              exact ih.2.2.1 _ I6 (by omega)
        · skip
          exfalso; omega
      · skip
        refine ⟨fun hc2 => ?_, fun hc2 => ?_⟩
        · skip
          refine v_X2_kind_43_32 ?_
          have f3 := ti_24
          refine ⟨fun hc4 => ?_, fun hc4 => ?_⟩
          · skip
            refine Wp.deep (s_X2_step_43 hG hI (fun R5 M5 I5 hr5 => ?_)) (Nat.le_of_ble_eq_true rfl)
            refine ⟨fun hc6 => ?_, fun hc6 => ?_⟩
            · skip
              exact ih.2.2.1 _ I5 (by omega)
            · skip
              refine Wp.deep (s_X2_unit_43_L5 hG I5 (by omega) (fun R7 M7 I7 hr7 => ?_)) (Nat.le_of_ble_eq_true rfl)
              refine ⟨fun hc8 => ?_, fun hc8 => ?_⟩
              · skip
                have f9 := ti_3
                refine Wp.deep (s_X4_put_29 hG I7 (fun M10 I10 => ?_)) (Nat.le_of_ble_eq_true rfl)
                have f11 := dAddE (X := x2.toInt) (Y := 1) (x := x2) (y := (1 : Int32)) rfl (by decide) (by omega) (by omega)
                exact ih.1 _ _ _ I10 (by omega) (by omega) (by omega)
              · skip
                exact ih.2.2.1 _ I7 (by omega)
          · skip
            exfalso; omega
        · skip
          refine ⟨by omega, ?_⟩
          refine ⟨fun hc3 => ?_, fun hc3 => ?_⟩
          · skip
            refine Wp.deep (s_X2_step_43 hG hI (fun R4 M4 I4 hr4 => ?_)) (Nat.le_of_ble_eq_true rfl)
            refine ⟨fun hc5 => ?_, fun hc5 => ?_⟩
            · skip
              exact ih.2.2.1 _ I4 (by omega)
            · skip
              refine Wp.deep (s_X2_unit_43_L5 hG I4 (by omega) (fun R6 M6 I6 hr6 => ?_)) (Nat.le_of_ble_eq_true rfl)
              refine ⟨fun hc7 => ?_, fun hc7 => ?_⟩
              · skip
                have f8 := ti_3
                refine Wp.deep (s_X4_put_29 hG I6 (fun M9 I9 => ?_)) (Nat.le_of_ble_eq_true rfl)
                have f10 := dAddE (X := x2.toInt) (Y := 1) (x := x2) (y := (1 : Int32)) rfl (by decide) (by omega) (by omega)
                exact ih.1 _ _ _ I9 (by omega) (by omega) (by omega)
              · skip
                exact ih.2.2.1 _ I6 (by omega)
          · skip
            refine Wp.deep (s_X2_step_43 hG hI (fun R4 M4 I4 hr4 => ?_)) (Nat.le_of_ble_eq_true rfl)
            refine ⟨fun hc5 => ?_, fun hc5 => ?_⟩
            · skip
              exact ih.2.2.1 _ I4 (by omega)
            · skip
              refine Wp.deep (s_X2_unit_43_L5 hG I4 (by omega) (fun R6 M6 I6 hr6 => ?_)) (Nat.le_of_ble_eq_true rfl)
              refine ⟨fun hc7 => ?_, fun hc7 => ?_⟩
              · skip
                have f8 := ti_2
                refine Wp.deep (s_X4_put_29 hG I6 (fun M9 I9 => ?_)) (Nat.le_of_ble_eq_true rfl)
                have f10 := dAddE (X := x2.toInt) (Y := 1) (x := x2) (y := (1 : Int32)) rfl (by decide) (by omega) (by omega)
                exact ih.1 _ _ _ I9 (by omega) (by omega) (by omega)
              · skip
                exact ih.2.2.1 _ I6 (by omega)
    · intro m hI hμ
      refine v_X2_product_43_67 ?_
      have f1 := ti_0
      exact hQ _ _ hI (by omega)
    · intro m hI hμ
      refine v_X2_product_43_83 ?_
      have f1 := ti_1
      exact hQ _ _ hI (by omega)
theorem s_X2_product_43_L5 {g : gM} {x1 : Int32} {m : dM} {Q : Int32 → dM → Prop} (hG : Gd g) (hI : Inv g m) (h1 : 5 ≤ x1.toInt ∧ x1.toInt ≤ 5) (hQ : ∀ (r : Int32) (m' : dM), Inv g m' → (0 ≤ r.toInt ∧ r.toInt ≤ 1) → Q r m') : c_X2_product_43 10 x1 m Q := by
  refine v_X2_product_43 ?_
  refine Wp.deep (s_X2_unit_43_L5 hG hI (by omega) (fun R1 M1 I1 hr1 => ?_)) (Nat.le_of_ble_eq_true rfl)
  refine ⟨fun hc2 => ?_, fun hc2 => ?_⟩
  · skip
    have f3 := ti_0
    exact (s_X2_product_43_L5_all hG hQ 807).1 _ _ _ I1 (by omega) (by omega) (by omega)
  · skip
    have f3 := ti_0
    exact hQ _ _ I1 (by omega)
theorem s_X2_sum_43_L5_all {g : gM} {Q : Int32 → dM → Prop} (hG : Gd g) (hQ : ∀ (r : Int32) (m' : dM), Inv g m' → (0 ≤ r.toInt ∧ r.toInt ≤ 1) → Q r m') : ∀ n : Nat, (∀ (x1 : Int32) (x2 : Int32) (m : dM), Inv g m → (5 ≤ x1.toInt ∧ x1.toInt ≤ 5) → (0 ≤ x2.toInt ∧ x2.toInt ≤ 401) → 805 - 2 * x2.toInt < (n : Int) → j_X2_sum_43_12 11 x1 x2 m Q) ∧ (∀ (x1 : Int32) (x2 : Int32) (m : dM), Inv g m → (5 ≤ x1.toInt ∧ x1.toInt ≤ 5) → (0 ≤ x2.toInt ∧ x2.toInt ≤ 400) → 804 - 2 * x2.toInt < (n : Int) → j_X2_sum_43_37 11 x1 x2 m Q) ∧ (∀ (m : dM), Inv g m → 1 < (n : Int) → j_X2_sum_43_67 11 m Q) ∧ (∀ (m : dM), Inv g m → 0 < (n : Int) → j_X2_sum_43_83 11 m Q) := by
  intro n
  induction n with
  | zero => exact ⟨fun x1 x2 m hI h1 h2 hμ => by exfalso; omega, fun x1 x2 m hI h1 h2 hμ => by exfalso; omega, fun m hI hμ => by exfalso; omega, fun m hI hμ => by exfalso; omega⟩
  | succ n ih =>
    refine ⟨?_, ?_, ?_, ?_⟩
    · intro x1 x2 m hI h1 h2 hμ
      refine v_X2_sum_43_12 ?_
      refine ⟨fun hc1 => ?_, fun hc1 => ?_⟩
      · skip
        exact ih.2.2.2 _ hI (by omega)
      · skip
        refine v_X2_kind_43 ?_
        refine ⟨fun hc2 => ?_, fun hc2 => ?_⟩
        · skip
          refine v_X2_kind_43_32 ?_
          have f3 := ti_24
          refine ⟨fun hc4 => ?_, fun hc4 => ?_⟩
          · skip
            exfalso; omega
          · skip
            refine v_X2_kind_43 ?_
            refine ⟨fun hc5 => ?_, fun hc5 => ?_⟩
            · skip
              refine v_X2_kind_43_32 ?_
              refine ⟨fun hc6 => ?_, fun hc6 => ?_⟩
              · skip
                exact ih.2.2.2 _ hI (by omega)
              · skip
                exfalso; omega
            · skip
              exfalso; omega
        · skip
          refine ⟨fun hc3 => ?_, fun hc3 => ?_⟩
          · skip
            refine v_X2_kind_43_32 ?_
            have f4 := ti_24
            refine ⟨fun hc5 => ?_, fun hc5 => ?_⟩
            · skip
              exfalso; omega
            · skip
              refine v_X2_kind_43 ?_
              refine ⟨fun hc6 => ?_, fun hc6 => ?_⟩
              · skip
                exfalso; omega
              · skip
                refine ⟨fun hc7 => ?_, fun hc7 => ?_⟩
                · skip
                  refine v_X2_kind_43_32 ?_
                  refine ⟨fun hc8 => ?_, fun hc8 => ?_⟩
                  · skip
                    exact ih.2.2.2 _ hI (by omega)
                  · skip
                    exfalso; omega
                · skip
                  exfalso; omega
          · skip
            refine ⟨by omega, ?_⟩
            refine ⟨fun hc4 => ?_, fun hc4 => ?_⟩
            · skip
              exact ih.2.1 _ _ _ hI (by omega) (by omega) (by omega)
            · skip
              refine v_X2_kind_43 ?_
              refine ⟨fun hc5 => ?_, fun hc5 => ?_⟩
              · skip
                exfalso; omega
              · skip
                refine ⟨fun hc6 => ?_, fun hc6 => ?_⟩
                · skip
                  exfalso; omega
                · skip
                  refine ⟨by omega, ?_⟩
                  refine ⟨fun hc7 => ?_, fun hc7 => ?_⟩
                  · skip
                    exact ih.2.2.2 _ hI (by omega)
                  · skip
                    exact ih.2.1 _ _ _ hI (by omega) (by omega) (by omega)
    · intro x1 x2 m hI h1 h2 hμ
      refine v_X2_sum_43_37 ?_
      refine v_X2_kind_43 ?_
      refine ⟨fun hc1 => ?_, fun hc1 => ?_⟩
      · skip
        refine v_X2_kind_43_32 ?_
        have f2 := ti_24
        refine ⟨fun hc3 => ?_, fun hc3 => ?_⟩
        · skip
          refine Wp.deep (s_X2_step_43 hG hI (fun R4 M4 I4 hr4 => ?_)) (Nat.le_of_ble_eq_true rfl)
          refine ⟨fun hc5 => ?_, fun hc5 => ?_⟩
          · skip
            exact ih.2.2.1 _ I4 (by omega)
          · skip
            refine Wp.deep (s_X2_product_43_L5 hG I4 (by omega) (fun R6 M6 I6 hr6 => ?_)) (Nat.le_of_ble_eq_true rfl)
            refine ⟨fun hc7 => ?_, fun hc7 => ?_⟩
            · skip
              have f8 := ti_1
              refine Wp.deep (s_X4_put_29 hG I6 (fun M9 I9 => ?_)) (Nat.le_of_ble_eq_true rfl)
              have f10 := dAddE (X := x2.toInt) (Y := 1) (x := x2) (y := (1 : Int32)) rfl (by decide) (by omega) (by omega)
              exact ih.1 _ _ _ I9 (by omega) (by omega) (by omega)
            · skip
              exact ih.2.2.1 _ I6 (by omega)
        · skip
          exfalso; omega
      · skip
        refine ⟨fun hc2 => ?_, fun hc2 => ?_⟩
        · skip
          refine v_X2_kind_43_32 ?_
          have f3 := ti_24
          refine ⟨fun hc4 => ?_, fun hc4 => ?_⟩
          · skip
            refine Wp.deep (s_X2_step_43 hG hI (fun R5 M5 I5 hr5 => ?_)) (Nat.le_of_ble_eq_true rfl)
            refine ⟨fun hc6 => ?_, fun hc6 => ?_⟩
            · skip
              exact ih.2.2.1 _ I5 (by omega)
            · skip
              refine Wp.deep (s_X2_product_43_L5 hG I5 (by omega) (fun R7 M7 I7 hr7 => ?_)) (Nat.le_of_ble_eq_true rfl)
              refine ⟨fun hc8 => ?_, fun hc8 => ?_⟩
              · skip
                have f9 := ti_1
                refine Wp.deep (s_X4_put_29 hG I7 (fun M10 I10 => ?_)) (Nat.le_of_ble_eq_true rfl)
                have f11 := dAddE (X := x2.toInt) (Y := 1) (x := x2) (y := (1 : Int32)) rfl (by decide) (by omega) (by omega)
                exact ih.1 _ _ _ I10 (by omega) (by omega) (by omega)
              · skip
                exact ih.2.2.1 _ I7 (by omega)
          · skip
            exfalso; omega
        · skip
          refine ⟨by omega, ?_⟩
          refine ⟨fun hc3 => ?_, fun hc3 => ?_⟩
          · skip
            refine Wp.deep (s_X2_step_43 hG hI (fun R4 M4 I4 hr4 => ?_)) (Nat.le_of_ble_eq_true rfl)
            refine ⟨fun hc5 => ?_, fun hc5 => ?_⟩
            · skip
              exact ih.2.2.1 _ I4 (by omega)
            · skip
              refine Wp.deep (s_X2_product_43_L5 hG I4 (by omega) (fun R6 M6 I6 hr6 => ?_)) (Nat.le_of_ble_eq_true rfl)
              refine ⟨fun hc7 => ?_, fun hc7 => ?_⟩
              · skip
                have f8 := ti_1
                refine Wp.deep (s_X4_put_29 hG I6 (fun M9 I9 => ?_)) (Nat.le_of_ble_eq_true rfl)
                have f10 := dAddE (X := x2.toInt) (Y := 1) (x := x2) (y := (1 : Int32)) rfl (by decide) (by omega) (by omega)
                exact ih.1 _ _ _ I9 (by omega) (by omega) (by omega)
              · skip
                exact ih.2.2.1 _ I6 (by omega)
          · skip
            refine Wp.deep (s_X2_step_43 hG hI (fun R4 M4 I4 hr4 => ?_)) (Nat.le_of_ble_eq_true rfl)
            refine ⟨fun hc5 => ?_, fun hc5 => ?_⟩
            · skip
              exact ih.2.2.1 _ I4 (by omega)
            · skip
              refine Wp.deep (s_X2_product_43_L5 hG I4 (by omega) (fun R6 M6 I6 hr6 => ?_)) (Nat.le_of_ble_eq_true rfl)
              refine ⟨fun hc7 => ?_, fun hc7 => ?_⟩
              · skip
                have f8 := ti_0
                refine Wp.deep (s_X4_put_29 hG I6 (fun M9 I9 => ?_)) (Nat.le_of_ble_eq_true rfl)
                have f10 := dAddE (X := x2.toInt) (Y := 1) (x := x2) (y := (1 : Int32)) rfl (by decide) (by omega) (by omega)
                exact ih.1 _ _ _ I9 (by omega) (by omega) (by omega)
              · skip
                exact ih.2.2.1 _ I6 (by omega)
    · intro m hI hμ
      refine v_X2_sum_43_67 ?_
      have f1 := ti_0
      exact hQ _ _ hI (by omega)
    · intro m hI hμ
      refine v_X2_sum_43_83 ?_
      have f1 := ti_1
      exact hQ _ _ hI (by omega)
theorem s_X2_sum_43_L5 {g : gM} {x1 : Int32} {m : dM} {Q : Int32 → dM → Prop} (hG : Gd g) (hI : Inv g m) (h1 : 5 ≤ x1.toInt ∧ x1.toInt ≤ 5) (hQ : ∀ (r : Int32) (m' : dM), Inv g m' → (0 ≤ r.toInt ∧ r.toInt ≤ 1) → Q r m') : c_X2_sum_43 11 x1 m Q := by
  refine v_X2_sum_43 ?_
  refine Wp.deep (s_X2_product_43_L5 hG hI (by omega) (fun R1 M1 I1 hr1 => ?_)) (Nat.le_of_ble_eq_true rfl)
  refine ⟨fun hc2 => ?_, fun hc2 => ?_⟩
  · skip
    have f3 := ti_0
    exact (s_X2_sum_43_L5_all hG hQ 807).1 _ _ _ I1 (by omega) (by omega) (by omega)
  · skip
    have f3 := ti_0
    exact hQ _ _ I1 (by omega)
theorem s_X2_unit_43_L4 {g : gM} {x1 : Int32} {m : dM} {Q : Int32 → dM → Prop} (hG : Gd g) (hI : Inv g m) (h1 : 4 ≤ x1.toInt ∧ x1.toInt ≤ 4) (hQ : ∀ (r : Int32) (m' : dM), Inv g m' → (0 ≤ r.toInt ∧ r.toInt ≤ 1) → Q r m') : c_X2_unit_43 12 x1 m Q := by
  refine v_X2_unit_43 ?_
  refine v_X2_kind_43 ?_
  refine ⟨fun hc1 => ?_, fun hc1 => ?_⟩
  · skip
    refine v_X2_kind_43_32 ?_
    have f2 := ti_24
    refine ⟨fun hc3 => ?_, fun hc3 => ?_⟩
    · skip
      refine ⟨fun hc4 => ?_, fun hc4 => ?_⟩
      · skip
        exfalso; omega
      · skip
        refine ⟨fun hc5 => ?_, fun hc5 => ?_⟩
        · skip
          refine v_X2_unit_43_67 ?_
          refine ⟨fun hc6 => ?_, fun hc6 => ?_⟩
          · skip
            exfalso; omega
          · skip
            have f7 := ti_1
            refine Wp.deep (s_X2_fail_43 hG hI (fun R8 M8 I8 hr8 => ?_)) (Nat.le_of_ble_eq_true rfl)
            refine ⟨dB01 (by omega), ?_⟩
            exact hQ _ _ I8 (by omega)
        · skip
          exfalso; omega
    · skip
      exfalso; omega
  · skip
    refine ⟨fun hc2 => ?_, fun hc2 => ?_⟩
    · skip
      refine v_X2_kind_43_32 ?_
      have f3 := ti_24
      refine ⟨fun hc4 => ?_, fun hc4 => ?_⟩
      · skip
        refine ⟨fun hc5 => ?_, fun hc5 => ?_⟩
        · skip
          exfalso; omega
        · skip
          refine ⟨fun hc6 => ?_, fun hc6 => ?_⟩
          · skip
            refine v_X2_unit_43_67 ?_
            refine ⟨fun hc7 => ?_, fun hc7 => ?_⟩
            · skip
              exfalso; omega
            · skip
              have f8 := ti_1
              refine Wp.deep (s_X2_fail_43 hG hI (fun R9 M9 I9 hr9 => ?_)) (Nat.le_of_ble_eq_true rfl)
              refine ⟨dB01 (by omega), ?_⟩
              exact hQ _ _ I9 (by omega)
          · skip
            exfalso; omega
      · skip
        exfalso; omega
    · skip
      refine ⟨by omega, ?_⟩
      refine ⟨fun hc3 => ?_, fun hc3 => ?_⟩
      · skip
        refine ⟨fun hc4 => ?_, fun hc4 => ?_⟩
        · skip
          refine v_X2_unit_43_67 ?_
          refine ⟨fun hc5 => ?_, fun hc5 => ?_⟩
          · skip
            exfalso; omega
          · skip
            have f6 := ti_1
            refine Wp.deep (s_X2_fail_43 hG hI (fun R7 M7 I7 hr7 => ?_)) (Nat.le_of_ble_eq_true rfl)
            refine ⟨dB01 (by omega), ?_⟩
            exact hQ _ _ I7 (by omega)
        · skip
          refine ⟨fun hc5 => ?_, fun hc5 => ?_⟩
          · skip
            refine v_X2_unit_43_67 ?_
            refine ⟨fun hc6 => ?_, fun hc6 => ?_⟩
            · skip
              refine ⟨fun hc7 => ?_, fun hc7 => ?_⟩
              · skip
                refine Wp.deep (s_X2_step_43 hG hI (fun R8 M8 I8 hr8 => ?_)) (Nat.le_of_ble_eq_true rfl)
                refine ⟨fun hc9 => ?_, fun hc9 => ?_⟩
                · skip
                  refine v_X2_unit_43_123 ?_
                  have f10 := ti_0
                  exact hQ _ _ I8 (by omega)
                · skip
                  have f10 := dAddE (X := x1.toInt) (Y := 1) (x := x1) (y := (1 : Int32)) rfl (by decide) (by omega) (by omega)
                  refine Wp.deep (s_X2_sum_43_L5 hG I8 (by omega) (fun R11 M11 I11 hr11 => ?_)) (Nat.le_of_ble_eq_true rfl)
                  refine ⟨fun hc12 => ?_, fun hc12 => ?_⟩
                  · skip
                    refine v_X2_unit_43_123 ?_
                    have f13 := ti_0
                    exact hQ _ _ I11 (by omega)
                  · skip
                    have f13 := ti_41
                    refine Wp.deep (s_X2_need_43 hG I11 (fun R14 M14 I14 hr14 => ?_)) (Nat.le_of_ble_eq_true rfl)
                    refine ⟨fun hc15 => ?_, fun hc15 => ?_⟩
                    · skip
                      refine v_X2_unit_43_123 ?_
                      have f16 := ti_0
                      exact hQ _ _ I14 (by omega)
                    · skip
                      have f16 := ti_1
                      exact hQ _ _ I14 (by omega)
              · skip
                exfalso; omega
            · skip
              have f7 := ti_1
              refine Wp.deep (s_X2_fail_43 hG hI (fun R8 M8 I8 hr8 => ?_)) (Nat.le_of_ble_eq_true rfl)
              refine ⟨dB01 (by omega), ?_⟩
              exact hQ _ _ I8 (by omega)
          · skip
            have f6 := dAddE (X := 4) (Y := (m.1 39 (m.1 43 2).toNatClampNeg).toInt) (x := (4 : Int32)) (y := (m.1 39 (m.1 43 2).toNatClampNeg)) (by decide) rfl (by omega) (by omega)
            have f7 := dSubE (X := ((4 : Int32) + (m.1 39 (m.1 43 2).toNatClampNeg)).toInt) (Y := 13) (x := ((4 : Int32) + (m.1 39 (m.1 43 2).toNatClampNeg))) (y := (13 : Int32)) rfl (by decide) (by omega) (by omega)
            refine Wp.deep (s_X4_put_29 hG hI (fun M8 I8 => ?_)) (Nat.le_of_ble_eq_true rfl)
            refine Wp.deep (s_X2_step_43 hG I8 (fun R9 M9 I9 hr9 => ?_)) (Nat.le_of_ble_eq_true rfl)
            refine ⟨dB01 (by omega), ?_⟩
            exact hQ _ _ I9 (by omega)
      · skip
        refine Wp.deep (s_X8_numberAt_38 hG hI (fun R4 => ?_)) (Nat.le_of_ble_eq_true rfl)
        refine Wp.deep (s_X4_put_29 hG hI (fun M5 I5 => ?_)) (Nat.le_of_ble_eq_true rfl)
        refine Wp.deep (s_X2_step_43 hG I5 (fun R6 M6 I6 hr6 => ?_)) (Nat.le_of_ble_eq_true rfl)
        refine ⟨dB01 (by omega), ?_⟩
        exact hQ _ _ I6 (by omega)
theorem s_X2_product_43_L4_all {g : gM} {Q : Int32 → dM → Prop} (hG : Gd g) (hQ : ∀ (r : Int32) (m' : dM), Inv g m' → (0 ≤ r.toInt ∧ r.toInt ≤ 1) → Q r m') : ∀ n : Nat, (∀ (x1 : Int32) (x2 : Int32) (m : dM), Inv g m → (4 ≤ x1.toInt ∧ x1.toInt ≤ 4) → (0 ≤ x2.toInt ∧ x2.toInt ≤ 401) → 805 - 2 * x2.toInt < (n : Int) → j_X2_product_43_12 13 x1 x2 m Q) ∧ (∀ (x1 : Int32) (x2 : Int32) (m : dM), Inv g m → (4 ≤ x1.toInt ∧ x1.toInt ≤ 4) → (0 ≤ x2.toInt ∧ x2.toInt ≤ 400) → 804 - 2 * x2.toInt < (n : Int) → j_X2_product_43_37 13 x1 x2 m Q) ∧ (∀ (m : dM), Inv g m → 1 < (n : Int) → j_X2_product_43_67 13 m Q) ∧ (∀ (m : dM), Inv g m → 0 < (n : Int) → j_X2_product_43_83 13 m Q) := by
  intro n
  induction n with
  | zero => exact ⟨fun x1 x2 m hI h1 h2 hμ => by exfalso; omega, fun x1 x2 m hI h1 h2 hμ => by exfalso; omega, fun m hI hμ => by exfalso; omega, fun m hI hμ => by exfalso; omega⟩
  | succ n ih =>
    refine ⟨?_, ?_, ?_, ?_⟩
    · intro x1 x2 m hI h1 h2 hμ
      refine v_X2_product_43_12 ?_
      refine ⟨fun hc1 => ?_, fun hc1 => ?_⟩
      · skip
        exact ih.2.2.2 _ hI (by omega)
      · skip
        refine v_X2_kind_43 ?_
        refine ⟨fun hc2 => ?_, fun hc2 => ?_⟩
        · skip
          refine v_X2_kind_43_32 ?_
          have f3 := ti_24
          refine ⟨fun hc4 => ?_, fun hc4 => ?_⟩
          · skip
            exfalso; omega
          · skip
            refine v_X2_kind_43 ?_
            refine ⟨fun hc5 => ?_, fun hc5 => ?_⟩
            · skip
              refine v_X2_kind_43_32 ?_
              refine ⟨fun hc6 => ?_, fun hc6 => ?_⟩
              · skip
                exact ih.2.2.2 _ hI (by omega)
              · skip
                exfalso; omega
            · skip
              exfalso; omega
        · skip
          refine ⟨fun hc3 => ?_, fun hc3 => ?_⟩
          · skip
            refine v_X2_kind_43_32 ?_
            have f4 := ti_24
            refine ⟨fun hc5 => ?_, fun hc5 => ?_⟩
            · skip
              exfalso; omega
            · skip
              refine v_X2_kind_43 ?_
              refine ⟨fun hc6 => ?_, fun hc6 => ?_⟩
              · skip
                exfalso; omega
              · skip
                refine ⟨fun hc7 => ?_, fun hc7 => ?_⟩
                · skip
                  refine v_X2_kind_43_32 ?_
                  refine ⟨fun hc8 => ?_, fun hc8 => ?_⟩
                  · skip
                    exact ih.2.2.2 _ hI (by omega)
                  · skip
                    exfalso; omega
                · skip
                  exfalso; omega
          · skip
            refine ⟨by omega, ?_⟩
            refine ⟨fun hc4 => ?_, fun hc4 => ?_⟩
            · skip
              exact ih.2.1 _ _ _ hI (by omega) (by omega) (by omega)
            · skip
              refine v_X2_kind_43 ?_
              refine ⟨fun hc5 => ?_, fun hc5 => ?_⟩
              · skip
                exfalso; omega
              · skip
                refine ⟨fun hc6 => ?_, fun hc6 => ?_⟩
                · skip
                  exfalso; omega
                · skip
                  refine ⟨by omega, ?_⟩
                  refine ⟨fun hc7 => ?_, fun hc7 => ?_⟩
                  · skip
                    exact ih.2.2.2 _ hI (by omega)
                  · skip
                    exact ih.2.1 _ _ _ hI (by omega) (by omega) (by omega)
    · intro x1 x2 m hI h1 h2 hμ
      refine v_X2_product_43_37 ?_
      refine v_X2_kind_43 ?_
      refine ⟨fun hc1 => ?_, fun hc1 => ?_⟩
      · skip
        refine v_X2_kind_43_32 ?_
        have f2 := ti_24
        refine ⟨fun hc3 => ?_, fun hc3 => ?_⟩
        · skip
          refine Wp.deep (s_X2_step_43 hG hI (fun R4 M4 I4 hr4 => ?_)) (Nat.le_of_ble_eq_true rfl)
          refine ⟨fun hc5 => ?_, fun hc5 => ?_⟩
          · skip
            exact ih.2.2.1 _ I4 (by omega)
          · skip
            refine Wp.deep (s_X2_unit_43_L4 hG I4 (by omega) (fun R6 M6 I6 hr6 => ?_)) (Nat.le_of_ble_eq_true rfl)
            refine ⟨fun hc7 => ?_, fun hc7 => ?_⟩
            · skip
              have f8 := ti_3
              refine Wp.deep (s_X4_put_29 hG I6 (fun M9 I9 => ?_)) (Nat.le_of_ble_eq_true rfl)
              have f10 := dAddE (X := x2.toInt) (Y := 1) (x := x2) (y := (1 : Int32)) rfl (by decide) (by omega) (by omega)
              exact ih.1 _ _ _ I9 (by omega) (by omega) (by omega)
            · skip
              exact ih.2.2.1 _ I6 (by omega)
        · skip
          exfalso; omega
      · skip
        refine ⟨fun hc2 => ?_, fun hc2 => ?_⟩
        · skip
          refine v_X2_kind_43_32 ?_
          have f3 := ti_24
          refine ⟨fun hc4 => ?_, fun hc4 => ?_⟩
          · skip
            refine Wp.deep (s_X2_step_43 hG hI (fun R5 M5 I5 hr5 => ?_)) (Nat.le_of_ble_eq_true rfl)
            refine ⟨fun hc6 => ?_, fun hc6 => ?_⟩
            · skip
              exact ih.2.2.1 _ I5 (by omega)
            · skip
              refine Wp.deep (s_X2_unit_43_L4 hG I5 (by omega) (fun R7 M7 I7 hr7 => ?_)) (Nat.le_of_ble_eq_true rfl)
              refine ⟨fun hc8 => ?_, fun hc8 => ?_⟩
              · skip
                have f9 := ti_3
                refine Wp.deep (s_X4_put_29 hG I7 (fun M10 I10 => ?_)) (Nat.le_of_ble_eq_true rfl)
                have f11 := dAddE (X := x2.toInt) (Y := 1) (x := x2) (y := (1 : Int32)) rfl (by decide) (by omega) (by omega)
                exact ih.1 _ _ _ I10 (by omega) (by omega) (by omega)
              · skip
                exact ih.2.2.1 _ I7 (by omega)
          · skip
            exfalso; omega
        · skip
          refine ⟨by omega, ?_⟩
          refine ⟨fun hc3 => ?_, fun hc3 => ?_⟩
          · skip
            refine Wp.deep (s_X2_step_43 hG hI (fun R4 M4 I4 hr4 => ?_)) (Nat.le_of_ble_eq_true rfl)
            refine ⟨fun hc5 => ?_, fun hc5 => ?_⟩
            · skip
              exact ih.2.2.1 _ I4 (by omega)
            · skip
              refine Wp.deep (s_X2_unit_43_L4 hG I4 (by omega) (fun R6 M6 I6 hr6 => ?_)) (Nat.le_of_ble_eq_true rfl)
              refine ⟨fun hc7 => ?_, fun hc7 => ?_⟩
              · skip
                have f8 := ti_3
                refine Wp.deep (s_X4_put_29 hG I6 (fun M9 I9 => ?_)) (Nat.le_of_ble_eq_true rfl)
                have f10 := dAddE (X := x2.toInt) (Y := 1) (x := x2) (y := (1 : Int32)) rfl (by decide) (by omega) (by omega)
                exact ih.1 _ _ _ I9 (by omega) (by omega) (by omega)
              · skip
                exact ih.2.2.1 _ I6 (by omega)
          · skip
            refine Wp.deep (s_X2_step_43 hG hI (fun R4 M4 I4 hr4 => ?_)) (Nat.le_of_ble_eq_true rfl)
            refine ⟨fun hc5 => ?_, fun hc5 => ?_⟩
            · skip
              exact ih.2.2.1 _ I4 (by omega)
            · skip
              refine Wp.deep (s_X2_unit_43_L4 hG I4 (by omega) (fun R6 M6 I6 hr6 => ?_)) (Nat.le_of_ble_eq_true rfl)
              refine ⟨fun hc7 => ?_, fun hc7 => ?_⟩
              · skip
                have f8 := ti_2
                refine Wp.deep (s_X4_put_29 hG I6 (fun M9 I9 => ?_)) (Nat.le_of_ble_eq_true rfl)
                have f10 := dAddE (X := x2.toInt) (Y := 1) (x := x2) (y := (1 : Int32)) rfl (by decide) (by omega) (by omega)
                exact ih.1 _ _ _ I9 (by omega) (by omega) (by omega)
              · skip
                exact ih.2.2.1 _ I6 (by omega)
    · intro m hI hμ
      refine v_X2_product_43_67 ?_
      have f1 := ti_0
      exact hQ _ _ hI (by omega)
    · intro m hI hμ
      refine v_X2_product_43_83 ?_
      have f1 := ti_1
      exact hQ _ _ hI (by omega)
theorem s_X2_product_43_L4 {g : gM} {x1 : Int32} {m : dM} {Q : Int32 → dM → Prop} (hG : Gd g) (hI : Inv g m) (h1 : 4 ≤ x1.toInt ∧ x1.toInt ≤ 4) (hQ : ∀ (r : Int32) (m' : dM), Inv g m' → (0 ≤ r.toInt ∧ r.toInt ≤ 1) → Q r m') : c_X2_product_43 13 x1 m Q := by
  refine v_X2_product_43 ?_
  refine Wp.deep (s_X2_unit_43_L4 hG hI (by omega) (fun R1 M1 I1 hr1 => ?_)) (Nat.le_of_ble_eq_true rfl)
  refine ⟨fun hc2 => ?_, fun hc2 => ?_⟩
  · skip
    have f3 := ti_0
    exact (s_X2_product_43_L4_all hG hQ 807).1 _ _ _ I1 (by omega) (by omega) (by omega)
  · skip
    have f3 := ti_0
    exact hQ _ _ I1 (by omega)
theorem s_X2_sum_43_L4_all {g : gM} {Q : Int32 → dM → Prop} (hG : Gd g) (hQ : ∀ (r : Int32) (m' : dM), Inv g m' → (0 ≤ r.toInt ∧ r.toInt ≤ 1) → Q r m') : ∀ n : Nat, (∀ (x1 : Int32) (x2 : Int32) (m : dM), Inv g m → (4 ≤ x1.toInt ∧ x1.toInt ≤ 4) → (0 ≤ x2.toInt ∧ x2.toInt ≤ 401) → 805 - 2 * x2.toInt < (n : Int) → j_X2_sum_43_12 14 x1 x2 m Q) ∧ (∀ (x1 : Int32) (x2 : Int32) (m : dM), Inv g m → (4 ≤ x1.toInt ∧ x1.toInt ≤ 4) → (0 ≤ x2.toInt ∧ x2.toInt ≤ 400) → 804 - 2 * x2.toInt < (n : Int) → j_X2_sum_43_37 14 x1 x2 m Q) ∧ (∀ (m : dM), Inv g m → 1 < (n : Int) → j_X2_sum_43_67 14 m Q) ∧ (∀ (m : dM), Inv g m → 0 < (n : Int) → j_X2_sum_43_83 14 m Q) := by
  intro n
  induction n with
  | zero => exact ⟨fun x1 x2 m hI h1 h2 hμ => by exfalso; omega, fun x1 x2 m hI h1 h2 hμ => by exfalso; omega, fun m hI hμ => by exfalso; omega, fun m hI hμ => by exfalso; omega⟩
  | succ n ih =>
    refine ⟨?_, ?_, ?_, ?_⟩
    · intro x1 x2 m hI h1 h2 hμ
      refine v_X2_sum_43_12 ?_
      refine ⟨fun hc1 => ?_, fun hc1 => ?_⟩
      · skip
        exact ih.2.2.2 _ hI (by omega)
      · skip
        refine v_X2_kind_43 ?_
        refine ⟨fun hc2 => ?_, fun hc2 => ?_⟩
        · skip
          refine v_X2_kind_43_32 ?_
          have f3 := ti_24
          refine ⟨fun hc4 => ?_, fun hc4 => ?_⟩
          · skip
            exfalso; omega
          · skip
            refine v_X2_kind_43 ?_
            refine ⟨fun hc5 => ?_, fun hc5 => ?_⟩
            · skip
              refine v_X2_kind_43_32 ?_
              refine ⟨fun hc6 => ?_, fun hc6 => ?_⟩
              · skip
                exact ih.2.2.2 _ hI (by omega)
              · skip
                exfalso; omega
            · skip
              exfalso; omega
        · skip
          refine ⟨fun hc3 => ?_, fun hc3 => ?_⟩
          · skip
            refine v_X2_kind_43_32 ?_
            have f4 := ti_24
            refine ⟨fun hc5 => ?_, fun hc5 => ?_⟩
            · skip
              exfalso; omega
            · skip
              refine v_X2_kind_43 ?_
              refine ⟨fun hc6 => ?_, fun hc6 => ?_⟩
              · skip
                exfalso; omega
              · skip
                refine ⟨fun hc7 => ?_, fun hc7 => ?_⟩
                · skip
                  refine v_X2_kind_43_32 ?_
                  refine ⟨fun hc8 => ?_, fun hc8 => ?_⟩
                  · skip
                    exact ih.2.2.2 _ hI (by omega)
                  · skip
                    exfalso; omega
                · skip
                  exfalso; omega
          · skip
            refine ⟨by omega, ?_⟩
            refine ⟨fun hc4 => ?_, fun hc4 => ?_⟩
            · skip
              exact ih.2.1 _ _ _ hI (by omega) (by omega) (by omega)
            · skip
              refine v_X2_kind_43 ?_
              refine ⟨fun hc5 => ?_, fun hc5 => ?_⟩
              · skip
                exfalso; omega
              · skip
                refine ⟨fun hc6 => ?_, fun hc6 => ?_⟩
                · skip
                  exfalso; omega
                · skip
                  refine ⟨by omega, ?_⟩
                  refine ⟨fun hc7 => ?_, fun hc7 => ?_⟩
                  · skip
                    exact ih.2.2.2 _ hI (by omega)
                  · skip
                    exact ih.2.1 _ _ _ hI (by omega) (by omega) (by omega)
    · intro x1 x2 m hI h1 h2 hμ
      refine v_X2_sum_43_37 ?_
      refine v_X2_kind_43 ?_
      refine ⟨fun hc1 => ?_, fun hc1 => ?_⟩
      · skip
        refine v_X2_kind_43_32 ?_
        have f2 := ti_24
        refine ⟨fun hc3 => ?_, fun hc3 => ?_⟩
        · skip
          refine Wp.deep (s_X2_step_43 hG hI (fun R4 M4 I4 hr4 => ?_)) (Nat.le_of_ble_eq_true rfl)
          refine ⟨fun hc5 => ?_, fun hc5 => ?_⟩
          · skip
            exact ih.2.2.1 _ I4 (by omega)
          · skip
            refine Wp.deep (s_X2_product_43_L4 hG I4 (by omega) (fun R6 M6 I6 hr6 => ?_)) (Nat.le_of_ble_eq_true rfl)
            refine ⟨fun hc7 => ?_, fun hc7 => ?_⟩
            · skip
              have f8 := ti_1
              refine Wp.deep (s_X4_put_29 hG I6 (fun M9 I9 => ?_)) (Nat.le_of_ble_eq_true rfl)
              have f10 := dAddE (X := x2.toInt) (Y := 1) (x := x2) (y := (1 : Int32)) rfl (by decide) (by omega) (by omega)
              exact ih.1 _ _ _ I9 (by omega) (by omega) (by omega)
            · skip
              exact ih.2.2.1 _ I6 (by omega)
        · skip
          exfalso; omega
      · skip
        refine ⟨fun hc2 => ?_, fun hc2 => ?_⟩
        · skip
          refine v_X2_kind_43_32 ?_
          have f3 := ti_24
          refine ⟨fun hc4 => ?_, fun hc4 => ?_⟩
          · skip
            refine Wp.deep (s_X2_step_43 hG hI (fun R5 M5 I5 hr5 => ?_)) (Nat.le_of_ble_eq_true rfl)
            refine ⟨fun hc6 => ?_, fun hc6 => ?_⟩
            · skip
              exact ih.2.2.1 _ I5 (by omega)
            · skip
              refine Wp.deep (s_X2_product_43_L4 hG I5 (by omega) (fun R7 M7 I7 hr7 => ?_)) (Nat.le_of_ble_eq_true rfl)
              refine ⟨fun hc8 => ?_, fun hc8 => ?_⟩
              · skip
                have f9 := ti_1
                refine Wp.deep (s_X4_put_29 hG I7 (fun M10 I10 => ?_)) (Nat.le_of_ble_eq_true rfl)
                have f11 := dAddE (X := x2.toInt) (Y := 1) (x := x2) (y := (1 : Int32)) rfl (by decide) (by omega) (by omega)
                exact ih.1 _ _ _ I10 (by omega) (by omega) (by omega)
              · skip
                exact ih.2.2.1 _ I7 (by omega)
          · skip
            exfalso; omega
        · skip
          refine ⟨by omega, ?_⟩
          refine ⟨fun hc3 => ?_, fun hc3 => ?_⟩
          · skip
            refine Wp.deep (s_X2_step_43 hG hI (fun R4 M4 I4 hr4 => ?_)) (Nat.le_of_ble_eq_true rfl)
            refine ⟨fun hc5 => ?_, fun hc5 => ?_⟩
            · skip
              exact ih.2.2.1 _ I4 (by omega)
            · skip
              refine Wp.deep (s_X2_product_43_L4 hG I4 (by omega) (fun R6 M6 I6 hr6 => ?_)) (Nat.le_of_ble_eq_true rfl)
              refine ⟨fun hc7 => ?_, fun hc7 => ?_⟩
              · skip
                have f8 := ti_1
                refine Wp.deep (s_X4_put_29 hG I6 (fun M9 I9 => ?_)) (Nat.le_of_ble_eq_true rfl)
                have f10 := dAddE (X := x2.toInt) (Y := 1) (x := x2) (y := (1 : Int32)) rfl (by decide) (by omega) (by omega)
                exact ih.1 _ _ _ I9 (by omega) (by omega) (by omega)
              · skip
                exact ih.2.2.1 _ I6 (by omega)
          · skip
            refine Wp.deep (s_X2_step_43 hG hI (fun R4 M4 I4 hr4 => ?_)) (Nat.le_of_ble_eq_true rfl)
            refine ⟨fun hc5 => ?_, fun hc5 => ?_⟩
            · skip
              exact ih.2.2.1 _ I4 (by omega)
            · skip
              refine Wp.deep (s_X2_product_43_L4 hG I4 (by omega) (fun R6 M6 I6 hr6 => ?_)) (Nat.le_of_ble_eq_true rfl)
              refine ⟨fun hc7 => ?_, fun hc7 => ?_⟩
              · skip
                have f8 := ti_0
                refine Wp.deep (s_X4_put_29 hG I6 (fun M9 I9 => ?_)) (Nat.le_of_ble_eq_true rfl)
                have f10 := dAddE (X := x2.toInt) (Y := 1) (x := x2) (y := (1 : Int32)) rfl (by decide) (by omega) (by omega)
                exact ih.1 _ _ _ I9 (by omega) (by omega) (by omega)
              · skip
                exact ih.2.2.1 _ I6 (by omega)
    · intro m hI hμ
      refine v_X2_sum_43_67 ?_
      have f1 := ti_0
      exact hQ _ _ hI (by omega)
    · intro m hI hμ
      refine v_X2_sum_43_83 ?_
      have f1 := ti_1
      exact hQ _ _ hI (by omega)
theorem s_X2_sum_43_L4 {g : gM} {x1 : Int32} {m : dM} {Q : Int32 → dM → Prop} (hG : Gd g) (hI : Inv g m) (h1 : 4 ≤ x1.toInt ∧ x1.toInt ≤ 4) (hQ : ∀ (r : Int32) (m' : dM), Inv g m' → (0 ≤ r.toInt ∧ r.toInt ≤ 1) → Q r m') : c_X2_sum_43 14 x1 m Q := by
  refine v_X2_sum_43 ?_
  refine Wp.deep (s_X2_product_43_L4 hG hI (by omega) (fun R1 M1 I1 hr1 => ?_)) (Nat.le_of_ble_eq_true rfl)
  refine ⟨fun hc2 => ?_, fun hc2 => ?_⟩
  · skip
    have f3 := ti_0
    exact (s_X2_sum_43_L4_all hG hQ 807).1 _ _ _ I1 (by omega) (by omega) (by omega)
  · skip
    have f3 := ti_0
    exact hQ _ _ I1 (by omega)
theorem s_X2_unit_43_L3 {g : gM} {x1 : Int32} {m : dM} {Q : Int32 → dM → Prop} (hG : Gd g) (hI : Inv g m) (h1 : 3 ≤ x1.toInt ∧ x1.toInt ≤ 3) (hQ : ∀ (r : Int32) (m' : dM), Inv g m' → (0 ≤ r.toInt ∧ r.toInt ≤ 1) → Q r m') : c_X2_unit_43 15 x1 m Q := by
  refine v_X2_unit_43 ?_
  refine v_X2_kind_43 ?_
  refine ⟨fun hc1 => ?_, fun hc1 => ?_⟩
  · skip
    refine v_X2_kind_43_32 ?_
    have f2 := ti_24
    refine ⟨fun hc3 => ?_, fun hc3 => ?_⟩
    · skip
      refine ⟨fun hc4 => ?_, fun hc4 => ?_⟩
      · skip
        exfalso; omega
      · skip
        refine ⟨fun hc5 => ?_, fun hc5 => ?_⟩
        · skip
          refine v_X2_unit_43_67 ?_
          refine ⟨fun hc6 => ?_, fun hc6 => ?_⟩
          · skip
            exfalso; omega
          · skip
            have f7 := ti_1
            refine Wp.deep (s_X2_fail_43 hG hI (fun R8 M8 I8 hr8 => ?_)) (Nat.le_of_ble_eq_true rfl)
            refine ⟨dB01 (by omega), ?_⟩
            exact hQ _ _ I8 (by omega)
        · skip
          exfalso; omega
    · skip
      exfalso; omega
  · skip
    refine ⟨fun hc2 => ?_, fun hc2 => ?_⟩
    · skip
      refine v_X2_kind_43_32 ?_
      have f3 := ti_24
      refine ⟨fun hc4 => ?_, fun hc4 => ?_⟩
      · skip
        refine ⟨fun hc5 => ?_, fun hc5 => ?_⟩
        · skip
          exfalso; omega
        · skip
          refine ⟨fun hc6 => ?_, fun hc6 => ?_⟩
          · skip
            refine v_X2_unit_43_67 ?_
            refine ⟨fun hc7 => ?_, fun hc7 => ?_⟩
            · skip
              exfalso; omega
            · skip
              have f8 := ti_1
              refine Wp.deep (s_X2_fail_43 hG hI (fun R9 M9 I9 hr9 => ?_)) (Nat.le_of_ble_eq_true rfl)
              refine ⟨dB01 (by omega), ?_⟩
              exact hQ _ _ I9 (by omega)
          · skip
            exfalso; omega
      · skip
        exfalso; omega
    · skip
      refine ⟨by omega, ?_⟩
      refine ⟨fun hc3 => ?_, fun hc3 => ?_⟩
      · skip
        refine ⟨fun hc4 => ?_, fun hc4 => ?_⟩
        · skip
          refine v_X2_unit_43_67 ?_
          refine ⟨fun hc5 => ?_, fun hc5 => ?_⟩
          · skip
            exfalso; omega
          · skip
            have f6 := ti_1
            refine Wp.deep (s_X2_fail_43 hG hI (fun R7 M7 I7 hr7 => ?_)) (Nat.le_of_ble_eq_true rfl)
            refine ⟨dB01 (by omega), ?_⟩
            exact hQ _ _ I7 (by omega)
        · skip
          refine ⟨fun hc5 => ?_, fun hc5 => ?_⟩
          · skip
            refine v_X2_unit_43_67 ?_
            refine ⟨fun hc6 => ?_, fun hc6 => ?_⟩
            · skip
              refine ⟨fun hc7 => ?_, fun hc7 => ?_⟩
              · skip
                refine Wp.deep (s_X2_step_43 hG hI (fun R8 M8 I8 hr8 => ?_)) (Nat.le_of_ble_eq_true rfl)
                refine ⟨fun hc9 => ?_, fun hc9 => ?_⟩
                · skip
                  refine v_X2_unit_43_123 ?_
                  have f10 := ti_0
                  exact hQ _ _ I8 (by omega)
                · skip
                  have f10 := dAddE (X := x1.toInt) (Y := 1) (x := x1) (y := (1 : Int32)) rfl (by decide) (by omega) (by omega)
                  refine Wp.deep (s_X2_sum_43_L4 hG I8 (by omega) (fun R11 M11 I11 hr11 => ?_)) (Nat.le_of_ble_eq_true rfl)
                  refine ⟨fun hc12 => ?_, fun hc12 => ?_⟩
                  · skip
                    refine v_X2_unit_43_123 ?_
                    have f13 := ti_0
                    exact hQ _ _ I11 (by omega)
                  · skip
                    have f13 := ti_41
                    refine Wp.deep (s_X2_need_43 hG I11 (fun R14 M14 I14 hr14 => ?_)) (Nat.le_of_ble_eq_true rfl)
                    refine ⟨fun hc15 => ?_, fun hc15 => ?_⟩
                    · skip
                      refine v_X2_unit_43_123 ?_
                      have f16 := ti_0
                      exact hQ _ _ I14 (by omega)
                    · skip
                      have f16 := ti_1
                      exact hQ _ _ I14 (by omega)
              · skip
                exfalso; omega
            · skip
              have f7 := ti_1
              refine Wp.deep (s_X2_fail_43 hG hI (fun R8 M8 I8 hr8 => ?_)) (Nat.le_of_ble_eq_true rfl)
              refine ⟨dB01 (by omega), ?_⟩
              exact hQ _ _ I8 (by omega)
          · skip
            have f6 := dAddE (X := 4) (Y := (m.1 39 (m.1 43 2).toNatClampNeg).toInt) (x := (4 : Int32)) (y := (m.1 39 (m.1 43 2).toNatClampNeg)) (by decide) rfl (by omega) (by omega)
            have f7 := dSubE (X := ((4 : Int32) + (m.1 39 (m.1 43 2).toNatClampNeg)).toInt) (Y := 13) (x := ((4 : Int32) + (m.1 39 (m.1 43 2).toNatClampNeg))) (y := (13 : Int32)) rfl (by decide) (by omega) (by omega)
            refine Wp.deep (s_X4_put_29 hG hI (fun M8 I8 => ?_)) (Nat.le_of_ble_eq_true rfl)
            refine Wp.deep (s_X2_step_43 hG I8 (fun R9 M9 I9 hr9 => ?_)) (Nat.le_of_ble_eq_true rfl)
            refine ⟨dB01 (by omega), ?_⟩
            exact hQ _ _ I9 (by omega)
      · skip
        refine Wp.deep (s_X8_numberAt_38 hG hI (fun R4 => ?_)) (Nat.le_of_ble_eq_true rfl)
        refine Wp.deep (s_X4_put_29 hG hI (fun M5 I5 => ?_)) (Nat.le_of_ble_eq_true rfl)
        refine Wp.deep (s_X2_step_43 hG I5 (fun R6 M6 I6 hr6 => ?_)) (Nat.le_of_ble_eq_true rfl)
        refine ⟨dB01 (by omega), ?_⟩
        exact hQ _ _ I6 (by omega)
theorem s_X2_product_43_L3_all {g : gM} {Q : Int32 → dM → Prop} (hG : Gd g) (hQ : ∀ (r : Int32) (m' : dM), Inv g m' → (0 ≤ r.toInt ∧ r.toInt ≤ 1) → Q r m') : ∀ n : Nat, (∀ (x1 : Int32) (x2 : Int32) (m : dM), Inv g m → (3 ≤ x1.toInt ∧ x1.toInt ≤ 3) → (0 ≤ x2.toInt ∧ x2.toInt ≤ 401) → 805 - 2 * x2.toInt < (n : Int) → j_X2_product_43_12 16 x1 x2 m Q) ∧ (∀ (x1 : Int32) (x2 : Int32) (m : dM), Inv g m → (3 ≤ x1.toInt ∧ x1.toInt ≤ 3) → (0 ≤ x2.toInt ∧ x2.toInt ≤ 400) → 804 - 2 * x2.toInt < (n : Int) → j_X2_product_43_37 16 x1 x2 m Q) ∧ (∀ (m : dM), Inv g m → 1 < (n : Int) → j_X2_product_43_67 16 m Q) ∧ (∀ (m : dM), Inv g m → 0 < (n : Int) → j_X2_product_43_83 16 m Q) := by
  intro n
  induction n with
  | zero => exact ⟨fun x1 x2 m hI h1 h2 hμ => by exfalso; omega, fun x1 x2 m hI h1 h2 hμ => by exfalso; omega, fun m hI hμ => by exfalso; omega, fun m hI hμ => by exfalso; omega⟩
  | succ n ih =>
    refine ⟨?_, ?_, ?_, ?_⟩
    · intro x1 x2 m hI h1 h2 hμ
      refine v_X2_product_43_12 ?_
      refine ⟨fun hc1 => ?_, fun hc1 => ?_⟩
      · skip
        exact ih.2.2.2 _ hI (by omega)
      · skip
        refine v_X2_kind_43 ?_
        refine ⟨fun hc2 => ?_, fun hc2 => ?_⟩
        · skip
          refine v_X2_kind_43_32 ?_
          have f3 := ti_24
          refine ⟨fun hc4 => ?_, fun hc4 => ?_⟩
          · skip
            exfalso; omega
          · skip
            refine v_X2_kind_43 ?_
            refine ⟨fun hc5 => ?_, fun hc5 => ?_⟩
            · skip
              refine v_X2_kind_43_32 ?_
              refine ⟨fun hc6 => ?_, fun hc6 => ?_⟩
              · skip
                exact ih.2.2.2 _ hI (by omega)
              · skip
                exfalso; omega
            · skip
              exfalso; omega
        · skip
          refine ⟨fun hc3 => ?_, fun hc3 => ?_⟩
          · skip
            refine v_X2_kind_43_32 ?_
            have f4 := ti_24
            refine ⟨fun hc5 => ?_, fun hc5 => ?_⟩
            · skip
              exfalso; omega
            · skip
              refine v_X2_kind_43 ?_
              refine ⟨fun hc6 => ?_, fun hc6 => ?_⟩
              · skip
                exfalso; omega
              · skip
                refine ⟨fun hc7 => ?_, fun hc7 => ?_⟩
                · skip
                  refine v_X2_kind_43_32 ?_
                  refine ⟨fun hc8 => ?_, fun hc8 => ?_⟩
                  · skip
                    exact ih.2.2.2 _ hI (by omega)
                  · skip
                    exfalso; omega
                · skip
                  exfalso; omega
          · skip
            refine ⟨by omega, ?_⟩
            refine ⟨fun hc4 => ?_, fun hc4 => ?_⟩
            · skip
              exact ih.2.1 _ _ _ hI (by omega) (by omega) (by omega)
            · skip
              refine v_X2_kind_43 ?_
              refine ⟨fun hc5 => ?_, fun hc5 => ?_⟩
              · skip
                exfalso; omega
              · skip
                refine ⟨fun hc6 => ?_, fun hc6 => ?_⟩
                · skip
                  exfalso; omega
                · skip
                  refine ⟨by omega, ?_⟩
                  refine ⟨fun hc7 => ?_, fun hc7 => ?_⟩
                  · skip
                    exact ih.2.2.2 _ hI (by omega)
                  · skip
                    exact ih.2.1 _ _ _ hI (by omega) (by omega) (by omega)
    · intro x1 x2 m hI h1 h2 hμ
      refine v_X2_product_43_37 ?_
      refine v_X2_kind_43 ?_
      refine ⟨fun hc1 => ?_, fun hc1 => ?_⟩
      · skip
        refine v_X2_kind_43_32 ?_
        have f2 := ti_24
        refine ⟨fun hc3 => ?_, fun hc3 => ?_⟩
        · skip
          refine Wp.deep (s_X2_step_43 hG hI (fun R4 M4 I4 hr4 => ?_)) (Nat.le_of_ble_eq_true rfl)
          refine ⟨fun hc5 => ?_, fun hc5 => ?_⟩
          · skip
            exact ih.2.2.1 _ I4 (by omega)
          · skip
            refine Wp.deep (s_X2_unit_43_L3 hG I4 (by omega) (fun R6 M6 I6 hr6 => ?_)) (Nat.le_of_ble_eq_true rfl)
            refine ⟨fun hc7 => ?_, fun hc7 => ?_⟩
            · skip
              have f8 := ti_3
              refine Wp.deep (s_X4_put_29 hG I6 (fun M9 I9 => ?_)) (Nat.le_of_ble_eq_true rfl)
              have f10 := dAddE (X := x2.toInt) (Y := 1) (x := x2) (y := (1 : Int32)) rfl (by decide) (by omega) (by omega)
              exact ih.1 _ _ _ I9 (by omega) (by omega) (by omega)
            · skip
              exact ih.2.2.1 _ I6 (by omega)
        · skip
          exfalso; omega
      · skip
        refine ⟨fun hc2 => ?_, fun hc2 => ?_⟩
        · skip
          refine v_X2_kind_43_32 ?_
          have f3 := ti_24
          refine ⟨fun hc4 => ?_, fun hc4 => ?_⟩
          · skip
            refine Wp.deep (s_X2_step_43 hG hI (fun R5 M5 I5 hr5 => ?_)) (Nat.le_of_ble_eq_true rfl)
            refine ⟨fun hc6 => ?_, fun hc6 => ?_⟩
            · skip
              exact ih.2.2.1 _ I5 (by omega)
            · skip
              refine Wp.deep (s_X2_unit_43_L3 hG I5 (by omega) (fun R7 M7 I7 hr7 => ?_)) (Nat.le_of_ble_eq_true rfl)
              refine ⟨fun hc8 => ?_, fun hc8 => ?_⟩
              · skip
                have f9 := ti_3
                refine Wp.deep (s_X4_put_29 hG I7 (fun M10 I10 => ?_)) (Nat.le_of_ble_eq_true rfl)
                have f11 := dAddE (X := x2.toInt) (Y := 1) (x := x2) (y := (1 : Int32)) rfl (by decide) (by omega) (by omega)
                exact ih.1 _ _ _ I10 (by omega) (by omega) (by omega)
              · skip
                exact ih.2.2.1 _ I7 (by omega)
          · skip
            exfalso; omega
        · skip
          refine ⟨by omega, ?_⟩
          refine ⟨fun hc3 => ?_, fun hc3 => ?_⟩
          · skip
            refine Wp.deep (s_X2_step_43 hG hI (fun R4 M4 I4 hr4 => ?_)) (Nat.le_of_ble_eq_true rfl)
            refine ⟨fun hc5 => ?_, fun hc5 => ?_⟩
            · skip
              exact ih.2.2.1 _ I4 (by omega)
            · skip
              refine Wp.deep (s_X2_unit_43_L3 hG I4 (by omega) (fun R6 M6 I6 hr6 => ?_)) (Nat.le_of_ble_eq_true rfl)
              refine ⟨fun hc7 => ?_, fun hc7 => ?_⟩
              · skip
                have f8 := ti_3
                refine Wp.deep (s_X4_put_29 hG I6 (fun M9 I9 => ?_)) (Nat.le_of_ble_eq_true rfl)
                have f10 := dAddE (X := x2.toInt) (Y := 1) (x := x2) (y := (1 : Int32)) rfl (by decide) (by omega) (by omega)
                exact ih.1 _ _ _ I9 (by omega) (by omega) (by omega)
              · skip
                exact ih.2.2.1 _ I6 (by omega)
          · skip
            refine Wp.deep (s_X2_step_43 hG hI (fun R4 M4 I4 hr4 => ?_)) (Nat.le_of_ble_eq_true rfl)
            refine ⟨fun hc5 => ?_, fun hc5 => ?_⟩
            · skip
              exact ih.2.2.1 _ I4 (by omega)
            · skip
              refine Wp.deep (s_X2_unit_43_L3 hG I4 (by omega) (fun R6 M6 I6 hr6 => ?_)) (Nat.le_of_ble_eq_true rfl)
              refine ⟨fun hc7 => ?_, fun hc7 => ?_⟩
              · skip
                have f8 := ti_2
                refine Wp.deep (s_X4_put_29 hG I6 (fun M9 I9 => ?_)) (Nat.le_of_ble_eq_true rfl)
                have f10 := dAddE (X := x2.toInt) (Y := 1) (x := x2) (y := (1 : Int32)) rfl (by decide) (by omega) (by omega)
                exact ih.1 _ _ _ I9 (by omega) (by omega) (by omega)
              · skip
                exact ih.2.2.1 _ I6 (by omega)
    · intro m hI hμ
      refine v_X2_product_43_67 ?_
      have f1 := ti_0
      exact hQ _ _ hI (by omega)
    · intro m hI hμ
      refine v_X2_product_43_83 ?_
      have f1 := ti_1
      exact hQ _ _ hI (by omega)
theorem s_X2_product_43_L3 {g : gM} {x1 : Int32} {m : dM} {Q : Int32 → dM → Prop} (hG : Gd g) (hI : Inv g m) (h1 : 3 ≤ x1.toInt ∧ x1.toInt ≤ 3) (hQ : ∀ (r : Int32) (m' : dM), Inv g m' → (0 ≤ r.toInt ∧ r.toInt ≤ 1) → Q r m') : c_X2_product_43 16 x1 m Q := by
  refine v_X2_product_43 ?_
  refine Wp.deep (s_X2_unit_43_L3 hG hI (by omega) (fun R1 M1 I1 hr1 => ?_)) (Nat.le_of_ble_eq_true rfl)
  refine ⟨fun hc2 => ?_, fun hc2 => ?_⟩
  · skip
    have f3 := ti_0
    exact (s_X2_product_43_L3_all hG hQ 807).1 _ _ _ I1 (by omega) (by omega) (by omega)
  · skip
    have f3 := ti_0
    exact hQ _ _ I1 (by omega)
theorem s_X2_sum_43_L3_all {g : gM} {Q : Int32 → dM → Prop} (hG : Gd g) (hQ : ∀ (r : Int32) (m' : dM), Inv g m' → (0 ≤ r.toInt ∧ r.toInt ≤ 1) → Q r m') : ∀ n : Nat, (∀ (x1 : Int32) (x2 : Int32) (m : dM), Inv g m → (3 ≤ x1.toInt ∧ x1.toInt ≤ 3) → (0 ≤ x2.toInt ∧ x2.toInt ≤ 401) → 805 - 2 * x2.toInt < (n : Int) → j_X2_sum_43_12 17 x1 x2 m Q) ∧ (∀ (x1 : Int32) (x2 : Int32) (m : dM), Inv g m → (3 ≤ x1.toInt ∧ x1.toInt ≤ 3) → (0 ≤ x2.toInt ∧ x2.toInt ≤ 400) → 804 - 2 * x2.toInt < (n : Int) → j_X2_sum_43_37 17 x1 x2 m Q) ∧ (∀ (m : dM), Inv g m → 1 < (n : Int) → j_X2_sum_43_67 17 m Q) ∧ (∀ (m : dM), Inv g m → 0 < (n : Int) → j_X2_sum_43_83 17 m Q) := by
  intro n
  induction n with
  | zero => exact ⟨fun x1 x2 m hI h1 h2 hμ => by exfalso; omega, fun x1 x2 m hI h1 h2 hμ => by exfalso; omega, fun m hI hμ => by exfalso; omega, fun m hI hμ => by exfalso; omega⟩
  | succ n ih =>
    refine ⟨?_, ?_, ?_, ?_⟩
    · intro x1 x2 m hI h1 h2 hμ
      refine v_X2_sum_43_12 ?_
      refine ⟨fun hc1 => ?_, fun hc1 => ?_⟩
      · skip
        exact ih.2.2.2 _ hI (by omega)
      · skip
        refine v_X2_kind_43 ?_
        refine ⟨fun hc2 => ?_, fun hc2 => ?_⟩
        · skip
          refine v_X2_kind_43_32 ?_
          have f3 := ti_24
          refine ⟨fun hc4 => ?_, fun hc4 => ?_⟩
          · skip
            exfalso; omega
          · skip
            refine v_X2_kind_43 ?_
            refine ⟨fun hc5 => ?_, fun hc5 => ?_⟩
            · skip
              refine v_X2_kind_43_32 ?_
              refine ⟨fun hc6 => ?_, fun hc6 => ?_⟩
              · skip
                exact ih.2.2.2 _ hI (by omega)
              · skip
                exfalso; omega
            · skip
              exfalso; omega
        · skip
          refine ⟨fun hc3 => ?_, fun hc3 => ?_⟩
          · skip
            refine v_X2_kind_43_32 ?_
            have f4 := ti_24
            refine ⟨fun hc5 => ?_, fun hc5 => ?_⟩
            · skip
              exfalso; omega
            · skip
              refine v_X2_kind_43 ?_
              refine ⟨fun hc6 => ?_, fun hc6 => ?_⟩
              · skip
                exfalso; omega
              · skip
                refine ⟨fun hc7 => ?_, fun hc7 => ?_⟩
                · skip
                  refine v_X2_kind_43_32 ?_
                  refine ⟨fun hc8 => ?_, fun hc8 => ?_⟩
                  · skip
                    exact ih.2.2.2 _ hI (by omega)
                  · skip
                    exfalso; omega
                · skip
                  exfalso; omega
          · skip
            refine ⟨by omega, ?_⟩
            refine ⟨fun hc4 => ?_, fun hc4 => ?_⟩
            · skip
              exact ih.2.1 _ _ _ hI (by omega) (by omega) (by omega)
            · skip
              refine v_X2_kind_43 ?_
              refine ⟨fun hc5 => ?_, fun hc5 => ?_⟩
              · skip
                exfalso; omega
              · skip
                refine ⟨fun hc6 => ?_, fun hc6 => ?_⟩
                · skip
                  exfalso; omega
                · skip
                  refine ⟨by omega, ?_⟩
                  refine ⟨fun hc7 => ?_, fun hc7 => ?_⟩
                  · skip
                    exact ih.2.2.2 _ hI (by omega)
                  · skip
                    exact ih.2.1 _ _ _ hI (by omega) (by omega) (by omega)
    · intro x1 x2 m hI h1 h2 hμ
      refine v_X2_sum_43_37 ?_
      refine v_X2_kind_43 ?_
      refine ⟨fun hc1 => ?_, fun hc1 => ?_⟩
      · skip
        refine v_X2_kind_43_32 ?_
        have f2 := ti_24
        refine ⟨fun hc3 => ?_, fun hc3 => ?_⟩
        · skip
          refine Wp.deep (s_X2_step_43 hG hI (fun R4 M4 I4 hr4 => ?_)) (Nat.le_of_ble_eq_true rfl)
          refine ⟨fun hc5 => ?_, fun hc5 => ?_⟩
          · skip
            exact ih.2.2.1 _ I4 (by omega)
          · skip
            refine Wp.deep (s_X2_product_43_L3 hG I4 (by omega) (fun R6 M6 I6 hr6 => ?_)) (Nat.le_of_ble_eq_true rfl)
            refine ⟨fun hc7 => ?_, fun hc7 => ?_⟩
            · skip
              have f8 := ti_1
              refine Wp.deep (s_X4_put_29 hG I6 (fun M9 I9 => ?_)) (Nat.le_of_ble_eq_true rfl)
              have f10 := dAddE (X := x2.toInt) (Y := 1) (x := x2) (y := (1 : Int32)) rfl (by decide) (by omega) (by omega)
              exact ih.1 _ _ _ I9 (by omega) (by omega) (by omega)
            · skip
              exact ih.2.2.1 _ I6 (by omega)
        · skip
          exfalso; omega
      · skip
        refine ⟨fun hc2 => ?_, fun hc2 => ?_⟩
        · skip
          refine v_X2_kind_43_32 ?_
          have f3 := ti_24
          refine ⟨fun hc4 => ?_, fun hc4 => ?_⟩
          · skip
            refine Wp.deep (s_X2_step_43 hG hI (fun R5 M5 I5 hr5 => ?_)) (Nat.le_of_ble_eq_true rfl)
            refine ⟨fun hc6 => ?_, fun hc6 => ?_⟩
            · skip
              exact ih.2.2.1 _ I5 (by omega)
            · skip
              refine Wp.deep (s_X2_product_43_L3 hG I5 (by omega) (fun R7 M7 I7 hr7 => ?_)) (Nat.le_of_ble_eq_true rfl)
              refine ⟨fun hc8 => ?_, fun hc8 => ?_⟩
              · skip
                have f9 := ti_1
                refine Wp.deep (s_X4_put_29 hG I7 (fun M10 I10 => ?_)) (Nat.le_of_ble_eq_true rfl)
                have f11 := dAddE (X := x2.toInt) (Y := 1) (x := x2) (y := (1 : Int32)) rfl (by decide) (by omega) (by omega)
                exact ih.1 _ _ _ I10 (by omega) (by omega) (by omega)
              · skip
                exact ih.2.2.1 _ I7 (by omega)
          · skip
            exfalso; omega
        · skip
          refine ⟨by omega, ?_⟩
          refine ⟨fun hc3 => ?_, fun hc3 => ?_⟩
          · skip
            refine Wp.deep (s_X2_step_43 hG hI (fun R4 M4 I4 hr4 => ?_)) (Nat.le_of_ble_eq_true rfl)
            refine ⟨fun hc5 => ?_, fun hc5 => ?_⟩
            · skip
              exact ih.2.2.1 _ I4 (by omega)
            · skip
              refine Wp.deep (s_X2_product_43_L3 hG I4 (by omega) (fun R6 M6 I6 hr6 => ?_)) (Nat.le_of_ble_eq_true rfl)
              refine ⟨fun hc7 => ?_, fun hc7 => ?_⟩
              · skip
                have f8 := ti_1
                refine Wp.deep (s_X4_put_29 hG I6 (fun M9 I9 => ?_)) (Nat.le_of_ble_eq_true rfl)
                have f10 := dAddE (X := x2.toInt) (Y := 1) (x := x2) (y := (1 : Int32)) rfl (by decide) (by omega) (by omega)
                exact ih.1 _ _ _ I9 (by omega) (by omega) (by omega)
              · skip
                exact ih.2.2.1 _ I6 (by omega)
          · skip
            refine Wp.deep (s_X2_step_43 hG hI (fun R4 M4 I4 hr4 => ?_)) (Nat.le_of_ble_eq_true rfl)
            refine ⟨fun hc5 => ?_, fun hc5 => ?_⟩
            · skip
              exact ih.2.2.1 _ I4 (by omega)
            · skip
              refine Wp.deep (s_X2_product_43_L3 hG I4 (by omega) (fun R6 M6 I6 hr6 => ?_)) (Nat.le_of_ble_eq_true rfl)
              refine ⟨fun hc7 => ?_, fun hc7 => ?_⟩
              · skip
                have f8 := ti_0
                refine Wp.deep (s_X4_put_29 hG I6 (fun M9 I9 => ?_)) (Nat.le_of_ble_eq_true rfl)
                have f10 := dAddE (X := x2.toInt) (Y := 1) (x := x2) (y := (1 : Int32)) rfl (by decide) (by omega) (by omega)
                exact ih.1 _ _ _ I9 (by omega) (by omega) (by omega)
              · skip
                exact ih.2.2.1 _ I6 (by omega)
    · intro m hI hμ
      refine v_X2_sum_43_67 ?_
      have f1 := ti_0
      exact hQ _ _ hI (by omega)
    · intro m hI hμ
      refine v_X2_sum_43_83 ?_
      have f1 := ti_1
      exact hQ _ _ hI (by omega)
theorem s_X2_sum_43_L3 {g : gM} {x1 : Int32} {m : dM} {Q : Int32 → dM → Prop} (hG : Gd g) (hI : Inv g m) (h1 : 3 ≤ x1.toInt ∧ x1.toInt ≤ 3) (hQ : ∀ (r : Int32) (m' : dM), Inv g m' → (0 ≤ r.toInt ∧ r.toInt ≤ 1) → Q r m') : c_X2_sum_43 17 x1 m Q := by
  refine v_X2_sum_43 ?_
  refine Wp.deep (s_X2_product_43_L3 hG hI (by omega) (fun R1 M1 I1 hr1 => ?_)) (Nat.le_of_ble_eq_true rfl)
  refine ⟨fun hc2 => ?_, fun hc2 => ?_⟩
  · skip
    have f3 := ti_0
    exact (s_X2_sum_43_L3_all hG hQ 807).1 _ _ _ I1 (by omega) (by omega) (by omega)
  · skip
    have f3 := ti_0
    exact hQ _ _ I1 (by omega)
theorem s_X2_unit_43_L2 {g : gM} {x1 : Int32} {m : dM} {Q : Int32 → dM → Prop} (hG : Gd g) (hI : Inv g m) (h1 : 2 ≤ x1.toInt ∧ x1.toInt ≤ 2) (hQ : ∀ (r : Int32) (m' : dM), Inv g m' → (0 ≤ r.toInt ∧ r.toInt ≤ 1) → Q r m') : c_X2_unit_43 18 x1 m Q := by
  refine v_X2_unit_43 ?_
  refine v_X2_kind_43 ?_
  refine ⟨fun hc1 => ?_, fun hc1 => ?_⟩
  · skip
    refine v_X2_kind_43_32 ?_
    have f2 := ti_24
    refine ⟨fun hc3 => ?_, fun hc3 => ?_⟩
    · skip
      refine ⟨fun hc4 => ?_, fun hc4 => ?_⟩
      · skip
        exfalso; omega
      · skip
        refine ⟨fun hc5 => ?_, fun hc5 => ?_⟩
        · skip
          refine v_X2_unit_43_67 ?_
          refine ⟨fun hc6 => ?_, fun hc6 => ?_⟩
          · skip
            exfalso; omega
          · skip
            have f7 := ti_1
            refine Wp.deep (s_X2_fail_43 hG hI (fun R8 M8 I8 hr8 => ?_)) (Nat.le_of_ble_eq_true rfl)
            refine ⟨dB01 (by omega), ?_⟩
            exact hQ _ _ I8 (by omega)
        · skip
          exfalso; omega
    · skip
      exfalso; omega
  · skip
    refine ⟨fun hc2 => ?_, fun hc2 => ?_⟩
    · skip
      refine v_X2_kind_43_32 ?_
      have f3 := ti_24
      refine ⟨fun hc4 => ?_, fun hc4 => ?_⟩
      · skip
        refine ⟨fun hc5 => ?_, fun hc5 => ?_⟩
        · skip
          exfalso; omega
        · skip
          refine ⟨fun hc6 => ?_, fun hc6 => ?_⟩
          · skip
            refine v_X2_unit_43_67 ?_
            refine ⟨fun hc7 => ?_, fun hc7 => ?_⟩
            · skip
              exfalso; omega
            · skip
              have f8 := ti_1
              refine Wp.deep (s_X2_fail_43 hG hI (fun R9 M9 I9 hr9 => ?_)) (Nat.le_of_ble_eq_true rfl)
              refine ⟨dB01 (by omega), ?_⟩
              exact hQ _ _ I9 (by omega)
          · skip
            exfalso; omega
      · skip
        exfalso; omega
    · skip
      refine ⟨by omega, ?_⟩
      refine ⟨fun hc3 => ?_, fun hc3 => ?_⟩
      · skip
        refine ⟨fun hc4 => ?_, fun hc4 => ?_⟩
        · skip
          refine v_X2_unit_43_67 ?_
          refine ⟨fun hc5 => ?_, fun hc5 => ?_⟩
          · skip
            exfalso; omega
          · skip
            have f6 := ti_1
            refine Wp.deep (s_X2_fail_43 hG hI (fun R7 M7 I7 hr7 => ?_)) (Nat.le_of_ble_eq_true rfl)
            refine ⟨dB01 (by omega), ?_⟩
            exact hQ _ _ I7 (by omega)
        · skip
          refine ⟨fun hc5 => ?_, fun hc5 => ?_⟩
          · skip
            refine v_X2_unit_43_67 ?_
            refine ⟨fun hc6 => ?_, fun hc6 => ?_⟩
            · skip
              refine ⟨fun hc7 => ?_, fun hc7 => ?_⟩
              · skip
                refine Wp.deep (s_X2_step_43 hG hI (fun R8 M8 I8 hr8 => ?_)) (Nat.le_of_ble_eq_true rfl)
                refine ⟨fun hc9 => ?_, fun hc9 => ?_⟩
                · skip
                  refine v_X2_unit_43_123 ?_
                  have f10 := ti_0
                  exact hQ _ _ I8 (by omega)
                · skip
                  have f10 := dAddE (X := x1.toInt) (Y := 1) (x := x1) (y := (1 : Int32)) rfl (by decide) (by omega) (by omega)
                  refine Wp.deep (s_X2_sum_43_L3 hG I8 (by omega) (fun R11 M11 I11 hr11 => ?_)) (Nat.le_of_ble_eq_true rfl)
                  refine ⟨fun hc12 => ?_, fun hc12 => ?_⟩
                  · skip
                    refine v_X2_unit_43_123 ?_
                    have f13 := ti_0
                    exact hQ _ _ I11 (by omega)
                  · skip
                    have f13 := ti_41
                    refine Wp.deep (s_X2_need_43 hG I11 (fun R14 M14 I14 hr14 => ?_)) (Nat.le_of_ble_eq_true rfl)
                    refine ⟨fun hc15 => ?_, fun hc15 => ?_⟩
                    · skip
                      refine v_X2_unit_43_123 ?_
                      have f16 := ti_0
                      exact hQ _ _ I14 (by omega)
                    · skip
                      have f16 := ti_1
                      exact hQ _ _ I14 (by omega)
              · skip
                exfalso; omega
            · skip
              have f7 := ti_1
              refine Wp.deep (s_X2_fail_43 hG hI (fun R8 M8 I8 hr8 => ?_)) (Nat.le_of_ble_eq_true rfl)
              refine ⟨dB01 (by omega), ?_⟩
              exact hQ _ _ I8 (by omega)
          · skip
            have f6 := dAddE (X := 4) (Y := (m.1 39 (m.1 43 2).toNatClampNeg).toInt) (x := (4 : Int32)) (y := (m.1 39 (m.1 43 2).toNatClampNeg)) (by decide) rfl (by omega) (by omega)
            have f7 := dSubE (X := ((4 : Int32) + (m.1 39 (m.1 43 2).toNatClampNeg)).toInt) (Y := 13) (x := ((4 : Int32) + (m.1 39 (m.1 43 2).toNatClampNeg))) (y := (13 : Int32)) rfl (by decide) (by omega) (by omega)
            refine Wp.deep (s_X4_put_29 hG hI (fun M8 I8 => ?_)) (Nat.le_of_ble_eq_true rfl)
            refine Wp.deep (s_X2_step_43 hG I8 (fun R9 M9 I9 hr9 => ?_)) (Nat.le_of_ble_eq_true rfl)
            refine ⟨dB01 (by omega), ?_⟩
            exact hQ _ _ I9 (by omega)
      · skip
        refine Wp.deep (s_X8_numberAt_38 hG hI (fun R4 => ?_)) (Nat.le_of_ble_eq_true rfl)
        refine Wp.deep (s_X4_put_29 hG hI (fun M5 I5 => ?_)) (Nat.le_of_ble_eq_true rfl)
        refine Wp.deep (s_X2_step_43 hG I5 (fun R6 M6 I6 hr6 => ?_)) (Nat.le_of_ble_eq_true rfl)
        refine ⟨dB01 (by omega), ?_⟩
        exact hQ _ _ I6 (by omega)
theorem s_X2_product_43_L2_all {g : gM} {Q : Int32 → dM → Prop} (hG : Gd g) (hQ : ∀ (r : Int32) (m' : dM), Inv g m' → (0 ≤ r.toInt ∧ r.toInt ≤ 1) → Q r m') : ∀ n : Nat, (∀ (x1 : Int32) (x2 : Int32) (m : dM), Inv g m → (2 ≤ x1.toInt ∧ x1.toInt ≤ 2) → (0 ≤ x2.toInt ∧ x2.toInt ≤ 401) → 805 - 2 * x2.toInt < (n : Int) → j_X2_product_43_12 19 x1 x2 m Q) ∧ (∀ (x1 : Int32) (x2 : Int32) (m : dM), Inv g m → (2 ≤ x1.toInt ∧ x1.toInt ≤ 2) → (0 ≤ x2.toInt ∧ x2.toInt ≤ 400) → 804 - 2 * x2.toInt < (n : Int) → j_X2_product_43_37 19 x1 x2 m Q) ∧ (∀ (m : dM), Inv g m → 1 < (n : Int) → j_X2_product_43_67 19 m Q) ∧ (∀ (m : dM), Inv g m → 0 < (n : Int) → j_X2_product_43_83 19 m Q) := by
  intro n
  induction n with
  | zero => exact ⟨fun x1 x2 m hI h1 h2 hμ => by exfalso; omega, fun x1 x2 m hI h1 h2 hμ => by exfalso; omega, fun m hI hμ => by exfalso; omega, fun m hI hμ => by exfalso; omega⟩
  | succ n ih =>
    refine ⟨?_, ?_, ?_, ?_⟩
    · intro x1 x2 m hI h1 h2 hμ
      refine v_X2_product_43_12 ?_
      refine ⟨fun hc1 => ?_, fun hc1 => ?_⟩
      · skip
        exact ih.2.2.2 _ hI (by omega)
      · skip
        refine v_X2_kind_43 ?_
        refine ⟨fun hc2 => ?_, fun hc2 => ?_⟩
        · skip
          refine v_X2_kind_43_32 ?_
          have f3 := ti_24
          refine ⟨fun hc4 => ?_, fun hc4 => ?_⟩
          · skip
            exfalso; omega
          · skip
            refine v_X2_kind_43 ?_
            refine ⟨fun hc5 => ?_, fun hc5 => ?_⟩
            · skip
              refine v_X2_kind_43_32 ?_
              refine ⟨fun hc6 => ?_, fun hc6 => ?_⟩
              · skip
                exact ih.2.2.2 _ hI (by omega)
              · skip
                exfalso; omega
            · skip
              exfalso; omega
        · skip
          refine ⟨fun hc3 => ?_, fun hc3 => ?_⟩
          · skip
            refine v_X2_kind_43_32 ?_
            have f4 := ti_24
            refine ⟨fun hc5 => ?_, fun hc5 => ?_⟩
            · skip
              exfalso; omega
            · skip
              refine v_X2_kind_43 ?_
              refine ⟨fun hc6 => ?_, fun hc6 => ?_⟩
              · skip
                exfalso; omega
              · skip
                refine ⟨fun hc7 => ?_, fun hc7 => ?_⟩
                · skip
                  refine v_X2_kind_43_32 ?_
                  refine ⟨fun hc8 => ?_, fun hc8 => ?_⟩
                  · skip
                    exact ih.2.2.2 _ hI (by omega)
                  · skip
                    exfalso; omega
                · skip
                  exfalso; omega
          · skip
            refine ⟨by omega, ?_⟩
            refine ⟨fun hc4 => ?_, fun hc4 => ?_⟩
            · skip
              exact ih.2.1 _ _ _ hI (by omega) (by omega) (by omega)
            · skip
              refine v_X2_kind_43 ?_
              refine ⟨fun hc5 => ?_, fun hc5 => ?_⟩
              · skip
                exfalso; omega
              · skip
                refine ⟨fun hc6 => ?_, fun hc6 => ?_⟩
                · skip
                  exfalso; omega
                · skip
                  refine ⟨by omega, ?_⟩
                  refine ⟨fun hc7 => ?_, fun hc7 => ?_⟩
                  · skip
                    exact ih.2.2.2 _ hI (by omega)
                  · skip
                    exact ih.2.1 _ _ _ hI (by omega) (by omega) (by omega)
    · intro x1 x2 m hI h1 h2 hμ
      refine v_X2_product_43_37 ?_
      refine v_X2_kind_43 ?_
      refine ⟨fun hc1 => ?_, fun hc1 => ?_⟩
      · skip
        refine v_X2_kind_43_32 ?_
        have f2 := ti_24
        refine ⟨fun hc3 => ?_, fun hc3 => ?_⟩
        · skip
          refine Wp.deep (s_X2_step_43 hG hI (fun R4 M4 I4 hr4 => ?_)) (Nat.le_of_ble_eq_true rfl)
          refine ⟨fun hc5 => ?_, fun hc5 => ?_⟩
          · skip
            exact ih.2.2.1 _ I4 (by omega)
          · skip
            refine Wp.deep (s_X2_unit_43_L2 hG I4 (by omega) (fun R6 M6 I6 hr6 => ?_)) (Nat.le_of_ble_eq_true rfl)
            refine ⟨fun hc7 => ?_, fun hc7 => ?_⟩
            · skip
              have f8 := ti_3
              refine Wp.deep (s_X4_put_29 hG I6 (fun M9 I9 => ?_)) (Nat.le_of_ble_eq_true rfl)
              have f10 := dAddE (X := x2.toInt) (Y := 1) (x := x2) (y := (1 : Int32)) rfl (by decide) (by omega) (by omega)
              exact ih.1 _ _ _ I9 (by omega) (by omega) (by omega)
            · skip
              exact ih.2.2.1 _ I6 (by omega)
        · skip
          exfalso; omega
      · skip
        refine ⟨fun hc2 => ?_, fun hc2 => ?_⟩
        · skip
          refine v_X2_kind_43_32 ?_
          have f3 := ti_24
          refine ⟨fun hc4 => ?_, fun hc4 => ?_⟩
          · skip
            refine Wp.deep (s_X2_step_43 hG hI (fun R5 M5 I5 hr5 => ?_)) (Nat.le_of_ble_eq_true rfl)
            refine ⟨fun hc6 => ?_, fun hc6 => ?_⟩
            · skip
              exact ih.2.2.1 _ I5 (by omega)
            · skip
              refine Wp.deep (s_X2_unit_43_L2 hG I5 (by omega) (fun R7 M7 I7 hr7 => ?_)) (Nat.le_of_ble_eq_true rfl)
              refine ⟨fun hc8 => ?_, fun hc8 => ?_⟩
              · skip
                have f9 := ti_3
                refine Wp.deep (s_X4_put_29 hG I7 (fun M10 I10 => ?_)) (Nat.le_of_ble_eq_true rfl)
                have f11 := dAddE (X := x2.toInt) (Y := 1) (x := x2) (y := (1 : Int32)) rfl (by decide) (by omega) (by omega)
                exact ih.1 _ _ _ I10 (by omega) (by omega) (by omega)
              · skip
                exact ih.2.2.1 _ I7 (by omega)
          · skip
            exfalso; omega
        · skip
          refine ⟨by omega, ?_⟩
          refine ⟨fun hc3 => ?_, fun hc3 => ?_⟩
          · skip
            refine Wp.deep (s_X2_step_43 hG hI (fun R4 M4 I4 hr4 => ?_)) (Nat.le_of_ble_eq_true rfl)
            refine ⟨fun hc5 => ?_, fun hc5 => ?_⟩
            · skip
              exact ih.2.2.1 _ I4 (by omega)
            · skip
              refine Wp.deep (s_X2_unit_43_L2 hG I4 (by omega) (fun R6 M6 I6 hr6 => ?_)) (Nat.le_of_ble_eq_true rfl)
              refine ⟨fun hc7 => ?_, fun hc7 => ?_⟩
              · skip
                have f8 := ti_3
                refine Wp.deep (s_X4_put_29 hG I6 (fun M9 I9 => ?_)) (Nat.le_of_ble_eq_true rfl)
                have f10 := dAddE (X := x2.toInt) (Y := 1) (x := x2) (y := (1 : Int32)) rfl (by decide) (by omega) (by omega)
                exact ih.1 _ _ _ I9 (by omega) (by omega) (by omega)
              · skip
                exact ih.2.2.1 _ I6 (by omega)
          · skip
            refine Wp.deep (s_X2_step_43 hG hI (fun R4 M4 I4 hr4 => ?_)) (Nat.le_of_ble_eq_true rfl)
            refine ⟨fun hc5 => ?_, fun hc5 => ?_⟩
            · skip
              exact ih.2.2.1 _ I4 (by omega)
            · skip
              refine Wp.deep (s_X2_unit_43_L2 hG I4 (by omega) (fun R6 M6 I6 hr6 => ?_)) (Nat.le_of_ble_eq_true rfl)
              refine ⟨fun hc7 => ?_, fun hc7 => ?_⟩
              · skip
                have f8 := ti_2
                refine Wp.deep (s_X4_put_29 hG I6 (fun M9 I9 => ?_)) (Nat.le_of_ble_eq_true rfl)
                have f10 := dAddE (X := x2.toInt) (Y := 1) (x := x2) (y := (1 : Int32)) rfl (by decide) (by omega) (by omega)
                exact ih.1 _ _ _ I9 (by omega) (by omega) (by omega)
              · skip
                exact ih.2.2.1 _ I6 (by omega)
    · intro m hI hμ
      refine v_X2_product_43_67 ?_
      have f1 := ti_0
      exact hQ _ _ hI (by omega)
    · intro m hI hμ
      refine v_X2_product_43_83 ?_
      have f1 := ti_1
      exact hQ _ _ hI (by omega)
theorem s_X2_product_43_L2 {g : gM} {x1 : Int32} {m : dM} {Q : Int32 → dM → Prop} (hG : Gd g) (hI : Inv g m) (h1 : 2 ≤ x1.toInt ∧ x1.toInt ≤ 2) (hQ : ∀ (r : Int32) (m' : dM), Inv g m' → (0 ≤ r.toInt ∧ r.toInt ≤ 1) → Q r m') : c_X2_product_43 19 x1 m Q := by
  refine v_X2_product_43 ?_
  refine Wp.deep (s_X2_unit_43_L2 hG hI (by omega) (fun R1 M1 I1 hr1 => ?_)) (Nat.le_of_ble_eq_true rfl)
  refine ⟨fun hc2 => ?_, fun hc2 => ?_⟩
  · skip
    have f3 := ti_0
    exact (s_X2_product_43_L2_all hG hQ 807).1 _ _ _ I1 (by omega) (by omega) (by omega)
  · skip
    have f3 := ti_0
    exact hQ _ _ I1 (by omega)
theorem s_X2_sum_43_L2_all {g : gM} {Q : Int32 → dM → Prop} (hG : Gd g) (hQ : ∀ (r : Int32) (m' : dM), Inv g m' → (0 ≤ r.toInt ∧ r.toInt ≤ 1) → Q r m') : ∀ n : Nat, (∀ (x1 : Int32) (x2 : Int32) (m : dM), Inv g m → (2 ≤ x1.toInt ∧ x1.toInt ≤ 2) → (0 ≤ x2.toInt ∧ x2.toInt ≤ 401) → 805 - 2 * x2.toInt < (n : Int) → j_X2_sum_43_12 20 x1 x2 m Q) ∧ (∀ (x1 : Int32) (x2 : Int32) (m : dM), Inv g m → (2 ≤ x1.toInt ∧ x1.toInt ≤ 2) → (0 ≤ x2.toInt ∧ x2.toInt ≤ 400) → 804 - 2 * x2.toInt < (n : Int) → j_X2_sum_43_37 20 x1 x2 m Q) ∧ (∀ (m : dM), Inv g m → 1 < (n : Int) → j_X2_sum_43_67 20 m Q) ∧ (∀ (m : dM), Inv g m → 0 < (n : Int) → j_X2_sum_43_83 20 m Q) := by
  intro n
  induction n with
  | zero => exact ⟨fun x1 x2 m hI h1 h2 hμ => by exfalso; omega, fun x1 x2 m hI h1 h2 hμ => by exfalso; omega, fun m hI hμ => by exfalso; omega, fun m hI hμ => by exfalso; omega⟩
  | succ n ih =>
    refine ⟨?_, ?_, ?_, ?_⟩
    · intro x1 x2 m hI h1 h2 hμ
      refine v_X2_sum_43_12 ?_
      refine ⟨fun hc1 => ?_, fun hc1 => ?_⟩
      · skip
        exact ih.2.2.2 _ hI (by omega)
      · skip
        refine v_X2_kind_43 ?_
        refine ⟨fun hc2 => ?_, fun hc2 => ?_⟩
        · skip
          refine v_X2_kind_43_32 ?_
          have f3 := ti_24
          refine ⟨fun hc4 => ?_, fun hc4 => ?_⟩
          · skip
            exfalso; omega
          · skip
            refine v_X2_kind_43 ?_
            refine ⟨fun hc5 => ?_, fun hc5 => ?_⟩
            · skip
              refine v_X2_kind_43_32 ?_
              refine ⟨fun hc6 => ?_, fun hc6 => ?_⟩
              · skip
                exact ih.2.2.2 _ hI (by omega)
              · skip
                exfalso; omega
            · skip
              exfalso; omega
        · skip
          refine ⟨fun hc3 => ?_, fun hc3 => ?_⟩
          · skip
            refine v_X2_kind_43_32 ?_
            have f4 := ti_24
            refine ⟨fun hc5 => ?_, fun hc5 => ?_⟩
            · skip
              exfalso; omega
            · skip
              refine v_X2_kind_43 ?_
              refine ⟨fun hc6 => ?_, fun hc6 => ?_⟩
              · skip
                exfalso; omega
              · skip
                refine ⟨fun hc7 => ?_, fun hc7 => ?_⟩
                · skip
                  refine v_X2_kind_43_32 ?_
                  refine ⟨fun hc8 => ?_, fun hc8 => ?_⟩
                  · skip
                    exact ih.2.2.2 _ hI (by omega)
                  · skip
                    exfalso; omega
                · skip
                  exfalso; omega
          · skip
            refine ⟨by omega, ?_⟩
            refine ⟨fun hc4 => ?_, fun hc4 => ?_⟩
            · skip
              exact ih.2.1 _ _ _ hI (by omega) (by omega) (by omega)
            · skip
              refine v_X2_kind_43 ?_
              refine ⟨fun hc5 => ?_, fun hc5 => ?_⟩
              · skip
                exfalso; omega
              · skip
                refine ⟨fun hc6 => ?_, fun hc6 => ?_⟩
                · skip
                  exfalso; omega
                · skip
                  refine ⟨by omega, ?_⟩
                  refine ⟨fun hc7 => ?_, fun hc7 => ?_⟩
                  · skip
                    exact ih.2.2.2 _ hI (by omega)
                  · skip
                    exact ih.2.1 _ _ _ hI (by omega) (by omega) (by omega)
    · intro x1 x2 m hI h1 h2 hμ
      refine v_X2_sum_43_37 ?_
      refine v_X2_kind_43 ?_
      refine ⟨fun hc1 => ?_, fun hc1 => ?_⟩
      · skip
        refine v_X2_kind_43_32 ?_
        have f2 := ti_24
        refine ⟨fun hc3 => ?_, fun hc3 => ?_⟩
        · skip
          refine Wp.deep (s_X2_step_43 hG hI (fun R4 M4 I4 hr4 => ?_)) (Nat.le_of_ble_eq_true rfl)
          refine ⟨fun hc5 => ?_, fun hc5 => ?_⟩
          · skip
            exact ih.2.2.1 _ I4 (by omega)
          · skip
            refine Wp.deep (s_X2_product_43_L2 hG I4 (by omega) (fun R6 M6 I6 hr6 => ?_)) (Nat.le_of_ble_eq_true rfl)
            refine ⟨fun hc7 => ?_, fun hc7 => ?_⟩
            · skip
              have f8 := ti_1
              refine Wp.deep (s_X4_put_29 hG I6 (fun M9 I9 => ?_)) (Nat.le_of_ble_eq_true rfl)
              have f10 := dAddE (X := x2.toInt) (Y := 1) (x := x2) (y := (1 : Int32)) rfl (by decide) (by omega) (by omega)
              exact ih.1 _ _ _ I9 (by omega) (by omega) (by omega)
            · skip
              exact ih.2.2.1 _ I6 (by omega)
        · skip
          exfalso; omega
      · skip
        refine ⟨fun hc2 => ?_, fun hc2 => ?_⟩
        · skip
          refine v_X2_kind_43_32 ?_
          have f3 := ti_24
          refine ⟨fun hc4 => ?_, fun hc4 => ?_⟩
          · skip
            refine Wp.deep (s_X2_step_43 hG hI (fun R5 M5 I5 hr5 => ?_)) (Nat.le_of_ble_eq_true rfl)
            refine ⟨fun hc6 => ?_, fun hc6 => ?_⟩
            · skip
              exact ih.2.2.1 _ I5 (by omega)
            · skip
              refine Wp.deep (s_X2_product_43_L2 hG I5 (by omega) (fun R7 M7 I7 hr7 => ?_)) (Nat.le_of_ble_eq_true rfl)
              refine ⟨fun hc8 => ?_, fun hc8 => ?_⟩
              · skip
                have f9 := ti_1
                refine Wp.deep (s_X4_put_29 hG I7 (fun M10 I10 => ?_)) (Nat.le_of_ble_eq_true rfl)
                have f11 := dAddE (X := x2.toInt) (Y := 1) (x := x2) (y := (1 : Int32)) rfl (by decide) (by omega) (by omega)
                exact ih.1 _ _ _ I10 (by omega) (by omega) (by omega)
              · skip
                exact ih.2.2.1 _ I7 (by omega)
          · skip
            exfalso; omega
        · skip
          refine ⟨by omega, ?_⟩
          refine ⟨fun hc3 => ?_, fun hc3 => ?_⟩
          · skip
            refine Wp.deep (s_X2_step_43 hG hI (fun R4 M4 I4 hr4 => ?_)) (Nat.le_of_ble_eq_true rfl)
            refine ⟨fun hc5 => ?_, fun hc5 => ?_⟩
            · skip
              exact ih.2.2.1 _ I4 (by omega)
            · skip
              refine Wp.deep (s_X2_product_43_L2 hG I4 (by omega) (fun R6 M6 I6 hr6 => ?_)) (Nat.le_of_ble_eq_true rfl)
              refine ⟨fun hc7 => ?_, fun hc7 => ?_⟩
              · skip
                have f8 := ti_1
                refine Wp.deep (s_X4_put_29 hG I6 (fun M9 I9 => ?_)) (Nat.le_of_ble_eq_true rfl)
                have f10 := dAddE (X := x2.toInt) (Y := 1) (x := x2) (y := (1 : Int32)) rfl (by decide) (by omega) (by omega)
                exact ih.1 _ _ _ I9 (by omega) (by omega) (by omega)
              · skip
                exact ih.2.2.1 _ I6 (by omega)
          · skip
            refine Wp.deep (s_X2_step_43 hG hI (fun R4 M4 I4 hr4 => ?_)) (Nat.le_of_ble_eq_true rfl)
            refine ⟨fun hc5 => ?_, fun hc5 => ?_⟩
            · skip
              exact ih.2.2.1 _ I4 (by omega)
            · skip
              refine Wp.deep (s_X2_product_43_L2 hG I4 (by omega) (fun R6 M6 I6 hr6 => ?_)) (Nat.le_of_ble_eq_true rfl)
              refine ⟨fun hc7 => ?_, fun hc7 => ?_⟩
              · skip
                have f8 := ti_0
                refine Wp.deep (s_X4_put_29 hG I6 (fun M9 I9 => ?_)) (Nat.le_of_ble_eq_true rfl)
                have f10 := dAddE (X := x2.toInt) (Y := 1) (x := x2) (y := (1 : Int32)) rfl (by decide) (by omega) (by omega)
                exact ih.1 _ _ _ I9 (by omega) (by omega) (by omega)
              · skip
                exact ih.2.2.1 _ I6 (by omega)
    · intro m hI hμ
      refine v_X2_sum_43_67 ?_
      have f1 := ti_0
      exact hQ _ _ hI (by omega)
    · intro m hI hμ
      refine v_X2_sum_43_83 ?_
      have f1 := ti_1
      exact hQ _ _ hI (by omega)
theorem s_X2_sum_43_L2 {g : gM} {x1 : Int32} {m : dM} {Q : Int32 → dM → Prop} (hG : Gd g) (hI : Inv g m) (h1 : 2 ≤ x1.toInt ∧ x1.toInt ≤ 2) (hQ : ∀ (r : Int32) (m' : dM), Inv g m' → (0 ≤ r.toInt ∧ r.toInt ≤ 1) → Q r m') : c_X2_sum_43 20 x1 m Q := by
  refine v_X2_sum_43 ?_
  refine Wp.deep (s_X2_product_43_L2 hG hI (by omega) (fun R1 M1 I1 hr1 => ?_)) (Nat.le_of_ble_eq_true rfl)
  refine ⟨fun hc2 => ?_, fun hc2 => ?_⟩
  · skip
    have f3 := ti_0
    exact (s_X2_sum_43_L2_all hG hQ 807).1 _ _ _ I1 (by omega) (by omega) (by omega)
  · skip
    have f3 := ti_0
    exact hQ _ _ I1 (by omega)
theorem s_X2_unit_43_L1 {g : gM} {x1 : Int32} {m : dM} {Q : Int32 → dM → Prop} (hG : Gd g) (hI : Inv g m) (h1 : 1 ≤ x1.toInt ∧ x1.toInt ≤ 1) (hQ : ∀ (r : Int32) (m' : dM), Inv g m' → (0 ≤ r.toInt ∧ r.toInt ≤ 1) → Q r m') : c_X2_unit_43 21 x1 m Q := by
  refine v_X2_unit_43 ?_
  refine v_X2_kind_43 ?_
  refine ⟨fun hc1 => ?_, fun hc1 => ?_⟩
  · skip
    refine v_X2_kind_43_32 ?_
    have f2 := ti_24
    refine ⟨fun hc3 => ?_, fun hc3 => ?_⟩
    · skip
      refine ⟨fun hc4 => ?_, fun hc4 => ?_⟩
      · skip
        exfalso; omega
      · skip
        refine ⟨fun hc5 => ?_, fun hc5 => ?_⟩
        · skip
          refine v_X2_unit_43_67 ?_
          refine ⟨fun hc6 => ?_, fun hc6 => ?_⟩
          · skip
            exfalso; omega
          · skip
            have f7 := ti_1
            refine Wp.deep (s_X2_fail_43 hG hI (fun R8 M8 I8 hr8 => ?_)) (Nat.le_of_ble_eq_true rfl)
            refine ⟨dB01 (by omega), ?_⟩
            exact hQ _ _ I8 (by omega)
        · skip
          exfalso; omega
    · skip
      exfalso; omega
  · skip
    refine ⟨fun hc2 => ?_, fun hc2 => ?_⟩
    · skip
      refine v_X2_kind_43_32 ?_
      have f3 := ti_24
      refine ⟨fun hc4 => ?_, fun hc4 => ?_⟩
      · skip
        refine ⟨fun hc5 => ?_, fun hc5 => ?_⟩
        · skip
          exfalso; omega
        · skip
          refine ⟨fun hc6 => ?_, fun hc6 => ?_⟩
          · skip
            refine v_X2_unit_43_67 ?_
            refine ⟨fun hc7 => ?_, fun hc7 => ?_⟩
            · skip
              exfalso; omega
            · skip
              have f8 := ti_1
              refine Wp.deep (s_X2_fail_43 hG hI (fun R9 M9 I9 hr9 => ?_)) (Nat.le_of_ble_eq_true rfl)
              refine ⟨dB01 (by omega), ?_⟩
              exact hQ _ _ I9 (by omega)
          · skip
            exfalso; omega
      · skip
        exfalso; omega
    · skip
      refine ⟨by omega, ?_⟩
      refine ⟨fun hc3 => ?_, fun hc3 => ?_⟩
      · skip
        refine ⟨fun hc4 => ?_, fun hc4 => ?_⟩
        · skip
          refine v_X2_unit_43_67 ?_
          refine ⟨fun hc5 => ?_, fun hc5 => ?_⟩
          · skip
            exfalso; omega
          · skip
            have f6 := ti_1
            refine Wp.deep (s_X2_fail_43 hG hI (fun R7 M7 I7 hr7 => ?_)) (Nat.le_of_ble_eq_true rfl)
            refine ⟨dB01 (by omega), ?_⟩
            exact hQ _ _ I7 (by omega)
        · skip
          refine ⟨fun hc5 => ?_, fun hc5 => ?_⟩
          · skip
            refine v_X2_unit_43_67 ?_
            refine ⟨fun hc6 => ?_, fun hc6 => ?_⟩
            · skip
              refine ⟨fun hc7 => ?_, fun hc7 => ?_⟩
              · skip
                refine Wp.deep (s_X2_step_43 hG hI (fun R8 M8 I8 hr8 => ?_)) (Nat.le_of_ble_eq_true rfl)
                refine ⟨fun hc9 => ?_, fun hc9 => ?_⟩
                · skip
                  refine v_X2_unit_43_123 ?_
                  have f10 := ti_0
                  exact hQ _ _ I8 (by omega)
                · skip
                  have f10 := dAddE (X := x1.toInt) (Y := 1) (x := x1) (y := (1 : Int32)) rfl (by decide) (by omega) (by omega)
                  refine Wp.deep (s_X2_sum_43_L2 hG I8 (by omega) (fun R11 M11 I11 hr11 => ?_)) (Nat.le_of_ble_eq_true rfl)
                  refine ⟨fun hc12 => ?_, fun hc12 => ?_⟩
                  · skip
                    refine v_X2_unit_43_123 ?_
                    have f13 := ti_0
                    exact hQ _ _ I11 (by omega)
                  · skip
                    have f13 := ti_41
                    refine Wp.deep (s_X2_need_43 hG I11 (fun R14 M14 I14 hr14 => ?_)) (Nat.le_of_ble_eq_true rfl)
                    refine ⟨fun hc15 => ?_, fun hc15 => ?_⟩
                    · skip
                      refine v_X2_unit_43_123 ?_
                      have f16 := ti_0
                      exact hQ _ _ I14 (by omega)
                    · skip
                      have f16 := ti_1
                      exact hQ _ _ I14 (by omega)
              · skip
                exfalso; omega
            · skip
              have f7 := ti_1
              refine Wp.deep (s_X2_fail_43 hG hI (fun R8 M8 I8 hr8 => ?_)) (Nat.le_of_ble_eq_true rfl)
              refine ⟨dB01 (by omega), ?_⟩
              exact hQ _ _ I8 (by omega)
          · skip
            have f6 := dAddE (X := 4) (Y := (m.1 39 (m.1 43 2).toNatClampNeg).toInt) (x := (4 : Int32)) (y := (m.1 39 (m.1 43 2).toNatClampNeg)) (by decide) rfl (by omega) (by omega)
            have f7 := dSubE (X := ((4 : Int32) + (m.1 39 (m.1 43 2).toNatClampNeg)).toInt) (Y := 13) (x := ((4 : Int32) + (m.1 39 (m.1 43 2).toNatClampNeg))) (y := (13 : Int32)) rfl (by decide) (by omega) (by omega)
            refine Wp.deep (s_X4_put_29 hG hI (fun M8 I8 => ?_)) (Nat.le_of_ble_eq_true rfl)
            refine Wp.deep (s_X2_step_43 hG I8 (fun R9 M9 I9 hr9 => ?_)) (Nat.le_of_ble_eq_true rfl)
            refine ⟨dB01 (by omega), ?_⟩
            exact hQ _ _ I9 (by omega)
      · skip
        refine Wp.deep (s_X8_numberAt_38 hG hI (fun R4 => ?_)) (Nat.le_of_ble_eq_true rfl)
        refine Wp.deep (s_X4_put_29 hG hI (fun M5 I5 => ?_)) (Nat.le_of_ble_eq_true rfl)
        refine Wp.deep (s_X2_step_43 hG I5 (fun R6 M6 I6 hr6 => ?_)) (Nat.le_of_ble_eq_true rfl)
        refine ⟨dB01 (by omega), ?_⟩
        exact hQ _ _ I6 (by omega)
theorem s_X2_product_43_L1_all {g : gM} {Q : Int32 → dM → Prop} (hG : Gd g) (hQ : ∀ (r : Int32) (m' : dM), Inv g m' → (0 ≤ r.toInt ∧ r.toInt ≤ 1) → Q r m') : ∀ n : Nat, (∀ (x1 : Int32) (x2 : Int32) (m : dM), Inv g m → (1 ≤ x1.toInt ∧ x1.toInt ≤ 1) → (0 ≤ x2.toInt ∧ x2.toInt ≤ 401) → 805 - 2 * x2.toInt < (n : Int) → j_X2_product_43_12 22 x1 x2 m Q) ∧ (∀ (x1 : Int32) (x2 : Int32) (m : dM), Inv g m → (1 ≤ x1.toInt ∧ x1.toInt ≤ 1) → (0 ≤ x2.toInt ∧ x2.toInt ≤ 400) → 804 - 2 * x2.toInt < (n : Int) → j_X2_product_43_37 22 x1 x2 m Q) ∧ (∀ (m : dM), Inv g m → 1 < (n : Int) → j_X2_product_43_67 22 m Q) ∧ (∀ (m : dM), Inv g m → 0 < (n : Int) → j_X2_product_43_83 22 m Q) := by
  intro n
  induction n with
  | zero => exact ⟨fun x1 x2 m hI h1 h2 hμ => by exfalso; omega, fun x1 x2 m hI h1 h2 hμ => by exfalso; omega, fun m hI hμ => by exfalso; omega, fun m hI hμ => by exfalso; omega⟩
  | succ n ih =>
    refine ⟨?_, ?_, ?_, ?_⟩
    · intro x1 x2 m hI h1 h2 hμ
      refine v_X2_product_43_12 ?_
      refine ⟨fun hc1 => ?_, fun hc1 => ?_⟩
      · skip
        exact ih.2.2.2 _ hI (by omega)
      · skip
        refine v_X2_kind_43 ?_
        refine ⟨fun hc2 => ?_, fun hc2 => ?_⟩
        · skip
          refine v_X2_kind_43_32 ?_
          have f3 := ti_24
          refine ⟨fun hc4 => ?_, fun hc4 => ?_⟩
          · skip
            exfalso; omega
          · skip
            refine v_X2_kind_43 ?_
            refine ⟨fun hc5 => ?_, fun hc5 => ?_⟩
            · skip
              refine v_X2_kind_43_32 ?_
              refine ⟨fun hc6 => ?_, fun hc6 => ?_⟩
              · skip
                exact ih.2.2.2 _ hI (by omega)
              · skip
                exfalso; omega
            · skip
              exfalso; omega
        · skip
          refine ⟨fun hc3 => ?_, fun hc3 => ?_⟩
          · skip
            refine v_X2_kind_43_32 ?_
            have f4 := ti_24
            refine ⟨fun hc5 => ?_, fun hc5 => ?_⟩
            · skip
              exfalso; omega
            · skip
              refine v_X2_kind_43 ?_
              refine ⟨fun hc6 => ?_, fun hc6 => ?_⟩
              · skip
                exfalso; omega
              · skip
                refine ⟨fun hc7 => ?_, fun hc7 => ?_⟩
                · skip
                  refine v_X2_kind_43_32 ?_
                  refine ⟨fun hc8 => ?_, fun hc8 => ?_⟩
                  · skip
                    exact ih.2.2.2 _ hI (by omega)
                  · skip
                    exfalso; omega
                · skip
                  exfalso; omega
          · skip
            refine ⟨by omega, ?_⟩
            refine ⟨fun hc4 => ?_, fun hc4 => ?_⟩
            · skip
              exact ih.2.1 _ _ _ hI (by omega) (by omega) (by omega)
            · skip
              refine v_X2_kind_43 ?_
              refine ⟨fun hc5 => ?_, fun hc5 => ?_⟩
              · skip
                exfalso; omega
              · skip
                refine ⟨fun hc6 => ?_, fun hc6 => ?_⟩
                · skip
                  exfalso; omega
                · skip
                  refine ⟨by omega, ?_⟩
                  refine ⟨fun hc7 => ?_, fun hc7 => ?_⟩
                  · skip
                    exact ih.2.2.2 _ hI (by omega)
                  · skip
                    exact ih.2.1 _ _ _ hI (by omega) (by omega) (by omega)
    · intro x1 x2 m hI h1 h2 hμ
      refine v_X2_product_43_37 ?_
      refine v_X2_kind_43 ?_
      refine ⟨fun hc1 => ?_, fun hc1 => ?_⟩
      · skip
        refine v_X2_kind_43_32 ?_
        have f2 := ti_24
        refine ⟨fun hc3 => ?_, fun hc3 => ?_⟩
        · skip
          refine Wp.deep (s_X2_step_43 hG hI (fun R4 M4 I4 hr4 => ?_)) (Nat.le_of_ble_eq_true rfl)
          refine ⟨fun hc5 => ?_, fun hc5 => ?_⟩
          · skip
            exact ih.2.2.1 _ I4 (by omega)
          · skip
            refine Wp.deep (s_X2_unit_43_L1 hG I4 (by omega) (fun R6 M6 I6 hr6 => ?_)) (Nat.le_of_ble_eq_true rfl)
            refine ⟨fun hc7 => ?_, fun hc7 => ?_⟩
            · skip
              have f8 := ti_3
              refine Wp.deep (s_X4_put_29 hG I6 (fun M9 I9 => ?_)) (Nat.le_of_ble_eq_true rfl)
              have f10 := dAddE (X := x2.toInt) (Y := 1) (x := x2) (y := (1 : Int32)) rfl (by decide) (by omega) (by omega)
              exact ih.1 _ _ _ I9 (by omega) (by omega) (by omega)
            · skip
              exact ih.2.2.1 _ I6 (by omega)
        · skip
          exfalso; omega
      · skip
        refine ⟨fun hc2 => ?_, fun hc2 => ?_⟩
        · skip
          refine v_X2_kind_43_32 ?_
          have f3 := ti_24
          refine ⟨fun hc4 => ?_, fun hc4 => ?_⟩
          · skip
            refine Wp.deep (s_X2_step_43 hG hI (fun R5 M5 I5 hr5 => ?_)) (Nat.le_of_ble_eq_true rfl)
            refine ⟨fun hc6 => ?_, fun hc6 => ?_⟩
            · skip
              exact ih.2.2.1 _ I5 (by omega)
            · skip
              refine Wp.deep (s_X2_unit_43_L1 hG I5 (by omega) (fun R7 M7 I7 hr7 => ?_)) (Nat.le_of_ble_eq_true rfl)
              refine ⟨fun hc8 => ?_, fun hc8 => ?_⟩
              · skip
                have f9 := ti_3
                refine Wp.deep (s_X4_put_29 hG I7 (fun M10 I10 => ?_)) (Nat.le_of_ble_eq_true rfl)
                have f11 := dAddE (X := x2.toInt) (Y := 1) (x := x2) (y := (1 : Int32)) rfl (by decide) (by omega) (by omega)
                exact ih.1 _ _ _ I10 (by omega) (by omega) (by omega)
              · skip
                exact ih.2.2.1 _ I7 (by omega)
          · skip
            exfalso; omega
        · skip
          refine ⟨by omega, ?_⟩
          refine ⟨fun hc3 => ?_, fun hc3 => ?_⟩
          · skip
            refine Wp.deep (s_X2_step_43 hG hI (fun R4 M4 I4 hr4 => ?_)) (Nat.le_of_ble_eq_true rfl)
            refine ⟨fun hc5 => ?_, fun hc5 => ?_⟩
            · skip
              exact ih.2.2.1 _ I4 (by omega)
            · skip
              refine Wp.deep (s_X2_unit_43_L1 hG I4 (by omega) (fun R6 M6 I6 hr6 => ?_)) (Nat.le_of_ble_eq_true rfl)
              refine ⟨fun hc7 => ?_, fun hc7 => ?_⟩
              · skip
                have f8 := ti_3
                refine Wp.deep (s_X4_put_29 hG I6 (fun M9 I9 => ?_)) (Nat.le_of_ble_eq_true rfl)
                have f10 := dAddE (X := x2.toInt) (Y := 1) (x := x2) (y := (1 : Int32)) rfl (by decide) (by omega) (by omega)
                exact ih.1 _ _ _ I9 (by omega) (by omega) (by omega)
              · skip
                exact ih.2.2.1 _ I6 (by omega)
          · skip
            refine Wp.deep (s_X2_step_43 hG hI (fun R4 M4 I4 hr4 => ?_)) (Nat.le_of_ble_eq_true rfl)
            refine ⟨fun hc5 => ?_, fun hc5 => ?_⟩
            · skip
              exact ih.2.2.1 _ I4 (by omega)
            · skip
              refine Wp.deep (s_X2_unit_43_L1 hG I4 (by omega) (fun R6 M6 I6 hr6 => ?_)) (Nat.le_of_ble_eq_true rfl)
              refine ⟨fun hc7 => ?_, fun hc7 => ?_⟩
              · skip
                have f8 := ti_2
                refine Wp.deep (s_X4_put_29 hG I6 (fun M9 I9 => ?_)) (Nat.le_of_ble_eq_true rfl)
                have f10 := dAddE (X := x2.toInt) (Y := 1) (x := x2) (y := (1 : Int32)) rfl (by decide) (by omega) (by omega)
                exact ih.1 _ _ _ I9 (by omega) (by omega) (by omega)
              · skip
                exact ih.2.2.1 _ I6 (by omega)
    · intro m hI hμ
      refine v_X2_product_43_67 ?_
      have f1 := ti_0
      exact hQ _ _ hI (by omega)
    · intro m hI hμ
      refine v_X2_product_43_83 ?_
      have f1 := ti_1
      exact hQ _ _ hI (by omega)
theorem s_X2_product_43_L1 {g : gM} {x1 : Int32} {m : dM} {Q : Int32 → dM → Prop} (hG : Gd g) (hI : Inv g m) (h1 : 1 ≤ x1.toInt ∧ x1.toInt ≤ 1) (hQ : ∀ (r : Int32) (m' : dM), Inv g m' → (0 ≤ r.toInt ∧ r.toInt ≤ 1) → Q r m') : c_X2_product_43 22 x1 m Q := by
  refine v_X2_product_43 ?_
  refine Wp.deep (s_X2_unit_43_L1 hG hI (by omega) (fun R1 M1 I1 hr1 => ?_)) (Nat.le_of_ble_eq_true rfl)
  refine ⟨fun hc2 => ?_, fun hc2 => ?_⟩
  · skip
    have f3 := ti_0
    exact (s_X2_product_43_L1_all hG hQ 807).1 _ _ _ I1 (by omega) (by omega) (by omega)
  · skip
    have f3 := ti_0
    exact hQ _ _ I1 (by omega)
theorem s_X2_sum_43_L1_all {g : gM} {Q : Int32 → dM → Prop} (hG : Gd g) (hQ : ∀ (r : Int32) (m' : dM), Inv g m' → (0 ≤ r.toInt ∧ r.toInt ≤ 1) → Q r m') : ∀ n : Nat, (∀ (x1 : Int32) (x2 : Int32) (m : dM), Inv g m → (1 ≤ x1.toInt ∧ x1.toInt ≤ 1) → (0 ≤ x2.toInt ∧ x2.toInt ≤ 401) → 805 - 2 * x2.toInt < (n : Int) → j_X2_sum_43_12 23 x1 x2 m Q) ∧ (∀ (x1 : Int32) (x2 : Int32) (m : dM), Inv g m → (1 ≤ x1.toInt ∧ x1.toInt ≤ 1) → (0 ≤ x2.toInt ∧ x2.toInt ≤ 400) → 804 - 2 * x2.toInt < (n : Int) → j_X2_sum_43_37 23 x1 x2 m Q) ∧ (∀ (m : dM), Inv g m → 1 < (n : Int) → j_X2_sum_43_67 23 m Q) ∧ (∀ (m : dM), Inv g m → 0 < (n : Int) → j_X2_sum_43_83 23 m Q) := by
  intro n
  induction n with
  | zero => exact ⟨fun x1 x2 m hI h1 h2 hμ => by exfalso; omega, fun x1 x2 m hI h1 h2 hμ => by exfalso; omega, fun m hI hμ => by exfalso; omega, fun m hI hμ => by exfalso; omega⟩
  | succ n ih =>
    refine ⟨?_, ?_, ?_, ?_⟩
    · intro x1 x2 m hI h1 h2 hμ
      refine v_X2_sum_43_12 ?_
      refine ⟨fun hc1 => ?_, fun hc1 => ?_⟩
      · skip
        exact ih.2.2.2 _ hI (by omega)
      · skip
        refine v_X2_kind_43 ?_
        refine ⟨fun hc2 => ?_, fun hc2 => ?_⟩
        · skip
          refine v_X2_kind_43_32 ?_
          have f3 := ti_24
          refine ⟨fun hc4 => ?_, fun hc4 => ?_⟩
          · skip
            exfalso; omega
          · skip
            refine v_X2_kind_43 ?_
            refine ⟨fun hc5 => ?_, fun hc5 => ?_⟩
            · skip
              refine v_X2_kind_43_32 ?_
              refine ⟨fun hc6 => ?_, fun hc6 => ?_⟩
              · skip
                exact ih.2.2.2 _ hI (by omega)
              · skip
                exfalso; omega
            · skip
              exfalso; omega
        · skip
          refine ⟨fun hc3 => ?_, fun hc3 => ?_⟩
          · skip
            refine v_X2_kind_43_32 ?_
            have f4 := ti_24
            refine ⟨fun hc5 => ?_, fun hc5 => ?_⟩
            · skip
              exfalso; omega
            · skip
              refine v_X2_kind_43 ?_
              refine ⟨fun hc6 => ?_, fun hc6 => ?_⟩
              · skip
                exfalso; omega
              · skip
                refine ⟨fun hc7 => ?_, fun hc7 => ?_⟩
                · skip
                  refine v_X2_kind_43_32 ?_
                  refine ⟨fun hc8 => ?_, fun hc8 => ?_⟩
                  · skip
                    exact ih.2.2.2 _ hI (by omega)
                  · skip
                    exfalso; omega
                · skip
                  exfalso; omega
          · skip
            refine ⟨by omega, ?_⟩
            refine ⟨fun hc4 => ?_, fun hc4 => ?_⟩
            · skip
              exact ih.2.1 _ _ _ hI (by omega) (by omega) (by omega)
            · skip
              refine v_X2_kind_43 ?_
              refine ⟨fun hc5 => ?_, fun hc5 => ?_⟩
              · skip
                exfalso; omega
              · skip
                refine ⟨fun hc6 => ?_, fun hc6 => ?_⟩
                · skip
                  exfalso; omega
                · skip
                  refine ⟨by omega, ?_⟩
                  refine ⟨fun hc7 => ?_, fun hc7 => ?_⟩
                  · skip
                    exact ih.2.2.2 _ hI (by omega)
                  · skip
                    exact ih.2.1 _ _ _ hI (by omega) (by omega) (by omega)
    · intro x1 x2 m hI h1 h2 hμ
      refine v_X2_sum_43_37 ?_
      refine v_X2_kind_43 ?_
      refine ⟨fun hc1 => ?_, fun hc1 => ?_⟩
      · skip
        refine v_X2_kind_43_32 ?_
        have f2 := ti_24
        refine ⟨fun hc3 => ?_, fun hc3 => ?_⟩
        · skip
          refine Wp.deep (s_X2_step_43 hG hI (fun R4 M4 I4 hr4 => ?_)) (Nat.le_of_ble_eq_true rfl)
          refine ⟨fun hc5 => ?_, fun hc5 => ?_⟩
          · skip
            exact ih.2.2.1 _ I4 (by omega)
          · skip
            refine Wp.deep (s_X2_product_43_L1 hG I4 (by omega) (fun R6 M6 I6 hr6 => ?_)) (Nat.le_of_ble_eq_true rfl)
            refine ⟨fun hc7 => ?_, fun hc7 => ?_⟩
            · skip
              have f8 := ti_1
              refine Wp.deep (s_X4_put_29 hG I6 (fun M9 I9 => ?_)) (Nat.le_of_ble_eq_true rfl)
              have f10 := dAddE (X := x2.toInt) (Y := 1) (x := x2) (y := (1 : Int32)) rfl (by decide) (by omega) (by omega)
              exact ih.1 _ _ _ I9 (by omega) (by omega) (by omega)
            · skip
              exact ih.2.2.1 _ I6 (by omega)
        · skip
          exfalso; omega
      · skip
        refine ⟨fun hc2 => ?_, fun hc2 => ?_⟩
        · skip
          refine v_X2_kind_43_32 ?_
          have f3 := ti_24
          refine ⟨fun hc4 => ?_, fun hc4 => ?_⟩
          · skip
            refine Wp.deep (s_X2_step_43 hG hI (fun R5 M5 I5 hr5 => ?_)) (Nat.le_of_ble_eq_true rfl)
            refine ⟨fun hc6 => ?_, fun hc6 => ?_⟩
            · skip
              exact ih.2.2.1 _ I5 (by omega)
            · skip
              refine Wp.deep (s_X2_product_43_L1 hG I5 (by omega) (fun R7 M7 I7 hr7 => ?_)) (Nat.le_of_ble_eq_true rfl)
              refine ⟨fun hc8 => ?_, fun hc8 => ?_⟩
              · skip
                have f9 := ti_1
                refine Wp.deep (s_X4_put_29 hG I7 (fun M10 I10 => ?_)) (Nat.le_of_ble_eq_true rfl)
                have f11 := dAddE (X := x2.toInt) (Y := 1) (x := x2) (y := (1 : Int32)) rfl (by decide) (by omega) (by omega)
                exact ih.1 _ _ _ I10 (by omega) (by omega) (by omega)
              · skip
                exact ih.2.2.1 _ I7 (by omega)
          · skip
            exfalso; omega
        · skip
          refine ⟨by omega, ?_⟩
          refine ⟨fun hc3 => ?_, fun hc3 => ?_⟩
          · skip
            refine Wp.deep (s_X2_step_43 hG hI (fun R4 M4 I4 hr4 => ?_)) (Nat.le_of_ble_eq_true rfl)
            refine ⟨fun hc5 => ?_, fun hc5 => ?_⟩
            · skip
              exact ih.2.2.1 _ I4 (by omega)
            · skip
              refine Wp.deep (s_X2_product_43_L1 hG I4 (by omega) (fun R6 M6 I6 hr6 => ?_)) (Nat.le_of_ble_eq_true rfl)
              refine ⟨fun hc7 => ?_, fun hc7 => ?_⟩
              · skip
                have f8 := ti_1
                refine Wp.deep (s_X4_put_29 hG I6 (fun M9 I9 => ?_)) (Nat.le_of_ble_eq_true rfl)
                have f10 := dAddE (X := x2.toInt) (Y := 1) (x := x2) (y := (1 : Int32)) rfl (by decide) (by omega) (by omega)
                exact ih.1 _ _ _ I9 (by omega) (by omega) (by omega)
              · skip
                exact ih.2.2.1 _ I6 (by omega)
          · skip
            refine Wp.deep (s_X2_step_43 hG hI (fun R4 M4 I4 hr4 => ?_)) (Nat.le_of_ble_eq_true rfl)
            refine ⟨fun hc5 => ?_, fun hc5 => ?_⟩
            · skip
              exact ih.2.2.1 _ I4 (by omega)
            · skip
              refine Wp.deep (s_X2_product_43_L1 hG I4 (by omega) (fun R6 M6 I6 hr6 => ?_)) (Nat.le_of_ble_eq_true rfl)
              refine ⟨fun hc7 => ?_, fun hc7 => ?_⟩
              · skip
                have f8 := ti_0
                refine Wp.deep (s_X4_put_29 hG I6 (fun M9 I9 => ?_)) (Nat.le_of_ble_eq_true rfl)
                have f10 := dAddE (X := x2.toInt) (Y := 1) (x := x2) (y := (1 : Int32)) rfl (by decide) (by omega) (by omega)
                exact ih.1 _ _ _ I9 (by omega) (by omega) (by omega)
              · skip
                exact ih.2.2.1 _ I6 (by omega)
    · intro m hI hμ
      refine v_X2_sum_43_67 ?_
      have f1 := ti_0
      exact hQ _ _ hI (by omega)
    · intro m hI hμ
      refine v_X2_sum_43_83 ?_
      have f1 := ti_1
      exact hQ _ _ hI (by omega)
theorem s_X2_sum_43_L1 {g : gM} {x1 : Int32} {m : dM} {Q : Int32 → dM → Prop} (hG : Gd g) (hI : Inv g m) (h1 : 1 ≤ x1.toInt ∧ x1.toInt ≤ 1) (hQ : ∀ (r : Int32) (m' : dM), Inv g m' → (0 ≤ r.toInt ∧ r.toInt ≤ 1) → Q r m') : c_X2_sum_43 23 x1 m Q := by
  refine v_X2_sum_43 ?_
  refine Wp.deep (s_X2_product_43_L1 hG hI (by omega) (fun R1 M1 I1 hr1 => ?_)) (Nat.le_of_ble_eq_true rfl)
  refine ⟨fun hc2 => ?_, fun hc2 => ?_⟩
  · skip
    have f3 := ti_0
    exact (s_X2_sum_43_L1_all hG hQ 807).1 _ _ _ I1 (by omega) (by omega) (by omega)
  · skip
    have f3 := ti_0
    exact hQ _ _ I1 (by omega)
theorem s_X2_unit_43_L0 {g : gM} {x1 : Int32} {m : dM} {Q : Int32 → dM → Prop} (hG : Gd g) (hI : Inv g m) (h1 : 0 ≤ x1.toInt ∧ x1.toInt ≤ 0) (hQ : ∀ (r : Int32) (m' : dM), Inv g m' → (0 ≤ r.toInt ∧ r.toInt ≤ 1) → Q r m') : c_X2_unit_43 24 x1 m Q := by
  refine v_X2_unit_43 ?_
  refine v_X2_kind_43 ?_
  refine ⟨fun hc1 => ?_, fun hc1 => ?_⟩
  · skip
    refine v_X2_kind_43_32 ?_
    have f2 := ti_24
    refine ⟨fun hc3 => ?_, fun hc3 => ?_⟩
    · skip
      refine ⟨fun hc4 => ?_, fun hc4 => ?_⟩
      · skip
        exfalso; omega
      · skip
        refine ⟨fun hc5 => ?_, fun hc5 => ?_⟩
        · skip
          refine v_X2_unit_43_67 ?_
          refine ⟨fun hc6 => ?_, fun hc6 => ?_⟩
          · skip
            exfalso; omega
          · skip
            have f7 := ti_1
            refine Wp.deep (s_X2_fail_43 hG hI (fun R8 M8 I8 hr8 => ?_)) (Nat.le_of_ble_eq_true rfl)
            refine ⟨dB01 (by omega), ?_⟩
            exact hQ _ _ I8 (by omega)
        · skip
          exfalso; omega
    · skip
      exfalso; omega
  · skip
    refine ⟨fun hc2 => ?_, fun hc2 => ?_⟩
    · skip
      refine v_X2_kind_43_32 ?_
      have f3 := ti_24
      refine ⟨fun hc4 => ?_, fun hc4 => ?_⟩
      · skip
        refine ⟨fun hc5 => ?_, fun hc5 => ?_⟩
        · skip
          exfalso; omega
        · skip
          refine ⟨fun hc6 => ?_, fun hc6 => ?_⟩
          · skip
            refine v_X2_unit_43_67 ?_
            refine ⟨fun hc7 => ?_, fun hc7 => ?_⟩
            · skip
              exfalso; omega
            · skip
              have f8 := ti_1
              refine Wp.deep (s_X2_fail_43 hG hI (fun R9 M9 I9 hr9 => ?_)) (Nat.le_of_ble_eq_true rfl)
              refine ⟨dB01 (by omega), ?_⟩
              exact hQ _ _ I9 (by omega)
          · skip
            exfalso; omega
      · skip
        exfalso; omega
    · skip
      refine ⟨by omega, ?_⟩
      refine ⟨fun hc3 => ?_, fun hc3 => ?_⟩
      · skip
        refine ⟨fun hc4 => ?_, fun hc4 => ?_⟩
        · skip
          refine v_X2_unit_43_67 ?_
          refine ⟨fun hc5 => ?_, fun hc5 => ?_⟩
          · skip
            exfalso; omega
          · skip
            have f6 := ti_1
            refine Wp.deep (s_X2_fail_43 hG hI (fun R7 M7 I7 hr7 => ?_)) (Nat.le_of_ble_eq_true rfl)
            refine ⟨dB01 (by omega), ?_⟩
            exact hQ _ _ I7 (by omega)
        · skip
          refine ⟨fun hc5 => ?_, fun hc5 => ?_⟩
          · skip
            refine v_X2_unit_43_67 ?_
            refine ⟨fun hc6 => ?_, fun hc6 => ?_⟩
            · skip
              refine ⟨fun hc7 => ?_, fun hc7 => ?_⟩
              · skip
                refine Wp.deep (s_X2_step_43 hG hI (fun R8 M8 I8 hr8 => ?_)) (Nat.le_of_ble_eq_true rfl)
                refine ⟨fun hc9 => ?_, fun hc9 => ?_⟩
                · skip
                  refine v_X2_unit_43_123 ?_
                  have f10 := ti_0
                  exact hQ _ _ I8 (by omega)
                · skip
                  have f10 := dAddE (X := x1.toInt) (Y := 1) (x := x1) (y := (1 : Int32)) rfl (by decide) (by omega) (by omega)
                  refine Wp.deep (s_X2_sum_43_L1 hG I8 (by omega) (fun R11 M11 I11 hr11 => ?_)) (Nat.le_of_ble_eq_true rfl)
                  refine ⟨fun hc12 => ?_, fun hc12 => ?_⟩
                  · skip
                    refine v_X2_unit_43_123 ?_
                    have f13 := ti_0
                    exact hQ _ _ I11 (by omega)
                  · skip
                    have f13 := ti_41
                    refine Wp.deep (s_X2_need_43 hG I11 (fun R14 M14 I14 hr14 => ?_)) (Nat.le_of_ble_eq_true rfl)
                    refine ⟨fun hc15 => ?_, fun hc15 => ?_⟩
                    · skip
                      refine v_X2_unit_43_123 ?_
                      have f16 := ti_0
                      exact hQ _ _ I14 (by omega)
                    · skip
                      have f16 := ti_1
                      exact hQ _ _ I14 (by omega)
              · skip
                exfalso; omega
            · skip
              have f7 := ti_1
              refine Wp.deep (s_X2_fail_43 hG hI (fun R8 M8 I8 hr8 => ?_)) (Nat.le_of_ble_eq_true rfl)
              refine ⟨dB01 (by omega), ?_⟩
              exact hQ _ _ I8 (by omega)
          · skip
            have f6 := dAddE (X := 4) (Y := (m.1 39 (m.1 43 2).toNatClampNeg).toInt) (x := (4 : Int32)) (y := (m.1 39 (m.1 43 2).toNatClampNeg)) (by decide) rfl (by omega) (by omega)
            have f7 := dSubE (X := ((4 : Int32) + (m.1 39 (m.1 43 2).toNatClampNeg)).toInt) (Y := 13) (x := ((4 : Int32) + (m.1 39 (m.1 43 2).toNatClampNeg))) (y := (13 : Int32)) rfl (by decide) (by omega) (by omega)
            refine Wp.deep (s_X4_put_29 hG hI (fun M8 I8 => ?_)) (Nat.le_of_ble_eq_true rfl)
            refine Wp.deep (s_X2_step_43 hG I8 (fun R9 M9 I9 hr9 => ?_)) (Nat.le_of_ble_eq_true rfl)
            refine ⟨dB01 (by omega), ?_⟩
            exact hQ _ _ I9 (by omega)
      · skip
        refine Wp.deep (s_X8_numberAt_38 hG hI (fun R4 => ?_)) (Nat.le_of_ble_eq_true rfl)
        refine Wp.deep (s_X4_put_29 hG hI (fun M5 I5 => ?_)) (Nat.le_of_ble_eq_true rfl)
        refine Wp.deep (s_X2_step_43 hG I5 (fun R6 M6 I6 hr6 => ?_)) (Nat.le_of_ble_eq_true rfl)
        refine ⟨dB01 (by omega), ?_⟩
        exact hQ _ _ I6 (by omega)
theorem s_X2_product_43_L0_all {g : gM} {Q : Int32 → dM → Prop} (hG : Gd g) (hQ : ∀ (r : Int32) (m' : dM), Inv g m' → (0 ≤ r.toInt ∧ r.toInt ≤ 1) → Q r m') : ∀ n : Nat, (∀ (x1 : Int32) (x2 : Int32) (m : dM), Inv g m → (0 ≤ x1.toInt ∧ x1.toInt ≤ 0) → (0 ≤ x2.toInt ∧ x2.toInt ≤ 401) → 805 - 2 * x2.toInt < (n : Int) → j_X2_product_43_12 25 x1 x2 m Q) ∧ (∀ (x1 : Int32) (x2 : Int32) (m : dM), Inv g m → (0 ≤ x1.toInt ∧ x1.toInt ≤ 0) → (0 ≤ x2.toInt ∧ x2.toInt ≤ 400) → 804 - 2 * x2.toInt < (n : Int) → j_X2_product_43_37 25 x1 x2 m Q) ∧ (∀ (m : dM), Inv g m → 1 < (n : Int) → j_X2_product_43_67 25 m Q) ∧ (∀ (m : dM), Inv g m → 0 < (n : Int) → j_X2_product_43_83 25 m Q) := by
  intro n
  induction n with
  | zero => exact ⟨fun x1 x2 m hI h1 h2 hμ => by exfalso; omega, fun x1 x2 m hI h1 h2 hμ => by exfalso; omega, fun m hI hμ => by exfalso; omega, fun m hI hμ => by exfalso; omega⟩
  | succ n ih =>
    refine ⟨?_, ?_, ?_, ?_⟩
    · intro x1 x2 m hI h1 h2 hμ
      refine v_X2_product_43_12 ?_
      refine ⟨fun hc1 => ?_, fun hc1 => ?_⟩
      · skip
        exact ih.2.2.2 _ hI (by omega)
      · skip
        refine v_X2_kind_43 ?_
        refine ⟨fun hc2 => ?_, fun hc2 => ?_⟩
        · skip
          refine v_X2_kind_43_32 ?_
          have f3 := ti_24
          refine ⟨fun hc4 => ?_, fun hc4 => ?_⟩
          · skip
            exfalso; omega
          · skip
            refine v_X2_kind_43 ?_
            refine ⟨fun hc5 => ?_, fun hc5 => ?_⟩
            · skip
              refine v_X2_kind_43_32 ?_
              refine ⟨fun hc6 => ?_, fun hc6 => ?_⟩
              · skip
                exact ih.2.2.2 _ hI (by omega)
              · skip
                exfalso; omega
            · skip
              exfalso; omega
        · skip
          refine ⟨fun hc3 => ?_, fun hc3 => ?_⟩
          · skip
            refine v_X2_kind_43_32 ?_
            have f4 := ti_24
            refine ⟨fun hc5 => ?_, fun hc5 => ?_⟩
            · skip
              exfalso; omega
            · skip
              refine v_X2_kind_43 ?_
              refine ⟨fun hc6 => ?_, fun hc6 => ?_⟩
              · skip
                exfalso; omega
              · skip
                refine ⟨fun hc7 => ?_, fun hc7 => ?_⟩
                · skip
                  refine v_X2_kind_43_32 ?_
                  refine ⟨fun hc8 => ?_, fun hc8 => ?_⟩
                  · skip
                    exact ih.2.2.2 _ hI (by omega)
                  · skip
                    exfalso; omega
                · skip
                  exfalso; omega
          · skip
            refine ⟨by omega, ?_⟩
            refine ⟨fun hc4 => ?_, fun hc4 => ?_⟩
            · skip
              exact ih.2.1 _ _ _ hI (by omega) (by omega) (by omega)
            · skip
              refine v_X2_kind_43 ?_
              refine ⟨fun hc5 => ?_, fun hc5 => ?_⟩
              · skip
                exfalso; omega
              · skip
                refine ⟨fun hc6 => ?_, fun hc6 => ?_⟩
                · skip
                  exfalso; omega
                · skip
                  refine ⟨by omega, ?_⟩
                  refine ⟨fun hc7 => ?_, fun hc7 => ?_⟩
                  · skip
                    exact ih.2.2.2 _ hI (by omega)
                  · skip
                    exact ih.2.1 _ _ _ hI (by omega) (by omega) (by omega)
    · intro x1 x2 m hI h1 h2 hμ
      refine v_X2_product_43_37 ?_
      refine v_X2_kind_43 ?_
      refine ⟨fun hc1 => ?_, fun hc1 => ?_⟩
      · skip
        refine v_X2_kind_43_32 ?_
        have f2 := ti_24
        refine ⟨fun hc3 => ?_, fun hc3 => ?_⟩
        · skip
          refine Wp.deep (s_X2_step_43 hG hI (fun R4 M4 I4 hr4 => ?_)) (Nat.le_of_ble_eq_true rfl)
          refine ⟨fun hc5 => ?_, fun hc5 => ?_⟩
          · skip
            exact ih.2.2.1 _ I4 (by omega)
          · skip
            refine Wp.deep (s_X2_unit_43_L0 hG I4 (by omega) (fun R6 M6 I6 hr6 => ?_)) (Nat.le_of_ble_eq_true rfl)
            refine ⟨fun hc7 => ?_, fun hc7 => ?_⟩
            · skip
              have f8 := ti_3
              refine Wp.deep (s_X4_put_29 hG I6 (fun M9 I9 => ?_)) (Nat.le_of_ble_eq_true rfl)
              have f10 := dAddE (X := x2.toInt) (Y := 1) (x := x2) (y := (1 : Int32)) rfl (by decide) (by omega) (by omega)
              exact ih.1 _ _ _ I9 (by omega) (by omega) (by omega)
            · skip
              exact ih.2.2.1 _ I6 (by omega)
        · skip
          exfalso; omega
      · skip
        refine ⟨fun hc2 => ?_, fun hc2 => ?_⟩
        · skip
          refine v_X2_kind_43_32 ?_
          have f3 := ti_24
          refine ⟨fun hc4 => ?_, fun hc4 => ?_⟩
          · skip
            refine Wp.deep (s_X2_step_43 hG hI (fun R5 M5 I5 hr5 => ?_)) (Nat.le_of_ble_eq_true rfl)
            refine ⟨fun hc6 => ?_, fun hc6 => ?_⟩
            · skip
              exact ih.2.2.1 _ I5 (by omega)
            · skip
              refine Wp.deep (s_X2_unit_43_L0 hG I5 (by omega) (fun R7 M7 I7 hr7 => ?_)) (Nat.le_of_ble_eq_true rfl)
              refine ⟨fun hc8 => ?_, fun hc8 => ?_⟩
              · skip
                have f9 := ti_3
                refine Wp.deep (s_X4_put_29 hG I7 (fun M10 I10 => ?_)) (Nat.le_of_ble_eq_true rfl)
                have f11 := dAddE (X := x2.toInt) (Y := 1) (x := x2) (y := (1 : Int32)) rfl (by decide) (by omega) (by omega)
                exact ih.1 _ _ _ I10 (by omega) (by omega) (by omega)
              · skip
                exact ih.2.2.1 _ I7 (by omega)
          · skip
            exfalso; omega
        · skip
          refine ⟨by omega, ?_⟩
          refine ⟨fun hc3 => ?_, fun hc3 => ?_⟩
          · skip
            refine Wp.deep (s_X2_step_43 hG hI (fun R4 M4 I4 hr4 => ?_)) (Nat.le_of_ble_eq_true rfl)
            refine ⟨fun hc5 => ?_, fun hc5 => ?_⟩
            · skip
              exact ih.2.2.1 _ I4 (by omega)
            · skip
              refine Wp.deep (s_X2_unit_43_L0 hG I4 (by omega) (fun R6 M6 I6 hr6 => ?_)) (Nat.le_of_ble_eq_true rfl)
              refine ⟨fun hc7 => ?_, fun hc7 => ?_⟩
              · skip
                have f8 := ti_3
                refine Wp.deep (s_X4_put_29 hG I6 (fun M9 I9 => ?_)) (Nat.le_of_ble_eq_true rfl)
                have f10 := dAddE (X := x2.toInt) (Y := 1) (x := x2) (y := (1 : Int32)) rfl (by decide) (by omega) (by omega)
                exact ih.1 _ _ _ I9 (by omega) (by omega) (by omega)
              · skip
                exact ih.2.2.1 _ I6 (by omega)
          · skip
            refine Wp.deep (s_X2_step_43 hG hI (fun R4 M4 I4 hr4 => ?_)) (Nat.le_of_ble_eq_true rfl)
            refine ⟨fun hc5 => ?_, fun hc5 => ?_⟩
            · skip
              exact ih.2.2.1 _ I4 (by omega)
            · skip
              refine Wp.deep (s_X2_unit_43_L0 hG I4 (by omega) (fun R6 M6 I6 hr6 => ?_)) (Nat.le_of_ble_eq_true rfl)
              refine ⟨fun hc7 => ?_, fun hc7 => ?_⟩
              · skip
                have f8 := ti_2
                refine Wp.deep (s_X4_put_29 hG I6 (fun M9 I9 => ?_)) (Nat.le_of_ble_eq_true rfl)
                have f10 := dAddE (X := x2.toInt) (Y := 1) (x := x2) (y := (1 : Int32)) rfl (by decide) (by omega) (by omega)
                exact ih.1 _ _ _ I9 (by omega) (by omega) (by omega)
              · skip
                exact ih.2.2.1 _ I6 (by omega)
    · intro m hI hμ
      refine v_X2_product_43_67 ?_
      have f1 := ti_0
      exact hQ _ _ hI (by omega)
    · intro m hI hμ
      refine v_X2_product_43_83 ?_
      have f1 := ti_1
      exact hQ _ _ hI (by omega)
theorem s_X2_product_43_L0 {g : gM} {x1 : Int32} {m : dM} {Q : Int32 → dM → Prop} (hG : Gd g) (hI : Inv g m) (h1 : 0 ≤ x1.toInt ∧ x1.toInt ≤ 0) (hQ : ∀ (r : Int32) (m' : dM), Inv g m' → (0 ≤ r.toInt ∧ r.toInt ≤ 1) → Q r m') : c_X2_product_43 25 x1 m Q := by
  refine v_X2_product_43 ?_
  refine Wp.deep (s_X2_unit_43_L0 hG hI (by omega) (fun R1 M1 I1 hr1 => ?_)) (Nat.le_of_ble_eq_true rfl)
  refine ⟨fun hc2 => ?_, fun hc2 => ?_⟩
  · skip
    have f3 := ti_0
    exact (s_X2_product_43_L0_all hG hQ 807).1 _ _ _ I1 (by omega) (by omega) (by omega)
  · skip
    have f3 := ti_0
    exact hQ _ _ I1 (by omega)
theorem s_X2_sum_43_L0_all {g : gM} {Q : Int32 → dM → Prop} (hG : Gd g) (hQ : ∀ (r : Int32) (m' : dM), Inv g m' → (0 ≤ r.toInt ∧ r.toInt ≤ 1) → Q r m') : ∀ n : Nat, (∀ (x1 : Int32) (x2 : Int32) (m : dM), Inv g m → (0 ≤ x1.toInt ∧ x1.toInt ≤ 0) → (0 ≤ x2.toInt ∧ x2.toInt ≤ 401) → 805 - 2 * x2.toInt < (n : Int) → j_X2_sum_43_12 26 x1 x2 m Q) ∧ (∀ (x1 : Int32) (x2 : Int32) (m : dM), Inv g m → (0 ≤ x1.toInt ∧ x1.toInt ≤ 0) → (0 ≤ x2.toInt ∧ x2.toInt ≤ 400) → 804 - 2 * x2.toInt < (n : Int) → j_X2_sum_43_37 26 x1 x2 m Q) ∧ (∀ (m : dM), Inv g m → 1 < (n : Int) → j_X2_sum_43_67 26 m Q) ∧ (∀ (m : dM), Inv g m → 0 < (n : Int) → j_X2_sum_43_83 26 m Q) := by
  intro n
  induction n with
  | zero => exact ⟨fun x1 x2 m hI h1 h2 hμ => by exfalso; omega, fun x1 x2 m hI h1 h2 hμ => by exfalso; omega, fun m hI hμ => by exfalso; omega, fun m hI hμ => by exfalso; omega⟩
  | succ n ih =>
    refine ⟨?_, ?_, ?_, ?_⟩
    · intro x1 x2 m hI h1 h2 hμ
      refine v_X2_sum_43_12 ?_
      refine ⟨fun hc1 => ?_, fun hc1 => ?_⟩
      · skip
        exact ih.2.2.2 _ hI (by omega)
      · skip
        refine v_X2_kind_43 ?_
        refine ⟨fun hc2 => ?_, fun hc2 => ?_⟩
        · skip
          refine v_X2_kind_43_32 ?_
          have f3 := ti_24
          refine ⟨fun hc4 => ?_, fun hc4 => ?_⟩
          · skip
            exfalso; omega
          · skip
            refine v_X2_kind_43 ?_
            refine ⟨fun hc5 => ?_, fun hc5 => ?_⟩
            · skip
              refine v_X2_kind_43_32 ?_
              refine ⟨fun hc6 => ?_, fun hc6 => ?_⟩
              · skip
                exact ih.2.2.2 _ hI (by omega)
              · skip
                exfalso; omega
            · skip
              exfalso; omega
        · skip
          refine ⟨fun hc3 => ?_, fun hc3 => ?_⟩
          · skip
            refine v_X2_kind_43_32 ?_
            have f4 := ti_24
            refine ⟨fun hc5 => ?_, fun hc5 => ?_⟩
            · skip
              exfalso; omega
            · skip
              refine v_X2_kind_43 ?_
              refine ⟨fun hc6 => ?_, fun hc6 => ?_⟩
              · skip
                exfalso; omega
              · skip
                refine ⟨fun hc7 => ?_, fun hc7 => ?_⟩
                · skip
                  refine v_X2_kind_43_32 ?_
                  refine ⟨fun hc8 => ?_, fun hc8 => ?_⟩
                  · skip
                    exact ih.2.2.2 _ hI (by omega)
                  · skip
                    exfalso; omega
                · skip
                  exfalso; omega
          · skip
            refine ⟨by omega, ?_⟩
            refine ⟨fun hc4 => ?_, fun hc4 => ?_⟩
            · skip
              exact ih.2.1 _ _ _ hI (by omega) (by omega) (by omega)
            · skip
              refine v_X2_kind_43 ?_
              refine ⟨fun hc5 => ?_, fun hc5 => ?_⟩
              · skip
                exfalso; omega
              · skip
                refine ⟨fun hc6 => ?_, fun hc6 => ?_⟩
                · skip
                  exfalso; omega
                · skip
                  refine ⟨by omega, ?_⟩
                  refine ⟨fun hc7 => ?_, fun hc7 => ?_⟩
                  · skip
                    exact ih.2.2.2 _ hI (by omega)
                  · skip
                    exact ih.2.1 _ _ _ hI (by omega) (by omega) (by omega)
    · intro x1 x2 m hI h1 h2 hμ
      refine v_X2_sum_43_37 ?_
      refine v_X2_kind_43 ?_
      refine ⟨fun hc1 => ?_, fun hc1 => ?_⟩
      · skip
        refine v_X2_kind_43_32 ?_
        have f2 := ti_24
        refine ⟨fun hc3 => ?_, fun hc3 => ?_⟩
        · skip
          refine Wp.deep (s_X2_step_43 hG hI (fun R4 M4 I4 hr4 => ?_)) (Nat.le_of_ble_eq_true rfl)
          refine ⟨fun hc5 => ?_, fun hc5 => ?_⟩
          · skip
            exact ih.2.2.1 _ I4 (by omega)
          · skip
            refine Wp.deep (s_X2_product_43_L0 hG I4 (by omega) (fun R6 M6 I6 hr6 => ?_)) (Nat.le_of_ble_eq_true rfl)
            refine ⟨fun hc7 => ?_, fun hc7 => ?_⟩
            · skip
              have f8 := ti_1
              refine Wp.deep (s_X4_put_29 hG I6 (fun M9 I9 => ?_)) (Nat.le_of_ble_eq_true rfl)
              have f10 := dAddE (X := x2.toInt) (Y := 1) (x := x2) (y := (1 : Int32)) rfl (by decide) (by omega) (by omega)
              exact ih.1 _ _ _ I9 (by omega) (by omega) (by omega)
            · skip
              exact ih.2.2.1 _ I6 (by omega)
        · skip
          exfalso; omega
      · skip
        refine ⟨fun hc2 => ?_, fun hc2 => ?_⟩
        · skip
          refine v_X2_kind_43_32 ?_
          have f3 := ti_24
          refine ⟨fun hc4 => ?_, fun hc4 => ?_⟩
          · skip
            refine Wp.deep (s_X2_step_43 hG hI (fun R5 M5 I5 hr5 => ?_)) (Nat.le_of_ble_eq_true rfl)
            refine ⟨fun hc6 => ?_, fun hc6 => ?_⟩
            · skip
              exact ih.2.2.1 _ I5 (by omega)
            · skip
              refine Wp.deep (s_X2_product_43_L0 hG I5 (by omega) (fun R7 M7 I7 hr7 => ?_)) (Nat.le_of_ble_eq_true rfl)
              refine ⟨fun hc8 => ?_, fun hc8 => ?_⟩
              · skip
                have f9 := ti_1
                refine Wp.deep (s_X4_put_29 hG I7 (fun M10 I10 => ?_)) (Nat.le_of_ble_eq_true rfl)
                have f11 := dAddE (X := x2.toInt) (Y := 1) (x := x2) (y := (1 : Int32)) rfl (by decide) (by omega) (by omega)
                exact ih.1 _ _ _ I10 (by omega) (by omega) (by omega)
              · skip
                exact ih.2.2.1 _ I7 (by omega)
          · skip
            exfalso; omega
        · skip
          refine ⟨by omega, ?_⟩
          refine ⟨fun hc3 => ?_, fun hc3 => ?_⟩
          · skip
            refine Wp.deep (s_X2_step_43 hG hI (fun R4 M4 I4 hr4 => ?_)) (Nat.le_of_ble_eq_true rfl)
            refine ⟨fun hc5 => ?_, fun hc5 => ?_⟩
            · skip
              exact ih.2.2.1 _ I4 (by omega)
            · skip
              refine Wp.deep (s_X2_product_43_L0 hG I4 (by omega) (fun R6 M6 I6 hr6 => ?_)) (Nat.le_of_ble_eq_true rfl)
              refine ⟨fun hc7 => ?_, fun hc7 => ?_⟩
              · skip
                have f8 := ti_1
                refine Wp.deep (s_X4_put_29 hG I6 (fun M9 I9 => ?_)) (Nat.le_of_ble_eq_true rfl)
                have f10 := dAddE (X := x2.toInt) (Y := 1) (x := x2) (y := (1 : Int32)) rfl (by decide) (by omega) (by omega)
                exact ih.1 _ _ _ I9 (by omega) (by omega) (by omega)
              · skip
                exact ih.2.2.1 _ I6 (by omega)
          · skip
            refine Wp.deep (s_X2_step_43 hG hI (fun R4 M4 I4 hr4 => ?_)) (Nat.le_of_ble_eq_true rfl)
            refine ⟨fun hc5 => ?_, fun hc5 => ?_⟩
            · skip
              exact ih.2.2.1 _ I4 (by omega)
            · skip
              refine Wp.deep (s_X2_product_43_L0 hG I4 (by omega) (fun R6 M6 I6 hr6 => ?_)) (Nat.le_of_ble_eq_true rfl)
              refine ⟨fun hc7 => ?_, fun hc7 => ?_⟩
              · skip
                have f8 := ti_0
                refine Wp.deep (s_X4_put_29 hG I6 (fun M9 I9 => ?_)) (Nat.le_of_ble_eq_true rfl)
                have f10 := dAddE (X := x2.toInt) (Y := 1) (x := x2) (y := (1 : Int32)) rfl (by decide) (by omega) (by omega)
                exact ih.1 _ _ _ I9 (by omega) (by omega) (by omega)
              · skip
                exact ih.2.2.1 _ I6 (by omega)
    · intro m hI hμ
      refine v_X2_sum_43_67 ?_
      have f1 := ti_0
      exact hQ _ _ hI (by omega)
    · intro m hI hμ
      refine v_X2_sum_43_83 ?_
      have f1 := ti_1
      exact hQ _ _ hI (by omega)
theorem s_X2_sum_43_L0 {g : gM} {x1 : Int32} {m : dM} {Q : Int32 → dM → Prop} (hG : Gd g) (hI : Inv g m) (h1 : 0 ≤ x1.toInt ∧ x1.toInt ≤ 0) (hQ : ∀ (r : Int32) (m' : dM), Inv g m' → (0 ≤ r.toInt ∧ r.toInt ≤ 1) → Q r m') : c_X2_sum_43 26 x1 m Q := by
  refine v_X2_sum_43 ?_
  refine Wp.deep (s_X2_product_43_L0 hG hI (by omega) (fun R1 M1 I1 hr1 => ?_)) (Nat.le_of_ble_eq_true rfl)
  refine ⟨fun hc2 => ?_, fun hc2 => ?_⟩
  · skip
    have f3 := ti_0
    exact (s_X2_sum_43_L0_all hG hQ 807).1 _ _ _ I1 (by omega) (by omega) (by omega)
  · skip
    have f3 := ti_0
    exact hQ _ _ I1 (by omega)
