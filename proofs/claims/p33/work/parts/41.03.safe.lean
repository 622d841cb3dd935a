theorem s_X11_pin_0 {g : gM} {x1 : Int32} {x2 : Int32} {m : dM} {Q : Int32 → dM → Prop} (hG : Gd g) (hI : Inv g m) (h2 : 0 ≤ x2.toInt ∧ x2.toInt ≤ 1) (hQ : ∀ (r : Int32) (m' : dM), Inv g m' → (0 ≤ r.toInt ∧ r.toInt ≤ 1) → Q r m') : c_X11_pin_0 3 x1 x2 m Q := by
  refine v_X11_pin_0 ?_
  refine v_X11_isWire_0 ?_
  refine ⟨fun hc1 => ?_, fun hc1 => ?_⟩
  · skip
    refine v_X11_isWire_0_19 ?_
    have f2 := ti_0
    refine ⟨fun hc3 => ?_, fun hc3 => ?_⟩
    · skip
      refine v_X11_pin_0_37 ?_
      exact hQ _ _ hI (by omega)
    · skip
      exfalso; omega
  · skip
    have f2 := congrArg Int32.toInt (hI.2 2 1 rfl)
    have f3 := Inv.s hG hI (k := 2) (j := 1) rfl rfl
    refine ⟨fun hc4 => ?_, fun hc4 => ?_⟩
    · skip
      refine v_X11_isWire_0_19 ?_
      have f5 := ti_0
      refine ⟨fun hc6 => ?_, fun hc6 => ?_⟩
      · skip
        refine v_X11_pin_0_37 ?_
        exact hQ _ _ hI (by omega)
      · skip
        exfalso; omega
    · skip
      have f5 := ti_1
      refine ⟨fun hc6 => ?_, fun hc6 => ?_⟩
      · skip
        exfalso; omega
      · skip
        refine v_X11_has ?_
        have f7 := dAndE (x := ((m.1 47 3).toUInt32 >>> (x1.toUInt32 &&& Int32.toUInt32 31)).toInt32) (y := (1 : Int32)) (by decide)
        refine ⟨fun hc8 => ?_, fun hc8 => ?_⟩
        · skip
          have f9 := ti_0
          refine ⟨fun hc10 => ?_, fun hc10 => ?_⟩
          · skip
            exfalso; omega
          · skip
            refine v_X11_has ?_
            have f11 := dAndE (x := ((m.1 47 4).toUInt32 >>> (x1.toUInt32 &&& Int32.toUInt32 31)).toInt32) (y := (1 : Int32)) (by decide)
            refine ⟨fun hc12 => ?_, fun hc12 => ?_⟩
            · skip
              refine ⟨fun hc13 => ?_, fun hc13 => ?_⟩
              · skip
                refine Wp.deep (s_X6_keep_51_47 hG hI (fun M14 I14 => ?_)) (Nat.le_of_ble_eq_true rfl)
                have I15 : Inv g (dSet M14 47 4 ((M14.1 47 4) ^^^ ((1 : Int32) <<< (x1 &&& 31)))) := (Inv.setA I14 rfl)
                exact hQ _ _ I15 (by omega)
              · skip
                refine v_X11_pin_0_37 ?_
                exact hQ _ _ hI (by omega)
            · skip
              refine ⟨fun hc13 => ?_, fun hc13 => ?_⟩
              · skip
                refine Wp.deep (s_X6_keep_51_47 hG hI (fun M14 I14 => ?_)) (Nat.le_of_ble_eq_true rfl)
                have I15 : Inv g (dSet M14 47 4 ((M14.1 47 4) ^^^ ((1 : Int32) <<< (x1 &&& 31)))) := (Inv.setA I14 rfl)
                exact hQ _ _ I15 (by omega)
              · skip
                refine v_X11_pin_0_37 ?_
                exact hQ _ _ hI (by omega)
        · skip
          refine ⟨fun hc9 => ?_, fun hc9 => ?_⟩
          · skip
            refine v_X11_pin_0_37 ?_
            have f10 := ti_0
            exact hQ _ _ hI (by omega)
          · skip
            exfalso; omega
theorem s_X0_takePay_54_47_all {g : gM} {Q : dM → Prop} (hG : Gd g) (hQ : ∀ m' : dM, Inv g m' → Q m') : ∀ n : Nat, (∀ (x2 : Int32) (x3 : Int32) (m : dM), Inv g m → (0 ≤ x3.toInt ∧ x3.toInt ≤ 8) → 17 - 2 * x3.toInt < (n : Int) → j_X0_takePay_54_47_12 5 x2 x3 m Q) ∧ (∀ (x2 : Int32) (x3 : Int32) (m : dM), Inv g m → (0 ≤ x3.toInt ∧ x3.toInt ≤ 7) → 16 - 2 * x3.toInt < (n : Int) → j_X0_takePay_54_47_51 5 x2 x3 m Q) := by
  intro n
  induction n with
  | zero => exact ⟨fun x2 x3 m hI h3 hμ => by exfalso; omega, fun x2 x3 m hI h3 hμ => by exfalso; omega⟩
  | succ n ih =>
    refine ⟨?_, ?_⟩
    · intro x2 x3 m hI h3 hμ
      refine v_X0_takePay_54_47_12 ?_
      have f1 := congrArg Int32.toInt (hI.2 2 2 rfl)
      have f2 := Inv.s hG hI (k := 2) (j := 2) rfl rfl
      refine ⟨fun hc3 => ?_, fun hc3 => ?_⟩
      · skip
        exact hQ _ hI
      · skip
        refine v_X11_has ?_
        have f4 := ti_1
        have f5 := dAndE (x := (x2.toUInt32 >>> (x3.toUInt32 &&& Int32.toUInt32 31)).toInt32) (y := (1 : Int32)) (by decide)
        refine ⟨fun hc6 => ?_, fun hc6 => ?_⟩
        · skip
          have f7 := ti_0
          refine ⟨fun hc8 => ?_, fun hc8 => ?_⟩
          · skip
            exact ih.2 _ _ _ hI (by omega) (by omega)
          · skip
            exfalso; omega
        · skip
          refine ⟨fun hc7 => ?_, fun hc7 => ?_⟩
          · skip
            exfalso; omega
          · skip
            refine Wp.deep (s_X0_payOf_54_47 hG hI (by omega) (fun R8 M8 I8 hr8 => ?_)) (Nat.le_of_ble_eq_true rfl)
            have I9 : Inv g (dSet M8 47 1 (if ((m.1 47 1) + R8) < (99999 : Int32) then ((m.1 47 1) + R8) else (99999 : Int32))) := (Inv.setA I8 rfl)
            exact ih.2 _ _ _ I9 (by omega) (by omega)
    · intro x2 x3 m hI h3 hμ
      refine v_X0_takePay_54_47_51 ?_
      have f1 := dAddE (X := x3.toInt) (Y := 1) (x := x3) (y := (1 : Int32)) rfl (by decide) (by omega) (by omega)
      exact ih.1 _ _ _ hI (by omega) (by omega)
theorem s_X0_takePay_54_47 {g : gM} {m : dM} {Q : dM → Prop} (hG : Gd g) (hI : Inv g m) (hQ : ∀ m' : dM, Inv g m' → Q m') : c_X0_takePay_54_47 5 m Q := by
  refine v_X0_takePay_54_47 ?_
  refine v_X7_hourOfDay_47 ?_
  have f1 := dRemE (x := (m.1 47 0)) (y := (24 : Int32)) (Y := 24) (by decide) (by decide)
  refine Wp.deep (s_X0_usesAt_54_47 hG hI (by omega) (fun R2 M2 I2 => ?_)) (Nat.le_of_ble_eq_true rfl)
  have f3 := ti_0
  exact (s_X0_takePay_54_47_all hG hQ 19).1 _ _ _ I2 (by omega) (by omega)
theorem s_X0_countQuarrels_54_47_all {g : gM} {Q : dM → Prop} (hG : Gd g) (hQ : ∀ m' : dM, Inv g m' → Q m') : ∀ n : Nat, (∀ (x2 : Int32) (m : dM), Inv g m → (0 ≤ x2.toInt ∧ x2.toInt ≤ 7) → 15 - 2 * x2.toInt < (n : Int) → j_X0_countQuarrels_54_47_13 5 x2 m Q) ∧ (∀ (x2 : Int32) (m : dM), Inv g m → (0 ≤ x2.toInt ∧ x2.toInt ≤ 6) → 14 - 2 * x2.toInt < (n : Int) → j_X0_countQuarrels_54_47_78 5 x2 m Q) := by
  intro n
  induction n with
  | zero => exact ⟨fun x2 m hI h2 hμ => by exfalso; omega, fun x2 m hI h2 hμ => by exfalso; omega⟩
  | succ n ih =>
    refine ⟨?_, ?_⟩
    · intro x2 m hI h2 hμ
      refine v_X0_countQuarrels_54_47_13 ?_
      have f1 := congrArg Int32.toInt (hI.2 2 0 rfl)
      have f2 := Inv.s hG hI (k := 2) (j := 0) rfl rfl
      refine ⟨fun hc3 => ?_, fun hc3 => ?_⟩
      · skip
        exact hQ _ hI
      · skip
        refine v_X11_has ?_
        have f4 := ti_1
        have f5 := dAndE (x := ((m.1 57 5).toUInt32 >>> (x2.toUInt32 &&& Int32.toUInt32 31)).toInt32) (y := (1 : Int32)) (by decide)
        refine ⟨fun hc6 => ?_, fun hc6 => ?_⟩
        · skip
          have f7 := ti_0
          refine ⟨fun hc8 => ?_, fun hc8 => ?_⟩
          · skip
            refine Wp.deep (s_X0_quarrelOf_54_47 hG hI (by omega) (fun R9 M9 I9 hr9 => ?_)) (Nat.le_of_ble_eq_true rfl)
            refine ⟨by omega, ?_⟩
            refine ⟨by omega, ?_⟩
            have I10 : Inv g (dSet M9 47 2 (if ((m.1 47 2) + R9) < (999999 : Int32) then ((m.1 47 2) + R9) else (999999 : Int32))) := (Inv.setA I9 rfl)
            have I11 : Inv g (dSet (dSet M9 47 2 (if ((m.1 47 2) + R9) < (999999 : Int32) then ((m.1 47 2) + R9) else (999999 : Int32))) 50 x2.toNatClampNeg ((M9.1 50 x2.toNatClampNeg) + (1 : Int32))) := (Inv.setA I10 rfl)
            exact ih.2 _ _ I11 (by omega) (by omega)
          · skip
            exfalso; omega
        · skip
          refine ⟨fun hc7 => ?_, fun hc7 => ?_⟩
          · skip
            exfalso; omega
          · skip
            refine ⟨by omega, ?_⟩
            have I8 : Inv g (dSet m 50 x2.toNatClampNeg (0 : Int32)) := (Inv.setA hI rfl)
            exact ih.2 _ _ I8 (by omega) (by omega)
    · intro x2 m hI h2 hμ
      refine v_X0_countQuarrels_54_47_78 ?_
      have f1 := dAddE (X := x2.toInt) (Y := 1) (x := x2) (y := (1 : Int32)) rfl (by decide) (by omega) (by omega)
      exact ih.1 _ _ hI (by omega) (by omega)
theorem s_X0_countQuarrels_54_47 {g : gM} {m : dM} {Q : dM → Prop} (hG : Gd g) (hI : Inv g m) (hQ : ∀ m' : dM, Inv g m' → Q m') : c_X0_countQuarrels_54_47 5 m Q := by
  refine v_X0_countQuarrels_54_47 ?_
  refine Wp.deep (s_X10_lay_57 hG hI (fun M1 I1 => ?_)) (Nat.le_of_ble_eq_true rfl)
  have f2 := ti_0
  exact (s_X0_countQuarrels_54_47_all hG hQ 17).1 _ _ I1 (by omega) (by omega)
theorem s_X0_stirred {g : gM} {x0 : Int32} {x1 : Int32} {m : dM} {Q : Int32 → dM → Prop} (hG : Gd g) (hI : Inv g m) (hQ : ∀ r : Int32, Q r m) : c_X0_stirred 1 x0 x1 m Q := by
  refine v_X0_stirred ?_
  exact hQ _
theorem s_X0_lot {g : gM} {x0 : Int32} {x1 : Int32} {x2 : Int32} {m : dM} {Q : Int32 → dM → Prop} (hG : Gd g) (hI : Inv g m) (h0 : 100 ≤ x0.toInt ∧ x0.toInt ≤ 100) (hQ : ∀ r : Int32, (-99 ≤ r.toInt ∧ r.toInt ≤ 99) → Q r m) : c_X0_lot 2 x0 x1 x2 m Q := by
  refine v_X0_lot ?_
  have f1 := ti_129
  refine Wp.deep (s_X0_stirred hG hI (fun R2 => ?_)) (Nat.le_of_ble_eq_true rfl)
  refine Wp.deep (s_X0_stirred hG hI (fun R3 => ?_)) (Nat.le_of_ble_eq_true rfl)
  refine ⟨fun hc4 => ?_, fun hc4 => ?_⟩
  · skip
    exfalso; omega
  · skip
    refine ⟨fun hz => by have := congrArg Int32.toInt hz; have e0 : (0 : Int32).toInt = 0 := rfl; omega, ?_⟩
    have f5 := dRemE (x := (R3.toUInt32 >>> ((1 : Int32).toUInt32 &&& Int32.toUInt32 31)).toInt32) (y := x0) (Y := 100) (by omega) (by decide)
    exact hQ _ (by omega)
theorem s_X0_isSurge_54 {g : gM} {x1 : Int32} {x2 : Int32} {m : dM} {Q : Int32 → dM → Prop} (hG : Gd g) (hI : Inv g m) (hQ : ∀ r : Int32, (0 ≤ r.toInt ∧ r.toInt ≤ 1) → Q r m) : c_X0_isSurge_54 3 x1 x2 m Q := by
  refine v_X0_isSurge_54 ?_
  have f1 := ti_100
  refine Wp.deep (s_X0_lot hG hI (by omega) (fun R2 hr2 => ?_)) (Nat.le_of_ble_eq_true rfl)
  have f3 := congrArg Int32.toInt (hI.2 2 3 rfl)
  refine ⟨fun hc4 => ?_, fun hc4 => ?_⟩
  · skip
    have f5 := ti_0
    exact hQ _ (by omega)
  · skip
    have f5 := ti_1
    exact hQ _ (by omega)
theorem s_X0_surgeOf_54 {g : gM} {x1 : Int32} {x2 : Int32} {m : dM} {Q : Int32 → dM → Prop} (hG : Gd g) (hI : Inv g m) (hQ : ∀ r : Int32, Q r m) : c_X0_surgeOf_54 4 x1 x2 m Q := by
  refine v_X0_surgeOf_54 ?_
  refine Wp.deep (s_X0_isSurge_54 hG hI (fun R1 hr1 => ?_)) (Nat.le_of_ble_eq_true rfl)
  refine ⟨fun hc2 => ?_, fun hc2 => ?_⟩
  · skip
    have f3 := ti_0
    exact hQ _
  · skip
    have f3 := congrArg Int32.toInt (hI.2 2 4 rfl)
    exact hQ _
theorem s_X0_passWires_54_47_all {g : gM} {Q : Int32 → dM → Prop} (hG : Gd g) (hQ : ∀ (r : Int32) (m' : dM), Inv g m' → Q r m') : ∀ n : Nat, (∀ (x3 : Int32) (x4 : Int32) (m : dM), Inv g m → (0 ≤ x4.toInt ∧ x4.toInt ≤ 10) → 21 - 2 * x4.toInt < (n : Int) → j_X0_passWires_54_47_38 5 x3 x4 m Q) ∧ (∀ (x3 : Int32) (x4 : Int32) (m : dM), Inv g m → (0 ≤ x4.toInt ∧ x4.toInt ≤ 9) → 20 - 2 * x4.toInt < (n : Int) → j_X0_passWires_54_47_84 5 x3 x4 m Q) := by
  intro n
  induction n with
  | zero => exact ⟨fun x3 x4 m hI h4 hμ => by exfalso; omega, fun x3 x4 m hI h4 hμ => by exfalso; omega⟩
  | succ n ih =>
    refine ⟨?_, ?_⟩
    · intro x3 x4 m hI h4 hμ
      refine v_X0_passWires_54_47_38 ?_
      have f1 := congrArg Int32.toInt (hI.2 2 1 rfl)
      have f2 := Inv.s hG hI (k := 2) (j := 1) rfl rfl
      refine ⟨fun hc3 => ?_, fun hc3 => ?_⟩
      · skip
        have I4 : Inv g (dSet m 47 0 ((m.1 47 0) + (1 : Int32))) := (Inv.setA hI rfl)
        exact hQ _ _ I4
      · skip
        refine v_X11_has ?_
        have f4 := ti_1
        have f5 := dAndE (x := ((m.1 47 3).toUInt32 >>> (x4.toUInt32 &&& Int32.toUInt32 31)).toInt32) (y := (1 : Int32)) (by decide)
        refine ⟨fun hc6 => ?_, fun hc6 => ?_⟩
        · skip
          have f7 := ti_0
          refine ⟨fun hc8 => ?_, fun hc8 => ?_⟩
          · skip
            exfalso; omega
          · skip
            refine ⟨by omega, ?_⟩
            refine ⟨by omega, ?_⟩
            have I9 : Inv g (dSet m 49 x4.toNatClampNeg (if ((m.1 49 x4.toNatClampNeg) + (1 : Int32)) < (999 : Int32) then ((m.1 49 x4.toNatClampNeg) + (1 : Int32)) else (999 : Int32))) := (Inv.setA hI rfl)
            exact ih.2 _ _ _ I9 (by omega) (by omega)
        · skip
          refine ⟨fun hc7 => ?_, fun hc7 => ?_⟩
          · skip
            exact ih.2 _ _ _ hI (by omega) (by omega)
          · skip
            exfalso; omega
    · intro x3 x4 m hI h4 hμ
      refine v_X0_passWires_54_47_84 ?_
      have f1 := dAddE (X := x4.toInt) (Y := 1) (x := x4) (y := (1 : Int32)) rfl (by decide) (by omega) (by omega)
      exact ih.1 _ _ _ hI (by omega) (by omega)
theorem s_X0_passWires_54_47 {g : gM} {x2 : Int32} {m : dM} {Q : Int32 → dM → Prop} (hG : Gd g) (hI : Inv g m) (hQ : ∀ (r : Int32) (m' : dM), Inv g m' → Q r m') : c_X0_passWires_54_47 5 x2 m Q := by
  refine v_X0_passWires_54_47 ?_
  refine v_X7_hourOfDay_47 ?_
  have f1 := dRemE (x := (m.1 47 0)) (y := (24 : Int32)) (Y := 24) (by decide) (by decide)
  refine Wp.deep (s_X0_usesAt_54_47 hG hI (by omega) (fun R2 M2 I2 => ?_)) (Nat.le_of_ble_eq_true rfl)
  refine Wp.deep (s_X0_putOn_54_47 hG I2 (fun M3 I3 => ?_)) (Nat.le_of_ble_eq_true rfl)
  refine v_X7_hourOfDay_47 ?_
  have f4 := dRemE (x := (M3.1 47 0)) (y := (24 : Int32)) (Y := 24) (by decide) (by decide)
  refine Wp.deep (s_X0_going_54_47 hG I3 (by omega) (fun R5 M5 I5 => ?_)) (Nat.le_of_ble_eq_true rfl)
  have f6 := ti_0
  have I7 : Inv g (dSet M5 47 3 ((M5.1 47 3) ||| R5)) := (Inv.setA I5 rfl)
  exact (s_X0_passWires_54_47_all hG hQ 23).1 _ _ _ I7 (by omega) (by omega)
theorem s_X0_passHour_54_47 {g : gM} {m : dM} {Q : dM → Prop} (hG : Gd g) (hI : Inv g m) (hQ : ∀ m' : dM, Inv g m' → Q m') : c_X0_passHour_54_47 6 m Q := by
  refine v_X0_passHour_54_47 ?_
  refine Wp.deep (s_X0_takePay_54_47 hG hI (fun M1 I1 => ?_)) (Nat.le_of_ble_eq_true rfl)
  refine Wp.deep (s_X0_countQuarrels_54_47 hG I1 (fun M2 I2 => ?_)) (Nat.le_of_ble_eq_true rfl)
  have f3 := congrArg Int32.toInt (I2.2 2 6 rfl)
  refine Wp.deep (s_X0_surgeOf_54 hG I2 (fun R4 => ?_)) (Nat.le_of_ble_eq_true rfl)
  refine Wp.deep (s_X0_passWires_54_47 hG I2 (fun R5 M5 I5 => ?_)) (Nat.le_of_ble_eq_true rfl)
  exact hQ _ I5
theorem s_X11_hours_0_all {g : gM} {Q : Int32 → dM → Prop} (hG : Gd g) (hQ : ∀ (r : Int32) (m' : dM), Inv g m' → Q r m') : ∀ n : Nat, (∀ (m : dM), Inv g m → 0 < (n : Int) → j_X11_hours_0_10 7 m Q) ∧ (∀ (x1 : Int32) (m : dM), Inv g m → (0 ≤ x1.toInt ∧ x1.toInt ≤ 72) → 74 < (n : Int) → j_X11_hours_0_27 7 x1 m Q) ∧ (∀ (x1 : Int32) (x2 : Int32) (m : dM), Inv g m → (0 ≤ x1.toInt ∧ x1.toInt ≤ 72) → (0 ≤ x2.toInt ∧ x2.toInt ≤ 72) → 73 - 1 * x2.toInt < (n : Int) → j_X11_hours_0_29 7 x1 x2 m Q) := by
  intro n
  induction n with
  | zero => exact ⟨fun m hI hμ => by exfalso; omega, fun x1 m hI h1 hμ => by exfalso; omega, fun x1 x2 m hI h1 h2 hμ => by exfalso; omega⟩
  | succ n ih =>
    refine ⟨?_, ?_, ?_⟩
    · intro m hI hμ
      refine v_X11_hours_0_10 ?_
      have f1 := ti_m1
      exact hQ _ _ hI
    · intro x1 m hI h1 hμ
      refine v_X11_hours_0_27 ?_
      have f1 := ti_0
      exact ih.2.2 _ _ _ hI (by omega) (by omega) (by omega)
    · intro x1 x2 m hI h1 h2 hμ
      refine v_X11_hours_0_29 ?_
      refine ⟨fun hc1 => ?_, fun hc1 => ?_⟩
      · skip
        exact hQ _ _ hI
      · skip
        refine Wp.deep (s_X0_passHour_54_47 hG hI (fun M2 I2 => ?_)) (Nat.le_of_ble_eq_true rfl)
        have f3 := dAddE (X := x2.toInt) (Y := 1) (x := x2) (y := (1 : Int32)) rfl (by decide) (by omega) (by omega)
        exact ih.2.2 _ _ _ I2 (by omega) (by omega) (by omega)
theorem s_X11_hours_0 {g : gM} {x1 : Int32} {m : dM} {Q : Int32 → dM → Prop} (hG : Gd g) (hI : Inv g m) (hQ : ∀ (r : Int32) (m' : dM), Inv g m' → Q r m') : c_X11_hours_0 7 x1 m Q := by
  refine v_X11_hours_0 ?_
  refine ⟨fun hc1 => ?_, fun hc1 => ?_⟩
  · skip
    exact (s_X11_hours_0_all hG hQ 76).1 _ hI (by omega)
  · skip
    refine ⟨fun hc2 => ?_, fun hc2 => ?_⟩
    · skip
      refine ⟨fun hc3 => ?_, fun hc3 => ?_⟩
      · skip
        exact (s_X11_hours_0_all hG hQ 76).2.1 _ _ hI (by omega) (by omega)
      · skip
        refine Wp.deep (s_X6_keep_51_47 hG hI (fun M4 I4 => ?_)) (Nat.le_of_ble_eq_true rfl)
        exact (s_X11_hours_0_all hG hQ 76).2.1 _ _ I4 (by omega) (by omega)
    · skip
      exact (s_X11_hours_0_all hG hQ 76).1 _ hI (by omega)
theorem s_X12_mixed {g : gM} {x0 : Int32} {x1 : Int32} {m : dM} {Q : Int32 → dM → Prop} (hG : Gd g) (hI : Inv g m) (hQ : ∀ r : Int32, Q r m) : c_X12_mixed 1 x0 x1 m Q := by
  refine v_X12_mixed ?_
  exact hQ _
theorem s_X12_isSurge_70 {g : gM} {m : dM} {Q : Int32 → dM → Prop} (hG : Gd g) (hI : Inv g m) (hQ : ∀ r : Int32, (0 ≤ r.toInt ∧ r.toInt ≤ 1) → Q r m) : c_X12_isSurge_70 2 m Q := by
  refine v_X12_isSurge_70 ?_
  have f1 := ti_129
  refine Wp.deep (s_X12_mixed hG hI (fun R2 => ?_)) (Nat.le_of_ble_eq_true rfl)
  refine Wp.deep (s_X12_mixed hG hI (fun R3 => ?_)) (Nat.le_of_ble_eq_true rfl)
  have f4 := congrArg Int32.toInt (hI.2 70 18 rfl)
  have f5 := Inv.s hG hI (k := 70) (j := 18) rfl rfl
  refine ⟨by omega, ?_⟩
  have f6 := dRemE (x := (R3.toUInt32 >>> ((1 : Int32).toUInt32 &&& Int32.toUInt32 31)).toInt32) (y := (100 : Int32)) (Y := 100) (by decide) (by decide)
  refine ⟨fun hc7 => ?_, fun hc7 => ?_⟩
  · skip
    have f8 := ti_0
    exact hQ _ (by omega)
  · skip
    have f8 := ti_1
    exact hQ _ (by omega)
theorem s_X7_readFrom_47_52 {g : gM} {x2 : Int32} {m : dM} {Q : dM → Prop} (hG : Gd g) (hI : Inv g m) (h2 : -1287 ≤ x2.toInt ∧ x2.toInt ≤ 1287) (hQ : ∀ m' : dM, Inv g m' → Q m') : c_X7_readFrom_47_52 1 x2 m Q := by
  refine v_X7_readFrom_47_52 ?_
  refine ⟨fun hc1 => ?_, fun hc1 => ?_⟩
  · skip
    refine v_X7_readFrom_47_52_13 ?_
    exact hQ _ hI
  · skip
    have f2 := dSubE (X := 1320) (Y := 33) (x := (1320 : Int32)) (y := (33 : Int32)) (by decide) (by decide) (by omega) (by omega)
    refine ⟨fun hc3 => ?_, fun hc3 => ?_⟩
    · skip
      refine ⟨by omega, ?_⟩
      have f4 := dAddE (X := x2.toInt) (Y := 1) (x := x2) (y := (1 : Int32)) rfl (by decide) (by omega) (by omega)
      refine ⟨by omega, ?_⟩
      have f5 := dAddE (X := x2.toInt) (Y := 2) (x := x2) (y := (2 : Int32)) rfl (by decide) (by omega) (by omega)
      refine ⟨by omega, ?_⟩
      have f6 := dAddE (X := x2.toInt) (Y := 3) (x := x2) (y := (3 : Int32)) rfl (by decide) (by omega) (by omega)
      refine ⟨by omega, ?_⟩
      have f7 := dAddE (X := x2.toInt) (Y := 4) (x := x2) (y := (4 : Int32)) rfl (by decide) (by omega) (by omega)
      refine ⟨by omega, ?_⟩
      have f8 := dAddE (X := x2.toInt) (Y := 5) (x := x2) (y := (5 : Int32)) rfl (by decide) (by omega) (by omega)
      refine ⟨by omega, ?_⟩
      have f9 := ti_10
      have f10 := ti_0
      have f11 := dAddE (X := x2.toInt) (Y := 6) (x := x2) (y := (6 : Int32)) rfl (by decide) (by omega) (by omega)
      refine ⟨by omega, ?_⟩
      have f12 := dAddE (X := (x2 + (6 : Int32)).toInt) (Y := 10) (x := (x2 + (6 : Int32))) (y := (10 : Int32)) rfl (by decide) (by omega) (by omega)
      refine ⟨by omega, ?_⟩
      have f13 := ti_7
      have f14 := dAddE (X := (x2 + (6 : Int32)).toInt) (Y := 20) (x := (x2 + (6 : Int32))) (y := (20 : Int32)) rfl (by decide) (by omega) (by omega)
      refine ⟨by omega, ?_⟩
      have I15 : Inv g (dSet m 47 0 (m.1 52 x2.toNatClampNeg)) := (Inv.setA hI rfl)
      have I16 : Inv g (dSet (dSet m 47 0 (m.1 52 x2.toNatClampNeg)) 47 1 (m.1 52 (x2 + (1 : Int32)).toNatClampNeg)) := (Inv.setA I15 rfl)
      have I17 : Inv g (dSet (dSet (dSet m 47 0 (m.1 52 x2.toNatClampNeg)) 47 1 (m.1 52 (x2 + (1 : Int32)).toNatClampNeg)) 47 2 (m.1 52 (x2 + (2 : Int32)).toNatClampNeg)) := (Inv.setA I16 rfl)
      have I18 : Inv g (dSet (dSet (dSet (dSet m 47 0 (m.1 52 x2.toNatClampNeg)) 47 1 (m.1 52 (x2 + (1 : Int32)).toNatClampNeg)) 47 2 (m.1 52 (x2 + (2 : Int32)).toNatClampNeg)) 47 3 (m.1 52 (x2 + (3 : Int32)).toNatClampNeg)) := (Inv.setA I17 rfl)
      have I19 : Inv g (dSet (dSet (dSet (dSet (dSet m 47 0 (m.1 52 x2.toNatClampNeg)) 47 1 (m.1 52 (x2 + (1 : Int32)).toNatClampNeg)) 47 2 (m.1 52 (x2 + (2 : Int32)).toNatClampNeg)) 47 3 (m.1 52 (x2 + (3 : Int32)).toNatClampNeg)) 47 4 (m.1 52 (x2 + (4 : Int32)).toNatClampNeg)) := (Inv.setA I18 rfl)
      have I20 : Inv g (dSet (dSet (dSet (dSet (dSet (dSet m 47 0 (m.1 52 x2.toNatClampNeg)) 47 1 (m.1 52 (x2 + (1 : Int32)).toNatClampNeg)) 47 2 (m.1 52 (x2 + (2 : Int32)).toNatClampNeg)) 47 3 (m.1 52 (x2 + (3 : Int32)).toNatClampNeg)) 47 4 (m.1 52 (x2 + (4 : Int32)).toNatClampNeg)) 47 5 (m.1 52 (x2 + (5 : Int32)).toNatClampNeg)) := (Inv.setA I19 rfl)
      have I21 : Inv g (dCpy (dSet (dSet (dSet (dSet (dSet (dSet m 47 0 (m.1 52 x2.toNatClampNeg)) 47 1 (m.1 52 (x2 + (1 : Int32)).toNatClampNeg)) 47 2 (m.1 52 (x2 + (2 : Int32)).toNatClampNeg)) 47 3 (m.1 52 (x2 + (3 : Int32)).toNatClampNeg)) 47 4 (m.1 52 (x2 + (4 : Int32)).toNatClampNeg)) 47 5 (m.1 52 (x2 + (5 : Int32)).toNatClampNeg)) 52 ((x2 + (6 : Int32)).toInt).toNat 48 (0 : Int).toNat (10 : Int).toNat) := (Inv.cpy I20 (fun _ => rfl))
      have I22 : Inv g (dCpy (dCpy (dSet (dSet (dSet (dSet (dSet (dSet m 47 0 (m.1 52 x2.toNatClampNeg)) 47 1 (m.1 52 (x2 + (1 : Int32)).toNatClampNeg)) 47 2 (m.1 52 (x2 + (2 : Int32)).toNatClampNeg)) 47 3 (m.1 52 (x2 + (3 : Int32)).toNatClampNeg)) 47 4 (m.1 52 (x2 + (4 : Int32)).toNatClampNeg)) 47 5 (m.1 52 (x2 + (5 : Int32)).toNatClampNeg)) 52 ((x2 + (6 : Int32)).toInt).toNat 48 (0 : Int).toNat (10 : Int).toNat) 52 (((x2 + (6 : Int32)) + (10 : Int32)).toInt).toNat 49 (0 : Int).toNat (10 : Int).toNat) := (Inv.cpy I21 (fun _ => rfl))
      have I23 : Inv g (dCpy (dCpy (dCpy (dSet (dSet (dSet (dSet (dSet (dSet m 47 0 (m.1 52 x2.toNatClampNeg)) 47 1 (m.1 52 (x2 + (1 : Int32)).toNatClampNeg)) 47 2 (m.1 52 (x2 + (2 : Int32)).toNatClampNeg)) 47 3 (m.1 52 (x2 + (3 : Int32)).toNatClampNeg)) 47 4 (m.1 52 (x2 + (4 : Int32)).toNatClampNeg)) 47 5 (m.1 52 (x2 + (5 : Int32)).toNatClampNeg)) 52 ((x2 + (6 : Int32)).toInt).toNat 48 (0 : Int).toNat (10 : Int).toNat) 52 (((x2 + (6 : Int32)) + (10 : Int32)).toInt).toNat 49 (0 : Int).toNat (10 : Int).toNat) 52 (((x2 + (6 : Int32)) + (20 : Int32)).toInt).toNat 50 (0 : Int).toNat (7 : Int).toNat) := (Inv.cpy I22 (fun _ => rfl))
      exact hQ _ I23
    · skip
      exfalso; omega
theorem s_X6_takeBack_51_47 {g : gM} {m : dM} {Q : Int32 → dM → Prop} (hG : Gd g) (hI : Inv g m) (hQ : ∀ (r : Int32) (m' : dM), Inv g m' → (0 ≤ r.toInt ∧ r.toInt ≤ 1) → Q r m') : c_X6_takeBack_51_47 2 m Q := by
  refine v_X6_takeBack_51_47 ?_
  refine ⟨fun hc1 => ?_, fun hc1 => ?_⟩
  · skip
    have f2 := dRemE (x := (((m.1 51 2) + (40 : Int32)) - (1 : Int32))) (y := (40 : Int32)) (Y := 40) (by decide) (by decide)
    have f3 := dMulE (X := ((((m.1 51 2) + (40 : Int32)) - (1 : Int32)) - (((m.1 51 2) + (40 : Int32)) - (1 : Int32)) / (40 : Int32) * (40 : Int32)).toInt) (Y := 33) (x := ((((m.1 51 2) + (40 : Int32)) - (1 : Int32)) - (((m.1 51 2) + (40 : Int32)) - (1 : Int32)) / (40 : Int32) * (40 : Int32))) (y := (33 : Int32)) rfl (by decide) (by omega) (by omega)
    have I4 : Inv g (dSet m 51 2 ((((m.1 51 2) + (40 : Int32)) - (1 : Int32)) - (((m.1 51 2) + (40 : Int32)) - (1 : Int32)) / (40 : Int32) * (40 : Int32))) := (Inv.setA hI rfl)
    have I5 : Inv g (dSet (dSet m 51 2 ((((m.1 51 2) + (40 : Int32)) - (1 : Int32)) - (((m.1 51 2) + (40 : Int32)) - (1 : Int32)) / (40 : Int32) * (40 : Int32))) 51 3 ((m.1 51 3) - (1 : Int32))) := (Inv.setA I4 rfl)
    refine Wp.deep (s_X7_readFrom_47_52 hG I5 (by omega) (fun M6 I6 => ?_)) (Nat.le_of_ble_eq_true rfl)
    have f7 := ti_1
    exact hQ _ _ I6 (by omega)
  · skip
    have f2 := ti_0
    exact hQ _ _ hI (by omega)
theorem s_X11_undo_0 {g : gM} {m : dM} {Q : Int32 → dM → Prop} (hG : Gd g) (hI : Inv g m) (hQ : ∀ (r : Int32) (m' : dM), Inv g m' → (0 ≤ r.toInt ∧ r.toInt ≤ 1) → Q r m') : c_X11_undo_0 3 m Q := by
  refine v_X11_undo_0 ?_
  refine Wp.deep (s_X6_takeBack_51_47 hG hI (fun R1 M1 I1 hr1 => ?_)) (Nat.le_of_ble_eq_true rfl)
  refine ⟨dB01 (by omega), ?_⟩
  exact hQ _ _ I1 (by omega)
theorem s_X12_undo_70_all {g : gM} {Q : Int32 → dM → Prop} (hG : Gd g) (hQ : ∀ (r : Int32) (m' : dM), Inv g m' → (0 ≤ r.toInt ∧ r.toInt ≤ 1) → Q r m') : ∀ n : Nat, (∀ (x1 : Int32) (m : dM), Inv g m → (0 ≤ x1.toInt ∧ x1.toInt ≤ 58) → (0 ≤ (m.1 70 61).toInt ∧ (m.1 70 61).toInt ≤ 39) → 58 - 1 * x1.toInt < (n : Int) → j_X12_undo_70_21 1 x1 m Q) := by
  intro n
  induction n with
  | zero => exact fun x1 m hI h1 hk70_61 hμ => by exfalso; omega
  | succ n ih =>
    · intro x1 m hI h1 hk70_61 hμ
      refine v_X12_undo_70_21 ?_
      refine ⟨fun hc1 => ?_, fun hc1 => ?_⟩
      · skip
        have f2 := ti_1
        exact hQ _ _ hI (by omega)
      · skip
        have f2 := Inv.w hI (k := 70) (j := 61) rfl
        have f3 := dMulE (X := 58) (Y := (m.1 70 61).toInt) (x := (58 : Int32)) (y := (m.1 70 61)) (by decide) rfl (by omega) (by omega)
        have f4 := dAddE (X := ((58 : Int32) * (m.1 70 61)).toInt) (Y := x1.toInt) (x := ((58 : Int32) * (m.1 70 61))) (y := x1) rfl rfl (by omega) (by omega)
        refine ⟨by omega, ?_⟩
        refine ⟨by omega, ?_⟩
        have f5 := dAddE (X := x1.toInt) (Y := 1) (x := x1) (y := (1 : Int32)) rfl (by decide) (by omega) (by omega)
        have I6 : Inv g (dSet m 107 x1.toNatClampNeg (m.1 111 (((58 : Int32) * (m.1 70 61)) + x1).toNatClampNeg)) := (Inv.setA hI rfl)
        have f7 : ((dSet m 107 x1.toNatClampNeg (m.1 111 (((58 : Int32) * (m.1 70 61)) + x1).toNatClampNeg)).1 70 61).toInt = (m.1 70 61).toInt := rfl
        exact ih _ _ I6 (by omega) (by omega) (by omega)
theorem s_X12_undo_70 {g : gM} {m : dM} {Q : Int32 → dM → Prop} (hG : Gd g) (hI : Inv g m) (hQ : ∀ (r : Int32) (m' : dM), Inv g m' → (0 ≤ r.toInt ∧ r.toInt ≤ 1) → Q r m') : c_X12_undo_70 1 m Q := by
  have hz2 := e_lo (m.1 70 61)
  have hz3 := e_hi (m.1 70 61)
  refine v_X12_undo_70 ?_
  have f1 := Inv.w hI (k := 70) (j := 61) rfl
  refine ⟨fun hc2 => ?_, fun hc2 => ?_⟩
  · skip
    have f3 := ti_0
    have f4 := dSubE (X := (m.1 70 61).toInt) (Y := 1) (x := (m.1 70 61)) (y := (1 : Int32)) rfl (by decide) (by omega) (by omega)
    have I5 : Inv g (dSet m 70 61 ((m.1 70 61) - (1 : Int32))) := (Inv.set hI rfl (by omega) (by omega))
    have f6 : ((dSet m 70 61 ((m.1 70 61) - (1 : Int32))).1 70 61).toInt = ((m.1 70 61) - (1 : Int32)).toInt := rfl
    exact (s_X12_undo_70_all hG hQ 60) _ _ I5 (by omega) (by omega) (by omega)
  · skip
    have f3 := ti_0
    exact hQ _ _ hI (by omega)
theorem s_X10_wireAt_57_all {g : gM} {Q : Int32 → dM → Prop} {m : dM} (hG : Gd g) (hI : Inv g m) (hQ : ∀ r : Int32, (-1 ≤ r.toInt ∧ r.toInt ≤ 9) → Q r m) : ∀ n : Nat, (0 < (n : Int) → j_X10_wireAt_57_14 1 m Q) ∧ (∀ (x2 : Int32) (x3 : Int32) (x4 : Int32), (0 ≤ x2.toInt ∧ x2.toInt ≤ 6) → (0 ≤ x3.toInt ∧ x3.toInt ≤ 6) → (0 ≤ x4.toInt ∧ x4.toInt ≤ 6) → 7 - 1 * x4.toInt < (n : Int) → j_X10_wireAt_57_21 1 x2 x3 x4 m Q) := by
  intro n
  induction n with
  | zero => exact ⟨fun hμ => by exfalso; omega, fun x2 x3 x4 h2 h3 h4 hμ => by exfalso; omega⟩
  | succ n ih =>
    refine ⟨?_, ?_⟩
    · intro hμ
      refine v_X10_wireAt_57_14 ?_
      have f1 := ti_m1
      exact hQ _ (by omega)
    · intro x2 x3 x4 h2 h3 h4 hμ
      refine v_X10_wireAt_57_21 ?_
      refine ⟨fun hc1 => ?_, fun hc1 => ?_⟩
      · skip
        refine ⟨by omega, ?_⟩
        have f2 := Inv.w hI (k := 58) (j := x3.toNatClampNeg) rfl
        exact hQ _ (by omega)
      · skip
        refine ⟨by omega, ?_⟩
        have f2 := Inv.w hI (k := 58) (j := x3.toNatClampNeg) rfl
        refine ⟨by omega, ?_⟩
        have f3 := Inv.s hG hI (k := 4) (j := (m.1 58 x3.toNatClampNeg).toNatClampNeg) rfl rfl
        refine ⟨fun hc4 => ?_, fun hc4 => ?_⟩
        · skip
          refine ⟨by omega, ?_⟩
          have f5 := dAddE (X := x4.toInt) (Y := 1) (x := x4) (y := (1 : Int32)) rfl (by decide) (by omega) (by omega)
          exact ih.2 _ _ _ (by omega) (by omega) (by omega) (by omega)
        · skip
          refine ⟨by omega, ?_⟩
          have f5 := Inv.s hG hI (k := 5) (j := (m.1 58 x3.toNatClampNeg).toNatClampNeg) rfl rfl
          have f6 := dAddE (X := x4.toInt) (Y := 1) (x := x4) (y := (1 : Int32)) rfl (by decide) (by omega) (by omega)
          exact ih.2 _ _ _ (by omega) (by omega) (by omega) (by omega)
theorem s_X10_wireAt_57 {g : gM} {x1 : Int32} {x2 : Int32} {m : dM} {Q : Int32 → dM → Prop} (hG : Gd g) (hI : Inv g m) (h1 : 0 ≤ x1.toInt ∧ x1.toInt ≤ 6) (h2 : 0 ≤ x2.toInt) (hQ : ∀ r : Int32, (-1 ≤ r.toInt ∧ r.toInt ≤ 9) → Q r m) : c_X10_wireAt_57 1 x1 x2 m Q := by
  refine v_X10_wireAt_57 ?_
  refine ⟨fun hc1 => ?_, fun hc1 => ?_⟩
  · skip
    exfalso; omega
  · skip
    refine ⟨by omega, ?_⟩
    have f2 := Inv.w hI (k := 59) (j := x1.toNatClampNeg) rfl
    refine ⟨fun hc3 => ?_, fun hc3 => ?_⟩
    · skip
      have f4 := ti_0
      exact (s_X10_wireAt_57_all hG hI hQ 9).2 _ _ _ (by omega) (by omega) (by omega) (by omega)
    · skip
      exact (s_X10_wireAt_57_all hG hI hQ 9).1 (by omega)
theorem s_X11_way_0 {g : gM} {x1 : Int32} {x2 : Int32} {m : dM} {Q : Int32 → dM → Prop} (hG : Gd g) (hI : Inv g m) (hQ : ∀ (r : Int32) (m' : dM), Inv g m' → (-2 ≤ r.toInt ∧ r.toInt ≤ 9) → Q r m') : c_X11_way_0 4 x1 x2 m Q := by
  refine v_X11_way_0 ?_
  refine v_X11_isFlat_0 ?_
  refine ⟨fun hc1 => ?_, fun hc1 => ?_⟩
  · skip
    refine v_X11_isFlat_0_19 ?_
    have f2 := ti_0
    refine ⟨fun hc3 => ?_, fun hc3 => ?_⟩
    · skip
      refine v_X11_way_0_12 ?_
      have f4 := ti_m1
      exact hQ _ _ hI (by omega)
    · skip
      exfalso; omega
  · skip
    have f2 := congrArg Int32.toInt (hI.2 2 0 rfl)
    have f3 := Inv.s hG hI (k := 2) (j := 0) rfl rfl
    refine ⟨fun hc4 => ?_, fun hc4 => ?_⟩
    · skip
      refine v_X11_isFlat_0_19 ?_
      have f5 := ti_0
      refine ⟨fun hc6 => ?_, fun hc6 => ?_⟩
      · skip
        refine v_X11_way_0_12 ?_
        have f7 := ti_m1
        exact hQ _ _ hI (by omega)
      · skip
        exfalso; omega
    · skip
      have f5 := ti_1
      refine ⟨fun hc6 => ?_, fun hc6 => ?_⟩
      · skip
        exfalso; omega
      · skip
        refine ⟨fun hc7 => ?_, fun hc7 => ?_⟩
        · skip
          refine Wp.deep (s_X0_waysNow_54_47 hG hI (fun M8 I8 => ?_)) (Nat.le_of_ble_eq_true rfl)
          refine v_X11_has ?_
          have f9 := dAndE (x := ((M8.1 57 5).toUInt32 >>> (x1.toUInt32 &&& Int32.toUInt32 31)).toInt32) (y := (1 : Int32)) (by decide)
          refine ⟨fun hc10 => ?_, fun hc10 => ?_⟩
          · skip
            have f11 := ti_0
            refine ⟨fun hc12 => ?_, fun hc12 => ?_⟩
            · skip
              have f13 := ti_m2
              exact hQ _ _ I8 (by omega)
            · skip
              exfalso; omega
          · skip
            refine ⟨fun hc11 => ?_, fun hc11 => ?_⟩
            · skip
              exfalso; omega
            · skip
              refine Wp.deep (s_X10_wireAt_57 hG I8 (by omega) (by omega) (fun R12 hr12 => ?_)) (Nat.le_of_ble_eq_true rfl)
              exact hQ _ _ I8 (by omega)
        · skip
          refine v_X11_way_0_12 ?_
          have f8 := ti_m1
          exact hQ _ _ hI (by omega)
theorem s_X7_copy_62_47 {g : gM} {m : dM} {Q : dM → Prop} (hG : Gd g) (hI : Inv g m) (hQ : ∀ m' : dM, Inv g m' → Q m') : c_X7_copy_62_47 1 m Q := by
  refine v_X7_copy_62_47 ?_
  have I1 : Inv g (dSet m 62 0 (m.1 47 0)) := (Inv.setA hI rfl)
  have I2 : Inv g (dSet (dSet m 62 0 (m.1 47 0)) 62 1 (m.1 47 1)) := (Inv.setA I1 rfl)
  have I3 : Inv g (dSet (dSet (dSet m 62 0 (m.1 47 0)) 62 1 (m.1 47 1)) 62 2 (m.1 47 2)) := (Inv.setA I2 rfl)
  have I4 : Inv g (dSet (dSet (dSet (dSet m 62 0 (m.1 47 0)) 62 1 (m.1 47 1)) 62 2 (m.1 47 2)) 62 3 (m.1 47 3)) := (Inv.setA I3 rfl)
  have I5 : Inv g (dSet (dSet (dSet (dSet (dSet m 62 0 (m.1 47 0)) 62 1 (m.1 47 1)) 62 2 (m.1 47 2)) 62 3 (m.1 47 3)) 62 4 (m.1 47 4)) := (Inv.setA I4 rfl)
  have I6 : Inv g (dSet (dSet (dSet (dSet (dSet (dSet m 62 0 (m.1 47 0)) 62 1 (m.1 47 1)) 62 2 (m.1 47 2)) 62 3 (m.1 47 3)) 62 4 (m.1 47 4)) 62 5 (m.1 47 5)) := (Inv.setA I5 rfl)
  have I7 : Inv g (dCpy (dSet (dSet (dSet (dSet (dSet (dSet m 62 0 (m.1 47 0)) 62 1 (m.1 47 1)) 62 2 (m.1 47 2)) 62 3 (m.1 47 3)) 62 4 (m.1 47 4)) 62 5 (m.1 47 5)) 48 (0 : Int).toNat 63 (0 : Int).toNat (10 : Int).toNat) := (Inv.cpy I6 (fun _ => rfl))
  have I8 : Inv g (dCpy (dCpy (dSet (dSet (dSet (dSet (dSet (dSet m 62 0 (m.1 47 0)) 62 1 (m.1 47 1)) 62 2 (m.1 47 2)) 62 3 (m.1 47 3)) 62 4 (m.1 47 4)) 62 5 (m.1 47 5)) 48 (0 : Int).toNat 63 (0 : Int).toNat (10 : Int).toNat) 49 (0 : Int).toNat 64 (0 : Int).toNat (10 : Int).toNat) := (Inv.cpy I7 (fun _ => rfl))
  have I9 : Inv g (dCpy (dCpy (dCpy (dSet (dSet (dSet (dSet (dSet (dSet m 62 0 (m.1 47 0)) 62 1 (m.1 47 1)) 62 2 (m.1 47 2)) 62 3 (m.1 47 3)) 62 4 (m.1 47 4)) 62 5 (m.1 47 5)) 48 (0 : Int).toNat 63 (0 : Int).toNat (10 : Int).toNat) 49 (0 : Int).toNat 64 (0 : Int).toNat (10 : Int).toNat) 50 (0 : Int).toNat 65 (0 : Int).toNat (7 : Int).toNat) := (Inv.cpy I8 (fun _ => rfl))
  exact hQ _ I9
theorem s_X0_usesAt_54_62_all {g : gM} {Q : Int32 → dM → Prop} (hG : Gd g) (hQ : ∀ (r : Int32) (m' : dM), Inv g m' → Q r m') : ∀ n : Nat, (∀ (x2 : Int32) (x3 : Int32) (x4 : Int32) (m : dM), Inv g m → (-23 ≤ x2.toInt ∧ x2.toInt ≤ 23) → (0 ≤ x4.toInt ∧ x4.toInt ≤ 8) → 26 - 3 * x4.toInt < (n : Int) → j_X0_usesAt_54_62_16 3 x2 x3 x4 m Q) ∧ (∀ (x2 : Int32) (x3 : Int32) (x4 : Int32) (m : dM), Inv g m → (-23 ≤ x2.toInt ∧ x2.toInt ≤ 23) → (0 ≤ x4.toInt ∧ x4.toInt ≤ 7) → 25 - 3 * x4.toInt < (n : Int) → j_X0_usesAt_54_62_60 3 x2 x3 x4 m Q) ∧ (∀ (x2 : Int32) (x3 : Int32) (x4 : Int32) (m : dM), Inv g m → (-23 ≤ x2.toInt ∧ x2.toInt ≤ 23) → (0 ≤ x4.toInt ∧ x4.toInt ≤ 7) → 24 - 3 * x4.toInt < (n : Int) → j_X0_usesAt_54_62_110 3 x2 x3 x4 m Q) := by
  intro n
  induction n with
  | zero => exact ⟨fun x2 x3 x4 m hI h2 h4 hμ => by exfalso; omega, fun x2 x3 x4 m hI h2 h4 hμ => by exfalso; omega, fun x2 x3 x4 m hI h2 h4 hμ => by exfalso; omega⟩
  | succ n ih =>
    refine ⟨?_, ?_, ?_⟩
    · intro x2 x3 x4 m hI h2 h4 hμ
      refine v_X0_usesAt_54_62_16 ?_
      have f1 := congrArg Int32.toInt (hI.2 2 2 rfl)
      have f2 := Inv.s hG hI (k := 2) (j := 2) rfl rfl
      refine ⟨fun hc3 => ?_, fun hc3 => ?_⟩
      · skip
        exact hQ _ _ hI
      · skip
        refine ⟨by omega, ?_⟩
        refine ⟨fun hc4 => ?_, fun hc4 => ?_⟩
        · skip
          exact ih.2.1 _ _ _ _ hI (by omega) (by omega) (by omega)
        · skip
          refine ⟨by omega, ?_⟩
          refine ⟨fun hc5 => ?_, fun hc5 => ?_⟩
          · skip
            exact ih.2.1 _ _ _ _ hI (by omega) (by omega) (by omega)
          · skip
            refine v_X11_has ?_
            have f6 := ti_1
            have f7 := dAndE (x := ((m.1 62 5).toUInt32 >>> (x4.toUInt32 &&& Int32.toUInt32 31)).toInt32) (y := (1 : Int32)) (by decide)
            refine ⟨fun hc8 => ?_, fun hc8 => ?_⟩
            · skip
              have f9 := ti_0
              refine ⟨fun hc10 => ?_, fun hc10 => ?_⟩
              · skip
                exact ih.2.2 _ _ _ _ hI (by omega) (by omega) (by omega)
              · skip
                exfalso; omega
            · skip
              refine ⟨fun hc9 => ?_, fun hc9 => ?_⟩
              · skip
                exfalso; omega
              · skip
                refine ⟨by omega, ?_⟩
                refine v_X11_has ?_
                have f10 := Inv.home hG hI (u := x4) (by omega) (by omega)
                have f11 := dAndE (x := ((m.1 57 5).toUInt32 >>> ((m.1 7 x4.toNatClampNeg).toUInt32 &&& Int32.toUInt32 31)).toInt32) (y := (1 : Int32)) (by decide)
                refine ⟨fun hc12 => ?_, fun hc12 => ?_⟩
                · skip
                  have f13 := ti_0
                  refine ⟨fun hc14 => ?_, fun hc14 => ?_⟩
                  · skip
                    exact ih.2.2 _ _ _ _ hI (by omega) (by omega) (by omega)
                  · skip
                    exfalso; omega
                · skip
                  refine ⟨fun hc13 => ?_, fun hc13 => ?_⟩
                  · skip
                    exfalso; omega
                  · skip
                    have f14 := dShl8 (x := x4) (by omega) (by omega)
                    exact ih.2.2 _ _ _ _ hI (by omega) (by omega) (by omega)
    · intro x2 x3 x4 m hI h2 h4 hμ
      refine v_X0_usesAt_54_62_60 ?_
      exact ih.2.2 _ _ _ _ hI (by omega) (by omega) (by omega)
    · intro x2 x3 x4 m hI h2 h4 hμ
      refine v_X0_usesAt_54_62_110 ?_
      have f1 := dAddE (X := x4.toInt) (Y := 1) (x := x4) (y := (1 : Int32)) rfl (by decide) (by omega) (by omega)
      exact ih.1 _ _ _ _ hI (by omega) (by omega) (by omega)
theorem s_X0_usesAt_54_62 {g : gM} {x2 : Int32} {m : dM} {Q : Int32 → dM → Prop} (hG : Gd g) (hI : Inv g m) (h2 : -23 ≤ x2.toInt ∧ x2.toInt ≤ 23) (hQ : ∀ (r : Int32) (m' : dM), Inv g m' → Q r m') : c_X0_usesAt_54_62 3 x2 m Q := by
  refine v_X0_usesAt_54_62 ?_
  refine Wp.deep (s_X10_lay_57 hG hI (fun M1 I1 => ?_)) (Nat.le_of_ble_eq_true rfl)
  have f2 := ti_0
  exact (s_X0_usesAt_54_62_all hG hQ 28).1 _ _ _ _ I1 (by omega) (by omega) (by omega)
theorem s_X0_putOn_54_62_all {g : gM} {Q : dM → Prop} (hG : Gd g) (hQ : ∀ m' : dM, Inv g m' → Q m') : ∀ n : Nat, (∀ (x2 : Int32) (x3 : Int32) (m : dM), Inv g m → (0 ≤ x3.toInt ∧ x3.toInt ≤ 8) → 116 - 13 * x3.toInt < (n : Int) → j_X0_putOn_54_62_21 3 x2 x3 m Q) ∧ (∀ (x2 : Int32) (x3 : Int32) (x4 : Int32) (x5 : Int32) (m : dM), Inv g m → (0 ≤ x3.toInt ∧ x3.toInt ≤ 7) → (0 ≤ x5.toInt ∧ x5.toInt ≤ 10) → 115 - 13 * x3.toInt - 1 * x5.toInt < (n : Int) → j_X0_putOn_54_62_66 3 x2 x3 x4 x5 m Q) ∧ (∀ (x2 : Int32) (x3 : Int32) (m : dM), Inv g m → (0 ≤ x3.toInt ∧ x3.toInt ≤ 7) → 104 - 13 * x3.toInt < (n : Int) → j_X0_putOn_54_62_125 3 x2 x3 m Q) := by
  intro n
  induction n with
  | zero => exact ⟨fun x2 x3 m hI h3 hμ => by exfalso; omega, fun x2 x3 x4 x5 m hI h3 h5 hμ => by exfalso; omega, fun x2 x3 m hI h3 hμ => by exfalso; omega⟩
  | succ n ih =>
    refine ⟨?_, ?_, ?_⟩
    · intro x2 x3 m hI h3 hμ
      refine v_X0_putOn_54_62_21 ?_
      have f1 := congrArg Int32.toInt (hI.2 2 2 rfl)
      have f2 := Inv.s hG hI (k := 2) (j := 2) rfl rfl
      refine ⟨fun hc3 => ?_, fun hc3 => ?_⟩
      · skip
        exact hQ _ hI
      · skip
        refine v_X11_has ?_
        have f4 := ti_1
        have f5 := dAndE (x := (x2.toUInt32 >>> (x3.toUInt32 &&& Int32.toUInt32 31)).toInt32) (y := (1 : Int32)) (by decide)
        refine ⟨fun hc6 => ?_, fun hc6 => ?_⟩
        · skip
          have f7 := ti_0
          refine ⟨fun hc8 => ?_, fun hc8 => ?_⟩
          · skip
            exact ih.2.1 _ _ _ _ _ hI (by omega) (by omega) (by omega)
          · skip
            exfalso; omega
        · skip
          refine ⟨fun hc7 => ?_, fun hc7 => ?_⟩
          · skip
            exfalso; omega
          · skip
            refine ⟨by omega, ?_⟩
            have f8 := Inv.home hG hI (u := x3) (by omega) (by omega)
            refine ⟨by omega, ?_⟩
            have f9 := ti_0
            exact ih.2.1 _ _ _ _ _ hI (by omega) (by omega) (by omega)
    · intro x2 x3 x4 x5 m hI h3 h5 hμ
      refine v_X0_putOn_54_62_66 ?_
      refine ⟨fun hc1 => ?_, fun hc1 => ?_⟩
      · skip
        exact ih.2.2 _ _ _ hI (by omega) (by omega)
      · skip
        have f2 := congrArg Int32.toInt (hI.2 2 1 rfl)
        have f3 := Inv.s hG hI (k := 2) (j := 1) rfl rfl
        refine ⟨fun hc4 => ?_, fun hc4 => ?_⟩
        · skip
          exact ih.2.2 _ _ _ hI (by omega) (by omega)
        · skip
          refine ⟨by omega, ?_⟩
          refine v_X11_has ?_
          have f5 := ti_1
          have f6 := dAndE (x := (x4.toUInt32 >>> (x5.toUInt32 &&& Int32.toUInt32 31)).toInt32) (y := (1 : Int32)) (by decide)
          refine ⟨fun hc7 => ?_, fun hc7 => ?_⟩
          · skip
            have f8 := ti_0
            refine ⟨fun hc9 => ?_, fun hc9 => ?_⟩
            · skip
              refine ⟨by omega, ?_⟩
              have f10 := dAddE (X := x5.toInt) (Y := 1) (x := x5) (y := (1 : Int32)) rfl (by decide) (by omega) (by omega)
              have I11 : Inv g (dSet m 56 x5.toNatClampNeg ((m.1 56 x5.toNatClampNeg) + (0 : Int32))) := (Inv.setA hI rfl)
              exact ih.2.1 _ _ _ _ _ I11 (by omega) (by omega) (by omega)
            · skip
              exfalso; omega
          · skip
            refine ⟨fun hc8 => ?_, fun hc8 => ?_⟩
            · skip
              exfalso; omega
            · skip
              refine ⟨by omega, ?_⟩
              refine ⟨by omega, ?_⟩
              have f9 := dAddE (X := x5.toInt) (Y := 1) (x := x5) (y := (1 : Int32)) rfl (by decide) (by omega) (by omega)
              have I10 : Inv g (dSet m 56 x5.toNatClampNeg ((m.1 56 x5.toNatClampNeg) + (m.1 8 x3.toNatClampNeg))) := (Inv.setA hI rfl)
              exact ih.2.1 _ _ _ _ _ I10 (by omega) (by omega) (by omega)
    · intro x2 x3 m hI h3 hμ
      refine v_X0_putOn_54_62_125 ?_
      have f1 := dAddE (X := x3.toInt) (Y := 1) (x := x3) (y := (1 : Int32)) rfl (by decide) (by omega) (by omega)
      exact ih.1 _ _ _ hI (by omega) (by omega)
theorem s_X0_putOn_54_62 {g : gM} {x2 : Int32} {m : dM} {Q : dM → Prop} (hG : Gd g) (hI : Inv g m) (hQ : ∀ m' : dM, Inv g m' → Q m') : c_X0_putOn_54_62 3 x2 m Q := by
  refine v_X0_putOn_54_62 ?_
  refine Wp.deep (s_X10_lay_57 hG hI (fun M1 I1 => ?_)) (Nat.le_of_ble_eq_true rfl)
  have f2 := ti_0
  refine Wp.deep (s_J7_fill_56 hG I1 (by omega) (fun M3 I3 => ?_)) (Nat.le_of_ble_eq_true rfl)
  exact (s_X0_putOn_54_62_all hG hQ 118).1 _ _ _ I3 (by omega) (by omega)
theorem s_X0_going_54_62_all {g : gM} {Q : Int32 → dM → Prop} (hG : Gd g) (hQ : ∀ (r : Int32) (m' : dM), Inv g m' → Q r m') : ∀ n : Nat, (∀ (x2 : Int32) (x3 : Int32) (x4 : Int32) (x5 : Int32) (m : dM), Inv g m → (-23 ≤ x2.toInt ∧ x2.toInt ≤ 23) → (0 ≤ x5.toInt ∧ x5.toInt ≤ 10) → 21 - 2 * x5.toInt < (n : Int) → j_X0_going_54_62_6 4 x2 x3 x4 x5 m Q) ∧ (∀ (x2 : Int32) (x3 : Int32) (x4 : Int32) (x5 : Int32) (m : dM), Inv g m → (-23 ≤ x2.toInt ∧ x2.toInt ≤ 23) → (0 ≤ x5.toInt ∧ x5.toInt ≤ 9) → 20 - 2 * x5.toInt < (n : Int) → j_X0_going_54_62_119 4 x2 x3 x4 x5 m Q) := by
  intro n
  induction n with
  | zero => exact ⟨fun x2 x3 x4 x5 m hI h2 h5 hμ => by exfalso; omega, fun x2 x3 x4 x5 m hI h2 h5 hμ => by exfalso; omega⟩
  | succ n ih =>
    refine ⟨?_, ?_⟩
    · intro x2 x3 x4 x5 m hI h2 h5 hμ
      refine v_X0_going_54_62_6 ?_
      have f1 := congrArg Int32.toInt (hI.2 2 1 rfl)
      have f2 := Inv.s hG hI (k := 2) (j := 1) rfl rfl
      refine ⟨fun hc3 => ?_, fun hc3 => ?_⟩
      · skip
        exact hQ _ _ hI
      · skip
        refine ⟨by omega, ?_⟩
        refine ⟨fun hc4 => ?_, fun hc4 => ?_⟩
        · skip
          exact ih.2 _ _ _ _ _ hI (by omega) (by omega) (by omega)
        · skip
          refine v_X11_has ?_
          have f5 := ti_1
          have f6 := dAndE (x := ((m.1 62 4).toUInt32 >>> (x5.toUInt32 &&& Int32.toUInt32 31)).toInt32) (y := (1 : Int32)) (by decide)
          refine ⟨fun hc7 => ?_, fun hc7 => ?_⟩
          · skip
            have f8 := ti_0
            refine ⟨fun hc9 => ?_, fun hc9 => ?_⟩
            · skip
              exfalso; omega
            · skip
              refine v_X7_day_62 ?_
              refine Wp.deep (s_X0_setVars_54 hG hI (by omega) (by omega) (fun M10 I10 => ?_)) (Nat.le_of_ble_eq_true rfl)
              refine ⟨by omega, ?_⟩
              refine ⟨by omega, ?_⟩
              refine ⟨by omega, ?_⟩
              have I11 : Inv g (dSet M10 55 0 ((M10.1 56 x5.toNatClampNeg) + x3)) := (Inv.setA I10 rfl)
              have I12 : Inv g (dSet (dSet M10 55 0 ((M10.1 56 x5.toNatClampNeg) + x3)) 55 1 (M10.1 63 x5.toNatClampNeg)) := (Inv.setA I11 rfl)
              have I13 : Inv g (dSet (dSet (dSet M10 55 0 ((M10.1 56 x5.toNatClampNeg) + x3)) 55 1 (M10.1 63 x5.toNatClampNeg)) 55 2 (M10.1 64 x5.toNatClampNeg)) := (Inv.setA I12 rfl)
              refine Wp.deep (s_X4_tells_11_55 hG I13 (by omega) (fun R14 M14 I14 => ?_)) (Nat.le_of_ble_eq_true rfl)
              refine ⟨fun hc15 => ?_, fun hc15 => ?_⟩
              · skip
                exact ih.2 _ _ _ _ _ I14 (by omega) (by omega) (by omega)
              · skip
                have f16 := dShl10 (x := x5) (by omega) (by omega)
                exact ih.2 _ _ _ _ _ I14 (by omega) (by omega) (by omega)
          · skip
            refine ⟨fun hc8 => ?_, fun hc8 => ?_⟩
            · skip
              exact ih.2 _ _ _ _ _ hI (by omega) (by omega) (by omega)
            · skip
              exfalso; omega
    · intro x2 x3 x4 x5 m hI h2 h5 hμ
      refine v_X0_going_54_62_119 ?_
      have f1 := dAddE (X := x5.toInt) (Y := 1) (x := x5) (y := (1 : Int32)) rfl (by decide) (by omega) (by omega)
      exact ih.1 _ _ _ _ _ hI (by omega) (by omega) (by omega)
theorem s_X0_going_54_62 {g : gM} {x2 : Int32} {x3 : Int32} {m : dM} {Q : Int32 → dM → Prop} (hG : Gd g) (hI : Inv g m) (h2 : -23 ≤ x2.toInt ∧ x2.toInt ≤ 23) (hQ : ∀ (r : Int32) (m' : dM), Inv g m' → Q r m') : c_X0_going_54_62 4 x2 x3 m Q := by
  refine v_X0_going_54_62 ?_
  have f1 := ti_0
  exact (s_X0_going_54_62_all hG hQ 23).1 _ _ _ _ _ hI (by omega) (by omega) (by omega)
theorem s_X0_passWires_54_62_all {g : gM} {Q : Int32 → dM → Prop} (hG : Gd g) (hQ : ∀ (r : Int32) (m' : dM), Inv g m' → Q r m') : ∀ n : Nat, (∀ (x3 : Int32) (x4 : Int32) (m : dM), Inv g m → (0 ≤ x4.toInt ∧ x4.toInt ≤ 10) → 21 - 2 * x4.toInt < (n : Int) → j_X0_passWires_54_62_38 5 x3 x4 m Q) ∧ (∀ (x3 : Int32) (x4 : Int32) (m : dM), Inv g m → (0 ≤ x4.toInt ∧ x4.toInt ≤ 9) → 20 - 2 * x4.toInt < (n : Int) → j_X0_passWires_54_62_84 5 x3 x4 m Q) := by
  intro n
  induction n with
  | zero => exact ⟨fun x3 x4 m hI h4 hμ => by exfalso; omega, fun x3 x4 m hI h4 hμ => by exfalso; omega⟩
  | succ n ih =>
    refine ⟨?_, ?_⟩
    · intro x3 x4 m hI h4 hμ
      refine v_X0_passWires_54_62_38 ?_
      have f1 := congrArg Int32.toInt (hI.2 2 1 rfl)
      have f2 := Inv.s hG hI (k := 2) (j := 1) rfl rfl
      refine ⟨fun hc3 => ?_, fun hc3 => ?_⟩
      · skip
        have I4 : Inv g (dSet m 62 0 ((m.1 62 0) + (1 : Int32))) := (Inv.setA hI rfl)
        exact hQ _ _ I4
      · skip
        refine v_X11_has ?_
        have f4 := ti_1
        have f5 := dAndE (x := ((m.1 62 3).toUInt32 >>> (x4.toUInt32 &&& Int32.toUInt32 31)).toInt32) (y := (1 : Int32)) (by decide)
        refine ⟨fun hc6 => ?_, fun hc6 => ?_⟩
        · skip
          have f7 := ti_0
          refine ⟨fun hc8 => ?_, fun hc8 => ?_⟩
          · skip
            exfalso; omega
          · skip
            refine ⟨by omega, ?_⟩
            refine ⟨by omega, ?_⟩
            have I9 : Inv g (dSet m 64 x4.toNatClampNeg (if ((m.1 64 x4.toNatClampNeg) + (1 : Int32)) < (999 : Int32) then ((m.1 64 x4.toNatClampNeg) + (1 : Int32)) else (999 : Int32))) := (Inv.setA hI rfl)
            exact ih.2 _ _ _ I9 (by omega) (by omega)
        · skip
          refine ⟨fun hc7 => ?_, fun hc7 => ?_⟩
          · skip
            exact ih.2 _ _ _ hI (by omega) (by omega)
          · skip
            exfalso; omega
    · intro x3 x4 m hI h4 hμ
      refine v_X0_passWires_54_62_84 ?_
      have f1 := dAddE (X := x4.toInt) (Y := 1) (x := x4) (y := (1 : Int32)) rfl (by decide) (by omega) (by omega)
      exact ih.1 _ _ _ hI (by omega) (by omega)
theorem s_X0_passWires_54_62 {g : gM} {x2 : Int32} {m : dM} {Q : Int32 → dM → Prop} (hG : Gd g) (hI : Inv g m) (hQ : ∀ (r : Int32) (m' : dM), Inv g m' → Q r m') : c_X0_passWires_54_62 5 x2 m Q := by
  refine v_X0_passWires_54_62 ?_
  refine v_X7_hourOfDay_62 ?_
  have f1 := dRemE (x := (m.1 62 0)) (y := (24 : Int32)) (Y := 24) (by decide) (by decide)
  refine Wp.deep (s_X0_usesAt_54_62 hG hI (by omega) (fun R2 M2 I2 => ?_)) (Nat.le_of_ble_eq_true rfl)
  refine Wp.deep (s_X0_putOn_54_62 hG I2 (fun M3 I3 => ?_)) (Nat.le_of_ble_eq_true rfl)
  refine v_X7_hourOfDay_62 ?_
  have f4 := dRemE (x := (M3.1 62 0)) (y := (24 : Int32)) (Y := 24) (by decide) (by decide)
  refine Wp.deep (s_X0_going_54_62 hG I3 (by omega) (fun R5 M5 I5 => ?_)) (Nat.le_of_ble_eq_true rfl)
  have f6 := ti_0
  have I7 : Inv g (dSet M5 62 3 ((M5.1 62 3) ||| R5)) := (Inv.setA I5 rfl)
  exact (s_X0_passWires_54_62_all hG hQ 23).1 _ _ _ I7 (by omega) (by omega)
theorem s_X1_peakOf_61_47_all {g : gM} {Q : Int32 → dM → Prop} (hG : Gd g) (hQ : ∀ (r : Int32) (m' : dM), Inv g m' → (0 ≤ r.toInt) → Q r m') : ∀ n : Nat, (∀ (x2 : Int32) (x3 : Int32) (x4 : Int32) (x5 : Int32) (x6 : Int32) (x7 : Int32) (m : dM), Inv g m → (0 ≤ x2.toInt ∧ x2.toInt ≤ 9) → (1 ≤ x3.toInt ∧ x3.toInt ≤ 48) → (0 ≤ x4.toInt ∧ x4.toInt ≤ 1) → (0 ≤ x5.toInt) → (0 ≤ x6.toInt ∧ x6.toInt ≤ 47) → (0 ≤ x7.toInt ∧ x7.toInt ≤ 48) → 97 - 2 * x7.toInt < (n : Int) → j_X1_peakOf_61_47_17 6 x2 x3 x4 x5 x6 x7 m Q) ∧ (∀ (x2 : Int32) (x3 : Int32) (x4 : Int32) (x5 : Int32) (x6 : Int32) (x7 : Int32) (m : dM), Inv g m → (0 ≤ x2.toInt ∧ x2.toInt ≤ 9) → (1 ≤ x3.toInt ∧ x3.toInt ≤ 48) → (0 ≤ x4.toInt ∧ x4.toInt ≤ 1) → (0 ≤ x5.toInt) → (0 ≤ x6.toInt ∧ x6.toInt ≤ 47) → (0 ≤ x7.toInt ∧ x7.toInt ≤ 47) → 96 - 2 * x7.toInt < (n : Int) → j_X1_peakOf_61_47_65 6 x2 x3 x4 x5 x6 x7 m Q) := by
  intro n
  induction n with
  | zero => exact ⟨fun x2 x3 x4 x5 x6 x7 m hI h2 h3 h4 h5 h6 h7 hμ => by exfalso; omega, fun x2 x3 x4 x5 x6 x7 m hI h2 h3 h4 h5 h6 h7 hμ => by exfalso; omega⟩
  | succ n ih =>
    refine ⟨?_, ?_⟩
    · intro x2 x3 x4 x5 x6 x7 m hI h2 h3 h4 h5 h6 h7 hμ
      refine v_X1_peakOf_61_47_17 ?_
      refine ⟨fun hc1 => ?_, fun hc1 => ?_⟩
      · skip
        refine ⟨fun hc2 => ?_, fun hc2 => ?_⟩
        · skip
          exact hQ _ _ hI (by omega)
        · skip
          exact hQ _ _ hI (by omega)
      · skip
        have f2 := ti_0
        refine Wp.deep (s_X0_passWires_54_62 hG hI (fun R3 M3 I3 => ?_)) (Nat.le_of_ble_eq_true rfl)
        refine ⟨by omega, ?_⟩
        refine ⟨fun hc4 => ?_, fun hc4 => ?_⟩
        · skip
          exact ih.2 _ _ _ _ _ _ _ I3 (by omega) (by omega) (by omega) (by omega) (by omega) (by omega) (by omega)
        · skip
          refine ⟨by omega, ?_⟩
          exact ih.2 _ _ _ _ _ _ _ I3 (by omega) (by omega) (by omega) (by omega) (by omega) (by omega) (by omega)
    · intro x2 x3 x4 x5 x6 x7 m hI h2 h3 h4 h5 h6 h7 hμ
      refine v_X1_peakOf_61_47_65 ?_
      have f1 := dAddE (X := x7.toInt) (Y := 1) (x := x7) (y := (1 : Int32)) rfl (by decide) (by omega) (by omega)
      exact ih.1 _ _ _ _ _ _ _ hI (by omega) (by omega) (by omega) (by omega) (by omega) (by omega) (by omega)
theorem s_X1_peakOf_61_47 {g : gM} {x2 : Int32} {x3 : Int32} {x4 : Int32} {m : dM} {Q : Int32 → dM → Prop} (hG : Gd g) (hI : Inv g m) (h2 : 0 ≤ x2.toInt ∧ x2.toInt ≤ 9) (h3 : 1 ≤ x3.toInt ∧ x3.toInt ≤ 48) (h4 : 0 ≤ x4.toInt ∧ x4.toInt ≤ 1) (hQ : ∀ (r : Int32) (m' : dM), Inv g m' → (0 ≤ r.toInt) → Q r m') : c_X1_peakOf_61_47 6 x2 x3 x4 m Q := by
  refine v_X1_peakOf_61_47 ?_
  refine Wp.deep (s_X7_copy_62_47 hG hI (fun M1 I1 => ?_)) (Nat.le_of_ble_eq_true rfl)
  have f2 := ti_0
  exact (s_X1_peakOf_61_47_all hG hQ 99).1 _ _ _ _ _ _ _ I1 (by omega) (by omega) (by omega) (by omega) (by omega) (by omega) (by omega)
theorem s_X11_peak_0 {g : gM} {x1 : Int32} {x2 : Int32} {x3 : Int32} {m : dM} {Q : Int32 → dM → Prop} (hG : Gd g) (hI : Inv g m) (hQ : ∀ (r : Int32) (m' : dM), Inv g m' → (-1 ≤ r.toInt) → Q r m') : c_X11_peak_0 7 x1 x2 x3 m Q := by
  refine v_X11_peak_0 ?_
  refine v_X11_isWire_0 ?_
  refine ⟨fun hc1 => ?_, fun hc1 => ?_⟩
  · skip
    refine v_X11_isWire_0_19 ?_
    have f2 := ti_0
    refine ⟨fun hc3 => ?_, fun hc3 => ?_⟩
    · skip
      refine v_X11_peak_0_28 ?_
      have f4 := ti_m1
      exact hQ _ _ hI (by omega)
    · skip
      exfalso; omega
  · skip
    have f2 := congrArg Int32.toInt (hI.2 2 1 rfl)
    have f3 := Inv.s hG hI (k := 2) (j := 1) rfl rfl
    refine ⟨fun hc4 => ?_, fun hc4 => ?_⟩
    · skip
      refine v_X11_isWire_0_19 ?_
      have f5 := ti_0
      refine ⟨fun hc6 => ?_, fun hc6 => ?_⟩
      · skip
        refine v_X11_peak_0_28 ?_
        have f7 := ti_m1
        exact hQ _ _ hI (by omega)
      · skip
        exfalso; omega
    · skip
      have f5 := ti_1
      refine ⟨fun hc6 => ?_, fun hc6 => ?_⟩
      · skip
        exfalso; omega
      · skip
        refine ⟨fun hc7 => ?_, fun hc7 => ?_⟩
        · skip
          refine v_X11_peak_0_28 ?_
          have f8 := ti_m1
          exact hQ _ _ hI (by omega)
        · skip
          refine ⟨fun hc8 => ?_, fun hc8 => ?_⟩
          · skip
            refine v_X11_peak_0_28 ?_
            have f9 := ti_m1
            exact hQ _ _ hI (by omega)
          · skip
            refine ⟨fun hc9 => ?_, fun hc9 => ?_⟩
            · skip
              refine v_X11_peak_0_28 ?_
              have f10 := ti_m1
              exact hQ _ _ hI (by omega)
            · skip
              refine ⟨fun hc10 => ?_, fun hc10 => ?_⟩
              · skip
                refine ⟨fun hc11 => ?_, fun hc11 => ?_⟩
                · skip
                  have f12 := ti_0
                  refine Wp.deep (s_X1_peakOf_61_47 hG hI (by omega) (by omega) (by omega) (fun R13 M13 I13 hr13 => ?_)) (Nat.le_of_ble_eq_true rfl)
                  exact hQ _ _ I13 (by omega)
                · skip
                  refine Wp.deep (s_X1_peakOf_61_47 hG hI (by omega) (by omega) (by omega) (fun R12 M12 I12 hr12 => ?_)) (Nat.le_of_ble_eq_true rfl)
                  exact hQ _ _ I12 (by omega)
              · skip
                refine v_X11_peak_0_28 ?_
                have f11 := ti_m1
                exact hQ _ _ hI (by omega)
theorem s_X1_trialTillGone_61_all {g : gM} {Q : Int32 → dM → Prop} (hG : Gd g) (hQ : ∀ (r : Int32) (m' : dM), Inv g m' → (1 ≤ r.toInt ∧ r.toInt ≤ 201) → Q r m') : ∀ n : Nat, (∀ (x1 : Int32) (m : dM), Inv g m → (1 ≤ x1.toInt ∧ x1.toInt ≤ 201) → 201 - 1 * x1.toInt < (n : Int) → j_X1_trialTillGone_61_7 6 x1 m Q) := by
  intro n
  induction n with
  | zero => exact fun x1 m hI h1 hμ => by exfalso; omega
  | succ n ih =>
    · intro x1 m hI h1 hμ
      refine v_X1_trialTillGone_61_7 ?_
      refine ⟨fun hc1 => ?_, fun hc1 => ?_⟩
      · skip
        have f2 := ti_201
        exact hQ _ _ hI (by omega)
      · skip
        have f2 := ti_0
        refine Wp.deep (s_X0_passWires_54_62 hG hI (fun R3 M3 I3 => ?_)) (Nat.le_of_ble_eq_true rfl)
        refine ⟨fun hc4 => ?_, fun hc4 => ?_⟩
        · skip
          have f5 := dAddE (X := x1.toInt) (Y := 1) (x := x1) (y := (1 : Int32)) rfl (by decide) (by omega) (by omega)
          have I6 : Inv g (dSet M3 61 4 R3) := (Inv.setA I3 rfl)
          exact ih _ _ I6 (by omega) (by omega)
        · skip
          have I5 : Inv g (dSet M3 61 4 R3) := (Inv.setA I3 rfl)
          exact hQ _ _ I5 (by omega)
theorem s_X1_trialTillGone_61 {g : gM} {m : dM} {Q : Int32 → dM → Prop} (hG : Gd g) (hI : Inv g m) (hQ : ∀ (r : Int32) (m' : dM), Inv g m' → (1 ≤ r.toInt ∧ r.toInt ≤ 201) → Q r m') : c_X1_trialTillGone_61 6 m Q := by
  refine v_X1_trialTillGone_61 ?_
  have f1 := ti_1
  have I2 : Inv g (dSet m 61 4 (0 : Int32)) := (Inv.setA hI rfl)
  exact (s_X1_trialTillGone_61_all hG hQ 202) _ _ I2 (by omega) (by omega)
