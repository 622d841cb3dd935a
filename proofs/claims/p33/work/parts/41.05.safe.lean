theorem s_X1_clashOf_61_47 {g : gM} {x2 : Int32} {x3 : Int32} {m : dM} {Q : Int32 → dM → Prop} (hG : Gd g) (hI : Inv g m) (h2 : 0 ≤ x2.toInt ∧ x2.toInt ≤ 7) (h3 : 0 ≤ x3.toInt ∧ x3.toInt ≤ 7) (hb2 : x2.toInt < (g 2 2).toInt) (hb3 : x3.toInt < (g 2 2).toInt) (hQ : ∀ (r : Int32) (m' : dM), Inv g m' → (0 ≤ r.toInt ∧ r.toInt ≤ 63) → Q r m') : c_X1_clashOf_61_47 6 x2 x3 m Q := by
  refine v_X1_clashOf_61_47 ?_
  refine Wp.deep (s_X0_waysNow_54_47 hG hI (fun M1 I1 => ?_)) (Nat.le_of_ble_eq_true rfl)
  refine ⟨by omega, ?_⟩
  refine v_X11_has ?_
  have f2 := congrArg Int32.toInt (I1.2 2 2 rfl)
  have f3 := Inv.s hG I1 (k := 2) (j := 2) rfl rfl
  have f4 := Inv.home hG I1 (u := x2) (by omega) (by omega)
  have f5 := ti_1
  have f6 := dAndE (x := ((M1.1 57 5).toUInt32 >>> ((M1.1 7 x2.toNatClampNeg).toUInt32 &&& Int32.toUInt32 31)).toInt32) (y := (1 : Int32)) (by decide)
  refine ⟨fun hc7 => ?_, fun hc7 => ?_⟩
  · skip
    have f8 := ti_0
    refine ⟨fun hc9 => ?_, fun hc9 => ?_⟩
    · skip
      refine v_X1_clashOf_61_47_47 ?_
      exact hQ _ _ I1 (by omega)
    · skip
      exfalso; omega
  · skip
    refine ⟨fun hc8 => ?_, fun hc8 => ?_⟩
    · skip
      exfalso; omega
    · skip
      refine ⟨by omega, ?_⟩
      refine v_X11_has ?_
      have f9 := Inv.home hG I1 (u := x3) (by omega) (by omega)
      have f10 := dAndE (x := ((M1.1 57 5).toUInt32 >>> ((M1.1 7 x3.toNatClampNeg).toUInt32 &&& Int32.toUInt32 31)).toInt32) (y := (1 : Int32)) (by decide)
      refine ⟨fun hc11 => ?_, fun hc11 => ?_⟩
      · skip
        have f12 := ti_0
        refine ⟨fun hc13 => ?_, fun hc13 => ?_⟩
        · skip
          exfalso; omega
        · skip
          refine v_X1_clashOf_61_47_47 ?_
          exact hQ _ _ I1 (by omega)
      · skip
        refine ⟨fun hc12 => ?_, fun hc12 => ?_⟩
        · skip
          have f13 := dShl8 (x := x2) (by omega) (by omega)
          refine Wp.deep (s_X0_goingWith_54_47 hG I1 (fun R14 M14 I14 => ?_)) (Nat.le_of_ble_eq_true rfl)
          have f15 := dShl8 (x := x3) (by omega) (by omega)
          refine Wp.deep (s_X0_goingWith_54_47 hG I14 (fun R16 M16 I16 => ?_)) (Nat.le_of_ble_eq_true rfl)
          refine Wp.deep (s_X0_goingWith_54_47 hG I16 (fun R17 M17 I17 => ?_)) (Nat.le_of_ble_eq_true rfl)
          refine Wp.deep (s_J6_bitCount hG I17 (fun R18 hr18 => ?_)) (Nat.le_of_ble_eq_true rfl)
          exact hQ _ _ I17 (by omega)
        · skip
          exfalso; omega
theorem s_X11_clash_0 {g : gM} {x1 : Int32} {x2 : Int32} {m : dM} {Q : Int32 → dM → Prop} (hG : Gd g) (hI : Inv g m) (hQ : ∀ (r : Int32) (m' : dM), Inv g m' → (-1 ≤ r.toInt ∧ r.toInt ≤ 63) → Q r m') : c_X11_clash_0 7 x1 x2 m Q := by
  refine v_X11_clash_0 ?_
  refine v_X11_isUse_0 ?_
  refine ⟨fun hc1 => ?_, fun hc1 => ?_⟩
  · skip
    refine v_X11_isUse_0_19 ?_
    have f2 := ti_0
    refine ⟨fun hc3 => ?_, fun hc3 => ?_⟩
    · skip
      refine v_X11_clash_0_37 ?_
      have f4 := ti_m1
      exact hQ _ _ hI (by omega)
    · skip
      exfalso; omega
  · skip
    have f2 := congrArg Int32.toInt (hI.2 2 2 rfl)
    have f3 := Inv.s hG hI (k := 2) (j := 2) rfl rfl
    refine ⟨fun hc4 => ?_, fun hc4 => ?_⟩
    · skip
      refine v_X11_isUse_0_19 ?_
      have f5 := ti_0
      refine ⟨fun hc6 => ?_, fun hc6 => ?_⟩
      · skip
        refine v_X11_clash_0_37 ?_
        have f7 := ti_m1
        exact hQ _ _ hI (by omega)
      · skip
        exfalso; omega
    · skip
      have f5 := ti_1
      refine ⟨fun hc6 => ?_, fun hc6 => ?_⟩
      · skip
        exfalso; omega
      · skip
        refine v_X11_isUse_0 ?_
        refine ⟨fun hc7 => ?_, fun hc7 => ?_⟩
        · skip
          refine v_X11_isUse_0_19 ?_
          have f8 := ti_0
          refine ⟨fun hc9 => ?_, fun hc9 => ?_⟩
          · skip
            refine v_X11_clash_0_37 ?_
            have f10 := ti_m1
            exact hQ _ _ hI (by omega)
          · skip
            exfalso; omega
        · skip
          refine ⟨fun hc8 => ?_, fun hc8 => ?_⟩
          · skip
            refine v_X11_isUse_0_19 ?_
            have f9 := ti_0
            refine ⟨fun hc10 => ?_, fun hc10 => ?_⟩
            · skip
              refine v_X11_clash_0_37 ?_
              have f11 := ti_m1
              exact hQ _ _ hI (by omega)
            · skip
              exfalso; omega
          · skip
            refine ⟨fun hc9 => ?_, fun hc9 => ?_⟩
            · skip
              exfalso; omega
            · skip
              refine ⟨fun hc10 => ?_, fun hc10 => ?_⟩
              · skip
                refine v_X11_clash_0_37 ?_
                have f11 := ti_m1
                exact hQ _ _ hI (by omega)
              · skip
                refine Wp.deep (s_X1_clashOf_61_47 hG hI (by omega) (by omega) (by omega) (by omega) (fun R11 M11 I11 hr11 => ?_)) (Nat.le_of_ble_eq_true rfl)
                exact hQ _ _ I11 (by omega)
theorem s_X0_payOf_54_62 {g : gM} {x2 : Int32} {m : dM} {Q : Int32 → dM → Prop} (hG : Gd g) (hI : Inv g m) (h2 : 0 ≤ x2.toInt ∧ x2.toInt ≤ 7) (hQ : ∀ (r : Int32) (m' : dM), Inv g m' → (0 ≤ r.toInt ∧ r.toInt ≤ 99) → Q r m') : c_X0_payOf_54_62 4 x2 m Q := by
  refine v_X0_payOf_54_62 ?_
  refine v_X7_hourOfDay_62 ?_
  refine v_X7_day_62 ?_
  have f1 := dRemE (x := (m.1 62 0)) (y := (24 : Int32)) (Y := 24) (by decide) (by decide)
  refine Wp.deep (s_X0_setVars_54 hG hI (by omega) (by omega) (fun M2 I2 => ?_)) (Nat.le_of_ble_eq_true rfl)
  refine ⟨by omega, ?_⟩
  have f3 := ti_3
  have I4 : Inv g (dSet M2 55 5 (M2.1 8 x2.toNatClampNeg)) := (Inv.setA I2 rfl)
  refine Wp.deep (s_X4_tells_11_55 hG I4 (by omega) (fun R5 M5 I5 => ?_)) (Nat.le_of_ble_eq_true rfl)
  refine Wp.deep (s_X0_held hG I5 (fun R6 hr6 => ?_)) (Nat.le_of_ble_eq_true rfl)
  exact hQ _ _ I5 (by omega)
theorem s_X0_takePay_54_62_all {g : gM} {Q : dM → Prop} (hG : Gd g) (hQ : ∀ m' : dM, Inv g m' → Q m') : ∀ n : Nat, (∀ (x2 : Int32) (x3 : Int32) (m : dM), Inv g m → (0 ≤ x3.toInt ∧ x3.toInt ≤ 8) → 17 - 2 * x3.toInt < (n : Int) → j_X0_takePay_54_62_12 5 x2 x3 m Q) ∧ (∀ (x2 : Int32) (x3 : Int32) (m : dM), Inv g m → (0 ≤ x3.toInt ∧ x3.toInt ≤ 7) → 16 - 2 * x3.toInt < (n : Int) → j_X0_takePay_54_62_51 5 x2 x3 m Q) := by
  intro n
  induction n with
  | zero => exact ⟨fun x2 x3 m hI h3 hμ => by exfalso; omega, fun x2 x3 m hI h3 hμ => by exfalso; omega⟩
  | succ n ih =>
    refine ⟨?_, ?_⟩
    · intro x2 x3 m hI h3 hμ
      refine v_X0_takePay_54_62_12 ?_
      have f1 := congrArg Int32.toInt (hI.2 2 2 rfl)
      have f2 := Inv.s hG hI (k := 2) (j := 2) rfl rfl
      refine ⟨fun hc3 => ?_, fun hc3 => ?_⟩
      · skip
        exact hQ _ hI
      · skip
        refine v_X11_has ?_
        have f4 := ti_1
        have f5 := dAndE (x := (x2.toUInt32 >>> (x3.toUInt32 &&& Int32.toUInt32 31)).toInt32) (y := (1 : Int32)) (by decide)
        refine ⟨fun hc6 => ?_, fun hc6 => ?_⟩
        · skip
          have f7 := ti_0
          refine ⟨fun hc8 => ?_, fun hc8 => ?_⟩
          · skip
            exact ih.2 _ _ _ hI (by omega) (by omega)
          · skip
            exfalso; omega
        · skip
          refine ⟨fun hc7 => ?_, fun hc7 => ?_⟩
          · skip
            exfalso; omega
          · skip
            refine Wp.deep (s_X0_payOf_54_62 hG hI (by omega) (fun R8 M8 I8 hr8 => ?_)) (Nat.le_of_ble_eq_true rfl)
            have I9 : Inv g (dSet M8 62 1 (if ((m.1 62 1) + R8) < (99999 : Int32) then ((m.1 62 1) + R8) else (99999 : Int32))) := (Inv.setA I8 rfl)
            exact ih.2 _ _ _ I9 (by omega) (by omega)
    · intro x2 x3 m hI h3 hμ
      refine v_X0_takePay_54_62_51 ?_
      have f1 := dAddE (X := x3.toInt) (Y := 1) (x := x3) (y := (1 : Int32)) rfl (by decide) (by omega) (by omega)
      exact ih.1 _ _ _ hI (by omega) (by omega)
theorem s_X0_takePay_54_62 {g : gM} {m : dM} {Q : dM → Prop} (hG : Gd g) (hI : Inv g m) (hQ : ∀ m' : dM, Inv g m' → Q m') : c_X0_takePay_54_62 5 m Q := by
  refine v_X0_takePay_54_62 ?_
  refine v_X7_hourOfDay_62 ?_
  have f1 := dRemE (x := (m.1 62 0)) (y := (24 : Int32)) (Y := 24) (by decide) (by decide)
  refine Wp.deep (s_X0_usesAt_54_62 hG hI (by omega) (fun R2 M2 I2 => ?_)) (Nat.le_of_ble_eq_true rfl)
  have f3 := ti_0
  exact (s_X0_takePay_54_62_all hG hQ 19).1 _ _ _ I2 (by omega) (by omega)
theorem s_X0_quarrelOf_54_62 {g : gM} {x2 : Int32} {m : dM} {Q : Int32 → dM → Prop} (hG : Gd g) (hI : Inv g m) (h2 : 0 ≤ x2.toInt ∧ x2.toInt ≤ 6) (hQ : ∀ (r : Int32) (m' : dM), Inv g m' → (0 ≤ r.toInt ∧ r.toInt ≤ 99) → Q r m') : c_X0_quarrelOf_54_62 4 x2 m Q := by
  refine v_X0_quarrelOf_54_62 ?_
  refine v_X7_hourOfDay_62 ?_
  refine v_X7_day_62 ?_
  have f1 := dRemE (x := (m.1 62 0)) (y := (24 : Int32)) (Y := 24) (by decide) (by decide)
  refine Wp.deep (s_X0_setVars_54 hG hI (by omega) (by omega) (fun M2 I2 => ?_)) (Nat.le_of_ble_eq_true rfl)
  refine ⟨by omega, ?_⟩
  refine ⟨by omega, ?_⟩
  have f3 := ti_1
  have I4 : Inv g (dSet M2 55 6 (M2.1 3 x2.toNatClampNeg)) := (Inv.setA I2 rfl)
  have I5 : Inv g (dSet (dSet M2 55 6 (M2.1 3 x2.toNatClampNeg)) 55 7 (M2.1 65 x2.toNatClampNeg)) := (Inv.setA I4 rfl)
  refine Wp.deep (s_X4_tells_11_55 hG I5 (by omega) (fun R6 M6 I6 => ?_)) (Nat.le_of_ble_eq_true rfl)
  refine Wp.deep (s_X0_held hG I6 (fun R7 hr7 => ?_)) (Nat.le_of_ble_eq_true rfl)
  exact hQ _ _ I6 (by omega)
theorem s_X0_countQuarrels_54_62_all {g : gM} {Q : dM → Prop} (hG : Gd g) (hQ : ∀ m' : dM, Inv g m' → Q m') : ∀ n : Nat, (∀ (x2 : Int32) (m : dM), Inv g m → (0 ≤ x2.toInt ∧ x2.toInt ≤ 7) → 15 - 2 * x2.toInt < (n : Int) → j_X0_countQuarrels_54_62_13 5 x2 m Q) ∧ (∀ (x2 : Int32) (m : dM), Inv g m → (0 ≤ x2.toInt ∧ x2.toInt ≤ 6) → 14 - 2 * x2.toInt < (n : Int) → j_X0_countQuarrels_54_62_78 5 x2 m Q) := by
  intro n
  induction n with
  | zero => exact ⟨fun x2 m hI h2 hμ => by exfalso; omega, fun x2 m hI h2 hμ => by exfalso; omega⟩
  | succ n ih =>
    refine ⟨?_, ?_⟩
    · intro x2 m hI h2 hμ
      refine v_X0_countQuarrels_54_62_13 ?_
      have f1 := congrArg Int32.toInt (hI.2 2 0 rfl)
      have f2 := Inv.s hG hI (k := 2) (j := 0) rfl rfl
      refine ⟨fun hc3 => ?_, fun hc3 => ?_⟩
      · skip
        exact hQ _ hI
      · skip
        refine v_X11_has ?_
        have f4 := ti_1
        have f5 := dAndE (x := ((m.1 57 5).toUInt32 >>> (x2.toUInt32 &&& Int32.toUInt32 31)).toInt32) (y := (1 : Int32)) (by decide)
        refine ⟨fun hc6 => ?_, fun hc6 => ?_⟩
        · skip
          have f7 := ti_0
          refine ⟨fun hc8 => ?_, fun hc8 => ?_⟩
          · skip
            refine Wp.deep (s_X0_quarrelOf_54_62 hG hI (by omega) (fun R9 M9 I9 hr9 => ?_)) (Nat.le_of_ble_eq_true rfl)
            refine ⟨by omega, ?_⟩
            refine ⟨by omega, ?_⟩
            have I10 : Inv g (dSet M9 62 2 (if ((m.1 62 2) + R9) < (999999 : Int32) then ((m.1 62 2) + R9) else (999999 : Int32))) := (Inv.setA I9 rfl)
            have I11 : Inv g (dSet (dSet M9 62 2 (if ((m.1 62 2) + R9) < (999999 : Int32) then ((m.1 62 2) + R9) else (999999 : Int32))) 65 x2.toNatClampNeg ((M9.1 65 x2.toNatClampNeg) + (1 : Int32))) := (Inv.setA I10 rfl)
            exact ih.2 _ _ I11 (by omega) (by omega)
          · skip
            exfalso; omega
        · skip
          refine ⟨fun hc7 => ?_, fun hc7 => ?_⟩
          · skip
            exfalso; omega
          · skip
            refine ⟨by omega, ?_⟩
            have I8 : Inv g (dSet m 65 x2.toNatClampNeg (0 : Int32)) := (Inv.setA hI rfl)
            exact ih.2 _ _ I8 (by omega) (by omega)
    · intro x2 m hI h2 hμ
      refine v_X0_countQuarrels_54_62_78 ?_
      have f1 := dAddE (X := x2.toInt) (Y := 1) (x := x2) (y := (1 : Int32)) rfl (by decide) (by omega) (by omega)
      exact ih.1 _ _ hI (by omega) (by omega)
theorem s_X0_countQuarrels_54_62 {g : gM} {m : dM} {Q : dM → Prop} (hG : Gd g) (hI : Inv g m) (hQ : ∀ m' : dM, Inv g m' → Q m') : c_X0_countQuarrels_54_62 5 m Q := by
  refine v_X0_countQuarrels_54_62 ?_
  refine Wp.deep (s_X10_lay_57 hG hI (fun M1 I1 => ?_)) (Nat.le_of_ble_eq_true rfl)
  have f2 := ti_0
  exact (s_X0_countQuarrels_54_62_all hG hQ 17).1 _ _ I1 (by omega) (by omega)
theorem s_X0_passHour_54_62 {g : gM} {m : dM} {Q : dM → Prop} (hG : Gd g) (hI : Inv g m) (hQ : ∀ m' : dM, Inv g m' → Q m') : c_X0_passHour_54_62 6 m Q := by
  refine v_X0_passHour_54_62 ?_
  refine Wp.deep (s_X0_takePay_54_62 hG hI (fun M1 I1 => ?_)) (Nat.le_of_ble_eq_true rfl)
  refine Wp.deep (s_X0_countQuarrels_54_62 hG I1 (fun M2 I2 => ?_)) (Nat.le_of_ble_eq_true rfl)
  have f3 := congrArg Int32.toInt (I2.2 2 6 rfl)
  refine Wp.deep (s_X0_surgeOf_54 hG I2 (fun R4 => ?_)) (Nat.le_of_ble_eq_true rfl)
  refine Wp.deep (s_X0_passWires_54_62 hG I2 (fun R5 M5 I5 => ?_)) (Nat.le_of_ble_eq_true rfl)
  exact hQ _ I5
theorem s_X1_after_61_47_all {g : gM} {Q : dM → Prop} (hG : Gd g) (hQ : ∀ m' : dM, Inv g m' → Q m') : ∀ n : Nat, (∀ (x2 : Int32) (x3 : Int32) (m : dM), Inv g m → (0 ≤ x2.toInt ∧ x2.toInt ≤ 72) → (0 ≤ x3.toInt ∧ x3.toInt ≤ 72) → 72 - 1 * x3.toInt < (n : Int) → j_X1_after_61_47_10 7 x2 x3 m Q) := by
  intro n
  induction n with
  | zero => exact fun x2 x3 m hI h2 h3 hμ => by exfalso; omega
  | succ n ih =>
    · intro x2 x3 m hI h2 h3 hμ
      refine v_X1_after_61_47_10 ?_
      refine ⟨fun hc1 => ?_, fun hc1 => ?_⟩
      · skip
        exact hQ _ hI
      · skip
        refine Wp.deep (s_X0_passHour_54_62 hG hI (fun M2 I2 => ?_)) (Nat.le_of_ble_eq_true rfl)
        have f3 := dAddE (X := x3.toInt) (Y := 1) (x := x3) (y := (1 : Int32)) rfl (by decide) (by omega) (by omega)
        exact ih _ _ _ I2 (by omega) (by omega) (by omega)
theorem s_X1_after_61_47 {g : gM} {x2 : Int32} {m : dM} {Q : dM → Prop} (hG : Gd g) (hI : Inv g m) (h2 : 0 ≤ x2.toInt ∧ x2.toInt ≤ 72) (hQ : ∀ m' : dM, Inv g m' → Q m') : c_X1_after_61_47 7 x2 m Q := by
  refine v_X1_after_61_47 ?_
  refine Wp.deep (s_X7_copy_62_47 hG hI (fun M1 I1 => ?_)) (Nat.le_of_ble_eq_true rfl)
  have f2 := ti_0
  exact (s_X1_after_61_47_all hG hQ 74) _ _ _ I1 (by omega) (by omega) (by omega)
theorem s_X11_then_0 {g : gM} {x1 : Int32} {x2 : Int32} {m : dM} {Q : Int32 → dM → Prop} (hG : Gd g) (hI : Inv g m) (hQ : ∀ (r : Int32) (m' : dM), Inv g m' → Q r m') : c_X11_then_0 8 x1 x2 m Q := by
  refine v_X11_then_0 ?_
  refine ⟨fun hc1 => ?_, fun hc1 => ?_⟩
  · skip
    refine v_X11_then_0_19 ?_
    have f2 := ti_m1
    exact hQ _ _ hI
  · skip
    refine ⟨fun hc2 => ?_, fun hc2 => ?_⟩
    · skip
      refine v_X11_then_0_19 ?_
      have f3 := ti_m1
      exact hQ _ _ hI
    · skip
      refine ⟨fun hc3 => ?_, fun hc3 => ?_⟩
      · skip
        refine v_X11_then_0_19 ?_
        have f4 := ti_m1
        exact hQ _ _ hI
      · skip
        refine ⟨fun hc4 => ?_, fun hc4 => ?_⟩
        · skip
          refine Wp.deep (s_X1_after_61_47 hG hI (by omega) (fun M5 I5 => ?_)) (Nat.le_of_ble_eq_true rfl)
          refine ⟨fun hc6 => ?_, fun hc6 => ?_⟩
          · skip
            refine ⟨fun hc7 => ?_, fun hc7 => ?_⟩
            · skip
              refine Wp.deep (s_J6_bitCount hG I5 (fun R8 hr8 => ?_)) (Nat.le_of_ble_eq_true rfl)
              exact hQ _ _ I5
            · skip
              exact hQ _ _ I5
          · skip
            exact hQ _ _ I5
        · skip
          refine v_X11_then_0_19 ?_
          have f5 := ti_m1
          exact hQ _ _ hI
theorem s_X11_litIn_0 {g : gM} {x1 : Int32} {x2 : Int32} {m : dM} {Q : Int32 → dM → Prop} (hG : Gd g) (hI : Inv g m) (hQ : ∀ (r : Int32) (m' : dM), Inv g m' → (-1 ≤ r.toInt ∧ r.toInt ≤ 1) → Q r m') : c_X11_litIn_0 8 x1 x2 m Q := by
  refine v_X11_litIn_0 ?_
  refine v_X11_isFlat_0 ?_
  refine ⟨fun hc1 => ?_, fun hc1 => ?_⟩
  · skip
    refine v_X11_isFlat_0_19 ?_
    have f2 := ti_0
    refine ⟨fun hc3 => ?_, fun hc3 => ?_⟩
    · skip
      refine v_X11_litIn_0_18 ?_
      have f4 := ti_m1
      exact hQ _ _ hI (by omega)
    · skip
      exfalso; omega
  · skip
    have f2 := congrArg Int32.toInt (hI.2 2 0 rfl)
    have f3 := Inv.s hG hI (k := 2) (j := 0) rfl rfl
    refine ⟨fun hc4 => ?_, fun hc4 => ?_⟩
    · skip
      refine v_X11_isFlat_0_19 ?_
      have f5 := ti_0
      refine ⟨fun hc6 => ?_, fun hc6 => ?_⟩
      · skip
        refine v_X11_litIn_0_18 ?_
        have f7 := ti_m1
        exact hQ _ _ hI (by omega)
      · skip
        exfalso; omega
    · skip
      have f5 := ti_1
      refine ⟨fun hc6 => ?_, fun hc6 => ?_⟩
      · skip
        exfalso; omega
      · skip
        refine ⟨fun hc7 => ?_, fun hc7 => ?_⟩
        · skip
          refine v_X11_litIn_0_18 ?_
          have f8 := ti_m1
          exact hQ _ _ hI (by omega)
        · skip
          refine ⟨fun hc8 => ?_, fun hc8 => ?_⟩
          · skip
            refine Wp.deep (s_X1_after_61_47 hG hI (by omega) (fun M9 I9 => ?_)) (Nat.le_of_ble_eq_true rfl)
            refine Wp.deep (s_X3_litWithout_2 hG I9 (fun R10 => ?_)) (Nat.le_of_ble_eq_true rfl)
            refine v_X11_has ?_
            have f11 := dAndE (x := (R10.toUInt32 >>> (x1.toUInt32 &&& Int32.toUInt32 31)).toInt32) (y := (1 : Int32)) (by decide)
            refine ⟨fun hc12 => ?_, fun hc12 => ?_⟩
            · skip
              have f13 := ti_0
              refine ⟨fun hc14 => ?_, fun hc14 => ?_⟩
              · skip
                exact hQ _ _ I9 (by omega)
              · skip
                exfalso; omega
            · skip
              refine ⟨fun hc13 => ?_, fun hc13 => ?_⟩
              · skip
                exfalso; omega
              · skip
                exact hQ _ _ I9 (by omega)
          · skip
            refine v_X11_litIn_0_18 ?_
            have f9 := ti_m1
            exact hQ _ _ hI (by omega)
theorem s_X1_isCalm_61_47_all {g : gM} {Q : Int32 → dM → Prop} (hG : Gd g) (hQ : ∀ (r : Int32) (m' : dM), Inv g m' → (0 ≤ r.toInt ∧ r.toInt ≤ 1) → Q r m') : ∀ n : Nat, (∀ (x2 : Int32) (x3 : Int32) (x4 : Int32) (m : dM), Inv g m → (0 ≤ x2.toInt ∧ x2.toInt ≤ 72) → (0 ≤ x4.toInt ∧ x4.toInt ≤ 72) → 72 - 1 * x4.toInt < (n : Int) → j_X1_isCalm_61_47_11 6 x2 x3 x4 m Q) := by
  intro n
  induction n with
  | zero => exact fun x2 x3 x4 m hI h2 h4 hμ => by exfalso; omega
  | succ n ih =>
    · intro x2 x3 x4 m hI h2 h4 hμ
      refine v_X1_isCalm_61_47_11 ?_
      refine ⟨fun hc1 => ?_, fun hc1 => ?_⟩
      · skip
        have f2 := ti_1
        exact hQ _ _ hI (by omega)
      · skip
        refine Wp.deep (s_X0_surgeOf_54 hG hI (fun R2 => ?_)) (Nat.le_of_ble_eq_true rfl)
        refine Wp.deep (s_X0_passWires_54_62 hG hI (fun R3 M3 I3 => ?_)) (Nat.le_of_ble_eq_true rfl)
        refine ⟨fun hc4 => ?_, fun hc4 => ?_⟩
        · skip
          have f5 := dAddE (X := x4.toInt) (Y := 1) (x := x4) (y := (1 : Int32)) rfl (by decide) (by omega) (by omega)
          exact ih _ _ _ _ I3 (by omega) (by omega) (by omega)
        · skip
          have f5 := ti_0
          exact hQ _ _ I3 (by omega)
theorem s_X1_isCalm_61_47 {g : gM} {x2 : Int32} {x3 : Int32} {m : dM} {Q : Int32 → dM → Prop} (hG : Gd g) (hI : Inv g m) (h2 : 0 ≤ x2.toInt ∧ x2.toInt ≤ 72) (hQ : ∀ (r : Int32) (m' : dM), Inv g m' → (0 ≤ r.toInt ∧ r.toInt ≤ 1) → Q r m') : c_X1_isCalm_61_47 6 x2 x3 m Q := by
  refine v_X1_isCalm_61_47 ?_
  refine Wp.deep (s_X7_copy_62_47 hG hI (fun M1 I1 => ?_)) (Nat.le_of_ble_eq_true rfl)
  have f2 := ti_0
  exact (s_X1_isCalm_61_47_all hG hQ 74) _ _ _ _ I1 (by omega) (by omega) (by omega)
theorem s_X1_calmSeeds_61_47_all {g : gM} {Q : Int32 → dM → Prop} (hG : Gd g) (hQ : ∀ (r : Int32) (m' : dM), Inv g m' → Q r m') : ∀ n : Nat, (∀ (x2 : Int32) (x3 : Int32) (x4 : Int32) (x5 : Int32) (m : dM), Inv g m → (0 ≤ x2.toInt ∧ x2.toInt ≤ 72) → (1 ≤ x3.toInt ∧ x3.toInt ≤ 20) → (0 ≤ x5.toInt ∧ x5.toInt ≤ 20) → 20 - 1 * x5.toInt < (n : Int) → j_X1_calmSeeds_61_47_6 7 x2 x3 x4 x5 m Q) := by
  intro n
  induction n with
  | zero => exact fun x2 x3 x4 x5 m hI h2 h3 h5 hμ => by exfalso; omega
  | succ n ih =>
    · intro x2 x3 x4 x5 m hI h2 h3 h5 hμ
      refine v_X1_calmSeeds_61_47_6 ?_
      refine ⟨fun hc1 => ?_, fun hc1 => ?_⟩
      · skip
        exact hQ _ _ hI
      · skip
        have f2 := congrArg Int32.toInt (hI.2 2 6 rfl)
        refine Wp.deep (s_X1_isCalm_61_47 hG hI (by omega) (fun R3 M3 I3 hr3 => ?_)) (Nat.le_of_ble_eq_true rfl)
        refine ⟨fun hc4 => ?_, fun hc4 => ?_⟩
        · skip
          have f5 := dAddE (X := x5.toInt) (Y := 1) (x := x5) (y := (1 : Int32)) rfl (by decide) (by omega) (by omega)
          exact ih _ _ _ _ _ I3 (by omega) (by omega) (by omega) (by omega)
        · skip
          have f5 := dAddE (X := x5.toInt) (Y := 1) (x := x5) (y := (1 : Int32)) rfl (by decide) (by omega) (by omega)
          exact ih _ _ _ _ _ I3 (by omega) (by omega) (by omega) (by omega)
theorem s_X1_calmSeeds_61_47 {g : gM} {x2 : Int32} {x3 : Int32} {m : dM} {Q : Int32 → dM → Prop} (hG : Gd g) (hI : Inv g m) (h2 : 0 ≤ x2.toInt ∧ x2.toInt ≤ 72) (h3 : 1 ≤ x3.toInt ∧ x3.toInt ≤ 20) (hQ : ∀ (r : Int32) (m' : dM), Inv g m' → Q r m') : c_X1_calmSeeds_61_47 7 x2 x3 m Q := by
  refine v_X1_calmSeeds_61_47 ?_
  have f1 := ti_0
  exact (s_X1_calmSeeds_61_47_all hG hQ 22) _ _ _ _ _ hI (by omega) (by omega) (by omega) (by omega)
theorem s_X11_year_0 {g : gM} {x1 : Int32} {x2 : Int32} {m : dM} {Q : Int32 → dM → Prop} (hG : Gd g) (hI : Inv g m) (hQ : ∀ (r : Int32) (m' : dM), Inv g m' → Q r m') : c_X11_year_0 8 x1 x2 m Q := by
  refine v_X11_year_0 ?_
  refine ⟨fun hc1 => ?_, fun hc1 => ?_⟩
  · skip
    refine v_X11_year_0_21 ?_
    have f2 := ti_m1
    exact hQ _ _ hI
  · skip
    refine ⟨fun hc2 => ?_, fun hc2 => ?_⟩
    · skip
      refine v_X11_year_0_21 ?_
      have f3 := ti_m1
      exact hQ _ _ hI
    · skip
      refine ⟨fun hc3 => ?_, fun hc3 => ?_⟩
      · skip
        refine v_X11_year_0_21 ?_
        have f4 := ti_m1
        exact hQ _ _ hI
      · skip
        refine ⟨fun hc4 => ?_, fun hc4 => ?_⟩
        · skip
          refine Wp.deep (s_X1_calmSeeds_61_47 hG hI (by omega) (by omega) (fun R5 M5 I5 => ?_)) (Nat.le_of_ble_eq_true rfl)
          exact hQ _ _ I5
        · skip
          refine v_X11_year_0_21 ?_
          have f5 := ti_m1
          exact hQ _ _ hI
theorem s_X9_isSo_67_all {g : gM} {Q : Int32 → dM → Prop} {m : dM} (hG : Gd g) (hI : Inv g m) (hQ : ∀ r : Int32, (0 ≤ r.toInt ∧ r.toInt ≤ 1) → Q r m) : ∀ n : Nat, (∀ (x1 : Int32) (x2 : Int32) (x3 : Int32), (0 ≤ x2.toInt ∧ x2.toInt ≤ 20) → (0 ≤ x3.toInt ∧ x3.toInt ≤ 20) → 21 - 1 * x3.toInt < (n : Int) → j_X9_isSo_67_2 2 x1 x2 x3 m Q) ∧ (0 < (n : Int) → j_X9_isSo_67_42 2 m Q) := by
  intro n
  induction n with
  | zero => exact ⟨fun x1 x2 x3 h2 h3 hμ => by exfalso; omega, fun hμ => by exfalso; omega⟩
  | succ n ih =>
    refine ⟨?_, ?_⟩
    · intro x1 x2 x3 h2 h3 hμ
      refine v_X9_isSo_67_2 ?_
      refine ⟨fun hc1 => ?_, fun hc1 => ?_⟩
      · skip
        exact ih.2 (by omega)
      · skip
        have f2 := congrArg Int32.toInt (hI.2 67 3 rfl)
        have f3 := Inv.s hG hI (k := 67) (j := 3) rfl rfl
        refine ⟨fun hc4 => ?_, fun hc4 => ?_⟩
        · skip
          exact ih.2 (by omega)
        · skip
          refine ⟨by omega, ?_⟩
          refine v_X11_has ?_
          have f5 := ti_1
          have f6 := dAndE (x := (x1.toUInt32 >>> ((m.1 68 x3.toNatClampNeg).toUInt32 &&& Int32.toUInt32 31)).toInt32) (y := (1 : Int32)) (by decide)
          refine ⟨fun hc7 => ?_, fun hc7 => ?_⟩
          · skip
            refine ⟨by omega, ?_⟩
            have f8 := ti_0
            refine ⟨fun hc9 => ?_, fun hc9 => ?_⟩
            · skip
              have f10 := dAddE (X := x3.toInt) (Y := 1) (x := x3) (y := (1 : Int32)) rfl (by decide) (by omega) (by omega)
              exact ih.1 _ _ _ (by omega) (by omega) (by omega)
            · skip
              exact hQ _ (by omega)
          · skip
            refine ⟨by omega, ?_⟩
            refine ⟨fun hc8 => ?_, fun hc8 => ?_⟩
            · skip
              have f9 := dAddE (X := x3.toInt) (Y := 1) (x := x3) (y := (1 : Int32)) rfl (by decide) (by omega) (by omega)
              exact ih.1 _ _ _ (by omega) (by omega) (by omega)
            · skip
              have f9 := ti_0
              exact hQ _ (by omega)
    · intro hμ
      refine v_X9_isSo_67_42 ?_
      have f1 := ti_1
      exact hQ _ (by omega)
theorem s_X9_isSo_67 {g : gM} {x1 : Int32} {x2 : Int32} {m : dM} {Q : Int32 → dM → Prop} (hG : Gd g) (hI : Inv g m) (h2 : 0 ≤ x2.toInt ∧ x2.toInt ≤ 20) (hQ : ∀ r : Int32, (0 ≤ r.toInt ∧ r.toInt ≤ 1) → Q r m) : c_X9_isSo_67 2 x1 x2 m Q := by
  refine v_X9_isSo_67 ?_
  have f1 := ti_0
  exact (s_X9_isSo_67_all hG hI hQ 23).1 _ _ _ (by omega) (by omega) (by omega)
theorem s_X9_suspects_67_all {g : gM} {Q : Int32 → dM → Prop} {m : dM} (hG : Gd g) (hI : Inv g m) (hQ : ∀ r : Int32, Q r m) : ∀ n : Nat, (∀ (x1 : Int32) (x2 : Int32) (x3 : Int32) (x4 : Int32), (0 ≤ x2.toInt ∧ x2.toInt ≤ 20) → (0 ≤ x4.toInt ∧ x4.toInt ≤ 10) → 21 - 2 * x4.toInt < (n : Int) → j_X9_suspects_67_5 3 x1 x2 x3 x4 m Q) ∧ (∀ (x1 : Int32) (x2 : Int32) (x3 : Int32) (x4 : Int32), (0 ≤ x2.toInt ∧ x2.toInt ≤ 20) → (0 ≤ x4.toInt ∧ x4.toInt ≤ 9) → 20 - 2 * x4.toInt < (n : Int) → j_X9_suspects_67_54 3 x1 x2 x3 x4 m Q) := by
  intro n
  induction n with
  | zero => exact ⟨fun x1 x2 x3 x4 h2 h4 hμ => by exfalso; omega, fun x1 x2 x3 x4 h2 h4 hμ => by exfalso; omega⟩
  | succ n ih =>
    refine ⟨?_, ?_⟩
    · intro x1 x2 x3 x4 h2 h4 hμ
      refine v_X9_suspects_67_5 ?_
      have f1 := congrArg Int32.toInt (hI.2 2 1 rfl)
      have f2 := Inv.s hG hI (k := 2) (j := 1) rfl rfl
      refine ⟨fun hc3 => ?_, fun hc3 => ?_⟩
      · skip
        exact hQ _
      · skip
        refine v_X11_has ?_
        have f4 := ti_1
        have f5 := dAndE (x := (x1.toUInt32 >>> (x4.toUInt32 &&& Int32.toUInt32 31)).toInt32) (y := (1 : Int32)) (by decide)
        refine ⟨fun hc6 => ?_, fun hc6 => ?_⟩
        · skip
          have f7 := ti_0
          refine ⟨fun hc8 => ?_, fun hc8 => ?_⟩
          · skip
            exfalso; omega
          · skip
            have f9 := dShl10 (x := x4) (by omega) (by omega)
            refine Wp.deep (s_X3_litWithout_2 hG hI (fun R10 => ?_)) (Nat.le_of_ble_eq_true rfl)
            refine Wp.deep (s_X9_isSo_67 hG hI (by omega) (fun R11 hr11 => ?_)) (Nat.le_of_ble_eq_true rfl)
            refine ⟨fun hc12 => ?_, fun hc12 => ?_⟩
            · skip
              exact ih.2 _ _ _ _ (by omega) (by omega) (by omega)
            · skip
              exact ih.2 _ _ _ _ (by omega) (by omega) (by omega)
        · skip
          refine ⟨fun hc7 => ?_, fun hc7 => ?_⟩
          · skip
            exact ih.2 _ _ _ _ (by omega) (by omega) (by omega)
          · skip
            exfalso; omega
    · intro x1 x2 x3 x4 h2 h4 hμ
      refine v_X9_suspects_67_54 ?_
      have f1 := dAddE (X := x4.toInt) (Y := 1) (x := x4) (y := (1 : Int32)) rfl (by decide) (by omega) (by omega)
      exact ih.1 _ _ _ _ (by omega) (by omega) (by omega)
theorem s_X9_suspects_67 {g : gM} {x1 : Int32} {x2 : Int32} {m : dM} {Q : Int32 → dM → Prop} (hG : Gd g) (hI : Inv g m) (h2 : 0 ≤ x2.toInt ∧ x2.toInt ≤ 20) (hQ : ∀ r : Int32, Q r m) : c_X9_suspects_67 3 x1 x2 m Q := by
  refine v_X9_suspects_67 ?_
  have f1 := ti_0
  exact (s_X9_suspects_67_all hG hI hQ 23).1 _ _ _ _ (by omega) (by omega) (by omega)
theorem s_X11_went_0 {g : gM} {x1 : Int32} {x2 : Int32} {m : dM} {Q : Int32 → dM → Prop} (hG : Gd g) (hI : Inv g m) (hQ : ∀ r : Int32, Q r m) : c_X11_went_0 4 x1 x2 m Q := by
  refine v_X11_went_0 ?_
  refine ⟨fun hc1 => ?_, fun hc1 => ?_⟩
  · skip
    refine v_X11_went_0_24 ?_
    have f2 := ti_m1
    exact hQ _
  · skip
    have f2 := congrArg Int32.toInt (hI.2 67 3 rfl)
    have f3 := Inv.s hG hI (k := 67) (j := 3) rfl rfl
    refine ⟨fun hc4 => ?_, fun hc4 => ?_⟩
    · skip
      refine v_X11_went_0_24 ?_
      have f5 := ti_m1
      exact hQ _
    · skip
      refine ⟨fun hc5 => ?_, fun hc5 => ?_⟩
      · skip
        refine v_X11_went_0_24 ?_
        have f6 := ti_m1
        exact hQ _
      · skip
        refine ⟨fun hc6 => ?_, fun hc6 => ?_⟩
        · skip
          refine Wp.deep (s_X9_suspects_67 hG hI (by omega) (fun R7 => ?_)) (Nat.le_of_ble_eq_true rfl)
          refine ⟨fun hc8 => ?_, fun hc8 => ?_⟩
          · skip
            exact hQ _
          · skip
            refine Wp.deep (s_J6_bitCount hG hI (fun R9 hr9 => ?_)) (Nat.le_of_ble_eq_true rfl)
            exact hQ _
        · skip
          refine v_X11_went_0_24 ?_
          have f7 := ti_m1
          exact hQ _
theorem s_X9_leftAtWorst_67_all {g : gM} {Q : Int32 → dM → Prop} {m : dM} (hG : Gd g) (hI : Inv g m) (hQ : ∀ r : Int32, Q r m) : ∀ n : Nat, (∀ (x1 : Int32) (x2 : Int32) (x3 : Int32) (x4 : Int32) (x5 : Int32), (0 ≤ x3.toInt ∧ x3.toInt ≤ 6) → (0 ≤ x5.toInt ∧ x5.toInt ≤ 10) → 10 - 1 * x5.toInt < (n : Int) → j_X9_leftAtWorst_67_6 3 x1 x2 x3 x4 x5 m Q) := by
  intro n
  induction n with
  | zero => exact fun x1 x2 x3 x4 x5 h3 h5 hμ => by exfalso; omega
  | succ n ih =>
    · intro x1 x2 x3 x4 x5 h3 h5 hμ
      refine v_X9_leftAtWorst_67_6 ?_
      have f1 := congrArg Int32.toInt (hI.2 2 1 rfl)
      have f2 := Inv.s hG hI (k := 2) (j := 1) rfl rfl
      refine ⟨fun hc3 => ?_, fun hc3 => ?_⟩
      · skip
        refine Wp.deep (s_J6_bitCount hG hI (fun R4 hr4 => ?_)) (Nat.le_of_ble_eq_true rfl)
        have f5 := dMaxE x4 (R4 - x4)
        exact hQ _
      · skip
        refine v_X11_has ?_
        have f4 := ti_1
        have f5 := dAndE (x := (x2.toUInt32 >>> (x5.toUInt32 &&& Int32.toUInt32 31)).toInt32) (y := (1 : Int32)) (by decide)
        refine ⟨fun hc6 => ?_, fun hc6 => ?_⟩
        · skip
          have f7 := ti_0
          refine ⟨fun hc8 => ?_, fun hc8 => ?_⟩
          · skip
            have f9 := dAddE (X := x5.toInt) (Y := 1) (x := x5) (y := (1 : Int32)) rfl (by decide) (by omega) (by omega)
            exact ih _ _ _ _ _ (by omega) (by omega) (by omega)
          · skip
            exfalso; omega
        · skip
          refine ⟨fun hc7 => ?_, fun hc7 => ?_⟩
          · skip
            exfalso; omega
          · skip
            have f8 := dShl10 (x := x5) (by omega) (by omega)
            refine Wp.deep (s_X3_litWithout_2 hG hI (fun R9 => ?_)) (Nat.le_of_ble_eq_true rfl)
            refine v_X11_has ?_
            have f10 := dAndE (x := (R9.toUInt32 >>> (x3.toUInt32 &&& Int32.toUInt32 31)).toInt32) (y := (1 : Int32)) (by decide)
            refine ⟨fun hc11 => ?_, fun hc11 => ?_⟩
            · skip
              have f12 := ti_0
              refine ⟨fun hc13 => ?_, fun hc13 => ?_⟩
              · skip
                have f14 := dAddE (X := x5.toInt) (Y := 1) (x := x5) (y := (1 : Int32)) rfl (by decide) (by omega) (by omega)
                exact ih _ _ _ _ _ (by omega) (by omega) (by omega)
              · skip
                exfalso; omega
            · skip
              refine ⟨fun hc12 => ?_, fun hc12 => ?_⟩
              · skip
                exfalso; omega
              · skip
                have f13 := dAddE (X := x5.toInt) (Y := 1) (x := x5) (y := (1 : Int32)) rfl (by decide) (by omega) (by omega)
                exact ih _ _ _ _ _ (by omega) (by omega) (by omega)
theorem s_X9_leftAtWorst_67 {g : gM} {x1 : Int32} {x2 : Int32} {x3 : Int32} {m : dM} {Q : Int32 → dM → Prop} (hG : Gd g) (hI : Inv g m) (h3 : 0 ≤ x3.toInt ∧ x3.toInt ≤ 6) (hQ : ∀ r : Int32, Q r m) : c_X9_leftAtWorst_67 3 x1 x2 x3 m Q := by
  refine v_X9_leftAtWorst_67 ?_
  have f1 := ti_0
  exact (s_X9_leftAtWorst_67_all hG hI hQ 12) _ _ _ _ _ (by omega) (by omega) (by omega)
theorem s_X9_bestQuestion_67_all {g : gM} {Q : Int32 → dM → Prop} {m : dM} (hG : Gd g) (hI : Inv g m) (hQ : ∀ r : Int32, (-2 ≤ r.toInt ∧ r.toInt ≤ 6) → Q r m) : ∀ n : Nat, (∀ (x1 : Int32) (x3 : Int32) (x4 : Int32) (x5 : Int32) (x6 : Int32), (-2 ≤ x4.toInt ∧ x4.toInt ≤ 6) → (0 ≤ x6.toInt ∧ x6.toInt ≤ 7) → 16 - 2 * x6.toInt < (n : Int) → j_X9_bestQuestion_67_18 4 x1 x3 x4 x5 x6 m Q) ∧ (∀ (x1 : Int32) (x3 : Int32) (x4 : Int32) (x5 : Int32) (x6 : Int32), (-2 ≤ x4.toInt ∧ x4.toInt ≤ 6) → (0 ≤ x6.toInt ∧ x6.toInt ≤ 6) → 15 - 2 * x6.toInt < (n : Int) → j_X9_bestQuestion_67_59 4 x1 x3 x4 x5 x6 m Q) ∧ (∀ (x4 : Int32), (-2 ≤ x4.toInt ∧ x4.toInt ≤ 6) → 0 < (n : Int) → j_X9_bestQuestion_67_65 4 x4 m Q) := by
  intro n
  induction n with
  | zero => exact ⟨fun x1 x3 x4 x5 x6 h4 h6 hμ => by exfalso; omega, fun x1 x3 x4 x5 x6 h4 h6 hμ => by exfalso; omega, fun x4 h4 hμ => by exfalso; omega⟩
  | succ n ih =>
    refine ⟨?_, ?_, ?_⟩
    · intro x1 x3 x4 x5 x6 h4 h6 hμ
      refine v_X9_bestQuestion_67_18 ?_
      have f1 := congrArg Int32.toInt (hI.2 2 0 rfl)
      have f2 := Inv.s hG hI (k := 2) (j := 0) rfl rfl
      refine ⟨fun hc3 => ?_, fun hc3 => ?_⟩
      · skip
        exact ih.2.2 _ (by omega) (by omega)
      · skip
        refine ⟨fun hc4 => ?_, fun hc4 => ?_⟩
        · skip
          exact ih.2.2 _ (by omega) (by omega)
        · skip
          refine Wp.deep (s_X9_leftAtWorst_67 hG hI (by omega) (fun R5 => ?_)) (Nat.le_of_ble_eq_true rfl)
          refine ⟨fun hc6 => ?_, fun hc6 => ?_⟩
          · skip
            exact ih.2.1 _ _ _ _ _ (by omega) (by omega) (by omega)
          · skip
            exact ih.2.1 _ _ _ _ _ (by omega) (by omega) (by omega)
    · intro x1 x3 x4 x5 x6 h4 h6 hμ
      refine v_X9_bestQuestion_67_59 ?_
      have f1 := dAddE (X := x6.toInt) (Y := 1) (x := x6) (y := (1 : Int32)) rfl (by decide) (by omega) (by omega)
      exact ih.1 _ _ _ _ _ (by omega) (by omega) (by omega)
    · intro x4 h4 hμ
      refine v_X9_bestQuestion_67_65 ?_
      exact hQ _ (by omega)
theorem s_X9_bestQuestion_67 {g : gM} {x1 : Int32} {x2 : Int32} {m : dM} {Q : Int32 → dM → Prop} (hG : Gd g) (hI : Inv g m) (h2 : 0 ≤ x2.toInt ∧ x2.toInt ≤ 20) (hQ : ∀ r : Int32, (-2 ≤ r.toInt ∧ r.toInt ≤ 6) → Q r m) : c_X9_bestQuestion_67 4 x1 x2 m Q := by
  refine v_X9_bestQuestion_67 ?_
  refine Wp.deep (s_X9_suspects_67 hG hI (by omega) (fun R1 => ?_)) (Nat.le_of_ble_eq_true rfl)
  have f2 := ti_m2
  have f3 := ti_2147483647
  have f4 := ti_0
  exact (s_X9_bestQuestion_67_all hG hI hQ 18).1 _ _ _ _ _ (by omega) (by omega) (by omega)
theorem s_X11_ask_0 {g : gM} {x1 : Int32} {m : dM} {Q : Int32 → dM → Prop} (hG : Gd g) (hI : Inv g m) (hQ : ∀ r : Int32, (-2 ≤ r.toInt ∧ r.toInt ≤ 6) → Q r m) : c_X11_ask_0 5 x1 m Q := by
  refine v_X11_ask_0 ?_
  refine ⟨fun hc1 => ?_, fun hc1 => ?_⟩
  · skip
    refine v_X11_ask_0_15 ?_
    have f2 := ti_m1
    exact hQ _ (by omega)
  · skip
    have f2 := congrArg Int32.toInt (hI.2 67 3 rfl)
    have f3 := Inv.s hG hI (k := 67) (j := 3) rfl rfl
    refine ⟨fun hc4 => ?_, fun hc4 => ?_⟩
    · skip
      refine Wp.deep (s_X9_bestQuestion_67 hG hI (by omega) (fun R5 hr5 => ?_)) (Nat.le_of_ble_eq_true rfl)
      exact hQ _ (by omega)
    · skip
      refine v_X11_ask_0_15 ?_
      have f5 := ti_m1
      exact hQ _ (by omega)
theorem s_X7_writeTo_47_53 {g : gM} {x2 : Int32} {m : dM} {Q : dM → Prop} (hG : Gd g) (hI : Inv g m) (h2 : 0 ≤ x2.toInt ∧ x2.toInt ≤ 66) (hQ : ∀ m' : dM, Inv g m' → Q m') : c_X7_writeTo_47_53 1 x2 m Q := by
  refine v_X7_writeTo_47_53 ?_
  refine ⟨fun hc1 => ?_, fun hc1 => ?_⟩
  · skip
    exfalso; omega
  · skip
    have f2 := dSubE (X := 99) (Y := 33) (x := (99 : Int32)) (y := (33 : Int32)) (by decide) (by decide) (by omega) (by omega)
    refine ⟨fun hc3 => ?_, fun hc3 => ?_⟩
    · skip
      refine ⟨by omega, ?_⟩
      have f4 := dAddE (X := x2.toInt) (Y := 1) (x := x2) (y := (1 : Int32)) rfl (by decide) (by omega) (by omega)
      refine ⟨by omega, ?_⟩
      have f5 := dAddE (X := x2.toInt) (Y := 2) (x := x2) (y := (2 : Int32)) rfl (by decide) (by omega) (by omega)
      refine ⟨by omega, ?_⟩
      have f6 := dAddE (X := x2.toInt) (Y := 3) (x := x2) (y := (3 : Int32)) rfl (by decide) (by omega) (by omega)
      refine ⟨by omega, ?_⟩
      have f7 := dAddE (X := x2.toInt) (Y := 4) (x := x2) (y := (4 : Int32)) rfl (by decide) (by omega) (by omega)
      refine ⟨by omega, ?_⟩
      have f8 := dAddE (X := x2.toInt) (Y := 5) (x := x2) (y := (5 : Int32)) rfl (by decide) (by omega) (by omega)
      refine ⟨by omega, ?_⟩
      have f9 := ti_10
      have f10 := dAddE (X := x2.toInt) (Y := 6) (x := x2) (y := (6 : Int32)) rfl (by decide) (by omega) (by omega)
      have f11 := ti_0
      refine ⟨by omega, ?_⟩
      have f12 := dAddE (X := (x2 + (6 : Int32)).toInt) (Y := 10) (x := (x2 + (6 : Int32))) (y := (10 : Int32)) rfl (by decide) (by omega) (by omega)
      refine ⟨by omega, ?_⟩
      have f13 := ti_7
      have f14 := dAddE (X := (x2 + (6 : Int32)).toInt) (Y := 20) (x := (x2 + (6 : Int32))) (y := (20 : Int32)) rfl (by decide) (by omega) (by omega)
      refine ⟨by omega, ?_⟩
      have I15 : Inv g (dSet m 53 x2.toNatClampNeg (m.1 47 0)) := (Inv.setA hI rfl)
      have I16 : Inv g (dSet (dSet m 53 x2.toNatClampNeg (m.1 47 0)) 53 (x2 + (1 : Int32)).toNatClampNeg (m.1 47 1)) := (Inv.setA I15 rfl)
      have I17 : Inv g (dSet (dSet (dSet m 53 x2.toNatClampNeg (m.1 47 0)) 53 (x2 + (1 : Int32)).toNatClampNeg (m.1 47 1)) 53 (x2 + (2 : Int32)).toNatClampNeg (m.1 47 2)) := (Inv.setA I16 rfl)
      have I18 : Inv g (dSet (dSet (dSet (dSet m 53 x2.toNatClampNeg (m.1 47 0)) 53 (x2 + (1 : Int32)).toNatClampNeg (m.1 47 1)) 53 (x2 + (2 : Int32)).toNatClampNeg (m.1 47 2)) 53 (x2 + (3 : Int32)).toNatClampNeg (m.1 47 3)) := (Inv.setA I17 rfl)
      have I19 : Inv g (dSet (dSet (dSet (dSet (dSet m 53 x2.toNatClampNeg (m.1 47 0)) 53 (x2 + (1 : Int32)).toNatClampNeg (m.1 47 1)) 53 (x2 + (2 : Int32)).toNatClampNeg (m.1 47 2)) 53 (x2 + (3 : Int32)).toNatClampNeg (m.1 47 3)) 53 (x2 + (4 : Int32)).toNatClampNeg (m.1 47 4)) := (Inv.setA I18 rfl)
      have I20 : Inv g (dSet (dSet (dSet (dSet (dSet (dSet m 53 x2.toNatClampNeg (m.1 47 0)) 53 (x2 + (1 : Int32)).toNatClampNeg (m.1 47 1)) 53 (x2 + (2 : Int32)).toNatClampNeg (m.1 47 2)) 53 (x2 + (3 : Int32)).toNatClampNeg (m.1 47 3)) 53 (x2 + (4 : Int32)).toNatClampNeg (m.1 47 4)) 53 (x2 + (5 : Int32)).toNatClampNeg (m.1 47 5)) := (Inv.setA I19 rfl)
      have I21 : Inv g (dCpy (dSet (dSet (dSet (dSet (dSet (dSet m 53 x2.toNatClampNeg (m.1 47 0)) 53 (x2 + (1 : Int32)).toNatClampNeg (m.1 47 1)) 53 (x2 + (2 : Int32)).toNatClampNeg (m.1 47 2)) 53 (x2 + (3 : Int32)).toNatClampNeg (m.1 47 3)) 53 (x2 + (4 : Int32)).toNatClampNeg (m.1 47 4)) 53 (x2 + (5 : Int32)).toNatClampNeg (m.1 47 5)) 48 (0 : Int).toNat 53 ((x2 + (6 : Int32)).toInt).toNat (10 : Int).toNat) := (Inv.cpy I20 (fun _ => rfl))
      have I22 : Inv g (dCpy (dCpy (dSet (dSet (dSet (dSet (dSet (dSet m 53 x2.toNatClampNeg (m.1 47 0)) 53 (x2 + (1 : Int32)).toNatClampNeg (m.1 47 1)) 53 (x2 + (2 : Int32)).toNatClampNeg (m.1 47 2)) 53 (x2 + (3 : Int32)).toNatClampNeg (m.1 47 3)) 53 (x2 + (4 : Int32)).toNatClampNeg (m.1 47 4)) 53 (x2 + (5 : Int32)).toNatClampNeg (m.1 47 5)) 48 (0 : Int).toNat 53 ((x2 + (6 : Int32)).toInt).toNat (10 : Int).toNat) 49 (0 : Int).toNat 53 (((x2 + (6 : Int32)) + (10 : Int32)).toInt).toNat (10 : Int).toNat) := (Inv.cpy I21 (fun _ => rfl))
      have I23 : Inv g (dCpy (dCpy (dCpy (dSet (dSet (dSet (dSet (dSet (dSet m 53 x2.toNatClampNeg (m.1 47 0)) 53 (x2 + (1 : Int32)).toNatClampNeg (m.1 47 1)) 53 (x2 + (2 : Int32)).toNatClampNeg (m.1 47 2)) 53 (x2 + (3 : Int32)).toNatClampNeg (m.1 47 3)) 53 (x2 + (4 : Int32)).toNatClampNeg (m.1 47 4)) 53 (x2 + (5 : Int32)).toNatClampNeg (m.1 47 5)) 48 (0 : Int).toNat 53 ((x2 + (6 : Int32)).toInt).toNat (10 : Int).toNat) 49 (0 : Int).toNat 53 (((x2 + (6 : Int32)) + (10 : Int32)).toInt).toNat (10 : Int).toNat) 50 (0 : Int).toNat 53 (((x2 + (6 : Int32)) + (20 : Int32)).toInt).toNat (7 : Int).toNat) := (Inv.cpy I22 (fun _ => rfl))
      exact hQ _ I23
    · skip
      exfalso; omega
theorem s_X7_readFrom_47_53 {g : gM} {x2 : Int32} {m : dM} {Q : dM → Prop} (hG : Gd g) (hI : Inv g m) (h2 : 0 ≤ x2.toInt ∧ x2.toInt ≤ 66) (hQ : ∀ m' : dM, Inv g m' → Q m') : c_X7_readFrom_47_53 1 x2 m Q := by
  refine v_X7_readFrom_47_53 ?_
  refine ⟨fun hc1 => ?_, fun hc1 => ?_⟩
  · skip
    exfalso; omega
  · skip
    have f2 := dSubE (X := 99) (Y := 33) (x := (99 : Int32)) (y := (33 : Int32)) (by decide) (by decide) (by omega) (by omega)
    refine ⟨fun hc3 => ?_, fun hc3 => ?_⟩
    · skip
      refine ⟨by omega, ?_⟩
      have f4 := dAddE (X := x2.toInt) (Y := 1) (x := x2) (y := (1 : Int32)) rfl (by decide) (by omega) (by omega)
      refine ⟨by omega, ?_⟩
      have f5 := dAddE (X := x2.toInt) (Y := 2) (x := x2) (y := (2 : Int32)) rfl (by decide) (by omega) (by omega)
      refine ⟨by omega, ?_⟩
      have f6 := dAddE (X := x2.toInt) (Y := 3) (x := x2) (y := (3 : Int32)) rfl (by decide) (by omega) (by omega)
      refine ⟨by omega, ?_⟩
      have f7 := dAddE (X := x2.toInt) (Y := 4) (x := x2) (y := (4 : Int32)) rfl (by decide) (by omega) (by omega)
      refine ⟨by omega, ?_⟩
      have f8 := dAddE (X := x2.toInt) (Y := 5) (x := x2) (y := (5 : Int32)) rfl (by decide) (by omega) (by omega)
      refine ⟨by omega, ?_⟩
      have f9 := ti_10
      have f10 := ti_0
      have f11 := dAddE (X := x2.toInt) (Y := 6) (x := x2) (y := (6 : Int32)) rfl (by decide) (by omega) (by omega)
      refine ⟨by omega, ?_⟩
      have f12 := dAddE (X := (x2 + (6 : Int32)).toInt) (Y := 10) (x := (x2 + (6 : Int32))) (y := (10 : Int32)) rfl (by decide) (by omega) (by omega)
      refine ⟨by omega, ?_⟩
      have f13 := ti_7
      have f14 := dAddE (X := (x2 + (6 : Int32)).toInt) (Y := 20) (x := (x2 + (6 : Int32))) (y := (20 : Int32)) rfl (by decide) (by omega) (by omega)
      refine ⟨by omega, ?_⟩
      have I15 : Inv g (dSet m 47 0 (m.1 53 x2.toNatClampNeg)) := (Inv.setA hI rfl)
      have I16 : Inv g (dSet (dSet m 47 0 (m.1 53 x2.toNatClampNeg)) 47 1 (m.1 53 (x2 + (1 : Int32)).toNatClampNeg)) := (Inv.setA I15 rfl)
      have I17 : Inv g (dSet (dSet (dSet m 47 0 (m.1 53 x2.toNatClampNeg)) 47 1 (m.1 53 (x2 + (1 : Int32)).toNatClampNeg)) 47 2 (m.1 53 (x2 + (2 : Int32)).toNatClampNeg)) := (Inv.setA I16 rfl)
      have I18 : Inv g (dSet (dSet (dSet (dSet m 47 0 (m.1 53 x2.toNatClampNeg)) 47 1 (m.1 53 (x2 + (1 : Int32)).toNatClampNeg)) 47 2 (m.1 53 (x2 + (2 : Int32)).toNatClampNeg)) 47 3 (m.1 53 (x2 + (3 : Int32)).toNatClampNeg)) := (Inv.setA I17 rfl)
      have I19 : Inv g (dSet (dSet (dSet (dSet (dSet m 47 0 (m.1 53 x2.toNatClampNeg)) 47 1 (m.1 53 (x2 + (1 : Int32)).toNatClampNeg)) 47 2 (m.1 53 (x2 + (2 : Int32)).toNatClampNeg)) 47 3 (m.1 53 (x2 + (3 : Int32)).toNatClampNeg)) 47 4 (m.1 53 (x2 + (4 : Int32)).toNatClampNeg)) := (Inv.setA I18 rfl)
      have I20 : Inv g (dSet (dSet (dSet (dSet (dSet (dSet m 47 0 (m.1 53 x2.toNatClampNeg)) 47 1 (m.1 53 (x2 + (1 : Int32)).toNatClampNeg)) 47 2 (m.1 53 (x2 + (2 : Int32)).toNatClampNeg)) 47 3 (m.1 53 (x2 + (3 : Int32)).toNatClampNeg)) 47 4 (m.1 53 (x2 + (4 : Int32)).toNatClampNeg)) 47 5 (m.1 53 (x2 + (5 : Int32)).toNatClampNeg)) := (Inv.setA I19 rfl)
      have I21 : Inv g (dCpy (dSet (dSet (dSet (dSet (dSet (dSet m 47 0 (m.1 53 x2.toNatClampNeg)) 47 1 (m.1 53 (x2 + (1 : Int32)).toNatClampNeg)) 47 2 (m.1 53 (x2 + (2 : Int32)).toNatClampNeg)) 47 3 (m.1 53 (x2 + (3 : Int32)).toNatClampNeg)) 47 4 (m.1 53 (x2 + (4 : Int32)).toNatClampNeg)) 47 5 (m.1 53 (x2 + (5 : Int32)).toNatClampNeg)) 53 ((x2 + (6 : Int32)).toInt).toNat 48 (0 : Int).toNat (10 : Int).toNat) := (Inv.cpy I20 (fun _ => rfl))
      have I22 : Inv g (dCpy (dCpy (dSet (dSet (dSet (dSet (dSet (dSet m 47 0 (m.1 53 x2.toNatClampNeg)) 47 1 (m.1 53 (x2 + (1 : Int32)).toNatClampNeg)) 47 2 (m.1 53 (x2 + (2 : Int32)).toNatClampNeg)) 47 3 (m.1 53 (x2 + (3 : Int32)).toNatClampNeg)) 47 4 (m.1 53 (x2 + (4 : Int32)).toNatClampNeg)) 47 5 (m.1 53 (x2 + (5 : Int32)).toNatClampNeg)) 53 ((x2 + (6 : Int32)).toInt).toNat 48 (0 : Int).toNat (10 : Int).toNat) 53 (((x2 + (6 : Int32)) + (10 : Int32)).toInt).toNat 49 (0 : Int).toNat (10 : Int).toNat) := (Inv.cpy I21 (fun _ => rfl))
      have I23 : Inv g (dCpy (dCpy (dCpy (dSet (dSet (dSet (dSet (dSet (dSet m 47 0 (m.1 53 x2.toNatClampNeg)) 47 1 (m.1 53 (x2 + (1 : Int32)).toNatClampNeg)) 47 2 (m.1 53 (x2 + (2 : Int32)).toNatClampNeg)) 47 3 (m.1 53 (x2 + (3 : Int32)).toNatClampNeg)) 47 4 (m.1 53 (x2 + (4 : Int32)).toNatClampNeg)) 47 5 (m.1 53 (x2 + (5 : Int32)).toNatClampNeg)) 53 ((x2 + (6 : Int32)).toInt).toNat 48 (0 : Int).toNat (10 : Int).toNat) 53 (((x2 + (6 : Int32)) + (10 : Int32)).toInt).toNat 49 (0 : Int).toNat (10 : Int).toNat) 53 (((x2 + (6 : Int32)) + (20 : Int32)).toInt).toNat 50 (0 : Int).toNat (7 : Int).toNat) := (Inv.cpy I22 (fun _ => rfl))
      exact hQ _ I23
    · skip
      exfalso; omega
theorem s_X6_fetch_51_47 {g : gM} {x1 : Int32} {m : dM} {Q : Int32 → dM → Prop} (hG : Gd g) (hI : Inv g m) (hQ : ∀ (r : Int32) (m' : dM), Inv g m' → (0 ≤ r.toInt ∧ r.toInt ≤ 1) → Q r m') : c_X6_fetch_51_47 2 x1 m Q := by
  refine v_X6_fetch_51_47 ?_
  refine ⟨fun hc1 => ?_, fun hc1 => ?_⟩
  · skip
    refine v_X6_fetch_51_47_20 ?_
    have f2 := ti_0
    exact hQ _ _ hI (by omega)
  · skip
    refine ⟨fun hc2 => ?_, fun hc2 => ?_⟩
    · skip
      refine v_X6_fetch_51_47_20 ?_
      have f3 := ti_0
      exact hQ _ _ hI (by omega)
    · skip
      refine v_X11_has ?_
      have f3 := congrArg Int32.toInt (hI.2 51 4 rfl)
      have f4 := ti_1
      have f5 := dAndE (x := ((m.1 51 4).toUInt32 >>> (x1.toUInt32 &&& Int32.toUInt32 31)).toInt32) (y := (1 : Int32)) (by decide)
      refine ⟨fun hc6 => ?_, fun hc6 => ?_⟩
      · skip
        have f7 := ti_0
        refine ⟨fun hc8 => ?_, fun hc8 => ?_⟩
        · skip
          exfalso; omega
        · skip
          refine v_X6_fetch_51_47_20 ?_
          exact hQ _ _ hI (by omega)
      · skip
        refine ⟨fun hc7 => ?_, fun hc7 => ?_⟩
        · skip
          have f8 := dMulE (X := x1.toInt) (Y := 33) (x := x1) (y := (33 : Int32)) rfl (by decide) (by omega) (by omega)
          refine Wp.deep (s_X7_readFrom_47_53 hG hI (by omega) (fun M9 I9 => ?_)) (Nat.le_of_ble_eq_true rfl)
          refine Wp.deep (s_X6_clear_51 hG I9 (fun M10 I10 => ?_)) (Nat.le_of_ble_eq_true rfl)
          exact hQ _ _ I10 (by omega)
        · skip
          exfalso; omega
theorem s_X11_restore_0 {g : gM} {x1 : Int32} {m : dM} {Q : Int32 → dM → Prop} (hG : Gd g) (hI : Inv g m) (hQ : ∀ (r : Int32) (m' : dM), Inv g m' → (0 ≤ r.toInt ∧ r.toInt ≤ 1) → Q r m') : c_X11_restore_0 3 x1 m Q := by
  refine v_X11_restore_0 ?_
  refine Wp.deep (s_X6_fetch_51_47 hG hI (fun R1 M1 I1 hr1 => ?_)) (Nat.le_of_ble_eq_true rfl)
  refine ⟨dB01 (by omega), ?_⟩
  exact hQ _ _ I1 (by omega)
theorem s_X12_restore_70_all {g : gM} {Q : Int32 → dM → Prop} (hG : Gd g) (hQ : ∀ (r : Int32) (m' : dM), Inv g m' → (0 ≤ r.toInt ∧ r.toInt ≤ 1) → Q r m') : ∀ n : Nat, (∀ (m : dM), Inv g m → 0 < (n : Int) → j_X12_restore_70_18 2 m Q) ∧ (∀ (x1 : Int32) (x2 : Int32) (m : dM), Inv g m → (0 ≤ x1.toInt ∧ x1.toInt ≤ 2) → (0 ≤ x2.toInt ∧ x2.toInt ≤ 58) → 59 - 1 * x2.toInt < (n : Int) → j_X12_restore_70_22 2 x1 x2 m Q) := by
  intro n
  induction n with
  | zero => exact ⟨fun m hI hμ => by exfalso; omega, fun x1 x2 m hI h1 h2 hμ => by exfalso; omega⟩
  | succ n ih =>
    refine ⟨?_, ?_⟩
    · intro m hI hμ
      refine v_X12_restore_70_18 ?_
      have f1 := ti_0
      exact hQ _ _ hI (by omega)
    · intro x1 x2 m hI h1 h2 hμ
      refine v_X12_restore_70_22 ?_
      refine ⟨fun hc1 => ?_, fun hc1 => ?_⟩
      · skip
        have f2 := ti_1
        have f3 := ti_0
        have I4 : Inv g (dSet m 70 61 (0 : Int32)) := (Inv.set hI rfl (by omega) (by omega))
        exact hQ _ _ I4 (by omega)
      · skip
        have f2 := dMulE (X := 58) (Y := x1.toInt) (x := (58 : Int32)) (y := x1) (by decide) rfl (by omega) (by omega)
        have f3 := dAddE (X := ((58 : Int32) * x1).toInt) (Y := x2.toInt) (x := ((58 : Int32) * x1)) (y := x2) rfl rfl (by omega) (by omega)
        refine ⟨by omega, ?_⟩
        refine ⟨by omega, ?_⟩
        have f4 := dAddE (X := x2.toInt) (Y := 1) (x := x2) (y := (1 : Int32)) rfl (by decide) (by omega) (by omega)
        have I5 : Inv g (dSet m 107 x2.toNatClampNeg (m.1 116 (((58 : Int32) * x1) + x2).toNatClampNeg)) := (Inv.setA hI rfl)
        exact ih.2 _ _ _ I5 (by omega) (by omega) (by omega)
theorem s_X12_restore_70 {g : gM} {x1 : Int32} {m : dM} {Q : Int32 → dM → Prop} (hG : Gd g) (hI : Inv g m) (hQ : ∀ (r : Int32) (m' : dM), Inv g m' → (0 ≤ r.toInt ∧ r.toInt ≤ 1) → Q r m') : c_X12_restore_70 2 x1 m Q := by
  refine v_X12_restore_70 ?_
  refine v_X12_in ?_
  have f1 := ti_0
  refine ⟨fun hc2 => ?_, fun hc2 => ?_⟩
  · skip
    refine v_X12_in_14 ?_
    refine ⟨fun hc3 => ?_, fun hc3 => ?_⟩
    · skip
      exact (s_X12_restore_70_all hG hQ 61).1 _ hI (by omega)
    · skip
      exfalso; omega
  · skip
    have f3 := ti_2
    refine ⟨fun hc4 => ?_, fun hc4 => ?_⟩
    · skip
      refine v_X12_in_14 ?_
      refine ⟨fun hc5 => ?_, fun hc5 => ?_⟩
      · skip
        exact (s_X12_restore_70_all hG hQ 61).1 _ hI (by omega)
      · skip
        exfalso; omega
    · skip
      have f5 := ti_1
      refine ⟨fun hc6 => ?_, fun hc6 => ?_⟩
      · skip
        exfalso; omega
      · skip
        refine ⟨by omega, ?_⟩
        refine ⟨fun hc7 => ?_, fun hc7 => ?_⟩
        · skip
          exact (s_X12_restore_70_all hG hQ 61).2 _ _ _ hI (by omega) (by omega) (by omega)
        · skip
          exact (s_X12_restore_70_all hG hQ 61).1 _ hI (by omega)
theorem s_X11_wholeRatings_0_all {g : gM} {Q : Int32 → dM → Prop} {m : dM} (hG : Gd g) (hI : Inv g m) (hQ : ∀ r : Int32, Q r m) : ∀ n : Nat, (∀ (x1 : Int32) (x2 : Int32), (0 ≤ x2.toInt ∧ x2.toInt ≤ 10) → 10 - 1 * x2.toInt < (n : Int) → j_X11_wholeRatings_0_4 2 x1 x2 m Q) := by
  intro n
  induction n with
  | zero => exact fun x1 x2 h2 hμ => by exfalso; omega
  | succ n ih =>
    · intro x1 x2 h2 hμ
      refine v_X11_wholeRatings_0_4 ?_
      have f1 := congrArg Int32.toInt (hI.2 2 1 rfl)
      have f2 := Inv.s hG hI (k := 2) (j := 1) rfl rfl
      refine ⟨fun hc3 => ?_, fun hc3 => ?_⟩
      · skip
        exact hQ _
      · skip
        refine v_X11_has ?_
        have f4 := ti_1
        have f5 := dAndE (x := ((m.1 47 3).toUInt32 >>> (x2.toUInt32 &&& Int32.toUInt32 31)).toInt32) (y := (1 : Int32)) (by decide)
        refine ⟨fun hc6 => ?_, fun hc6 => ?_⟩
        · skip
          have f7 := ti_0
          refine ⟨fun hc8 => ?_, fun hc8 => ?_⟩
          · skip
            refine ⟨by omega, ?_⟩
            have f9 := dAddE (X := x2.toInt) (Y := 1) (x := x2) (y := (1 : Int32)) rfl (by decide) (by omega) (by omega)
            exact ih _ _ (by omega) (by omega)
          · skip
            exfalso; omega
        · skip
          refine ⟨fun hc7 => ?_, fun hc7 => ?_⟩
          · skip
            exfalso; omega
          · skip
            have f8 := dAddE (X := x2.toInt) (Y := 1) (x := x2) (y := (1 : Int32)) rfl (by decide) (by omega) (by omega)
            exact ih _ _ (by omega) (by omega)
theorem s_X11_wholeRatings_0 {g : gM} {m : dM} {Q : Int32 → dM → Prop} (hG : Gd g) (hI : Inv g m) (hQ : ∀ r : Int32, Q r m) : c_X11_wholeRatings_0 2 m Q := by
  refine v_X11_wholeRatings_0 ?_
  have f1 := ti_0
  exact (s_X11_wholeRatings_0_all hG hI hQ 12) _ _ (by omega) (by omega)
