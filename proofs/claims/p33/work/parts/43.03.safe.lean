theorem s_X12_litIn_70 {g : gM} {x1 : Int32} {x2 : Int32} {m : dM} {Q : Int32 → dM → Prop} (hG : Gd g) (hI : Inv g m) (hQ : ∀ (r : Int32) (m' : dM), Inv g m' → (-1 ≤ r.toInt ∧ r.toInt ≤ 1) → Q r m') : c_X12_litIn_70 25 x1 x2 m Q := by
  refine v_X12_litIn_70 ?_
  refine v_X12_isFlat_70 ?_
  have f1 := congrArg Int32.toInt (hI.2 70 18 rfl)
  have f2 := Inv.s hG hI (k := 70) (j := 18) rfl rfl
  refine ⟨by omega, ?_⟩
  refine v_X12_in ?_
  have f3 := ti_0
  refine ⟨fun hc4 => ?_, fun hc4 => ?_⟩
  · skip
    refine v_X12_in_14 ?_
    refine ⟨by decide, ?_⟩
    refine ⟨fun hc5 => ?_, fun hc5 => ?_⟩
    · skip
      refine v_X12_litIn_70_15 ?_
      have f6 := ti_m1
      exact hQ _ _ hI (by omega)
    · skip
      exfalso; omega
  · skip
    have f5 := Inv.cnt80 hG hI
    have f6 := Inv.s hG hI (k := 80) (j := (m.1 70 18).toNatClampNeg) rfl rfl
    have f7 := dSubE (X := (m.1 80 (m.1 70 18).toNatClampNeg).toInt) (Y := 1) (x := (m.1 80 (m.1 70 18).toNatClampNeg)) (y := (1 : Int32)) rfl (by decide) (by omega) (by omega)
    refine ⟨fun hc8 => ?_, fun hc8 => ?_⟩
    · skip
      refine v_X12_in_14 ?_
      refine ⟨by decide, ?_⟩
      refine ⟨fun hc9 => ?_, fun hc9 => ?_⟩
      · skip
        refine v_X12_litIn_70_15 ?_
        have f10 := ti_m1
        exact hQ _ _ hI (by omega)
      · skip
        exfalso; omega
    · skip
      have f9 := ti_1
      refine ⟨by decide, ?_⟩
      refine ⟨fun hc10 => ?_, fun hc10 => ?_⟩
      · skip
        exfalso; omega
      · skip
        refine v_X12_isLong ?_
        refine v_X12_in ?_
        refine ⟨fun hc11 => ?_, fun hc11 => ?_⟩
        · skip
          refine v_X12_in_14 ?_
          refine ⟨by decide, ?_⟩
          refine ⟨fun hc12 => ?_, fun hc12 => ?_⟩
          · skip
            exfalso; omega
          · skip
            refine v_X12_litIn_70_15 ?_
            have f13 := ti_m1
            exact hQ _ _ hI (by omega)
        · skip
          have f12 := ti_72
          refine ⟨fun hc13 => ?_, fun hc13 => ?_⟩
          · skip
            refine v_X12_in_14 ?_
            refine ⟨by decide, ?_⟩
            refine ⟨fun hc14 => ?_, fun hc14 => ?_⟩
            · skip
              exfalso; omega
            · skip
              refine v_X12_litIn_70_15 ?_
              have f15 := ti_m1
              exact hQ _ _ hI (by omega)
          · skip
            refine ⟨by decide, ?_⟩
            refine ⟨fun hc14 => ?_, fun hc14 => ?_⟩
            · skip
              refine Wp.deep (s_X12_copies_70 hG hI (fun M15 I15 => ?_)) (Nat.le_of_ble_eq_true rfl)
              refine Wp.deep (s_X12_goes_70 hG I15 (by omega) (fun M16 I16 => ?_)) (Nat.le_of_ble_eq_true rfl)
              refine v_X12_isLit_70 ?_
              refine ⟨by omega, ?_⟩
              refine ⟨fun hc17 => ?_, fun hc17 => ?_⟩
              · skip
                refine ⟨fun hc18 => ?_, fun hc18 => ?_⟩
                · skip
                  exact hQ _ _ I16 (by omega)
                · skip
                  exfalso; omega
              · skip
                refine ⟨fun hc18 => ?_, fun hc18 => ?_⟩
                · skip
                  exfalso; omega
                · skip
                  exact hQ _ _ I16 (by omega)
            · skip
              exfalso; omega
theorem s_X12_year_70_all {g : gM} {Q : Int32 → dM → Prop} (hG : Gd g) (hQ : ∀ (r : Int32) (m' : dM), Inv g m' → Q r m') : ∀ n : Nat, (∀ (m : dM), Inv g m → 0 < (n : Int) → j_X12_year_70_17 24 m Q) ∧ (∀ (x1 : Int32) (x2 : Int32) (x3 : Int32) (x4 : Int32) (m : dM), Inv g m → (0 ≤ x1.toInt ∧ x1.toInt ≤ 72) → (1 ≤ x2.toInt ∧ x2.toInt ≤ 20) → (0 ≤ x4.toInt ∧ x4.toInt ≤ 20) → 3150 - 150 * x4.toInt < (n : Int) → j_X12_year_70_24 24 x1 x2 x3 x4 m Q) ∧ (∀ (x1 : Int32) (x2 : Int32) (x3 : Int32) (x4 : Int32) (x5 : Int32) (x6 : Int32) (m : dM), Inv g m → (0 ≤ x1.toInt ∧ x1.toInt ≤ 72) → (1 ≤ x2.toInt ∧ x2.toInt ≤ 20) → (0 ≤ x4.toInt ∧ x4.toInt ≤ 19) → (0 ≤ x5.toInt ∧ x5.toInt ≤ 1) → (0 ≤ x6.toInt ∧ x6.toInt ≤ 73) → 3149 - 150 * x4.toInt - 2 * x6.toInt < (n : Int) → j_X12_year_70_51 24 x1 x2 x3 x4 x5 x6 m Q) ∧ (∀ (x1 : Int32) (x2 : Int32) (x3 : Int32) (x4 : Int32) (x5 : Int32) (x6 : Int32) (m : dM), Inv g m → (1 ≤ x1.toInt ∧ x1.toInt ≤ 72) → (1 ≤ x2.toInt ∧ x2.toInt ≤ 20) → (0 ≤ x4.toInt ∧ x4.toInt ≤ 19) → (0 ≤ x5.toInt ∧ x5.toInt ≤ 1) → (0 ≤ x6.toInt ∧ x6.toInt ≤ 72) → 3148 - 150 * x4.toInt - 2 * x6.toInt < (n : Int) → j_X12_year_70_71 24 x1 x2 x3 x4 x5 x6 m Q) ∧ (∀ (x1 : Int32) (x2 : Int32) (x3 : Int32) (x4 : Int32) (m : dM), Inv g m → (0 ≤ x1.toInt ∧ x1.toInt ≤ 72) → (1 ≤ x2.toInt ∧ x2.toInt ≤ 20) → (0 ≤ x4.toInt ∧ x4.toInt ≤ 19) → 3001 - 150 * x4.toInt < (n : Int) → j_X12_year_70_85 24 x1 x2 x3 x4 m Q) := by
  intro n
  induction n with
  | zero => exact ⟨fun m hI hμ => by exfalso; omega, fun x1 x2 x3 x4 m hI h1 h2 h4 hμ => by exfalso; omega, fun x1 x2 x3 x4 x5 x6 m hI h1 h2 h4 h5 h6 hμ => by exfalso; omega, fun x1 x2 x3 x4 x5 x6 m hI h1 h2 h4 h5 h6 hμ => by exfalso; omega, fun x1 x2 x3 x4 m hI h1 h2 h4 hμ => by exfalso; omega⟩
  | succ n ih =>
    refine ⟨?_, ?_, ?_, ?_, ?_⟩
    · intro m hI hμ
      refine v_X12_year_70_17 ?_
      have f1 := ti_m1
      exact hQ _ _ hI
    · intro x1 x2 x3 x4 m hI h1 h2 h4 hμ
      refine v_X12_year_70_24 ?_
      refine ⟨fun hc1 => ?_, fun hc1 => ?_⟩
      · skip
        exact hQ _ _ hI
      · skip
        refine Wp.deep (s_X12_copies_70 hG hI (fun M2 I2 => ?_)) (Nat.le_of_ble_eq_true rfl)
        have f3 := ti_1
        have f4 := ti_0
        have I5 : Inv g (dSet M2 70 56 ((M2.1 70 56) + x4)) := (Inv.setA I2 rfl)
        exact ih.2.2.1 _ _ _ _ _ _ _ I5 (by omega) (by omega) (by omega) (by omega) (by omega) (by omega)
    · intro x1 x2 x3 x4 x5 x6 m hI h1 h2 h4 h5 h6 hμ
      refine v_X12_year_70_51 ?_
      refine ⟨fun hc1 => ?_, fun hc1 => ?_⟩
      · skip
        refine ⟨fun hc2 => ?_, fun hc2 => ?_⟩
        · skip
          exact ih.2.2.2.2 _ _ _ _ _ hI (by omega) (by omega) (by omega) (by omega)
        · skip
          exact ih.2.2.2.2 _ _ _ _ _ hI (by omega) (by omega) (by omega) (by omega)
      · skip
        refine Wp.deep (s_X12_hourGoes_70 hG hI (fun M2 I2 => ?_)) (Nat.le_of_ble_eq_true rfl)
        refine ⟨fun hc3 => ?_, fun hc3 => ?_⟩
        · skip
          exact ih.2.2.2.1 _ _ _ _ _ _ _ I2 (by omega) (by omega) (by omega) (by omega) (by omega) (by omega)
        · skip
          have f4 := ti_0
          exact ih.2.2.2.1 _ _ _ _ _ _ _ I2 (by omega) (by omega) (by omega) (by omega) (by omega) (by omega)
    · intro x1 x2 x3 x4 x5 x6 m hI h1 h2 h4 h5 h6 hμ
      refine v_X12_year_70_71 ?_
      have f1 := dAddE (X := x6.toInt) (Y := 1) (x := x6) (y := (1 : Int32)) rfl (by decide) (by omega) (by omega)
      exact ih.2.2.1 _ _ _ _ _ _ _ hI (by omega) (by omega) (by omega) (by omega) (by omega) (by omega)
    · intro x1 x2 x3 x4 m hI h1 h2 h4 hμ
      refine v_X12_year_70_85 ?_
      have f1 := dAddE (X := x4.toInt) (Y := 1) (x := x4) (y := (1 : Int32)) rfl (by decide) (by omega) (by omega)
      exact ih.2.1 _ _ _ _ _ hI (by omega) (by omega) (by omega) (by omega)
theorem s_X12_year_70 {g : gM} {x1 : Int32} {x2 : Int32} {m : dM} {Q : Int32 → dM → Prop} (hG : Gd g) (hI : Inv g m) (hQ : ∀ (r : Int32) (m' : dM), Inv g m' → Q r m') : c_X12_year_70 24 x1 x2 m Q := by
  refine v_X12_year_70 ?_
  refine v_X12_isLong ?_
  refine v_X12_in ?_
  have f1 := ti_0
  refine ⟨fun hc2 => ?_, fun hc2 => ?_⟩
  · skip
    refine v_X12_in_14 ?_
    refine ⟨by decide, ?_⟩
    refine ⟨fun hc3 => ?_, fun hc3 => ?_⟩
    · skip
      exact (s_X12_year_70_all hG hQ 3152).1 _ hI (by omega)
    · skip
      exfalso; omega
  · skip
    have f3 := ti_72
    refine ⟨fun hc4 => ?_, fun hc4 => ?_⟩
    · skip
      refine v_X12_in_14 ?_
      refine ⟨by decide, ?_⟩
      refine ⟨fun hc5 => ?_, fun hc5 => ?_⟩
      · skip
        exact (s_X12_year_70_all hG hQ 3152).1 _ hI (by omega)
      · skip
        exfalso; omega
    · skip
      have f5 := ti_1
      refine ⟨by decide, ?_⟩
      refine ⟨fun hc6 => ?_, fun hc6 => ?_⟩
      · skip
        exfalso; omega
      · skip
        refine v_X12_in ?_
        refine ⟨fun hc7 => ?_, fun hc7 => ?_⟩
        · skip
          refine v_X12_in_14 ?_
          refine ⟨fun hc8 => ?_, fun hc8 => ?_⟩
          · skip
            exfalso; omega
          · skip
            exact (s_X12_year_70_all hG hQ 3152).1 _ hI (by omega)
        · skip
          have f8 := ti_20
          refine ⟨fun hc9 => ?_, fun hc9 => ?_⟩
          · skip
            refine v_X12_in_14 ?_
            refine ⟨fun hc10 => ?_, fun hc10 => ?_⟩
            · skip
              exfalso; omega
            · skip
              exact (s_X12_year_70_all hG hQ 3152).1 _ hI (by omega)
          · skip
            refine ⟨fun hc10 => ?_, fun hc10 => ?_⟩
            · skip
              exact (s_X12_year_70_all hG hQ 3152).2.1 _ _ _ _ _ hI (by omega) (by omega) (by omega) (by omega)
            · skip
              exfalso; omega
theorem s_X12_wentBits_70_all {g : gM} {Q : Int32 → dM → Prop} (hG : Gd g) (hQ : ∀ (r : Int32) (m' : dM), Inv g m' → Q r m') : ∀ n : Nat, (∀ (x1 : Int32) (x2 : Int32) (x3 : Int32) (m : dM), Inv g m → (0 ≤ x1.toInt ∧ x1.toInt ≤ 20) → (0 ≤ x3.toInt ∧ x3.toInt ≤ 10) → 483 - 44 * x3.toInt < (n : Int) → j_X12_wentBits_70_4 23 x1 x2 x3 m Q) ∧ (∀ (x1 : Int32) (x2 : Int32) (x3 : Int32) (x4 : Int32) (x5 : Int32) (m : dM), Inv g m → (0 ≤ x1.toInt ∧ x1.toInt ≤ 20) → (0 ≤ x3.toInt ∧ x3.toInt ≤ 9) → (0 ≤ x4.toInt ∧ x4.toInt ≤ 1) → (0 ≤ x5.toInt ∧ x5.toInt ≤ 20) → 482 - 44 * x3.toInt - 2 * x5.toInt < (n : Int) → j_X12_wentBits_70_56 23 x1 x2 x3 x4 x5 m Q) ∧ (∀ (x1 : Int32) (x2 : Int32) (x3 : Int32) (x4 : Int32) (x5 : Int32) (m : dM), Inv g m → (1 ≤ x1.toInt ∧ x1.toInt ≤ 20) → (0 ≤ x3.toInt ∧ x3.toInt ≤ 9) → (0 ≤ x4.toInt ∧ x4.toInt ≤ 1) → (0 ≤ x5.toInt ∧ x5.toInt ≤ 19) → 481 - 44 * x3.toInt - 2 * x5.toInt < (n : Int) → j_X12_wentBits_70_91 23 x1 x2 x3 x4 x5 m Q) ∧ (∀ (x1 : Int32) (x2 : Int32) (x3 : Int32) (m : dM), Inv g m → (0 ≤ x1.toInt ∧ x1.toInt ≤ 20) → (0 ≤ x3.toInt ∧ x3.toInt ≤ 9) → 440 - 44 * x3.toInt < (n : Int) → j_X12_wentBits_70_108 23 x1 x2 x3 m Q) := by
  intro n
  induction n with
  | zero => exact ⟨fun x1 x2 x3 m hI h1 h3 hμ => by exfalso; omega, fun x1 x2 x3 x4 x5 m hI h1 h3 h4 h5 hμ => by exfalso; omega, fun x1 x2 x3 x4 x5 m hI h1 h3 h4 h5 hμ => by exfalso; omega, fun x1 x2 x3 m hI h1 h3 hμ => by exfalso; omega⟩
  | succ n ih =>
    refine ⟨?_, ?_, ?_, ?_⟩
    · intro x1 x2 x3 m hI h1 h3 hμ
      refine v_X12_wentBits_70_4 ?_
      have f1 := congrArg Int32.toInt (hI.2 70 18 rfl)
      have f2 := Inv.s hG hI (k := 70) (j := 18) rfl rfl
      refine ⟨by omega, ?_⟩
      have f3 := Inv.cnt82 hG hI
      have f4 := Inv.s hG hI (k := 82) (j := (m.1 70 18).toNatClampNeg) rfl rfl
      refine ⟨fun hc5 => ?_, fun hc5 => ?_⟩
      · skip
        exact hQ _ _ hI
      · skip
        have f6 := dAddE (X := 10) (Y := x3.toInt) (x := (10 : Int32)) (y := x3) (by decide) rfl (by omega) (by omega)
        refine ⟨by omega, ?_⟩
        refine ⟨fun hc7 => ?_, fun hc7 => ?_⟩
        · skip
          have f8 := dShl10 (x := x3) (by omega) (by omega)
          refine Wp.deep (s_X12_loses_70 hG hI (by omega) (fun M9 I9 => ?_)) (Nat.le_of_ble_eq_true rfl)
          refine Wp.deep (s_X12_litBits_70 hG I9 (fun R10 => ?_)) (Nat.le_of_ble_eq_true rfl)
          refine ⟨by omega, ?_⟩
          have f11 := ti_1
          have f12 := ti_0
          have I13 : Inv g (dSet M9 114 x3.toNatClampNeg R10) := (Inv.setA I9 rfl)
          exact ih.2.1 _ _ _ _ _ _ I13 (by omega) (by omega) (by omega) (by omega) (by omega)
        · skip
          exact ih.2.2.2 _ _ _ _ hI (by omega) (by omega) (by omega)
    · intro x1 x2 x3 x4 x5 m hI h1 h3 h4 h5 hμ
      refine v_X12_wentBits_70_56 ?_
      refine ⟨fun hc1 => ?_, fun hc1 => ?_⟩
      · skip
        refine ⟨fun hc2 => ?_, fun hc2 => ?_⟩
        · skip
          exact ih.2.2.2 _ _ _ _ hI (by omega) (by omega) (by omega)
        · skip
          have f3 := dShl10 (x := x3) (by omega) (by omega)
          exact ih.2.2.2 _ _ _ _ hI (by omega) (by omega) (by omega)
      · skip
        refine ⟨by omega, ?_⟩
        refine ⟨by omega, ?_⟩
        refine ⟨by omega, ?_⟩
        have f2 := ti_1
        have f3 := dAndE (x := ((m.1 114 x3.toNatClampNeg) >>> ((m.1 112 x5.toNatClampNeg) &&& 31))) (y := (1 : Int32)) (by decide)
        refine ⟨fun hc4 => ?_, fun hc4 => ?_⟩
        · skip
          exact ih.2.2.1 _ _ _ _ _ _ hI (by omega) (by omega) (by omega) (by omega) (by omega)
        · skip
          have f5 := ti_0
          exact ih.2.2.1 _ _ _ _ _ _ hI (by omega) (by omega) (by omega) (by omega) (by omega)
    · intro x1 x2 x3 x4 x5 m hI h1 h3 h4 h5 hμ
      refine v_X12_wentBits_70_91 ?_
      have f1 := dAddE (X := x5.toInt) (Y := 1) (x := x5) (y := (1 : Int32)) rfl (by decide) (by omega) (by omega)
      exact ih.2.1 _ _ _ _ _ _ hI (by omega) (by omega) (by omega) (by omega) (by omega)
    · intro x1 x2 x3 m hI h1 h3 hμ
      refine v_X12_wentBits_70_108 ?_
      have f1 := dAddE (X := x3.toInt) (Y := 1) (x := x3) (y := (1 : Int32)) rfl (by decide) (by omega) (by omega)
      exact ih.1 _ _ _ _ hI (by omega) (by omega) (by omega)
theorem s_X12_wentBits_70 {g : gM} {x1 : Int32} {m : dM} {Q : Int32 → dM → Prop} (hG : Gd g) (hI : Inv g m) (h1 : 0 ≤ x1.toInt ∧ x1.toInt ≤ 20) (hQ : ∀ (r : Int32) (m' : dM), Inv g m' → Q r m') : c_X12_wentBits_70 23 x1 m Q := by
  refine v_X12_wentBits_70 ?_
  have f1 := ti_0
  exact (s_X12_wentBits_70_all hG hQ 485).1 _ _ _ _ hI (by omega) (by omega) (by omega)
theorem s_X12_went_70 {g : gM} {x1 : Int32} {x2 : Int32} {m : dM} {Q : Int32 → dM → Prop} (hG : Gd g) (hI : Inv g m) (hQ : ∀ (r : Int32) (m' : dM), Inv g m' → Q r m') : c_X12_went_70 24 x1 x2 m Q := by
  refine v_X12_went_70 ?_
  refine v_X12_in ?_
  have f1 := ti_0
  refine ⟨fun hc2 => ?_, fun hc2 => ?_⟩
  · skip
    refine v_X12_in_14 ?_
    refine ⟨fun hc3 => ?_, fun hc3 => ?_⟩
    · skip
      refine v_X12_went_70_21 ?_
      have f4 := ti_m1
      exact hQ _ _ hI
    · skip
      exfalso; omega
  · skip
    have f3 := congrArg Int32.toInt (hI.2 70 63 rfl)
    have f4 := Inv.s hG hI (k := 70) (j := 63) rfl rfl
    refine ⟨fun hc5 => ?_, fun hc5 => ?_⟩
    · skip
      refine v_X12_in_14 ?_
      refine ⟨fun hc6 => ?_, fun hc6 => ?_⟩
      · skip
        refine v_X12_went_70_21 ?_
        have f7 := ti_m1
        exact hQ _ _ hI
      · skip
        exfalso; omega
    · skip
      have f6 := ti_1
      refine ⟨fun hc7 => ?_, fun hc7 => ?_⟩
      · skip
        exfalso; omega
      · skip
        refine v_X12_in ?_
        refine ⟨fun hc8 => ?_, fun hc8 => ?_⟩
        · skip
          refine v_X12_in_14 ?_
          refine ⟨fun hc9 => ?_, fun hc9 => ?_⟩
          · skip
            exfalso; omega
          · skip
            refine v_X12_went_70_21 ?_
            have f10 := ti_m1
            exact hQ _ _ hI
        · skip
          refine ⟨fun hc9 => ?_, fun hc9 => ?_⟩
          · skip
            refine v_X12_in_14 ?_
            refine ⟨fun hc10 => ?_, fun hc10 => ?_⟩
            · skip
              exfalso; omega
            · skip
              refine v_X12_went_70_21 ?_
              have f11 := ti_m1
              exact hQ _ _ hI
          · skip
            refine ⟨fun hc10 => ?_, fun hc10 => ?_⟩
            · skip
              refine Wp.deep (s_X12_wentBits_70 hG hI (by omega) (fun R11 M11 I11 => ?_)) (Nat.le_of_ble_eq_true rfl)
              refine ⟨fun hc12 => ?_, fun hc12 => ?_⟩
              · skip
                exact hQ _ _ I11
              · skip
                refine Wp.deep (s_X12_bits hG I11 (fun R13 => ?_)) (Nat.le_of_ble_eq_true rfl)
                exact hQ _ _ I11
            · skip
              exfalso; omega
theorem s_X12_ask_70_all {g : gM} {Q : Int32 → dM → Prop} (hG : Gd g) (hQ : ∀ (r : Int32) (m' : dM), Inv g m' → (-2 ≤ r.toInt ∧ r.toInt ≤ 6) → Q r m') : ∀ n : Nat, (∀ (x2 : Int32) (x3 : Int32) (x4 : Int32) (x5 : Int32) (m : dM), Inv g m → (-2 ≤ x3.toInt ∧ x3.toInt ≤ 6) → (0 ≤ x5.toInt ∧ x5.toInt ≤ 7) → 200 - 25 * x5.toInt < (n : Int) → j_X12_ask_70_29 24 x2 x3 x4 x5 m Q) ∧ (∀ (x2 : Int32) (x3 : Int32) (x4 : Int32) (x5 : Int32) (x6 : Int32) (x7 : Int32) (m : dM), Inv g m → (-2 ≤ x3.toInt ∧ x3.toInt ≤ 6) → (0 ≤ x5.toInt ∧ x5.toInt ≤ 6) → (0 ≤ x7.toInt ∧ x7.toInt ≤ 10) → 199 - 25 * x5.toInt - 2 * x7.toInt < (n : Int) → j_X12_ask_70_53 24 x2 x3 x4 x5 x6 x7 m Q) ∧ (∀ (x2 : Int32) (x3 : Int32) (x4 : Int32) (x5 : Int32) (x6 : Int32) (x7 : Int32) (m : dM), Inv g m → (-2 ≤ x3.toInt ∧ x3.toInt ≤ 6) → (0 ≤ x5.toInt ∧ x5.toInt ≤ 6) → (0 ≤ x7.toInt ∧ x7.toInt ≤ 9) → 198 - 25 * x5.toInt - 2 * x7.toInt < (n : Int) → j_X12_ask_70_94 24 x2 x3 x4 x5 x6 x7 m Q) ∧ (∀ (x2 : Int32) (x5 : Int32) (x7 : Int32) (m : dM), Inv g m → (0 ≤ x5.toInt ∧ x5.toInt ≤ 6) → 177 - 25 * x5.toInt < (n : Int) → j_X12_ask_70_140 24 x2 x5 x7 m Q) ∧ (∀ (x2 : Int32) (x3 : Int32) (x4 : Int32) (x5 : Int32) (m : dM), Inv g m → (0 ≤ x3.toInt ∧ x3.toInt ≤ 6) → (0 ≤ x5.toInt ∧ x5.toInt ≤ 6) → 176 - 25 * x5.toInt < (n : Int) → j_X12_ask_70_147 24 x2 x3 x4 x5 m Q) ∧ (∀ (x3 : Int32) (m : dM), Inv g m → (-2 ≤ x3.toInt ∧ x3.toInt ≤ 6) → 0 < (n : Int) → j_X12_ask_70_153 24 x3 m Q) := by
  intro n
  induction n with
  | zero => exact ⟨fun x2 x3 x4 x5 m hI h3 h5 hμ => by exfalso; omega, fun x2 x3 x4 x5 x6 x7 m hI h3 h5 h7 hμ => by exfalso; omega, fun x2 x3 x4 x5 x6 x7 m hI h3 h5 h7 hμ => by exfalso; omega, fun x2 x5 x7 m hI h5 hμ => by exfalso; omega, fun x2 x3 x4 x5 m hI h3 h5 hμ => by exfalso; omega, fun x3 m hI h3 hμ => by exfalso; omega⟩
  | succ n ih =>
    refine ⟨?_, ?_, ?_, ?_, ?_, ?_⟩
    · intro x2 x3 x4 x5 m hI h3 h5 hμ
      refine v_X12_ask_70_29 ?_
      have f1 := congrArg Int32.toInt (hI.2 70 18 rfl)
      have f2 := Inv.s hG hI (k := 70) (j := 18) rfl rfl
      refine ⟨by omega, ?_⟩
      have f3 := Inv.cnt80 hG hI
      have f4 := Inv.s hG hI (k := 80) (j := (m.1 70 18).toNatClampNeg) rfl rfl
      refine ⟨fun hc5 => ?_, fun hc5 => ?_⟩
      · skip
        exact ih.2.2.2.2.2 _ _ hI (by omega) (by omega)
      · skip
        refine ⟨fun hc6 => ?_, fun hc6 => ?_⟩
        · skip
          exact ih.2.2.2.2.2 _ _ hI (by omega) (by omega)
        · skip
          have f7 := ti_0
          exact ih.2.1 _ _ _ _ _ _ _ hI (by omega) (by omega) (by omega) (by omega)
    · intro x2 x3 x4 x5 x6 x7 m hI h3 h5 h7 hμ
      refine v_X12_ask_70_53 ?_
      have f1 := congrArg Int32.toInt (hI.2 70 18 rfl)
      have f2 := Inv.s hG hI (k := 70) (j := 18) rfl rfl
      refine ⟨by omega, ?_⟩
      have f3 := Inv.cnt82 hG hI
      have f4 := Inv.s hG hI (k := 82) (j := (m.1 70 18).toNatClampNeg) rfl rfl
      refine ⟨fun hc5 => ?_, fun hc5 => ?_⟩
      · skip
        refine Wp.deep (s_X12_bits hG hI (fun R6 => ?_)) (Nat.le_of_ble_eq_true rfl)
        refine ⟨fun hc7 => ?_, fun hc7 => ?_⟩
        · skip
          refine Wp.deep (s_X12_bits hG hI (fun R8 => ?_)) (Nat.le_of_ble_eq_true rfl)
          refine ⟨fun hc9 => ?_, fun hc9 => ?_⟩
          · skip
            exact ih.2.2.2.1 _ _ _ _ hI (by omega) (by omega)
          · skip
            refine ⟨fun hc10 => ?_, fun hc10 => ?_⟩
            · skip
              exact ih.2.2.2.1 _ _ _ _ hI (by omega) (by omega)
            · skip
              exact ih.2.2.2.2.1 _ _ _ _ _ hI (by omega) (by omega) (by omega)
        · skip
          refine ⟨fun hc8 => ?_, fun hc8 => ?_⟩
          · skip
            exact ih.2.2.2.1 _ _ _ _ hI (by omega) (by omega)
          · skip
            refine ⟨fun hc9 => ?_, fun hc9 => ?_⟩
            · skip
              exact ih.2.2.2.1 _ _ _ _ hI (by omega) (by omega)
            · skip
              exact ih.2.2.2.2.1 _ _ _ _ _ hI (by omega) (by omega) (by omega)
      · skip
        have f6 := ti_1
        have f7 := dAndE (x := (x2 >>> (x7 &&& 31))) (y := (1 : Int32)) (by decide)
        refine ⟨fun hc8 => ?_, fun hc8 => ?_⟩
        · skip
          exact ih.2.2.1 _ _ _ _ _ _ _ hI (by omega) (by omega) (by omega) (by omega)
        · skip
          refine ⟨by omega, ?_⟩
          have f9 := dAndE (x := ((m.1 114 x7.toNatClampNeg) >>> (x5 &&& 31))) (y := (1 : Int32)) (by decide)
          exact ih.2.2.1 _ _ _ _ _ _ _ hI (by omega) (by omega) (by omega) (by omega)
    · intro x2 x3 x4 x5 x6 x7 m hI h3 h5 h7 hμ
      refine v_X12_ask_70_94 ?_
      have f1 := dAddE (X := x7.toInt) (Y := 1) (x := x7) (y := (1 : Int32)) rfl (by decide) (by omega) (by omega)
      exact ih.2.1 _ _ _ _ _ _ _ hI (by omega) (by omega) (by omega) (by omega)
    · intro x2 x5 x7 m hI h5 hμ
      refine v_X12_ask_70_140 ?_
      exact ih.2.2.2.2.1 _ _ _ _ _ hI (by omega) (by omega) (by omega)
    · intro x2 x3 x4 x5 m hI h3 h5 hμ
      refine v_X12_ask_70_147 ?_
      have f1 := dAddE (X := x5.toInt) (Y := 1) (x := x5) (y := (1 : Int32)) rfl (by decide) (by omega) (by omega)
      exact ih.1 _ _ _ _ _ hI (by omega) (by omega) (by omega)
    · intro x3 m hI h3 hμ
      refine v_X12_ask_70_153 ?_
      exact hQ _ _ hI (by omega)
theorem s_X12_ask_70 {g : gM} {x1 : Int32} {m : dM} {Q : Int32 → dM → Prop} (hG : Gd g) (hI : Inv g m) (hQ : ∀ (r : Int32) (m' : dM), Inv g m' → (-2 ≤ r.toInt ∧ r.toInt ≤ 6) → Q r m') : c_X12_ask_70 24 x1 m Q := by
  refine v_X12_ask_70 ?_
  refine v_X12_in ?_
  have f1 := ti_0
  refine ⟨fun hc2 => ?_, fun hc2 => ?_⟩
  · skip
    refine v_X12_in_14 ?_
    refine ⟨fun hc3 => ?_, fun hc3 => ?_⟩
    · skip
      exfalso; omega
    · skip
      have f4 := ti_m1
      exact hQ _ _ hI (by omega)
  · skip
    have f3 := congrArg Int32.toInt (hI.2 70 63 rfl)
    have f4 := Inv.s hG hI (k := 70) (j := 63) rfl rfl
    refine ⟨fun hc5 => ?_, fun hc5 => ?_⟩
    · skip
      refine v_X12_in_14 ?_
      refine ⟨fun hc6 => ?_, fun hc6 => ?_⟩
      · skip
        exfalso; omega
      · skip
        have f7 := ti_m1
        exact hQ _ _ hI (by omega)
    · skip
      have f6 := ti_1
      refine ⟨fun hc7 => ?_, fun hc7 => ?_⟩
      · skip
        refine Wp.deep (s_X12_wentBits_70 hG hI (by omega) (fun R8 M8 I8 => ?_)) (Nat.le_of_ble_eq_true rfl)
        have f9 := ti_m2
        exact (s_X12_ask_70_all hG hQ 202).1 _ _ _ _ _ I8 (by omega) (by omega) (by omega)
      · skip
        exfalso; omega
theorem s_X12_count_70_all {g : gM} {Q : Int32 → dM → Prop} (hG : Gd g) (hQ : ∀ (r : Int32) (m' : dM), Inv g m' → Q r m') : ∀ n : Nat, (∀ (x2 : Int32) (x3 : Int32) (m : dM), Inv g m → (0 ≤ x3.toInt ∧ x3.toInt ≤ 10) → 10 - 1 * x3.toInt < (n : Int) → j_X12_count_70_228 22 x2 x3 m Q) ∧ (∀ (x2 : Int32) (x3 : Int32) (m : dM), Inv g m → (0 ≤ x3.toInt ∧ x3.toInt ≤ 10) → 32 - 2 * x3.toInt < (n : Int) → j_X12_count_70_265 22 x2 x3 m Q) ∧ (∀ (x2 : Int32) (x3 : Int32) (m : dM), Inv g m → (0 ≤ x3.toInt ∧ x3.toInt ≤ 9) → 31 - 2 * x3.toInt < (n : Int) → j_X12_count_70_295 22 x2 x3 m Q) := by
  intro n
  induction n with
  | zero => exact ⟨fun x2 x3 m hI h3 hμ => by exfalso; omega, fun x2 x3 m hI h3 hμ => by exfalso; omega, fun x2 x3 m hI h3 hμ => by exfalso; omega⟩
  | succ n ih =>
    refine ⟨?_, ?_, ?_⟩
    · intro x2 x3 m hI h3 hμ
      refine v_X12_count_70_228 ?_
      have f1 := congrArg Int32.toInt (hI.2 70 18 rfl)
      have f2 := Inv.s hG hI (k := 70) (j := 18) rfl rfl
      refine ⟨by omega, ?_⟩
      have f3 := Inv.cnt82 hG hI
      have f4 := Inv.s hG hI (k := 82) (j := (m.1 70 18).toNatClampNeg) rfl rfl
      refine ⟨fun hc5 => ?_, fun hc5 => ?_⟩
      · skip
        exact hQ _ _ hI
      · skip
        have f6 := dAddE (X := 30) (Y := x3.toInt) (x := (30 : Int32)) (y := x3) (by decide) rfl (by omega) (by omega)
        refine ⟨by omega, ?_⟩
        have f7 := dAddE (X := x3.toInt) (Y := 1) (x := x3) (y := (1 : Int32)) rfl (by decide) (by omega) (by omega)
        exact ih.1 _ _ _ hI (by omega) (by omega)
    · intro x2 x3 m hI h3 hμ
      refine v_X12_count_70_265 ?_
      have f1 := congrArg Int32.toInt (hI.2 70 18 rfl)
      have f2 := Inv.s hG hI (k := 70) (j := 18) rfl rfl
      refine ⟨by omega, ?_⟩
      have f3 := Inv.cnt82 hG hI
      have f4 := Inv.s hG hI (k := 82) (j := (m.1 70 18).toNatClampNeg) rfl rfl
      refine ⟨fun hc5 => ?_, fun hc5 => ?_⟩
      · skip
        exact hQ _ _ hI
      · skip
        refine v_X12_isWhole_70 ?_
        refine v_X12_isWire_70 ?_
        refine ⟨by omega, ?_⟩
        refine v_X12_in ?_
        have f6 := ti_0
        refine ⟨fun hc7 => ?_, fun hc7 => ?_⟩
        · skip
          exfalso; omega
        · skip
          have f8 := dSubE (X := (m.1 82 (m.1 70 18).toNatClampNeg).toInt) (Y := 1) (x := (m.1 82 (m.1 70 18).toNatClampNeg)) (y := (1 : Int32)) rfl (by decide) (by omega) (by omega)
          refine ⟨fun hc9 => ?_, fun hc9 => ?_⟩
          · skip
            refine v_X12_in_14 ?_
            refine ⟨by decide, ?_⟩
            refine ⟨fun hc10 => ?_, fun hc10 => ?_⟩
            · skip
              refine v_X12_isWhole_70_24 ?_
              refine ⟨fun hc11 => ?_, fun hc11 => ?_⟩
              · skip
                exact ih.2.2 _ _ _ hI (by omega) (by omega)
              · skip
                exfalso; omega
            · skip
              exfalso; omega
          · skip
            have f10 := ti_1
            refine ⟨by decide, ?_⟩
            refine ⟨fun hc11 => ?_, fun hc11 => ?_⟩
            · skip
              exfalso; omega
            · skip
              have f12 := dAddE (X := 10) (Y := x3.toInt) (x := (10 : Int32)) (y := x3) (by decide) rfl (by omega) (by omega)
              refine ⟨by omega, ?_⟩
              refine ⟨fun hc13 => ?_, fun hc13 => ?_⟩
              · skip
                refine v_X12_isWhole_70_24 ?_
                refine ⟨fun hc14 => ?_, fun hc14 => ?_⟩
                · skip
                  exact ih.2.2 _ _ _ hI (by omega) (by omega)
                · skip
                  exfalso; omega
              · skip
                refine ⟨fun hc14 => ?_, fun hc14 => ?_⟩
                · skip
                  exfalso; omega
                · skip
                  refine ⟨by omega, ?_⟩
                  exact ih.2.2 _ _ _ hI (by omega) (by omega)
    · intro x2 x3 m hI h3 hμ
      refine v_X12_count_70_295 ?_
      have f1 := dAddE (X := x3.toInt) (Y := 1) (x := x3) (y := (1 : Int32)) rfl (by decide) (by omega) (by omega)
      exact ih.2.1 _ _ _ hI (by omega) (by omega)
theorem s_X12_count_70 {g : gM} {x1 : Int32} {m : dM} {Q : Int32 → dM → Prop} (hG : Gd g) (hI : Inv g m) (hQ : ∀ (r : Int32) (m' : dM), Inv g m' → Q r m') : c_X12_count_70 22 x1 m Q := by
  refine v_X12_count_70 ?_
  refine Wp.deep (s_X12_copies_70 hG hI (fun M1 I1 => ?_)) (Nat.le_of_ble_eq_true rfl)
  refine ⟨fun hc2 => ?_, fun hc2 => ?_, fun hc2 => ?_, fun hc2 => ?_, fun hc2 => ?_, fun hc2 => ?_, fun hc2 => ?_, fun hc2 => ?_, fun hc2 => ?_, fun hc2 => ?_, fun hc2 => ?_, fun hc2 => ?_, fun hc2 => ?_, fun hc2 => ?_, fun hc2 => ?_, fun hc2 => ?_, fun hc2 => ?_⟩
  · skip
    have f3 := congrArg Int32.toInt (I1.2 70 18 rfl)
    have f4 := Inv.s hG I1 (k := 70) (j := 18) rfl rfl
    refine ⟨by omega, ?_⟩
    have f5 := Inv.cnt80 hG I1
    have f6 := Inv.s hG I1 (k := 80) (j := (M1.1 70 18).toNatClampNeg) rfl rfl
    exact hQ _ _ I1
  · skip
    have f3 := congrArg Int32.toInt (I1.2 70 18 rfl)
    have f4 := Inv.s hG I1 (k := 70) (j := 18) rfl rfl
    refine ⟨by omega, ?_⟩
    have f5 := Inv.cnt82 hG I1
    have f6 := Inv.s hG I1 (k := 82) (j := (M1.1 70 18).toNatClampNeg) rfl rfl
    exact hQ _ _ I1
  · skip
    have f3 := congrArg Int32.toInt (I1.2 70 18 rfl)
    have f4 := Inv.s hG I1 (k := 70) (j := 18) rfl rfl
    refine ⟨by omega, ?_⟩
    have f5 := Inv.cnt86 hG I1
    have f6 := Inv.s hG I1 (k := 86) (j := (M1.1 70 18).toNatClampNeg) rfl rfl
    exact hQ _ _ I1
  · skip
    exact hQ _ _ I1
  · skip
    exact hQ _ _ I1
  · skip
    exact hQ _ _ I1
  · skip
    refine Wp.deep (s_X12_goneBits_70 hG I1 (fun R3 => ?_)) (Nat.le_of_ble_eq_true rfl)
    exact hQ _ _ I1
  · skip
    refine Wp.deep (s_X12_litBits_70 hG I1 (fun R3 => ?_)) (Nat.le_of_ble_eq_true rfl)
    exact hQ _ _ I1
  · skip
    refine Wp.deep (s_X12_onNow_70 hG I1 (fun R3 => ?_)) (Nat.le_of_ble_eq_true rfl)
    exact hQ _ _ I1
  · skip
    have f3 := congrArg Int32.toInt (I1.2 70 2 rfl)
    have f4 := Inv.s hG I1 (k := 70) (j := 2) rfl rfl
    exact hQ _ _ I1
  · skip
    have f3 := Inv.w I1 (k := 70) (j := 61) rfl
    exact hQ _ _ I1
  · skip
    have f3 := congrArg Int32.toInt (I1.2 70 63 rfl)
    have f4 := Inv.s hG I1 (k := 70) (j := 63) rfl rfl
    exact hQ _ _ I1
  · skip
    have f3 := congrArg Int32.toInt (I1.2 115 0 rfl)
    refine ⟨fun hc4 => ?_, fun hc4 => ?_⟩
    · skip
      have f5 := congrArg Int32.toInt (I1.2 115 1 rfl)
      refine ⟨fun hc6 => ?_, fun hc6 => ?_⟩
      · skip
        have f7 := congrArg Int32.toInt (I1.2 115 2 rfl)
        refine ⟨fun hc8 => ?_, fun hc8 => ?_⟩
        · skip
          have f9 := dAddE (X := 0) (Y := 0) (x := (0 : Int32)) (y := (0 : Int32)) (by decide) (by decide) (by omega) (by omega)
          have f10 := dAddE (X := ((0 : Int32) + (0 : Int32)).toInt) (Y := 0) (x := ((0 : Int32) + (0 : Int32))) (y := (0 : Int32)) rfl (by decide) (by omega) (by omega)
          exact hQ _ _ I1
        · skip
          have f9 := dAddE (X := 0) (Y := 0) (x := (0 : Int32)) (y := (0 : Int32)) (by decide) (by decide) (by omega) (by omega)
          have f10 := dAddE (X := ((0 : Int32) + (0 : Int32)).toInt) (Y := 1) (x := ((0 : Int32) + (0 : Int32))) (y := (1 : Int32)) rfl (by decide) (by omega) (by omega)
          exact hQ _ _ I1
      · skip
        have f7 := congrArg Int32.toInt (I1.2 115 2 rfl)
        refine ⟨fun hc8 => ?_, fun hc8 => ?_⟩
        · skip
          have f9 := dAddE (X := 0) (Y := 1) (x := (0 : Int32)) (y := (1 : Int32)) (by decide) (by decide) (by omega) (by omega)
          have f10 := dAddE (X := ((0 : Int32) + (1 : Int32)).toInt) (Y := 0) (x := ((0 : Int32) + (1 : Int32))) (y := (0 : Int32)) rfl (by decide) (by omega) (by omega)
          exact hQ _ _ I1
        · skip
          have f9 := dAddE (X := 0) (Y := 1) (x := (0 : Int32)) (y := (1 : Int32)) (by decide) (by decide) (by omega) (by omega)
          have f10 := dAddE (X := ((0 : Int32) + (1 : Int32)).toInt) (Y := 1) (x := ((0 : Int32) + (1 : Int32))) (y := (1 : Int32)) rfl (by decide) (by omega) (by omega)
          exact hQ _ _ I1
    · skip
      have f5 := congrArg Int32.toInt (I1.2 115 1 rfl)
      refine ⟨fun hc6 => ?_, fun hc6 => ?_⟩
      · skip
        have f7 := congrArg Int32.toInt (I1.2 115 2 rfl)
        refine ⟨fun hc8 => ?_, fun hc8 => ?_⟩
        · skip
          have f9 := dAddE (X := 1) (Y := 0) (x := (1 : Int32)) (y := (0 : Int32)) (by decide) (by decide) (by omega) (by omega)
          have f10 := dAddE (X := ((1 : Int32) + (0 : Int32)).toInt) (Y := 0) (x := ((1 : Int32) + (0 : Int32))) (y := (0 : Int32)) rfl (by decide) (by omega) (by omega)
          exact hQ _ _ I1
        · skip
          have f9 := dAddE (X := 1) (Y := 0) (x := (1 : Int32)) (y := (0 : Int32)) (by decide) (by decide) (by omega) (by omega)
          have f10 := dAddE (X := ((1 : Int32) + (0 : Int32)).toInt) (Y := 1) (x := ((1 : Int32) + (0 : Int32))) (y := (1 : Int32)) rfl (by decide) (by omega) (by omega)
          exact hQ _ _ I1
      · skip
        have f7 := congrArg Int32.toInt (I1.2 115 2 rfl)
        refine ⟨fun hc8 => ?_, fun hc8 => ?_⟩
        · skip
          have f9 := dAddE (X := 1) (Y := 1) (x := (1 : Int32)) (y := (1 : Int32)) (by decide) (by decide) (by omega) (by omega)
          have f10 := dAddE (X := ((1 : Int32) + (1 : Int32)).toInt) (Y := 0) (x := ((1 : Int32) + (1 : Int32))) (y := (0 : Int32)) rfl (by decide) (by omega) (by omega)
          exact hQ _ _ I1
        · skip
          have f9 := dAddE (X := 1) (Y := 1) (x := (1 : Int32)) (y := (1 : Int32)) (by decide) (by decide) (by omega) (by omega)
          have f10 := dAddE (X := ((1 : Int32) + (1 : Int32)).toInt) (Y := 1) (x := ((1 : Int32) + (1 : Int32))) (y := (1 : Int32)) rfl (by decide) (by omega) (by omega)
          exact hQ _ _ I1
  · skip
    refine Wp.deep (s_X12_isSurge_70 hG I1 (fun R3 hr3 => ?_)) (Nat.le_of_ble_eq_true rfl)
    refine ⟨fun hc4 => ?_, fun hc4 => ?_⟩
    · skip
      have f5 := ti_0
      exact hQ _ _ I1
    · skip
      have f5 := ti_1
      exact hQ _ _ I1
  · skip
    have f3 := ti_0
    exact (s_X12_count_70_all hG hQ 34).1 _ _ _ I1 (by omega) (by omega)
  · skip
    have f3 := ti_0
    exact (s_X12_count_70_all hG hQ 34).2.1 _ _ _ I1 (by omega) (by omega)
  · skip
    have f3 := ti_m1
    exact hQ _ _ I1
