theorem s_X12_pin_70 {g : gM} {x1 : Int32} {x2 : Int32} {m : dM} {Q : Int32 → dM → Prop} (hG : Gd g) (hI : Inv g m) (h2 : 0 ≤ x2.toInt ∧ x2.toInt ≤ 1) (hQ : ∀ (r : Int32) (m' : dM), Inv g m' → (0 ≤ r.toInt ∧ r.toInt ≤ 1) → Q r m') : c_X12_pin_70 22 x1 x2 m Q := by
  refine v_X12_pin_70 ?_
  refine v_X12_isWire_70 ?_
  have f1 := congrArg Int32.toInt (hI.2 70 18 rfl)
  have f2 := Inv.s hG hI (k := 70) (j := 18) rfl rfl
  refine ⟨by omega, ?_⟩
  refine v_X12_in ?_
  have f3 := ti_0
  refine ⟨fun hc4 => ?_, fun hc4 => ?_⟩
  · skip
    refine v_X12_in_14 ?_
    refine ⟨by decide, ?_⟩
    refine ⟨fun hc5 => ?_, fun hc5 => ?_⟩
    · skip
      refine v_X12_pin_70_43 ?_
      exact hQ _ _ hI (by omega)
    · skip
      exfalso; omega
  · skip
    have f5 := Inv.cnt82 hG hI
    have f6 := Inv.s hG hI (k := 82) (j := (m.1 70 18).toNatClampNeg) rfl rfl
    have f7 := dSubE (X := (m.1 82 (m.1 70 18).toNatClampNeg).toInt) (Y := 1) (x := (m.1 82 (m.1 70 18).toNatClampNeg)) (y := (1 : Int32)) rfl (by decide) (by omega) (by omega)
    refine ⟨fun hc8 => ?_, fun hc8 => ?_⟩
    · skip
      refine v_X12_in_14 ?_
      refine ⟨by decide, ?_⟩
      refine ⟨fun hc9 => ?_, fun hc9 => ?_⟩
      · skip
        refine v_X12_pin_70_43 ?_
        exact hQ _ _ hI (by omega)
      · skip
        exfalso; omega
    · skip
      have f9 := ti_1
      refine ⟨by decide, ?_⟩
      refine ⟨fun hc10 => ?_, fun hc10 => ?_⟩
      · skip
        exfalso; omega
      · skip
        have f11 := dAddE (X := 10) (Y := x1.toInt) (x := (10 : Int32)) (y := x1) (by decide) rfl (by omega) (by omega)
        refine ⟨by omega, ?_⟩
        refine ⟨fun hc12 => ?_, fun hc12 => ?_⟩
        · skip
          refine v_X12_pin_70_43 ?_
          exact hQ _ _ hI (by omega)
        · skip
          have f13 := dAddE (X := 30) (Y := x1.toInt) (x := (30 : Int32)) (y := x1) (by decide) rfl (by omega) (by omega)
          refine ⟨by omega, ?_⟩
          refine ⟨fun hc14 => ?_, fun hc14 => ?_⟩
          · skip
            refine ⟨fun hc15 => ?_, fun hc15 => ?_⟩
            · skip
              refine Wp.deep (s_X12_copies_70 hG hI (fun M16 I16 => ?_)) (Nat.le_of_ble_eq_true rfl)
              refine ⟨fun hc17 => ?_, fun hc17 => ?_⟩
              · skip
                exfalso; omega
              · skip
                refine ⟨by omega, ?_⟩
                have I18 : Inv g (dSet M16 108 ((30 : Int32) + x1).toNatClampNeg (1 : Int32)) := (Inv.setA I16 rfl)
                refine Wp.deep (s_X12_records_70 hG I18 (fun M19 I19 => ?_)) (Nat.le_of_ble_eq_true rfl)
                exact hQ _ _ I19 (by omega)
            · skip
              refine v_X12_pin_70_43 ?_
              exact hQ _ _ hI (by omega)
          · skip
            refine ⟨fun hc15 => ?_, fun hc15 => ?_⟩
            · skip
              refine Wp.deep (s_X12_copies_70 hG hI (fun M16 I16 => ?_)) (Nat.le_of_ble_eq_true rfl)
              refine ⟨fun hc17 => ?_, fun hc17 => ?_⟩
              · skip
                refine ⟨by omega, ?_⟩
                have I18 : Inv g (dSet M16 108 ((30 : Int32) + x1).toNatClampNeg (0 : Int32)) := (Inv.setA I16 rfl)
                refine Wp.deep (s_X12_records_70 hG I18 (fun M19 I19 => ?_)) (Nat.le_of_ble_eq_true rfl)
                exact hQ _ _ I19 (by omega)
              · skip
                exfalso; omega
            · skip
              refine v_X12_pin_70_43 ?_
              exact hQ _ _ hI (by omega)
theorem s_X12_goingBits_70_all {g : gM} {Q : Int32 → dM → Prop} (hG : Gd g) (hQ : ∀ (r : Int32) (m' : dM), Inv g m' → Q r m') : ∀ n : Nat, (∀ (x1 : Int32) (x2 : Int32) (x3 : Int32) (x4 : Int32) (x5 : Int32) (m : dM), Inv g m → (-23 ≤ x2.toInt ∧ x2.toInt ≤ 20046) → (0 ≤ x5.toInt ∧ x5.toInt ≤ 10) → 21 - 2 * x5.toInt < (n : Int) → j_X12_goingBits_70_6 22 x1 x2 x3 x4 x5 m Q) ∧ (∀ (x1 : Int32) (x2 : Int32) (x3 : Int32) (x4 : Int32) (x5 : Int32) (m : dM), Inv g m → (-23 ≤ x2.toInt ∧ x2.toInt ≤ 20046) → (0 ≤ x5.toInt ∧ x5.toInt ≤ 9) → 20 - 2 * x5.toInt < (n : Int) → j_X12_goingBits_70_41 22 x1 x2 x3 x4 x5 m Q) := by
  intro n
  induction n with
  | zero => exact ⟨fun x1 x2 x3 x4 x5 m hI h2 h5 hμ => by exfalso; omega, fun x1 x2 x3 x4 x5 m hI h2 h5 hμ => by exfalso; omega⟩
  | succ n ih =>
    refine ⟨?_, ?_⟩
    · intro x1 x2 x3 x4 x5 m hI h2 h5 hμ
      refine v_X12_goingBits_70_6 ?_
      have f1 := congrArg Int32.toInt (hI.2 70 18 rfl)
      have f2 := Inv.s hG hI (k := 70) (j := 18) rfl rfl
      refine ⟨by omega, ?_⟩
      have f3 := Inv.cnt82 hG hI
      have f4 := Inv.s hG hI (k := 82) (j := (m.1 70 18).toNatClampNeg) rfl rfl
      refine ⟨fun hc5 => ?_, fun hc5 => ?_⟩
      · skip
        exact hQ _ _ hI
      · skip
        refine Wp.deep (s_X12_doesGo_70 hG hI (by omega) (by omega) (fun R6 M6 I6 hr6 => ?_)) (Nat.le_of_ble_eq_true rfl)
        refine ⟨fun hc7 => ?_, fun hc7 => ?_⟩
        · skip
          exact ih.2 _ _ _ _ _ _ I6 (by omega) (by omega) (by omega)
        · skip
          have f8 := dShl10 (x := x5) (by omega) (by omega)
          exact ih.2 _ _ _ _ _ _ I6 (by omega) (by omega) (by omega)
    · intro x1 x2 x3 x4 x5 m hI h2 h5 hμ
      refine v_X12_goingBits_70_41 ?_
      have f1 := dAddE (X := x5.toInt) (Y := 1) (x := x5) (y := (1 : Int32)) rfl (by decide) (by omega) (by omega)
      exact ih.1 _ _ _ _ _ _ hI (by omega) (by omega) (by omega)
theorem s_X12_goingBits_70 {g : gM} {x1 : Int32} {x2 : Int32} {x3 : Int32} {m : dM} {Q : Int32 → dM → Prop} (hG : Gd g) (hI : Inv g m) (h2 : -23 ≤ x2.toInt ∧ x2.toInt ≤ 20046) (hQ : ∀ (r : Int32) (m' : dM), Inv g m' → Q r m') : c_X12_goingBits_70 22 x1 x2 x3 m Q := by
  refine v_X12_goingBits_70 ?_
  have f1 := ti_0
  exact (s_X12_goingBits_70_all hG hQ 23).1 _ _ _ _ _ _ hI (by omega) (by omega) (by omega)
theorem s_X12_paysAll_70_all {g : gM} {Q : Int32 → dM → Prop} (hG : Gd g) (hQ : ∀ (r : Int32) (m' : dM), Inv g m' → Q r m') : ∀ n : Nat, (∀ (x1 : Int32) (x2 : Int32) (x3 : Int32) (m : dM), Inv g m → (0 ≤ x3.toInt ∧ x3.toInt ≤ 8) → 17 - 2 * x3.toInt < (n : Int) → j_X12_paysAll_70_4 22 x1 x2 x3 m Q) ∧ (∀ (x1 : Int32) (x2 : Int32) (x3 : Int32) (m : dM), Inv g m → (0 ≤ x3.toInt ∧ x3.toInt ≤ 7) → 16 - 2 * x3.toInt < (n : Int) → j_X12_paysAll_70_34 22 x1 x2 x3 m Q) := by
  intro n
  induction n with
  | zero => exact ⟨fun x1 x2 x3 m hI h3 hμ => by exfalso; omega, fun x1 x2 x3 m hI h3 hμ => by exfalso; omega⟩
  | succ n ih =>
    refine ⟨?_, ?_⟩
    · intro x1 x2 x3 m hI h3 hμ
      refine v_X12_paysAll_70_4 ?_
      have f1 := congrArg Int32.toInt (hI.2 70 18 rfl)
      have f2 := Inv.s hG hI (k := 70) (j := 18) rfl rfl
      refine ⟨by omega, ?_⟩
      have f3 := Inv.cnt86 hG hI
      have f4 := Inv.s hG hI (k := 86) (j := (m.1 70 18).toNatClampNeg) rfl rfl
      refine ⟨fun hc5 => ?_, fun hc5 => ?_⟩
      · skip
        exact hQ _ _ hI
      · skip
        have f6 := ti_1
        have f7 := dAndE (x := (x1 >>> (x3 &&& 31))) (y := (1 : Int32)) (by decide)
        refine ⟨fun hc8 => ?_, fun hc8 => ?_⟩
        · skip
          exact ih.2 _ _ _ _ hI (by omega) (by omega)
        · skip
          refine Wp.deep (s_X12_paysOf_70 hG hI (by omega) (fun R9 M9 I9 hr9 => ?_)) (Nat.le_of_ble_eq_true rfl)
          exact ih.2 _ _ _ _ I9 (by omega) (by omega)
    · intro x1 x2 x3 m hI h3 hμ
      refine v_X12_paysAll_70_34 ?_
      have f1 := dAddE (X := x3.toInt) (Y := 1) (x := x3) (y := (1 : Int32)) rfl (by decide) (by omega) (by omega)
      exact ih.1 _ _ _ _ hI (by omega) (by omega)
theorem s_X12_paysAll_70 {g : gM} {x1 : Int32} {m : dM} {Q : Int32 → dM → Prop} (hG : Gd g) (hI : Inv g m) (hQ : ∀ (r : Int32) (m' : dM), Inv g m' → Q r m') : c_X12_paysAll_70 22 x1 m Q := by
  refine v_X12_paysAll_70 ?_
  have f1 := ti_0
  exact (s_X12_paysAll_70_all hG hQ 19).1 _ _ _ _ hI (by omega) (by omega)
theorem s_X12_quarrelsAll_70_all {g : gM} {Q : Int32 → dM → Prop} (hG : Gd g) (hQ : ∀ (r : Int32) (m' : dM), Inv g m' → Q r m') : ∀ n : Nat, (∀ (x1 : Int32) (x2 : Int32) (m : dM), Inv g m → (0 ≤ x2.toInt ∧ x2.toInt ≤ 7) → 15 - 2 * x2.toInt < (n : Int) → j_X12_quarrelsAll_70_4 22 x1 x2 m Q) ∧ (∀ (x1 : Int32) (x2 : Int32) (m : dM), Inv g m → (0 ≤ x2.toInt ∧ x2.toInt ≤ 6) → 14 - 2 * x2.toInt < (n : Int) → j_X12_quarrelsAll_70_33 22 x1 x2 m Q) := by
  intro n
  induction n with
  | zero => exact ⟨fun x1 x2 m hI h2 hμ => by exfalso; omega, fun x1 x2 m hI h2 hμ => by exfalso; omega⟩
  | succ n ih =>
    refine ⟨?_, ?_⟩
    · intro x1 x2 m hI h2 hμ
      refine v_X12_quarrelsAll_70_4 ?_
      have f1 := congrArg Int32.toInt (hI.2 70 18 rfl)
      have f2 := Inv.s hG hI (k := 70) (j := 18) rfl rfl
      refine ⟨by omega, ?_⟩
      have f3 := Inv.cnt80 hG hI
      have f4 := Inv.s hG hI (k := 80) (j := (m.1 70 18).toNatClampNeg) rfl rfl
      refine ⟨fun hc5 => ?_, fun hc5 => ?_⟩
      · skip
        exact hQ _ _ hI
      · skip
        refine v_X12_isLit_70 ?_
        refine ⟨by omega, ?_⟩
        refine ⟨fun hc6 => ?_, fun hc6 => ?_⟩
        · skip
          have f7 := ti_0
          refine ⟨fun hc8 => ?_, fun hc8 => ?_⟩
          · skip
            exfalso; omega
          · skip
            refine Wp.deep (s_X12_quarrelOf_70 hG hI (by omega) (fun R9 M9 I9 hr9 => ?_)) (Nat.le_of_ble_eq_true rfl)
            exact ih.2 _ _ _ I9 (by omega) (by omega)
        · skip
          have f7 := ti_1
          refine ⟨fun hc8 => ?_, fun hc8 => ?_⟩
          · skip
            exact ih.2 _ _ _ hI (by omega) (by omega)
          · skip
            exfalso; omega
    · intro x1 x2 m hI h2 hμ
      refine v_X12_quarrelsAll_70_33 ?_
      have f1 := dAddE (X := x2.toInt) (Y := 1) (x := x2) (y := (1 : Int32)) rfl (by decide) (by omega) (by omega)
      exact ih.1 _ _ _ hI (by omega) (by omega)
theorem s_X12_quarrelsAll_70 {g : gM} {m : dM} {Q : Int32 → dM → Prop} (hG : Gd g) (hI : Inv g m) (hQ : ∀ (r : Int32) (m' : dM), Inv g m' → Q r m') : c_X12_quarrelsAll_70 22 m Q := by
  refine v_X12_quarrelsAll_70 ?_
  have f1 := ti_0
  exact (s_X12_quarrelsAll_70_all hG hQ 17).1 _ _ _ hI (by omega) (by omega)
theorem s_X12_hourGoes_70_all {g : gM} {Q : dM → Prop} (hG : Gd g) (hQ : ∀ m' : dM, Inv g m' → Q m') : ∀ n : Nat, (∀ (x4 : Int32) (m : dM), Inv g m → (0 ≤ x4.toInt ∧ x4.toInt ≤ 7) → 30 - 1 * x4.toInt < (n : Int) → j_X12_hourGoes_70_111 23 x4 m Q) ∧ (∀ (x4 : Int32) (m : dM), Inv g m → (0 ≤ x4.toInt ∧ x4.toInt ≤ 10) → 22 - 2 * x4.toInt < (n : Int) → j_X12_hourGoes_70_169 23 x4 m Q) ∧ (∀ (x4 : Int32) (m : dM), Inv g m → (0 ≤ x4.toInt ∧ x4.toInt ≤ 9) → 21 - 2 * x4.toInt < (n : Int) → j_X12_hourGoes_70_256 23 x4 m Q) ∧ (∀ (m : dM), Inv g m → 0 < (n : Int) → j_X12_hourGoes_70_284 23 m Q) := by
  intro n
  induction n with
  | zero => exact ⟨fun x4 m hI h4 hμ => by exfalso; omega, fun x4 m hI h4 hμ => by exfalso; omega, fun x4 m hI h4 hμ => by exfalso; omega, fun m hI hμ => by exfalso; omega⟩
  | succ n ih =>
    refine ⟨?_, ?_, ?_, ?_⟩
    · intro x4 m hI h4 hμ
      refine v_X12_hourGoes_70_111 ?_
      have f1 := congrArg Int32.toInt (hI.2 70 18 rfl)
      have f2 := Inv.s hG hI (k := 70) (j := 18) rfl rfl
      refine ⟨by omega, ?_⟩
      have f3 := Inv.cnt80 hG hI
      have f4 := Inv.s hG hI (k := 80) (j := (m.1 70 18).toNatClampNeg) rfl rfl
      refine ⟨fun hc5 => ?_, fun hc5 => ?_⟩
      · skip
        have f6 := ti_0
        exact ih.2.1 _ _ hI (by omega) (by omega)
      · skip
        refine v_X12_isLit_70 ?_
        refine ⟨by omega, ?_⟩
        refine ⟨fun hc6 => ?_, fun hc6 => ?_⟩
        · skip
          have f7 := ti_0
          refine ⟨fun hc8 => ?_, fun hc8 => ?_⟩
          · skip
            have f9 := dAddE (X := 40) (Y := x4.toInt) (x := (40 : Int32)) (y := x4) (by decide) rfl (by omega) (by omega)
            refine ⟨by omega, ?_⟩
            refine ⟨by omega, ?_⟩
            have f10 := dAddE (X := x4.toInt) (Y := 1) (x := x4) (y := (1 : Int32)) rfl (by decide) (by omega) (by omega)
            have I11 : Inv g (dSet m 108 ((40 : Int32) + x4).toNatClampNeg ((m.1 108 ((40 : Int32) + x4).toNatClampNeg) + (1 : Int32))) := (Inv.setA hI rfl)
            exact ih.1 _ _ I11 (by omega) (by omega)
          · skip
            exfalso; omega
        · skip
          have f7 := ti_1
          refine ⟨fun hc8 => ?_, fun hc8 => ?_⟩
          · skip
            exfalso; omega
          · skip
            have f9 := dAddE (X := 40) (Y := x4.toInt) (x := (40 : Int32)) (y := x4) (by decide) rfl (by omega) (by omega)
            refine ⟨by omega, ?_⟩
            have f10 := dAddE (X := x4.toInt) (Y := 1) (x := x4) (y := (1 : Int32)) rfl (by decide) (by omega) (by omega)
            have I11 : Inv g (dSet m 108 ((40 : Int32) + x4).toNatClampNeg (0 : Int32)) := (Inv.setA hI rfl)
            exact ih.1 _ _ I11 (by omega) (by omega)
    · intro x4 m hI h4 hμ
      refine v_X12_hourGoes_70_169 ?_
      have f1 := congrArg Int32.toInt (hI.2 70 18 rfl)
      have f2 := Inv.s hG hI (k := 70) (j := 18) rfl rfl
      refine ⟨by omega, ?_⟩
      have f3 := Inv.cnt82 hG hI
      have f4 := Inv.s hG hI (k := 82) (j := (m.1 70 18).toNatClampNeg) rfl rfl
      refine ⟨fun hc5 => ?_, fun hc5 => ?_⟩
      · skip
        refine ⟨fun hc6 => ?_, fun hc6 => ?_⟩
        · skip
          have I7 : Inv g (dSet m 108 55 ((m.1 108 55) + (1 : Int32))) := (Inv.setA hI rfl)
          exact ih.2.2.2 _ I7 (by omega)
        · skip
          have I7 : Inv g (dSet m 108 55 ((m.1 108 55) + (1 : Int32))) := (Inv.setA hI rfl)
          refine Wp.deep (s_X12_fillsWays_70 hG I7 (fun M8 I8 => ?_)) (Nat.le_of_ble_eq_true rfl)
          exact ih.2.2.2 _ I8 (by omega)
      · skip
        have f6 := dAddE (X := 10) (Y := x4.toInt) (x := (10 : Int32)) (y := x4) (by decide) rfl (by omega) (by omega)
        refine ⟨by omega, ?_⟩
        refine ⟨fun hc7 => ?_, fun hc7 => ?_⟩
        · skip
          have f8 := ti_1
          have f9 := dAndE (x := ((m.1 70 60) >>> (x4 &&& 31))) (y := (1 : Int32)) (by decide)
          refine ⟨fun hc10 => ?_, fun hc10 => ?_⟩
          · skip
            have f11 := dAddE (X := 20) (Y := x4.toInt) (x := (20 : Int32)) (y := x4) (by decide) rfl (by omega) (by omega)
            refine ⟨by omega, ?_⟩
            refine v_X12_within ?_
            have f12 := ti_0
            refine ⟨fun hc13 => ?_, fun hc13 => ?_⟩
            · skip
              have f14 := ti_999
              refine ⟨fun hc15 => ?_, fun hc15 => ?_⟩
              · skip
                refine ⟨by omega, ?_⟩
                have I16 : Inv g (dSet m 108 ((20 : Int32) + x4).toNatClampNeg ((m.1 108 ((20 : Int32) + x4).toNatClampNeg) + (1 : Int32))) := (Inv.setA hI rfl)
                exact ih.2.2.1 _ _ I16 (by omega) (by omega)
              · skip
                refine ⟨by omega, ?_⟩
                have I16 : Inv g (dSet m 108 ((20 : Int32) + x4).toNatClampNeg (999 : Int32)) := (Inv.setA hI rfl)
                exact ih.2.2.1 _ _ I16 (by omega) (by omega)
            · skip
              refine ⟨by omega, ?_⟩
              have I14 : Inv g (dSet m 108 ((20 : Int32) + x4).toNatClampNeg (0 : Int32)) := (Inv.setA hI rfl)
              exact ih.2.2.1 _ _ I14 (by omega) (by omega)
          · skip
            refine ⟨by omega, ?_⟩
            have I11 : Inv g (dSet m 108 ((10 : Int32) + x4).toNatClampNeg (1 : Int32)) := (Inv.setA hI rfl)
            exact ih.2.2.1 _ _ I11 (by omega) (by omega)
        · skip
          exact ih.2.2.1 _ _ hI (by omega) (by omega)
    · intro x4 m hI h4 hμ
      refine v_X12_hourGoes_70_256 ?_
      have f1 := dAddE (X := x4.toInt) (Y := 1) (x := x4) (y := (1 : Int32)) rfl (by decide) (by omega) (by omega)
      exact ih.2.1 _ _ hI (by omega) (by omega)
    · intro m hI hμ
      refine v_X12_hourGoes_70_284 ?_
      exact hQ _ hI
theorem s_X12_hourGoes_70 {g : gM} {m : dM} {Q : dM → Prop} (hG : Gd g) (hI : Inv g m) (hQ : ∀ m' : dM, Inv g m' → Q m') : c_X12_hourGoes_70 23 m Q := by
  refine v_X12_hourGoes_70 ?_
  refine Wp.deep (s_X12_onNow_70 hG hI (fun R1 => ?_)) (Nat.le_of_ble_eq_true rfl)
  refine ⟨fun hc2 => ?_, fun hc2 => ?_⟩
  · skip
    have f3 := dRemE (x := (m.1 108 55)) (y := (24 : Int32)) (Y := 24) (by decide) (by decide)
    have f4 := ti_0
    refine Wp.deep (s_X12_goingBits_70 hG hI (by omega) (fun R5 M5 I5 => ?_)) (Nat.le_of_ble_eq_true rfl)
    have I6 : Inv g (dSet M5 70 60 R5) := (Inv.setA I5 rfl)
    refine Wp.deep (s_X12_paysAll_70 hG I6 (fun R7 M7 I7 => ?_)) (Nat.le_of_ble_eq_true rfl)
    refine Wp.deep (s_X12_quarrelsAll_70 hG I7 (fun R8 M8 I8 => ?_)) (Nat.le_of_ble_eq_true rfl)
    refine v_X12_within ?_
    refine ⟨fun hc9 => ?_, fun hc9 => ?_⟩
    · skip
      have f10 := ti_99999
      refine ⟨fun hc11 => ?_, fun hc11 => ?_⟩
      · skip
        refine v_X12_within ?_
        refine ⟨fun hc12 => ?_, fun hc12 => ?_⟩
        · skip
          have f13 := ti_999999
          refine ⟨fun hc14 => ?_, fun hc14 => ?_⟩
          · skip
            have I15 : Inv g (dSet M8 108 56 ((M8.1 108 56) + R7)) := (Inv.setA I8 rfl)
            have I16 : Inv g (dSet (dSet M8 108 56 ((M8.1 108 56) + R7)) 108 57 ((M8.1 108 57) + R8)) := (Inv.setA I15 rfl)
            exact (s_X12_hourGoes_70_all hG hQ 32).1 _ _ I16 (by omega) (by omega)
          · skip
            have I15 : Inv g (dSet M8 108 56 ((M8.1 108 56) + R7)) := (Inv.setA I8 rfl)
            have I16 : Inv g (dSet (dSet M8 108 56 ((M8.1 108 56) + R7)) 108 57 (999999 : Int32)) := (Inv.setA I15 rfl)
            exact (s_X12_hourGoes_70_all hG hQ 32).1 _ _ I16 (by omega) (by omega)
        · skip
          have I13 : Inv g (dSet M8 108 56 ((M8.1 108 56) + R7)) := (Inv.setA I8 rfl)
          have I14 : Inv g (dSet (dSet M8 108 56 ((M8.1 108 56) + R7)) 108 57 (0 : Int32)) := (Inv.setA I13 rfl)
          exact (s_X12_hourGoes_70_all hG hQ 32).1 _ _ I14 (by omega) (by omega)
      · skip
        refine v_X12_within ?_
        refine ⟨fun hc12 => ?_, fun hc12 => ?_⟩
        · skip
          have f13 := ti_999999
          refine ⟨fun hc14 => ?_, fun hc14 => ?_⟩
          · skip
            have I15 : Inv g (dSet M8 108 56 (99999 : Int32)) := (Inv.setA I8 rfl)
            have I16 : Inv g (dSet (dSet M8 108 56 (99999 : Int32)) 108 57 ((M8.1 108 57) + R8)) := (Inv.setA I15 rfl)
            exact (s_X12_hourGoes_70_all hG hQ 32).1 _ _ I16 (by omega) (by omega)
          · skip
            have I15 : Inv g (dSet M8 108 56 (99999 : Int32)) := (Inv.setA I8 rfl)
            have I16 : Inv g (dSet (dSet M8 108 56 (99999 : Int32)) 108 57 (999999 : Int32)) := (Inv.setA I15 rfl)
            exact (s_X12_hourGoes_70_all hG hQ 32).1 _ _ I16 (by omega) (by omega)
        · skip
          have I13 : Inv g (dSet M8 108 56 (99999 : Int32)) := (Inv.setA I8 rfl)
          have I14 : Inv g (dSet (dSet M8 108 56 (99999 : Int32)) 108 57 (0 : Int32)) := (Inv.setA I13 rfl)
          exact (s_X12_hourGoes_70_all hG hQ 32).1 _ _ I14 (by omega) (by omega)
    · skip
      refine v_X12_within ?_
      refine ⟨fun hc10 => ?_, fun hc10 => ?_⟩
      · skip
        have f11 := ti_999999
        refine ⟨fun hc12 => ?_, fun hc12 => ?_⟩
        · skip
          have I13 : Inv g (dSet M8 108 56 (0 : Int32)) := (Inv.setA I8 rfl)
          have I14 : Inv g (dSet (dSet M8 108 56 (0 : Int32)) 108 57 ((M8.1 108 57) + R8)) := (Inv.setA I13 rfl)
          exact (s_X12_hourGoes_70_all hG hQ 32).1 _ _ I14 (by omega) (by omega)
        · skip
          have I13 : Inv g (dSet M8 108 56 (0 : Int32)) := (Inv.setA I8 rfl)
          have I14 : Inv g (dSet (dSet M8 108 56 (0 : Int32)) 108 57 (999999 : Int32)) := (Inv.setA I13 rfl)
          exact (s_X12_hourGoes_70_all hG hQ 32).1 _ _ I14 (by omega) (by omega)
      · skip
        have I11 : Inv g (dSet M8 108 56 (0 : Int32)) := (Inv.setA I8 rfl)
        have I12 : Inv g (dSet (dSet M8 108 56 (0 : Int32)) 108 57 (0 : Int32)) := (Inv.setA I11 rfl)
        exact (s_X12_hourGoes_70_all hG hQ 32).1 _ _ I12 (by omega) (by omega)
  · skip
    refine Wp.deep (s_X12_isSurge_70 hG hI (fun R3 hr3 => ?_)) (Nat.le_of_ble_eq_true rfl)
    refine ⟨fun hc4 => ?_, fun hc4 => ?_⟩
    · skip
      have f5 := dRemE (x := (m.1 108 55)) (y := (24 : Int32)) (Y := 24) (by decide) (by decide)
      have f6 := ti_0
      refine Wp.deep (s_X12_goingBits_70 hG hI (by omega) (fun R7 M7 I7 => ?_)) (Nat.le_of_ble_eq_true rfl)
      have I8 : Inv g (dSet M7 70 60 R7) := (Inv.setA I7 rfl)
      refine Wp.deep (s_X12_paysAll_70 hG I8 (fun R9 M9 I9 => ?_)) (Nat.le_of_ble_eq_true rfl)
      refine Wp.deep (s_X12_quarrelsAll_70 hG I9 (fun R10 M10 I10 => ?_)) (Nat.le_of_ble_eq_true rfl)
      refine v_X12_within ?_
      refine ⟨fun hc11 => ?_, fun hc11 => ?_⟩
      · skip
        have f12 := ti_99999
        refine ⟨fun hc13 => ?_, fun hc13 => ?_⟩
        · skip
          refine v_X12_within ?_
          refine ⟨fun hc14 => ?_, fun hc14 => ?_⟩
          · skip
            have f15 := ti_999999
            refine ⟨fun hc16 => ?_, fun hc16 => ?_⟩
            · skip
              have I17 : Inv g (dSet M10 108 56 ((M10.1 108 56) + R9)) := (Inv.setA I10 rfl)
              have I18 : Inv g (dSet (dSet M10 108 56 ((M10.1 108 56) + R9)) 108 57 ((M10.1 108 57) + R10)) := (Inv.setA I17 rfl)
              exact (s_X12_hourGoes_70_all hG hQ 32).1 _ _ I18 (by omega) (by omega)
            · skip
              have I17 : Inv g (dSet M10 108 56 ((M10.1 108 56) + R9)) := (Inv.setA I10 rfl)
              have I18 : Inv g (dSet (dSet M10 108 56 ((M10.1 108 56) + R9)) 108 57 (999999 : Int32)) := (Inv.setA I17 rfl)
              exact (s_X12_hourGoes_70_all hG hQ 32).1 _ _ I18 (by omega) (by omega)
          · skip
            have I15 : Inv g (dSet M10 108 56 ((M10.1 108 56) + R9)) := (Inv.setA I10 rfl)
            have I16 : Inv g (dSet (dSet M10 108 56 ((M10.1 108 56) + R9)) 108 57 (0 : Int32)) := (Inv.setA I15 rfl)
            exact (s_X12_hourGoes_70_all hG hQ 32).1 _ _ I16 (by omega) (by omega)
        · skip
          refine v_X12_within ?_
          refine ⟨fun hc14 => ?_, fun hc14 => ?_⟩
          · skip
            have f15 := ti_999999
            refine ⟨fun hc16 => ?_, fun hc16 => ?_⟩
            · skip
              have I17 : Inv g (dSet M10 108 56 (99999 : Int32)) := (Inv.setA I10 rfl)
              have I18 : Inv g (dSet (dSet M10 108 56 (99999 : Int32)) 108 57 ((M10.1 108 57) + R10)) := (Inv.setA I17 rfl)
              exact (s_X12_hourGoes_70_all hG hQ 32).1 _ _ I18 (by omega) (by omega)
            · skip
              have I17 : Inv g (dSet M10 108 56 (99999 : Int32)) := (Inv.setA I10 rfl)
              have I18 : Inv g (dSet (dSet M10 108 56 (99999 : Int32)) 108 57 (999999 : Int32)) := (Inv.setA I17 rfl)
              exact (s_X12_hourGoes_70_all hG hQ 32).1 _ _ I18 (by omega) (by omega)
          · skip
            have I15 : Inv g (dSet M10 108 56 (99999 : Int32)) := (Inv.setA I10 rfl)
            have I16 : Inv g (dSet (dSet M10 108 56 (99999 : Int32)) 108 57 (0 : Int32)) := (Inv.setA I15 rfl)
            exact (s_X12_hourGoes_70_all hG hQ 32).1 _ _ I16 (by omega) (by omega)
      · skip
        refine v_X12_within ?_
        refine ⟨fun hc12 => ?_, fun hc12 => ?_⟩
        · skip
          have f13 := ti_999999
          refine ⟨fun hc14 => ?_, fun hc14 => ?_⟩
          · skip
            have I15 : Inv g (dSet M10 108 56 (0 : Int32)) := (Inv.setA I10 rfl)
            have I16 : Inv g (dSet (dSet M10 108 56 (0 : Int32)) 108 57 ((M10.1 108 57) + R10)) := (Inv.setA I15 rfl)
            exact (s_X12_hourGoes_70_all hG hQ 32).1 _ _ I16 (by omega) (by omega)
          · skip
            have I15 : Inv g (dSet M10 108 56 (0 : Int32)) := (Inv.setA I10 rfl)
            have I16 : Inv g (dSet (dSet M10 108 56 (0 : Int32)) 108 57 (999999 : Int32)) := (Inv.setA I15 rfl)
            exact (s_X12_hourGoes_70_all hG hQ 32).1 _ _ I16 (by omega) (by omega)
        · skip
          have I13 : Inv g (dSet M10 108 56 (0 : Int32)) := (Inv.setA I10 rfl)
          have I14 : Inv g (dSet (dSet M10 108 56 (0 : Int32)) 108 57 (0 : Int32)) := (Inv.setA I13 rfl)
          exact (s_X12_hourGoes_70_all hG hQ 32).1 _ _ I14 (by omega) (by omega)
    · skip
      have f5 := congrArg Int32.toInt (hI.2 70 18 rfl)
      have f6 := Inv.s hG hI (k := 70) (j := 18) rfl rfl
      refine ⟨by omega, ?_⟩
      have f7 := dRemE (x := (m.1 108 55)) (y := (24 : Int32)) (Y := 24) (by decide) (by decide)
      refine Wp.deep (s_X12_goingBits_70 hG hI (by omega) (fun R8 M8 I8 => ?_)) (Nat.le_of_ble_eq_true rfl)
      have I9 : Inv g (dSet M8 70 60 R8) := (Inv.setA I8 rfl)
      refine Wp.deep (s_X12_paysAll_70 hG I9 (fun R10 M10 I10 => ?_)) (Nat.le_of_ble_eq_true rfl)
      refine Wp.deep (s_X12_quarrelsAll_70 hG I10 (fun R11 M11 I11 => ?_)) (Nat.le_of_ble_eq_true rfl)
      refine v_X12_within ?_
      have f12 := ti_0
      refine ⟨fun hc13 => ?_, fun hc13 => ?_⟩
      · skip
        have f14 := ti_99999
        refine ⟨fun hc15 => ?_, fun hc15 => ?_⟩
        · skip
          refine v_X12_within ?_
          refine ⟨fun hc16 => ?_, fun hc16 => ?_⟩
          · skip
            have f17 := ti_999999
            refine ⟨fun hc18 => ?_, fun hc18 => ?_⟩
            · skip
              have I19 : Inv g (dSet M11 108 56 ((M11.1 108 56) + R10)) := (Inv.setA I11 rfl)
              have I20 : Inv g (dSet (dSet M11 108 56 ((M11.1 108 56) + R10)) 108 57 ((M11.1 108 57) + R11)) := (Inv.setA I19 rfl)
              exact (s_X12_hourGoes_70_all hG hQ 32).1 _ _ I20 (by omega) (by omega)
            · skip
              have I19 : Inv g (dSet M11 108 56 ((M11.1 108 56) + R10)) := (Inv.setA I11 rfl)
              have I20 : Inv g (dSet (dSet M11 108 56 ((M11.1 108 56) + R10)) 108 57 (999999 : Int32)) := (Inv.setA I19 rfl)
              exact (s_X12_hourGoes_70_all hG hQ 32).1 _ _ I20 (by omega) (by omega)
          · skip
            have I17 : Inv g (dSet M11 108 56 ((M11.1 108 56) + R10)) := (Inv.setA I11 rfl)
            have I18 : Inv g (dSet (dSet M11 108 56 ((M11.1 108 56) + R10)) 108 57 (0 : Int32)) := (Inv.setA I17 rfl)
            exact (s_X12_hourGoes_70_all hG hQ 32).1 _ _ I18 (by omega) (by omega)
        · skip
          refine v_X12_within ?_
          refine ⟨fun hc16 => ?_, fun hc16 => ?_⟩
          · skip
            have f17 := ti_999999
            refine ⟨fun hc18 => ?_, fun hc18 => ?_⟩
            · skip
              have I19 : Inv g (dSet M11 108 56 (99999 : Int32)) := (Inv.setA I11 rfl)
              have I20 : Inv g (dSet (dSet M11 108 56 (99999 : Int32)) 108 57 ((M11.1 108 57) + R11)) := (Inv.setA I19 rfl)
              exact (s_X12_hourGoes_70_all hG hQ 32).1 _ _ I20 (by omega) (by omega)
            · skip
              have I19 : Inv g (dSet M11 108 56 (99999 : Int32)) := (Inv.setA I11 rfl)
              have I20 : Inv g (dSet (dSet M11 108 56 (99999 : Int32)) 108 57 (999999 : Int32)) := (Inv.setA I19 rfl)
              exact (s_X12_hourGoes_70_all hG hQ 32).1 _ _ I20 (by omega) (by omega)
          · skip
            have I17 : Inv g (dSet M11 108 56 (99999 : Int32)) := (Inv.setA I11 rfl)
            have I18 : Inv g (dSet (dSet M11 108 56 (99999 : Int32)) 108 57 (0 : Int32)) := (Inv.setA I17 rfl)
            exact (s_X12_hourGoes_70_all hG hQ 32).1 _ _ I18 (by omega) (by omega)
      · skip
        refine v_X12_within ?_
        refine ⟨fun hc14 => ?_, fun hc14 => ?_⟩
        · skip
          have f15 := ti_999999
          refine ⟨fun hc16 => ?_, fun hc16 => ?_⟩
          · skip
            have I17 : Inv g (dSet M11 108 56 (0 : Int32)) := (Inv.setA I11 rfl)
            have I18 : Inv g (dSet (dSet M11 108 56 (0 : Int32)) 108 57 ((M11.1 108 57) + R11)) := (Inv.setA I17 rfl)
            exact (s_X12_hourGoes_70_all hG hQ 32).1 _ _ I18 (by omega) (by omega)
          · skip
            have I17 : Inv g (dSet M11 108 56 (0 : Int32)) := (Inv.setA I11 rfl)
            have I18 : Inv g (dSet (dSet M11 108 56 (0 : Int32)) 108 57 (999999 : Int32)) := (Inv.setA I17 rfl)
            exact (s_X12_hourGoes_70_all hG hQ 32).1 _ _ I18 (by omega) (by omega)
        · skip
          have I15 : Inv g (dSet M11 108 56 (0 : Int32)) := (Inv.setA I11 rfl)
          have I16 : Inv g (dSet (dSet M11 108 56 (0 : Int32)) 108 57 (0 : Int32)) := (Inv.setA I15 rfl)
          exact (s_X12_hourGoes_70_all hG hQ 32).1 _ _ I16 (by omega) (by omega)
theorem s_X12_goes_70_all {g : gM} {Q : dM → Prop} (hG : Gd g) (hQ : ∀ m' : dM, Inv g m' → Q m') : ∀ n : Nat, (∀ (x1 : Int32) (x2 : Int32) (m : dM), Inv g m → (0 ≤ x1.toInt ∧ x1.toInt ≤ 72) → (0 ≤ x2.toInt ∧ x2.toInt ≤ 72) → 72 - 1 * x2.toInt < (n : Int) → j_X12_goes_70_2 24 x1 x2 m Q) := by
  intro n
  induction n with
  | zero => exact fun x1 x2 m hI h1 h2 hμ => by exfalso; omega
  | succ n ih =>
    · intro x1 x2 m hI h1 h2 hμ
      refine v_X12_goes_70_2 ?_
      refine ⟨fun hc1 => ?_, fun hc1 => ?_⟩
      · skip
        exact hQ _ hI
      · skip
        refine Wp.deep (s_X12_hourGoes_70 hG hI (fun M2 I2 => ?_)) (Nat.le_of_ble_eq_true rfl)
        have f3 := dAddE (X := x2.toInt) (Y := 1) (x := x2) (y := (1 : Int32)) rfl (by decide) (by omega) (by omega)
        exact ih _ _ _ I2 (by omega) (by omega) (by omega)
theorem s_X12_goes_70 {g : gM} {x1 : Int32} {m : dM} {Q : dM → Prop} (hG : Gd g) (hI : Inv g m) (h1 : 0 ≤ x1.toInt ∧ x1.toInt ≤ 72) (hQ : ∀ m' : dM, Inv g m' → Q m') : c_X12_goes_70 24 x1 m Q := by
  refine v_X12_goes_70 ?_
  have f1 := ti_0
  exact (s_X12_goes_70_all hG hQ 74) _ _ _ hI (by omega) (by omega) (by omega)
theorem s_X12_hours_70 {g : gM} {x1 : Int32} {m : dM} {Q : Int32 → dM → Prop} (hG : Gd g) (hI : Inv g m) (hQ : ∀ (r : Int32) (m' : dM), Inv g m' → Q r m') : c_X12_hours_70 25 x1 m Q := by
  refine v_X12_hours_70 ?_
  refine v_X12_isLong ?_
  refine v_X12_in ?_
  have f1 := ti_0
  refine ⟨fun hc2 => ?_, fun hc2 => ?_⟩
  · skip
    refine v_X12_in_14 ?_
    refine ⟨by decide, ?_⟩
    refine ⟨fun hc3 => ?_, fun hc3 => ?_⟩
    · skip
      exfalso; omega
    · skip
      have f4 := ti_m1
      exact hQ _ _ hI
  · skip
    have f3 := ti_72
    refine ⟨fun hc4 => ?_, fun hc4 => ?_⟩
    · skip
      refine v_X12_in_14 ?_
      refine ⟨by decide, ?_⟩
      refine ⟨fun hc5 => ?_, fun hc5 => ?_⟩
      · skip
        exfalso; omega
      · skip
        have f6 := ti_m1
        exact hQ _ _ hI
    · skip
      have f5 := ti_1
      refine ⟨by decide, ?_⟩
      refine ⟨fun hc6 => ?_, fun hc6 => ?_⟩
      · skip
        refine ⟨fun hc7 => ?_, fun hc7 => ?_⟩
        · skip
          refine Wp.deep (s_X12_copies_70 hG hI (fun M8 I8 => ?_)) (Nat.le_of_ble_eq_true rfl)
          refine Wp.deep (s_X12_goes_70 hG I8 (by omega) (fun M9 I9 => ?_)) (Nat.le_of_ble_eq_true rfl)
          refine Wp.deep (s_X12_records_70 hG I9 (fun M10 I10 => ?_)) (Nat.le_of_ble_eq_true rfl)
          exact hQ _ _ I10
        · skip
          exact hQ _ _ hI
      · skip
        exfalso; omega
theorem s_X12_copiesStill_70 {g : gM} {m : dM} {Q : dM → Prop} (hG : Gd g) (hI : Inv g m) (hQ : ∀ m' : dM, Inv g m' → Q m') : c_X12_copiesStill_70 22 m Q := by
  refine v_X12_copiesStill_70 ?_
  refine Wp.deep (s_X12_copies_70 hG hI (fun M1 I1 => ?_)) (Nat.le_of_ble_eq_true rfl)
  have I2 : Inv g (dSet M1 70 57 (1 : Int32)) := (Inv.setA I1 rfl)
  exact hQ _ I2
theorem s_X12_peak_70_all {g : gM} {Q : Int32 → dM → Prop} (hG : Gd g) (hQ : ∀ (r : Int32) (m' : dM), Inv g m' → (-1 ≤ r.toInt) → Q r m') : ∀ n : Nat, (∀ (m : dM), Inv g m → 0 < (n : Int) → j_X12_peak_70_27 24 m Q) ∧ (∀ (x1 : Int32) (x2 : Int32) (x3 : Int32) (x4 : Int32) (x5 : Int32) (x6 : Int32) (m : dM), Inv g m → (0 ≤ x1.toInt ∧ x1.toInt ≤ 9) → (1 ≤ x2.toInt ∧ x2.toInt ≤ 48) → (0 ≤ x3.toInt ∧ x3.toInt ≤ 1) → (0 ≤ x4.toInt ∧ x4.toInt ≤ 47) → (-1 ≤ x5.toInt) → (0 ≤ x6.toInt ∧ x6.toInt ≤ 48) → 98 - 2 * x6.toInt < (n : Int) → j_X12_peak_70_42 24 x1 x2 x3 x4 x5 x6 m Q) ∧ (∀ (x1 : Int32) (x2 : Int32) (x3 : Int32) (x4 : Int32) (x5 : Int32) (x6 : Int32) (m : dM), Inv g m → (0 ≤ x1.toInt ∧ x1.toInt ≤ 9) → (1 ≤ x2.toInt ∧ x2.toInt ≤ 48) → (0 ≤ x3.toInt ∧ x3.toInt ≤ 1) → (0 ≤ x4.toInt ∧ x4.toInt ≤ 47) → (-1 ≤ x5.toInt) → (0 ≤ x6.toInt ∧ x6.toInt ≤ 47) → 97 - 2 * x6.toInt < (n : Int) → j_X12_peak_70_86 24 x1 x2 x3 x4 x5 x6 m Q) := by
  intro n
  induction n with
  | zero => exact ⟨fun m hI hμ => by exfalso; omega, fun x1 x2 x3 x4 x5 x6 m hI h1 h2 h3 h4 h5 h6 hμ => by exfalso; omega, fun x1 x2 x3 x4 x5 x6 m hI h1 h2 h3 h4 h5 h6 hμ => by exfalso; omega⟩
  | succ n ih =>
    refine ⟨?_, ?_, ?_⟩
    · intro m hI hμ
      refine v_X12_peak_70_27 ?_
      have f1 := ti_m1
      exact hQ _ _ hI (by omega)
    · intro x1 x2 x3 x4 x5 x6 m hI h1 h2 h3 h4 h5 h6 hμ
      refine v_X12_peak_70_42 ?_
      refine ⟨fun hc1 => ?_, fun hc1 => ?_⟩
      · skip
        refine ⟨fun hc2 => ?_, fun hc2 => ?_⟩
        · skip
          exact hQ _ _ hI (by omega)
        · skip
          exact hQ _ _ hI (by omega)
      · skip
        refine v_X12_isWhole_70 ?_
        refine v_X12_isWire_70 ?_
        have f2 := congrArg Int32.toInt (hI.2 70 18 rfl)
        have f3 := Inv.s hG hI (k := 70) (j := 18) rfl rfl
        refine ⟨by omega, ?_⟩
        refine v_X12_in ?_
        have f4 := ti_0
        refine ⟨fun hc5 => ?_, fun hc5 => ?_⟩
        · skip
          exfalso; omega
        · skip
          have f6 := Inv.cnt82 hG hI
          have f7 := Inv.s hG hI (k := 82) (j := (m.1 70 18).toNatClampNeg) rfl rfl
          have f8 := dSubE (X := (m.1 82 (m.1 70 18).toNatClampNeg).toInt) (Y := 1) (x := (m.1 82 (m.1 70 18).toNatClampNeg)) (y := (1 : Int32)) rfl (by decide) (by omega) (by omega)
          refine ⟨fun hc9 => ?_, fun hc9 => ?_⟩
          · skip
            refine v_X12_in_14 ?_
            refine ⟨by decide, ?_⟩
            refine ⟨fun hc10 => ?_, fun hc10 => ?_⟩
            · skip
              refine v_X12_isWhole_70_24 ?_
              refine ⟨fun hc11 => ?_, fun hc11 => ?_⟩
              · skip
                refine ⟨fun hc12 => ?_, fun hc12 => ?_⟩
                · skip
                  exact ih.2.2 _ _ _ _ _ _ _ hI (by omega) (by omega) (by omega) (by omega) (by omega) (by omega) (by omega)
                · skip
                  exact ih.2.2 _ _ _ _ _ _ _ hI (by omega) (by omega) (by omega) (by omega) (by omega) (by omega) (by omega)
              · skip
                exfalso; omega
            · skip
              exfalso; omega
          · skip
            have f10 := ti_1
            refine ⟨by decide, ?_⟩
            refine ⟨fun hc11 => ?_, fun hc11 => ?_⟩
            · skip
              exfalso; omega
            · skip
              have f12 := dAddE (X := 10) (Y := x1.toInt) (x := (10 : Int32)) (y := x1) (by decide) rfl (by omega) (by omega)
              refine ⟨by omega, ?_⟩
              refine ⟨fun hc13 => ?_, fun hc13 => ?_⟩
              · skip
                refine v_X12_isWhole_70_24 ?_
                refine ⟨fun hc14 => ?_, fun hc14 => ?_⟩
                · skip
                  refine ⟨fun hc15 => ?_, fun hc15 => ?_⟩
                  · skip
                    exact ih.2.2 _ _ _ _ _ _ _ hI (by omega) (by omega) (by omega) (by omega) (by omega) (by omega) (by omega)
                  · skip
                    exact ih.2.2 _ _ _ _ _ _ _ hI (by omega) (by omega) (by omega) (by omega) (by omega) (by omega) (by omega)
                · skip
                  exfalso; omega
              · skip
                refine ⟨fun hc14 => ?_, fun hc14 => ?_⟩
                · skip
                  exfalso; omega
                · skip
                  refine Wp.deep (s_X12_onNow_70 hG hI (fun R15 => ?_)) (Nat.le_of_ble_eq_true rfl)
                  refine Wp.deep (s_X12_loadBy_70 hG hI (by omega) (fun R16 => ?_)) (Nat.le_of_ble_eq_true rfl)
                  refine ⟨fun hc17 => ?_, fun hc17 => ?_⟩
                  · skip
                    exact ih.2.2 _ _ _ _ _ _ _ hI (by omega) (by omega) (by omega) (by omega) (by omega) (by omega) (by omega)
                  · skip
                    exact ih.2.2 _ _ _ _ _ _ _ hI (by omega) (by omega) (by omega) (by omega) (by omega) (by omega) (by omega)
    · intro x1 x2 x3 x4 x5 x6 m hI h1 h2 h3 h4 h5 h6 hμ
      refine v_X12_peak_70_86 ?_
      refine Wp.deep (s_X12_hourGoes_70 hG hI (fun M1 I1 => ?_)) (Nat.le_of_ble_eq_true rfl)
      have f2 := dAddE (X := x6.toInt) (Y := 1) (x := x6) (y := (1 : Int32)) rfl (by decide) (by omega) (by omega)
      exact ih.2.1 _ _ _ _ _ _ _ I1 (by omega) (by omega) (by omega) (by omega) (by omega) (by omega) (by omega)
theorem s_X12_peak_70 {g : gM} {x1 : Int32} {x2 : Int32} {x3 : Int32} {m : dM} {Q : Int32 → dM → Prop} (hG : Gd g) (hI : Inv g m) (hQ : ∀ (r : Int32) (m' : dM), Inv g m' → (-1 ≤ r.toInt) → Q r m') : c_X12_peak_70 24 x1 x2 x3 m Q := by
  refine v_X12_peak_70 ?_
  refine v_X12_isWire_70 ?_
  have f1 := congrArg Int32.toInt (hI.2 70 18 rfl)
  have f2 := Inv.s hG hI (k := 70) (j := 18) rfl rfl
  refine ⟨by omega, ?_⟩
  refine v_X12_in ?_
  have f3 := ti_0
  refine ⟨fun hc4 => ?_, fun hc4 => ?_⟩
  · skip
    refine v_X12_in_14 ?_
    refine ⟨by decide, ?_⟩
    refine ⟨fun hc5 => ?_, fun hc5 => ?_⟩
    · skip
      exact (s_X12_peak_70_all hG hQ 100).1 _ hI (by omega)
    · skip
      exfalso; omega
  · skip
    have f5 := Inv.cnt82 hG hI
    have f6 := Inv.s hG hI (k := 82) (j := (m.1 70 18).toNatClampNeg) rfl rfl
    have f7 := dSubE (X := (m.1 82 (m.1 70 18).toNatClampNeg).toInt) (Y := 1) (x := (m.1 82 (m.1 70 18).toNatClampNeg)) (y := (1 : Int32)) rfl (by decide) (by omega) (by omega)
    refine ⟨fun hc8 => ?_, fun hc8 => ?_⟩
    · skip
      refine v_X12_in_14 ?_
      refine ⟨by decide, ?_⟩
      refine ⟨fun hc9 => ?_, fun hc9 => ?_⟩
      · skip
        exact (s_X12_peak_70_all hG hQ 100).1 _ hI (by omega)
      · skip
        exfalso; omega
    · skip
      have f9 := ti_1
      refine ⟨by decide, ?_⟩
      refine ⟨fun hc10 => ?_, fun hc10 => ?_⟩
      · skip
        exfalso; omega
      · skip
        refine v_X12_in ?_
        refine ⟨fun hc11 => ?_, fun hc11 => ?_⟩
        · skip
          refine v_X12_in_14 ?_
          refine ⟨fun hc12 => ?_, fun hc12 => ?_⟩
          · skip
            exact (s_X12_peak_70_all hG hQ 100).1 _ hI (by omega)
          · skip
            exfalso; omega
        · skip
          have f12 := ti_48
          refine ⟨fun hc13 => ?_, fun hc13 => ?_⟩
          · skip
            refine v_X12_in_14 ?_
            refine ⟨fun hc14 => ?_, fun hc14 => ?_⟩
            · skip
              exact (s_X12_peak_70_all hG hQ 100).1 _ hI (by omega)
            · skip
              exfalso; omega
          · skip
            refine ⟨fun hc14 => ?_, fun hc14 => ?_⟩
            · skip
              exfalso; omega
            · skip
              refine v_X12_in ?_
              refine ⟨fun hc15 => ?_, fun hc15 => ?_⟩
              · skip
                refine v_X12_in_14 ?_
                refine ⟨fun hc16 => ?_, fun hc16 => ?_⟩
                · skip
                  exfalso; omega
                · skip
                  exact (s_X12_peak_70_all hG hQ 100).1 _ hI (by omega)
              · skip
                refine ⟨fun hc16 => ?_, fun hc16 => ?_⟩
                · skip
                  refine v_X12_in_14 ?_
                  refine ⟨fun hc17 => ?_, fun hc17 => ?_⟩
                  · skip
                    exfalso; omega
                  · skip
                    exact (s_X12_peak_70_all hG hQ 100).1 _ hI (by omega)
                · skip
                  refine ⟨fun hc17 => ?_, fun hc17 => ?_⟩
                  · skip
                    refine Wp.deep (s_X12_copiesStill_70 hG hI (fun M18 I18 => ?_)) (Nat.le_of_ble_eq_true rfl)
                    have f19 := ti_m1
                    exact (s_X12_peak_70_all hG hQ 100).2.1 _ _ _ _ _ _ _ I18 (by omega) (by omega) (by omega) (by omega) (by omega) (by omega) (by omega)
                  · skip
                    exfalso; omega
theorem s_X12_firstGoing_70_all {g : gM} {Q : Int32 → dM → Prop} (hG : Gd g) (hQ : ∀ (r : Int32) (m' : dM), Inv g m' → (1 ≤ r.toInt ∧ r.toInt ≤ 201) → Q r m') : ∀ n : Nat, (∀ (x1 : Int32) (m : dM), Inv g m → (1 ≤ x1.toInt ∧ x1.toInt ≤ 201) → 201 - 1 * x1.toInt < (n : Int) → j_X12_firstGoing_70_2 24 x1 m Q) := by
  intro n
  induction n with
  | zero => exact fun x1 m hI h1 hμ => by exfalso; omega
  | succ n ih =>
    · intro x1 m hI h1 hμ
      refine v_X12_firstGoing_70_2 ?_
      refine ⟨fun hc1 => ?_, fun hc1 => ?_⟩
      · skip
        have f2 := ti_201
        exact hQ _ _ hI (by omega)
      · skip
        refine Wp.deep (s_X12_hourGoes_70 hG hI (fun M2 I2 => ?_)) (Nat.le_of_ble_eq_true rfl)
        refine ⟨fun hc3 => ?_, fun hc3 => ?_⟩
        · skip
          have f4 := dAddE (X := x1.toInt) (Y := 1) (x := x1) (y := (1 : Int32)) rfl (by decide) (by omega) (by omega)
          exact ih _ _ I2 (by omega) (by omega)
        · skip
          exact hQ _ _ I2 (by omega)
theorem s_X12_firstGoing_70 {g : gM} {m : dM} {Q : Int32 → dM → Prop} (hG : Gd g) (hI : Inv g m) (hQ : ∀ (r : Int32) (m' : dM), Inv g m' → (1 ≤ r.toInt ∧ r.toInt ≤ 201) → Q r m') : c_X12_firstGoing_70 24 m Q := by
  refine v_X12_firstGoing_70 ?_
  have f1 := ti_1
  exact (s_X12_firstGoing_70_all hG hQ 202) _ _ hI (by omega) (by omega)
theorem s_X12_first_70 {g : gM} {x1 : Int32} {m : dM} {Q : Int32 → dM → Prop} (hG : Gd g) (hI : Inv g m) (hQ : ∀ (r : Int32) (m' : dM), Inv g m' → (-2 ≤ r.toInt ∧ r.toInt ≤ 200) → Q r m') : c_X12_first_70 25 x1 m Q := by
  refine v_X12_first_70 ?_
  refine v_X12_in ?_
  have f1 := ti_0
  refine ⟨fun hc2 => ?_, fun hc2 => ?_⟩
  · skip
    refine v_X12_in_14 ?_
    refine ⟨fun hc3 => ?_, fun hc3 => ?_⟩
    · skip
      exfalso; omega
    · skip
      have f4 := ti_m1
      exact hQ _ _ hI (by omega)
  · skip
    have f3 := ti_1
    refine ⟨fun hc4 => ?_, fun hc4 => ?_⟩
    · skip
      refine v_X12_in_14 ?_
      refine ⟨fun hc5 => ?_, fun hc5 => ?_⟩
      · skip
        exfalso; omega
      · skip
        have f6 := ti_m1
        exact hQ _ _ hI (by omega)
    · skip
      refine ⟨fun hc5 => ?_, fun hc5 => ?_⟩
      · skip
        refine Wp.deep (s_X12_copiesStill_70 hG hI (fun M6 I6 => ?_)) (Nat.le_of_ble_eq_true rfl)
        refine Wp.deep (s_X12_firstGoing_70 hG I6 (fun R7 M7 I7 hr7 => ?_)) (Nat.le_of_ble_eq_true rfl)
        refine ⟨fun hc8 => ?_, fun hc8 => ?_⟩
        · skip
          refine ⟨fun hc9 => ?_, fun hc9 => ?_⟩
          · skip
            refine Wp.deep (s_X12_lowestOf hG I7 (fun R10 hr10 => ?_)) (Nat.le_of_ble_eq_true rfl)
            exact hQ _ _ I7 (by omega)
          · skip
            exact hQ _ _ I7 (by omega)
        · skip
          have f9 := ti_m2
          exact hQ _ _ I7 (by omega)
      · skip
        exfalso; omega
theorem s_X12_together_70_all {g : gM} {Q : Int32 → dM → Prop} (hG : Gd g) (hQ : ∀ (r : Int32) (m' : dM), Inv g m' → (-1 ≤ r.toInt) → Q r m') : ∀ n : Nat, (∀ (x1 : Int32) (x2 : Int32) (x3 : Int32) (x4 : Int32) (x5 : Int32) (m : dM), Inv g m → (0 ≤ x1.toInt ∧ x1.toInt ≤ 1) → (0 ≤ x3.toInt ∧ x3.toInt ≤ 255) → (0 ≤ x4.toInt) → (1 ≤ x5.toInt ∧ x5.toInt ≤ 256) → 513 - 2 * x5.toInt < (n : Int) → j_X12_together_70_28 23 x1 x2 x3 x4 x5 m Q) ∧ (∀ (x1 : Int32) (x2 : Int32) (x3 : Int32) (x4 : Int32) (x5 : Int32) (m : dM), Inv g m → (0 ≤ x1.toInt ∧ x1.toInt ≤ 1) → (0 ≤ x3.toInt ∧ x3.toInt ≤ 255) → (0 ≤ x4.toInt) → (1 ≤ x5.toInt ∧ x5.toInt ≤ 255) → 512 - 2 * x5.toInt < (n : Int) → j_X12_together_70_101 23 x1 x2 x3 x4 x5 m Q) := by
  intro n
  induction n with
  | zero => exact ⟨fun x1 x2 x3 x4 x5 m hI h1 h3 h4 h5 hμ => by exfalso; omega, fun x1 x2 x3 x4 x5 m hI h1 h3 h4 h5 hμ => by exfalso; omega⟩
  | succ n ih =>
    refine ⟨?_, ?_⟩
    · intro x1 x2 x3 x4 x5 m hI h1 h3 h4 h5 hμ
      refine v_X12_together_70_28 ?_
      have f1 := congrArg Int32.toInt (hI.2 70 18 rfl)
      have f2 := Inv.s hG hI (k := 70) (j := 18) rfl rfl
      refine ⟨by omega, ?_⟩
      have f3 := Inv.cnt86 hG hI
      have f4 := Inv.s hG hI (k := 86) (j := (m.1 70 18).toNatClampNeg) rfl rfl
      have f5 := dShl8 (x := (m.1 86 (m.1 70 18).toNatClampNeg)) (by omega) (by omega)
      refine ⟨fun hc6 => ?_, fun hc6 => ?_⟩
      · skip
        refine ⟨fun hc7 => ?_, fun hc7 => ?_⟩
        · skip
          exact hQ _ _ hI (by omega)
        · skip
          exact hQ _ _ hI (by omega)
      · skip
        refine ⟨fun hc7 => ?_, fun hc7 => ?_⟩
        · skip
          refine Wp.deep (s_X12_paysAll_70 hG hI (fun R8 M8 I8 => ?_)) (Nat.le_of_ble_eq_true rfl)
          refine ⟨fun hc9 => ?_, fun hc9 => ?_⟩
          · skip
            exact ih.2 _ _ _ _ _ _ I8 (by omega) (by omega) (by omega) (by omega) (by omega)
          · skip
            have f10 := dRemE (x := (M8.1 108 55)) (y := (24 : Int32)) (Y := 24) (by decide) (by decide)
            have f11 := ti_0
            refine Wp.deep (s_X12_goingBits_70 hG I8 (by omega) (fun R12 M12 I12 => ?_)) (Nat.le_of_ble_eq_true rfl)
            refine ⟨fun hc13 => ?_, fun hc13 => ?_⟩
            · skip
              exact ih.2 _ _ _ _ _ _ I12 (by omega) (by omega) (by omega) (by omega) (by omega)
            · skip
              exact ih.2 _ _ _ _ _ _ I12 (by omega) (by omega) (by omega) (by omega) (by omega)
        · skip
          exact ih.2 _ _ _ _ _ _ hI (by omega) (by omega) (by omega) (by omega) (by omega)
    · intro x1 x2 x3 x4 x5 m hI h1 h3 h4 h5 hμ
      refine v_X12_together_70_101 ?_
      have f1 := dAddE (X := x5.toInt) (Y := 1) (x := x5) (y := (1 : Int32)) rfl (by decide) (by omega) (by omega)
      exact ih.1 _ _ _ _ _ _ hI (by omega) (by omega) (by omega) (by omega) (by omega)
theorem s_X12_together_70 {g : gM} {x1 : Int32} {m : dM} {Q : Int32 → dM → Prop} (hG : Gd g) (hI : Inv g m) (hQ : ∀ (r : Int32) (m' : dM), Inv g m' → (-1 ≤ r.toInt) → Q r m') : c_X12_together_70 23 x1 m Q := by
  refine v_X12_together_70 ?_
  refine v_X12_in ?_
  have f1 := ti_0
  refine ⟨fun hc2 => ?_, fun hc2 => ?_⟩
  · skip
    refine v_X12_in_14 ?_
    refine ⟨fun hc3 => ?_, fun hc3 => ?_⟩
    · skip
      exfalso; omega
    · skip
      have f4 := ti_m1
      exact hQ _ _ hI (by omega)
  · skip
    have f3 := ti_1
    refine ⟨fun hc4 => ?_, fun hc4 => ?_⟩
    · skip
      refine v_X12_in_14 ?_
      refine ⟨fun hc5 => ?_, fun hc5 => ?_⟩
      · skip
        exfalso; omega
      · skip
        have f6 := ti_m1
        exact hQ _ _ hI (by omega)
    · skip
      refine ⟨fun hc5 => ?_, fun hc5 => ?_⟩
      · skip
        refine Wp.deep (s_X12_copies_70 hG hI (fun M6 I6 => ?_)) (Nat.le_of_ble_eq_true rfl)
        refine Wp.deep (s_X12_usesLit_70 hG I6 (fun R7 => ?_)) (Nat.le_of_ble_eq_true rfl)
        exact (s_X12_together_70_all hG hQ 513).1 _ _ _ _ _ _ I6 (by omega) (by omega) (by omega) (by omega) (by omega)
      · skip
        exfalso; omega
theorem s_X12_canBegin_70_all {g : gM} {Q : Int32 → dM → Prop} (hG : Gd g) (hQ : ∀ (r : Int32) (m' : dM), Inv g m' → (0 ≤ r.toInt ∧ r.toInt ≤ 1) → Q r m') : ∀ n : Nat, (∀ (x1 : Int32) (x2 : Int32) (x3 : Int32) (x4 : Int32) (m : dM), Inv g m → (0 ≤ x1.toInt ∧ x1.toInt ≤ 7) → (0 ≤ x2.toInt ∧ x2.toInt ≤ 10022) → (-9999 ≤ x3.toInt ∧ x3.toInt ≤ 9999) → (0 ≤ x4.toInt ∧ x4.toInt ≤ 99999) → x1.toInt < (g 86 (gL g)).toInt → 199999 - 2 * x4.toInt < (n : Int) → j_X12_canBegin_70_33 23 x1 x2 x3 x4 m Q) ∧ (∀ (x1 : Int32) (x2 : Int32) (x3 : Int32) (x4 : Int32) (x5 : Int32) (m : dM), Inv g m → (0 ≤ x1.toInt ∧ x1.toInt ≤ 7) → (0 ≤ x2.toInt ∧ x2.toInt ≤ 10022) → (-9999 ≤ x3.toInt ∧ x3.toInt ≤ 9999) → (0 ≤ x4.toInt ∧ x4.toInt ≤ 20046) → x1.toInt < (g 86 (gL g)).toInt → 199998 - 2 * x4.toInt < (n : Int) → j_X12_canBegin_70_75 23 x1 x2 x3 x4 x5 m Q) := by
  intro n
  induction n with
  | zero => exact ⟨fun x1 x2 x3 x4 m hI h1 h2 h3 h4 hb1 hμ => by exfalso; omega, fun x1 x2 x3 x4 x5 m hI h1 h2 h3 h4 hb1 hμ => by exfalso; omega⟩
  | succ n ih =>
    refine ⟨?_, ?_⟩
    · intro x1 x2 x3 x4 m hI h1 h2 h3 h4 hb1 hμ
      refine v_X12_canBegin_70_33 ?_
      have f1 := dAddE (X := x2.toInt) (Y := x3.toInt) (x := x2) (y := x3) rfl rfl (by omega) (by omega)
      refine ⟨fun hc2 => ?_, fun hc2 => ?_⟩
      · skip
        have f3 := ti_1
        exact hQ _ _ hI (by omega)
      · skip
        refine Wp.deep (s_X12_onAt_70 hG hI (by omega) (fun R3 => ?_)) (Nat.le_of_ble_eq_true rfl)
        refine v_X12_flatAt_70 ?_
        have f4 := congrArg Int32.toInt (hI.2 70 18 rfl)
        have f5 := Inv.s hG hI (k := 70) (j := 18) rfl rfl
        have f6 := dMulE (X := 8) (Y := (m.1 70 18).toInt) (x := (8 : Int32)) (y := (m.1 70 18)) (by decide) rfl (by omega) (by omega)
        have f7 := dAddE (X := ((8 : Int32) * (m.1 70 18)).toInt) (Y := x1.toInt) (x := ((8 : Int32) * (m.1 70 18))) (y := x1) rfl rfl (by omega) (by omega)
        refine ⟨by omega, ?_⟩
        refine v_X12_isLit_70 ?_
        have f8 := Inv.cnt86 hG hI
        have f9 := Inv.s hG hI (k := 86) (j := (m.1 70 18).toNatClampNeg) rfl rfl
        have f10 := Inv.flat hG hI (u := x1) (by omega) (by omega)
        refine ⟨by omega, ?_⟩
        refine ⟨fun hc11 => ?_, fun hc11 => ?_⟩
        · skip
          have f12 := ti_0
          refine ⟨fun hc13 => ?_, fun hc13 => ?_⟩
          · skip
            have f14 := dShl8 (x := x1) (by omega) (by omega)
            exact ih.2 _ _ _ _ _ _ hI (by omega) (by omega) (by omega) (by omega) (by omega) (by omega)
          · skip
            exfalso; omega
        · skip
          have f12 := ti_1
          refine ⟨fun hc13 => ?_, fun hc13 => ?_⟩
          · skip
            exfalso; omega
          · skip
            have f14 := dShl8 (x := x1) (by omega) (by omega)
            exact ih.2 _ _ _ _ _ _ hI (by omega) (by omega) (by omega) (by omega) (by omega) (by omega)
    · intro x1 x2 x3 x4 x5 m hI h1 h2 h3 h4 hb1 hμ
      refine v_X12_canBegin_70_75 ?_
      have f1 := ti_0
      refine Wp.deep (s_X12_goingBits_70 hG hI (by omega) (fun R2 M2 I2 => ?_)) (Nat.le_of_ble_eq_true rfl)
      refine ⟨fun hc3 => ?_, fun hc3 => ?_⟩
      · skip
        have f4 := dAddE (X := x4.toInt) (Y := 1) (x := x4) (y := (1 : Int32)) rfl (by decide) (by omega) (by omega)
        exact ih.1 _ _ _ _ _ I2 (by omega) (by omega) (by omega) (by omega) (by omega) (by omega)
      · skip
        exact hQ _ _ I2 (by omega)
theorem s_X12_canBegin_70 {g : gM} {x1 : Int32} {x2 : Int32} {m : dM} {Q : Int32 → dM → Prop} (hG : Gd g) (hI : Inv g m) (h1 : 0 ≤ x1.toInt ∧ x1.toInt ≤ 7) (h2 : 0 ≤ x2.toInt ∧ x2.toInt ≤ 10022) (hb1 : x1.toInt < (g 86 (gL g)).toInt) (hQ : ∀ (r : Int32) (m' : dM), Inv g m' → (0 ≤ r.toInt ∧ r.toInt ≤ 1) → Q r m') : c_X12_canBegin_70 23 x1 x2 m Q := by
  refine v_X12_canBegin_70 ?_
  have f1 := congrArg Int32.toInt (hI.2 70 18 rfl)
  have f2 := Inv.s hG hI (k := 70) (j := 18) rfl rfl
  have f3 := dMulE (X := 8) (Y := (m.1 70 18).toInt) (x := (8 : Int32)) (y := (m.1 70 18)) (by decide) rfl (by omega) (by omega)
  have f4 := dAddE (X := ((8 : Int32) * (m.1 70 18)).toInt) (Y := x1.toInt) (x := ((8 : Int32) * (m.1 70 18))) (y := x1) rfl rfl (by omega) (by omega)
  refine ⟨by omega, ?_⟩
  refine ⟨by omega, ?_⟩
  have f5 := Inv.s hG hI (k := 90) (j := (((8 : Int32) * (m.1 70 18)) + x1).toNatClampNeg) rfl rfl
  have f6 := Inv.s hG hI (k := 89) (j := (((8 : Int32) * (m.1 70 18)) + x1).toNatClampNeg) rfl rfl
  have f7 := dSubE (X := (m.1 90 (((8 : Int32) * (m.1 70 18)) + x1).toNatClampNeg).toInt) (Y := (m.1 89 (((8 : Int32) * (m.1 70 18)) + x1).toNatClampNeg).toInt) (x := (m.1 90 (((8 : Int32) * (m.1 70 18)) + x1).toNatClampNeg)) (y := (m.1 89 (((8 : Int32) * (m.1 70 18)) + x1).toNatClampNeg)) rfl rfl (by omega) (by omega)
  exact (s_X12_canBegin_70_all hG hQ 200001).1 _ _ _ _ _ hI (by omega) (by omega) (by omega) (by omega) (by omega) (by omega)
