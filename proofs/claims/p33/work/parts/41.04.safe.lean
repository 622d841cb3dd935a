theorem s_X1_firstGone_61_47 {g : gM} {m : dM} {Q : Int32 → dM → Prop} (hG : Gd g) (hI : Inv g m) (hQ : ∀ (r : Int32) (m' : dM), Inv g m' → (1 ≤ r.toInt ∧ r.toInt ≤ 201) → Q r m') : c_X1_firstGone_61_47 7 m Q := by
  refine v_X1_firstGone_61_47 ?_
  refine Wp.deep (s_X7_copy_62_47 hG hI (fun M1 I1 => ?_)) (Nat.le_of_ble_eq_true rfl)
  refine Wp.deep (s_X1_trialTillGone_61 hG I1 (fun R2 M2 I2 hr2 => ?_)) (Nat.le_of_ble_eq_true rfl)
  exact hQ _ _ I2 (by omega)
theorem s_X11_bitAt_all {g : gM} {Q : Int32 → dM → Prop} {m : dM} (hG : Gd g) (hI : Inv g m) (hQ : ∀ r : Int32, (-1 ≤ r.toInt ∧ r.toInt ≤ 31) → Q r m) : ∀ n : Nat, (∀ (x0 : Int32) (x1 : Int32) (x2 : Int32) (x3 : Int32), (0 ≤ x1.toInt ∧ x1.toInt ≤ 2) → (0 ≤ x3.toInt ∧ x3.toInt ≤ 32) → 65 - 2 * x3.toInt < (n : Int) → j_X11_bitAt_4 2 x0 x1 x2 x3 m Q) ∧ (∀ (x0 : Int32) (x1 : Int32) (x2 : Int32) (x3 : Int32), (0 ≤ x1.toInt ∧ x1.toInt ≤ 2) → (0 ≤ x3.toInt ∧ x3.toInt ≤ 31) → 64 - 2 * x3.toInt < (n : Int) → j_X11_bitAt_28 2 x0 x1 x2 x3 m Q) := by
  intro n
  induction n with
  | zero => exact ⟨fun x0 x1 x2 x3 h1 h3 hμ => by exfalso; omega, fun x0 x1 x2 x3 h1 h3 hμ => by exfalso; omega⟩
  | succ n ih =>
    refine ⟨?_, ?_⟩
    · intro x0 x1 x2 x3 h1 h3 hμ
      refine v_X11_bitAt_4 ?_
      refine ⟨fun hc1 => ?_, fun hc1 => ?_⟩
      · skip
        have f2 := ti_m1
        exact hQ _ (by omega)
      · skip
        refine v_X11_has ?_
        have f2 := ti_1
        have f3 := dAndE (x := (x0.toUInt32 >>> (x3.toUInt32 &&& Int32.toUInt32 31)).toInt32) (y := (1 : Int32)) (by decide)
        refine ⟨fun hc4 => ?_, fun hc4 => ?_⟩
        · skip
          have f5 := ti_0
          refine ⟨fun hc6 => ?_, fun hc6 => ?_⟩
          · skip
            exact ih.2 _ _ _ _ (by omega) (by omega) (by omega)
          · skip
            exfalso; omega
        · skip
          refine ⟨fun hc5 => ?_, fun hc5 => ?_⟩
          · skip
            exfalso; omega
          · skip
            refine ⟨fun hc6 => ?_, fun hc6 => ?_⟩
            · skip
              exact ih.2 _ _ _ _ (by omega) (by omega) (by omega)
            · skip
              exact hQ _ (by omega)
    · intro x0 x1 x2 x3 h1 h3 hμ
      refine v_X11_bitAt_28 ?_
      have f1 := dAddE (X := x3.toInt) (Y := 1) (x := x3) (y := (1 : Int32)) rfl (by decide) (by omega) (by omega)
      exact ih.1 _ _ _ _ (by omega) (by omega) (by omega)
theorem s_X11_bitAt {g : gM} {x0 : Int32} {x1 : Int32} {m : dM} {Q : Int32 → dM → Prop} (hG : Gd g) (hI : Inv g m) (h1 : 0 ≤ x1.toInt ∧ x1.toInt ≤ 2) (hQ : ∀ r : Int32, (-1 ≤ r.toInt ∧ r.toInt ≤ 31) → Q r m) : c_X11_bitAt 2 x0 x1 m Q := by
  refine v_X11_bitAt ?_
  have f1 := ti_0
  exact (s_X11_bitAt_all hG hI hQ 67).1 _ _ _ _ (by omega) (by omega) (by omega)
theorem s_X1_firstWire_61 {g : gM} {m : dM} {Q : Int32 → dM → Prop} (hG : Gd g) (hI : Inv g m) (hQ : ∀ r : Int32, (-1 ≤ r.toInt ∧ r.toInt ≤ 31) → Q r m) : c_X1_firstWire_61 3 m Q := by
  refine v_X1_firstWire_61 ?_
  have f1 := ti_0
  refine Wp.deep (s_X11_bitAt hG hI (by omega) (fun R2 hr2 => ?_)) (Nat.le_of_ble_eq_true rfl)
  exact hQ _ (by omega)
theorem s_X11_first_0 {g : gM} {x1 : Int32} {m : dM} {Q : Int32 → dM → Prop} (hG : Gd g) (hI : Inv g m) (hQ : ∀ (r : Int32) (m' : dM), Inv g m' → (-2 ≤ r.toInt ∧ r.toInt ≤ 200) → Q r m') : c_X11_first_0 8 x1 m Q := by
  refine v_X11_first_0 ?_
  refine ⟨fun hc1 => ?_, fun hc1 => ?_⟩
  · skip
    refine v_X11_first_0_9 ?_
    have f2 := ti_m1
    exact hQ _ _ hI (by omega)
  · skip
    refine ⟨fun hc2 => ?_, fun hc2 => ?_⟩
    · skip
      refine Wp.deep (s_X1_firstGone_61_47 hG hI (fun R3 M3 I3 hr3 => ?_)) (Nat.le_of_ble_eq_true rfl)
      refine ⟨fun hc4 => ?_, fun hc4 => ?_⟩
      · skip
        refine ⟨fun hc5 => ?_, fun hc5 => ?_⟩
        · skip
          refine Wp.deep (s_X1_firstWire_61 hG I3 (fun R6 hr6 => ?_)) (Nat.le_of_ble_eq_true rfl)
          exact hQ _ _ I3 (by omega)
        · skip
          exact hQ _ _ I3 (by omega)
      · skip
        have f5 := ti_m2
        exact hQ _ _ I3 (by omega)
    · skip
      refine v_X11_first_0_9 ?_
      have f3 := ti_m1
      exact hQ _ _ hI (by omega)
theorem s_X12_lowestOf_all {g : gM} {Q : Int32 → dM → Prop} {m : dM} (hG : Gd g) (hI : Inv g m) (hQ : ∀ r : Int32, (0 ≤ r.toInt ∧ r.toInt ≤ 10) → Q r m) : ∀ n : Nat, (∀ (x0 : Int32) (x1 : Int32), (0 ≤ x1.toInt ∧ x1.toInt ≤ 10) → 11 - 1 * x1.toInt < (n : Int) → j_X12_lowestOf_2 1 x0 x1 m Q) ∧ (∀ (x1 : Int32), (0 ≤ x1.toInt ∧ x1.toInt ≤ 10) → 0 < (n : Int) → j_X12_lowestOf_22 1 x1 m Q) := by
  intro n
  induction n with
  | zero => exact ⟨fun x0 x1 h1 hμ => by exfalso; omega, fun x1 h1 hμ => by exfalso; omega⟩
  | succ n ih =>
    refine ⟨?_, ?_⟩
    · intro x0 x1 h1 hμ
      refine v_X12_lowestOf_2 ?_
      refine ⟨fun hc1 => ?_, fun hc1 => ?_⟩
      · skip
        exact ih.2 _ (by omega) (by omega)
      · skip
        have f2 := ti_1
        have f3 := dAndE (x := (x0 >>> (x1 &&& 31))) (y := (1 : Int32)) (by decide)
        refine ⟨fun hc4 => ?_, fun hc4 => ?_⟩
        · skip
          exact ih.2 _ (by omega) (by omega)
        · skip
          have f5 := dAddE (X := x1.toInt) (Y := 1) (x := x1) (y := (1 : Int32)) rfl (by decide) (by omega) (by omega)
          exact ih.1 _ _ (by omega) (by omega)
    · intro x1 h1 hμ
      refine v_X12_lowestOf_22 ?_
      exact hQ _ (by omega)
theorem s_X12_lowestOf {g : gM} {x0 : Int32} {m : dM} {Q : Int32 → dM → Prop} (hG : Gd g) (hI : Inv g m) (hQ : ∀ r : Int32, (0 ≤ r.toInt ∧ r.toInt ≤ 10) → Q r m) : c_X12_lowestOf 1 x0 m Q := by
  refine v_X12_lowestOf ?_
  have f1 := ti_0
  exact (s_X12_lowestOf_all hG hI hQ 13).1 _ _ (by omega) (by omega)
theorem s_X1_payOfAll_61_all {g : gM} {Q : Int32 → dM → Prop} {m : dM} (hG : Gd g) (hI : Inv g m) (hQ : ∀ r : Int32, Q r m) : ∀ n : Nat, (∀ (x1 : Int32) (x2 : Int32) (x3 : Int32), (0 ≤ x1.toInt ∧ x1.toInt ≤ 255) → (0 ≤ x3.toInt ∧ x3.toInt ≤ 8) → 8 - 1 * x3.toInt < (n : Int) → j_X1_payOfAll_61_4 2 x1 x2 x3 m Q) := by
  intro n
  induction n with
  | zero => exact fun x1 x2 x3 h1 h3 hμ => by exfalso; omega
  | succ n ih =>
    · intro x1 x2 x3 h1 h3 hμ
      refine v_X1_payOfAll_61_4 ?_
      have f1 := congrArg Int32.toInt (hI.2 2 2 rfl)
      have f2 := Inv.s hG hI (k := 2) (j := 2) rfl rfl
      refine ⟨fun hc3 => ?_, fun hc3 => ?_⟩
      · skip
        exact hQ _
      · skip
        refine v_X11_has ?_
        have f4 := ti_1
        have f5 := dAndE (x := (x1.toUInt32 >>> (x3.toUInt32 &&& Int32.toUInt32 31)).toInt32) (y := (1 : Int32)) (by decide)
        refine ⟨fun hc6 => ?_, fun hc6 => ?_⟩
        · skip
          have f7 := ti_0
          refine ⟨fun hc8 => ?_, fun hc8 => ?_⟩
          · skip
            have f9 := dAddE (X := x3.toInt) (Y := 1) (x := x3) (y := (1 : Int32)) rfl (by decide) (by omega) (by omega)
            exact ih _ _ _ (by omega) (by omega) (by omega)
          · skip
            exfalso; omega
        · skip
          refine ⟨fun hc7 => ?_, fun hc7 => ?_⟩
          · skip
            exfalso; omega
          · skip
            refine ⟨by omega, ?_⟩
            have f8 := dAddE (X := x3.toInt) (Y := 1) (x := x3) (y := (1 : Int32)) rfl (by decide) (by omega) (by omega)
            exact ih _ _ _ (by omega) (by omega) (by omega)
theorem s_X1_payOfAll_61 {g : gM} {x1 : Int32} {m : dM} {Q : Int32 → dM → Prop} (hG : Gd g) (hI : Inv g m) (h1 : 0 ≤ x1.toInt ∧ x1.toInt ≤ 255) (hQ : ∀ r : Int32, Q r m) : c_X1_payOfAll_61 2 x1 m Q := by
  refine v_X1_payOfAll_61 ?_
  have f1 := ti_0
  exact (s_X1_payOfAll_61_all hG hI hQ 10) _ _ _ (by omega) (by omega) (by omega)
theorem s_X1_bestTogether_61_47_all {g : gM} {Q : Int32 → dM → Prop} (hG : Gd g) (hQ : ∀ (r : Int32) (m' : dM), Inv g m' → (0 ≤ r.toInt ∧ r.toInt ≤ 255) → Q r m') : ∀ n : Nat, (∀ (x2 : Int32) (x3 : Int32) (x4 : Int32) (m : dM), Inv g m → (0 ≤ x4.toInt ∧ x4.toInt ≤ 8) → 520 - 1 * x4.toInt < (n : Int) → j_X1_bestTogether_61_47_17 6 x2 x3 x4 m Q) ∧ (∀ (x3 : Int32) (x4 : Int32) (x5 : Int32) (x6 : Int32) (m : dM), Inv g m → (0 ≤ x4.toInt ∧ x4.toInt ≤ 255) → (1 ≤ x6.toInt ∧ x6.toInt ≤ 256) → 513 - 2 * x6.toInt < (n : Int) → j_X1_bestTogether_61_47_89 6 x3 x4 x5 x6 m Q) ∧ (∀ (x3 : Int32) (x4 : Int32) (x5 : Int32) (x6 : Int32) (m : dM), Inv g m → (0 ≤ x4.toInt ∧ x4.toInt ≤ 255) → (1 ≤ x6.toInt ∧ x6.toInt ≤ 255) → 512 - 2 * x6.toInt < (n : Int) → j_X1_bestTogether_61_47_148 6 x3 x4 x5 x6 m Q) := by
  intro n
  induction n with
  | zero => exact ⟨fun x2 x3 x4 m hI h4 hμ => by exfalso; omega, fun x3 x4 x5 x6 m hI h4 h6 hμ => by exfalso; omega, fun x3 x4 x5 x6 m hI h4 h6 hμ => by exfalso; omega⟩
  | succ n ih =>
    refine ⟨?_, ?_, ?_⟩
    · intro x2 x3 x4 m hI h4 hμ
      refine v_X1_bestTogether_61_47_17 ?_
      have f1 := congrArg Int32.toInt (hI.2 2 2 rfl)
      have f2 := Inv.s hG hI (k := 2) (j := 2) rfl rfl
      refine ⟨fun hc3 => ?_, fun hc3 => ?_⟩
      · skip
        have f4 := ti_0
        have f5 := ti_1
        exact ih.2.1 _ _ _ _ _ hI (by omega) (by omega) (by omega)
      · skip
        refine Wp.deep (s_X0_payOf_54_47 hG hI (by omega) (fun R4 M4 I4 hr4 => ?_)) (Nat.le_of_ble_eq_true rfl)
        refine ⟨by omega, ?_⟩
        refine ⟨by omega, ?_⟩
        refine v_X11_has ?_
        have f5 := congrArg Int32.toInt (I4.2 2 2 rfl)
        have f6 := Inv.s hG I4 (k := 2) (j := 2) rfl rfl
        have f7 := Inv.home hG I4 (u := x4) (by omega) (by omega)
        have f8 := ti_1
        have f9 := dAndE (x := (x2.toUInt32 >>> ((M4.1 7 x4.toNatClampNeg).toUInt32 &&& Int32.toUInt32 31)).toInt32) (y := (1 : Int32)) (by decide)
        refine ⟨fun hc10 => ?_, fun hc10 => ?_⟩
        · skip
          have f11 := ti_0
          refine ⟨fun hc12 => ?_, fun hc12 => ?_⟩
          · skip
            have f13 := dAddE (X := x4.toInt) (Y := 1) (x := x4) (y := (1 : Int32)) rfl (by decide) (by omega) (by omega)
            have I14 : Inv g (dSet M4 66 x4.toNatClampNeg R4) := (Inv.setA I4 rfl)
            exact ih.1 _ _ _ _ I14 (by omega) (by omega)
          · skip
            exfalso; omega
        · skip
          refine ⟨fun hc11 => ?_, fun hc11 => ?_⟩
          · skip
            exfalso; omega
          · skip
            have f12 := dShl8 (x := x4) (by omega) (by omega)
            have f13 := dAddE (X := x4.toInt) (Y := 1) (x := x4) (y := (1 : Int32)) rfl (by decide) (by omega) (by omega)
            have I14 : Inv g (dSet M4 66 x4.toNatClampNeg R4) := (Inv.setA I4 rfl)
            exact ih.1 _ _ _ _ I14 (by omega) (by omega)
    · intro x3 x4 x5 x6 m hI h4 h6 hμ
      refine v_X1_bestTogether_61_47_89 ?_
      have f1 := congrArg Int32.toInt (hI.2 2 2 rfl)
      have f2 := Inv.s hG hI (k := 2) (j := 2) rfl rfl
      have f3 := dShl8 (x := (m.1 2 2)) (by omega) (by omega)
      refine ⟨fun hc4 => ?_, fun hc4 => ?_⟩
      · skip
        exact hQ _ _ hI (by omega)
      · skip
        refine ⟨fun hc5 => ?_, fun hc5 => ?_⟩
        · skip
          exact ih.2.2 _ _ _ _ _ hI (by omega) (by omega) (by omega)
        · skip
          refine Wp.deep (s_X1_payOfAll_61 hG hI (by omega) (fun R6 => ?_)) (Nat.le_of_ble_eq_true rfl)
          refine ⟨fun hc7 => ?_, fun hc7 => ?_⟩
          · skip
            exact ih.2.2 _ _ _ _ _ hI (by omega) (by omega) (by omega)
          · skip
            refine Wp.deep (s_X0_goingWith_54_47 hG hI (fun R8 M8 I8 => ?_)) (Nat.le_of_ble_eq_true rfl)
            refine ⟨fun hc9 => ?_, fun hc9 => ?_⟩
            · skip
              exact ih.2.2 _ _ _ _ _ I8 (by omega) (by omega) (by omega)
            · skip
              refine Wp.deep (s_X1_payOfAll_61 hG I8 (by omega) (fun R10 => ?_)) (Nat.le_of_ble_eq_true rfl)
              exact ih.2.2 _ _ _ _ _ I8 (by omega) (by omega) (by omega)
    · intro x3 x4 x5 x6 m hI h4 h6 hμ
      refine v_X1_bestTogether_61_47_148 ?_
      have f1 := dAddE (X := x6.toInt) (Y := 1) (x := x6) (y := (1 : Int32)) rfl (by decide) (by omega) (by omega)
      exact ih.2.1 _ _ _ _ _ hI (by omega) (by omega) (by omega)
theorem s_X1_bestTogether_61_47 {g : gM} {m : dM} {Q : Int32 → dM → Prop} (hG : Gd g) (hI : Inv g m) (hQ : ∀ (r : Int32) (m' : dM), Inv g m' → (0 ≤ r.toInt ∧ r.toInt ≤ 255) → Q r m') : c_X1_bestTogether_61_47 6 m Q := by
  refine v_X1_bestTogether_61_47 ?_
  refine Wp.deep (s_X0_waysNow_54_47 hG hI (fun M1 I1 => ?_)) (Nat.le_of_ble_eq_true rfl)
  have f2 := ti_0
  exact (s_X1_bestTogether_61_47_all hG hQ 522).1 _ _ _ _ I1 (by omega) (by omega)
theorem s_X11_together_0 {g : gM} {x1 : Int32} {m : dM} {Q : Int32 → dM → Prop} (hG : Gd g) (hI : Inv g m) (hQ : ∀ (r : Int32) (m' : dM), Inv g m' → Q r m') : c_X11_together_0 7 x1 m Q := by
  refine v_X11_together_0 ?_
  refine ⟨fun hc1 => ?_, fun hc1 => ?_⟩
  · skip
    refine v_X11_together_0_9 ?_
    have f2 := ti_m1
    exact hQ _ _ hI
  · skip
    refine ⟨fun hc2 => ?_, fun hc2 => ?_⟩
    · skip
      refine Wp.deep (s_X1_bestTogether_61_47 hG hI (fun R3 M3 I3 hr3 => ?_)) (Nat.le_of_ble_eq_true rfl)
      refine ⟨fun hc4 => ?_, fun hc4 => ?_⟩
      · skip
        exact hQ _ _ I3
      · skip
        refine Wp.deep (s_X1_payOfAll_61 hG I3 (by omega) (fun R5 => ?_)) (Nat.le_of_ble_eq_true rfl)
        exact hQ _ _ I3
    · skip
      refine v_X11_together_0_9 ?_
      have f3 := ti_m1
      exact hQ _ _ hI
theorem s_X12_usesLit_70_all {g : gM} {Q : Int32 → dM → Prop} {m : dM} (hG : Gd g) (hI : Inv g m) (hQ : ∀ r : Int32, Q r m) : ∀ n : Nat, (∀ (x1 : Int32) (x2 : Int32), (0 ≤ x2.toInt ∧ x2.toInt ≤ 8) → 17 - 2 * x2.toInt < (n : Int) → j_X12_usesLit_70_4 2 x1 x2 m Q) ∧ (∀ (x1 : Int32) (x2 : Int32), (0 ≤ x2.toInt ∧ x2.toInt ≤ 7) → 16 - 2 * x2.toInt < (n : Int) → j_X12_usesLit_70_35 2 x1 x2 m Q) := by
  intro n
  induction n with
  | zero => exact ⟨fun x1 x2 h2 hμ => by exfalso; omega, fun x1 x2 h2 hμ => by exfalso; omega⟩
  | succ n ih =>
    refine ⟨?_, ?_⟩
    · intro x1 x2 h2 hμ
      refine v_X12_usesLit_70_4 ?_
      have f1 := congrArg Int32.toInt (hI.2 70 18 rfl)
      have f2 := Inv.s hG hI (k := 70) (j := 18) rfl rfl
      refine ⟨by omega, ?_⟩
      have f3 := Inv.cnt86 hG hI
      have f4 := Inv.s hG hI (k := 86) (j := (m.1 70 18).toNatClampNeg) rfl rfl
      refine ⟨fun hc5 => ?_, fun hc5 => ?_⟩
      · skip
        exact hQ _
      · skip
        refine v_X12_flatAt_70 ?_
        have f6 := dMulE (X := 8) (Y := (m.1 70 18).toInt) (x := (8 : Int32)) (y := (m.1 70 18)) (by decide) rfl (by omega) (by omega)
        have f7 := dAddE (X := ((8 : Int32) * (m.1 70 18)).toInt) (Y := x2.toInt) (x := ((8 : Int32) * (m.1 70 18))) (y := x2) rfl rfl (by omega) (by omega)
        refine ⟨by omega, ?_⟩
        refine v_X12_isLit_70 ?_
        have f8 := Inv.flat hG hI (u := x2) (by omega) (by omega)
        refine ⟨by omega, ?_⟩
        refine ⟨fun hc9 => ?_, fun hc9 => ?_⟩
        · skip
          have f10 := ti_0
          refine ⟨fun hc11 => ?_, fun hc11 => ?_⟩
          · skip
            exact ih.2 _ _ (by omega) (by omega)
          · skip
            exfalso; omega
        · skip
          have f10 := ti_1
          refine ⟨fun hc11 => ?_, fun hc11 => ?_⟩
          · skip
            exfalso; omega
          · skip
            have f12 := dShl8 (x := x2) (by omega) (by omega)
            exact ih.2 _ _ (by omega) (by omega)
    · intro x1 x2 h2 hμ
      refine v_X12_usesLit_70_35 ?_
      have f1 := dAddE (X := x2.toInt) (Y := 1) (x := x2) (y := (1 : Int32)) rfl (by decide) (by omega) (by omega)
      exact ih.1 _ _ (by omega) (by omega)
theorem s_X12_usesLit_70 {g : gM} {m : dM} {Q : Int32 → dM → Prop} (hG : Gd g) (hI : Inv g m) (hQ : ∀ r : Int32, Q r m) : c_X12_usesLit_70 2 m Q := by
  refine v_X12_usesLit_70 ?_
  have f1 := ti_0
  exact (s_X12_usesLit_70_all hG hI hQ 19).1 _ _ (by omega) (by omega)
theorem s_X1_firstStart_61_47_all {g : gM} {Q : Int32 → dM → Prop} (hG : Gd g) (hQ : ∀ (r : Int32) (m' : dM), Inv g m' → Q r m') : ∀ n : Nat, (∀ (x2 : Int32) (x3 : Int32) (x4 : Int32) (x5 : Int32) (m : dM), Inv g m → (0 ≤ x2.toInt ∧ x2.toInt ≤ 7) → (0 ≤ x5.toInt ∧ x5.toInt ≤ 24) → 24 - 1 * x5.toInt < (n : Int) → j_X1_firstStart_61_47_28 5 x2 x3 x4 x5 m Q) := by
  intro n
  induction n with
  | zero => exact fun x2 x3 x4 x5 m hI h2 h5 hμ => by exfalso; omega
  | succ n ih =>
    · intro x2 x3 x4 x5 m hI h2 h5 hμ
      refine v_X1_firstStart_61_47_28 ?_
      refine ⟨fun hc1 => ?_, fun hc1 => ?_⟩
      · skip
        have f2 := ti_m2
        exact hQ _ _ hI
      · skip
        refine Wp.deep (s_X0_usesAt_54_47 hG hI (by omega) (fun R2 M2 I2 => ?_)) (Nat.le_of_ble_eq_true rfl)
        have f3 := dShl8 (x := x2) (by omega) (by omega)
        refine Wp.deep (s_X0_putOn_54_47 hG I2 (fun M4 I4 => ?_)) (Nat.le_of_ble_eq_true rfl)
        have f5 := ti_0
        refine Wp.deep (s_X0_going_54_47 hG I4 (by omega) (fun R6 M6 I6 => ?_)) (Nat.le_of_ble_eq_true rfl)
        refine ⟨fun hc7 => ?_, fun hc7 => ?_⟩
        · skip
          refine ⟨fun hc8 => ?_, fun hc8 => ?_⟩
          · skip
            have f9 := dAddE (X := x5.toInt) (Y := 1) (x := x5) (y := (1 : Int32)) rfl (by decide) (by omega) (by omega)
            exact ih _ _ _ _ _ I6 (by omega) (by omega) (by omega)
          · skip
            exact hQ _ _ I6
        · skip
          refine ⟨fun hc8 => ?_, fun hc8 => ?_⟩
          · skip
            have f9 := dAddE (X := x5.toInt) (Y := 1) (x := x5) (y := (1 : Int32)) rfl (by decide) (by omega) (by omega)
            exact ih _ _ _ _ _ I6 (by omega) (by omega) (by omega)
          · skip
            exact hQ _ _ I6
theorem s_X1_firstStart_61_47 {g : gM} {x2 : Int32} {m : dM} {Q : Int32 → dM → Prop} (hG : Gd g) (hI : Inv g m) (h2 : 0 ≤ x2.toInt ∧ x2.toInt ≤ 7) (hQ : ∀ (r : Int32) (m' : dM), Inv g m' → Q r m') : c_X1_firstStart_61_47 5 x2 m Q := by
  refine v_X1_firstStart_61_47 ?_
  refine ⟨by omega, ?_⟩
  refine ⟨by omega, ?_⟩
  have f1 := ti_0
  exact (s_X1_firstStart_61_47_all hG hQ 26) _ _ _ _ _ hI (by omega) (by omega) (by omega)
theorem s_X11_when_0 {g : gM} {x1 : Int32} {m : dM} {Q : Int32 → dM → Prop} (hG : Gd g) (hI : Inv g m) (hQ : ∀ (r : Int32) (m' : dM), Inv g m' → Q r m') : c_X11_when_0 6 x1 m Q := by
  refine v_X11_when_0 ?_
  refine v_X11_isUse_0 ?_
  refine ⟨fun hc1 => ?_, fun hc1 => ?_⟩
  · skip
    refine v_X11_isUse_0_19 ?_
    have f2 := ti_0
    refine ⟨fun hc3 => ?_, fun hc3 => ?_⟩
    · skip
      have f4 := ti_m1
      exact hQ _ _ hI
    · skip
      exfalso; omega
  · skip
    have f2 := congrArg Int32.toInt (hI.2 2 2 rfl)
    have f3 := Inv.s hG hI (k := 2) (j := 2) rfl rfl
    refine ⟨fun hc4 => ?_, fun hc4 => ?_⟩
    · skip
      refine v_X11_isUse_0_19 ?_
      have f5 := ti_0
      refine ⟨fun hc6 => ?_, fun hc6 => ?_⟩
      · skip
        have f7 := ti_m1
        exact hQ _ _ hI
      · skip
        exfalso; omega
    · skip
      have f5 := ti_1
      refine ⟨fun hc6 => ?_, fun hc6 => ?_⟩
      · skip
        exfalso; omega
      · skip
        refine Wp.deep (s_X1_firstStart_61_47 hG hI (by omega) (fun R7 M7 I7 => ?_)) (Nat.le_of_ble_eq_true rfl)
        exact hQ _ _ I7
theorem s_X1_bestThicker_61_47_all {g : gM} {Q : Int32 → dM → Prop} (hG : Gd g) (hQ : ∀ (r : Int32) (m' : dM), Inv g m' → (-2 ≤ r.toInt ∧ r.toInt ≤ 9) → Q r m') : ∀ n : Nat, (∀ (x2 : Int32) (x3 : Int32) (x4 : Int32) (x5 : Int32) (m : dM), Inv g m → (1 ≤ x2.toInt ∧ x2.toInt ≤ 20) → (1 ≤ x3.toInt ∧ x3.toInt ≤ 201) → (-2 ≤ x4.toInt ∧ x4.toInt ≤ 9) → (0 ≤ x5.toInt ∧ x5.toInt ≤ 10) → 22 - 2 * x5.toInt < (n : Int) → j_X1_bestThicker_61_47_20 7 x2 x3 x4 x5 m Q) ∧ (∀ (x2 : Int32) (x3 : Int32) (x4 : Int32) (x5 : Int32) (m : dM), Inv g m → (1 ≤ x2.toInt ∧ x2.toInt ≤ 20) → (1 ≤ x3.toInt ∧ x3.toInt ≤ 201) → (-2 ≤ x4.toInt ∧ x4.toInt ≤ 9) → (0 ≤ x5.toInt ∧ x5.toInt ≤ 9) → 21 - 2 * x5.toInt < (n : Int) → j_X1_bestThicker_61_47_105 7 x2 x3 x4 x5 m Q) ∧ (∀ (x4 : Int32) (m : dM), Inv g m → (-2 ≤ x4.toInt ∧ x4.toInt ≤ 9) → 0 < (n : Int) → j_X1_bestThicker_61_47_111 7 x4 m Q) := by
  intro n
  induction n with
  | zero => exact ⟨fun x2 x3 x4 x5 m hI h2 h3 h4 h5 hμ => by exfalso; omega, fun x2 x3 x4 x5 m hI h2 h3 h4 h5 hμ => by exfalso; omega, fun x4 m hI h4 hμ => by exfalso; omega⟩
  | succ n ih =>
    refine ⟨?_, ?_, ?_⟩
    · intro x2 x3 x4 x5 m hI h2 h3 h4 h5 hμ
      refine v_X1_bestThicker_61_47_20 ?_
      have f1 := congrArg Int32.toInt (hI.2 2 1 rfl)
      have f2 := Inv.s hG hI (k := 2) (j := 1) rfl rfl
      refine ⟨fun hc3 => ?_, fun hc3 => ?_⟩
      · skip
        exact ih.2.2 _ _ hI (by omega) (by omega)
      · skip
        refine ⟨fun hc4 => ?_, fun hc4 => ?_⟩
        · skip
          exact ih.2.2 _ _ hI (by omega) (by omega)
        · skip
          refine v_X11_has ?_
          have f5 := ti_1
          have f6 := dAndE (x := ((m.1 47 3).toUInt32 >>> (x5.toUInt32 &&& Int32.toUInt32 31)).toInt32) (y := (1 : Int32)) (by decide)
          refine ⟨fun hc7 => ?_, fun hc7 => ?_⟩
          · skip
            have f8 := ti_0
            refine ⟨fun hc9 => ?_, fun hc9 => ?_⟩
            · skip
              exfalso; omega
            · skip
              refine Wp.deep (s_X7_copy_62_47 hG hI (fun M10 I10 => ?_)) (Nat.le_of_ble_eq_true rfl)
              refine ⟨by omega, ?_⟩
              refine ⟨by omega, ?_⟩
              have I11 : Inv g (dSet M10 63 x5.toNatClampNeg (if ((M10.1 63 x5.toNatClampNeg) + x2) < (99 : Int32) then ((M10.1 63 x5.toNatClampNeg) + x2) else (99 : Int32))) := (Inv.setA I10 rfl)
              refine Wp.deep (s_X1_trialTillGone_61 hG I11 (fun R12 M12 I12 hr12 => ?_)) (Nat.le_of_ble_eq_true rfl)
              refine ⟨fun hc13 => ?_, fun hc13 => ?_⟩
              · skip
                exact ih.2.1 _ _ _ _ _ I12 (by omega) (by omega) (by omega) (by omega) (by omega)
              · skip
                exact ih.2.1 _ _ _ _ _ I12 (by omega) (by omega) (by omega) (by omega) (by omega)
          · skip
            refine ⟨fun hc8 => ?_, fun hc8 => ?_⟩
            · skip
              exact ih.2.1 _ _ _ _ _ hI (by omega) (by omega) (by omega) (by omega) (by omega)
            · skip
              exfalso; omega
    · intro x2 x3 x4 x5 m hI h2 h3 h4 h5 hμ
      refine v_X1_bestThicker_61_47_105 ?_
      have f1 := dAddE (X := x5.toInt) (Y := 1) (x := x5) (y := (1 : Int32)) rfl (by decide) (by omega) (by omega)
      exact ih.1 _ _ _ _ _ hI (by omega) (by omega) (by omega) (by omega) (by omega)
    · intro x4 m hI h4 hμ
      refine v_X1_bestThicker_61_47_111 ?_
      exact hQ _ _ hI (by omega)
theorem s_X1_bestThicker_61_47 {g : gM} {x2 : Int32} {m : dM} {Q : Int32 → dM → Prop} (hG : Gd g) (hI : Inv g m) (h2 : 1 ≤ x2.toInt ∧ x2.toInt ≤ 20) (hQ : ∀ (r : Int32) (m' : dM), Inv g m' → (-2 ≤ r.toInt ∧ r.toInt ≤ 9) → Q r m') : c_X1_bestThicker_61_47 7 x2 m Q := by
  refine v_X1_bestThicker_61_47 ?_
  refine Wp.deep (s_X7_copy_62_47 hG hI (fun M1 I1 => ?_)) (Nat.le_of_ble_eq_true rfl)
  refine Wp.deep (s_X1_trialTillGone_61 hG I1 (fun R2 M2 I2 hr2 => ?_)) (Nat.le_of_ble_eq_true rfl)
  have f3 := ti_m2
  have f4 := ti_0
  exact (s_X1_bestThicker_61_47_all hG hQ 24).1 _ _ _ _ _ I2 (by omega) (by omega) (by omega) (by omega) (by omega)
theorem s_X11_thick_0 {g : gM} {x1 : Int32} {m : dM} {Q : Int32 → dM → Prop} (hG : Gd g) (hI : Inv g m) (hQ : ∀ (r : Int32) (m' : dM), Inv g m' → (-2 ≤ r.toInt ∧ r.toInt ≤ 9) → Q r m') : c_X11_thick_0 8 x1 m Q := by
  refine v_X11_thick_0 ?_
  refine ⟨fun hc1 => ?_, fun hc1 => ?_⟩
  · skip
    refine v_X11_thick_0_11 ?_
    have f2 := ti_m1
    exact hQ _ _ hI (by omega)
  · skip
    refine ⟨fun hc2 => ?_, fun hc2 => ?_⟩
    · skip
      refine Wp.deep (s_X1_bestThicker_61_47 hG hI (by omega) (fun R3 M3 I3 hr3 => ?_)) (Nat.le_of_ble_eq_true rfl)
      exact hQ _ _ I3 (by omega)
    · skip
      refine v_X11_thick_0_11 ?_
      have f3 := ti_m1
      exact hQ _ _ hI (by omega)
theorem s_X3_litWithout_2_all {g : gM} {Q : Int32 → dM → Prop} {m : dM} (hG : Gd g) (hI : Inv g m) (hQ : ∀ r : Int32, Q r m) : ∀ n : Nat, (∀ (x1 : Int32) (x2 : Int32) (x3 : Int32), (1 ≤ x3.toInt ∧ x3.toInt ≤ 7) → 184 - 23 * x3.toInt < (n : Int) → j_X3_litWithout_2_15 2 x1 x2 x3 m Q) ∧ (∀ (x1 : Int32) (x2 : Int32) (x3 : Int32) (x4 : Int32) (x5 : Int32), (1 ≤ x3.toInt ∧ x3.toInt ≤ 6) → (0 ≤ x5.toInt ∧ x5.toInt ≤ 10) → 183 - 23 * x3.toInt - 2 * x5.toInt < (n : Int) → j_X3_litWithout_2_29 2 x1 x2 x3 x4 x5 m Q) ∧ (∀ (x1 : Int32) (x2 : Int32) (x3 : Int32) (x4 : Int32) (x5 : Int32), (1 ≤ x3.toInt ∧ x3.toInt ≤ 6) → (0 ≤ x5.toInt ∧ x5.toInt ≤ 9) → 182 - 23 * x3.toInt - 2 * x5.toInt < (n : Int) → j_X3_litWithout_2_67 2 x1 x2 x3 x4 x5 m Q) ∧ (∀ (x2 : Int32), 0 < (n : Int) → j_X3_litWithout_2_88 2 x2 m Q) := by
  intro n
  induction n with
  | zero => exact ⟨fun x1 x2 x3 h3 hμ => by exfalso; omega, fun x1 x2 x3 x4 x5 h3 h5 hμ => by exfalso; omega, fun x1 x2 x3 x4 x5 h3 h5 hμ => by exfalso; omega, fun x2 hμ => by exfalso; omega⟩
  | succ n ih =>
    refine ⟨?_, ?_, ?_, ?_⟩
    · intro x1 x2 x3 h3 hμ
      refine v_X3_litWithout_2_15 ?_
      have f1 := congrArg Int32.toInt (hI.2 2 0 rfl)
      have f2 := Inv.s hG hI (k := 2) (j := 0) rfl rfl
      refine ⟨fun hc3 => ?_, fun hc3 => ?_⟩
      · skip
        exact ih.2.2.2 _ (by omega)
      · skip
        have f4 := ti_0
        exact ih.2.1 _ _ _ _ _ (by omega) (by omega) (by omega)
    · intro x1 x2 x3 x4 x5 h3 h5 hμ
      refine v_X3_litWithout_2_29 ?_
      have f1 := congrArg Int32.toInt (hI.2 2 1 rfl)
      have f2 := Inv.s hG hI (k := 2) (j := 1) rfl rfl
      refine ⟨fun hc3 => ?_, fun hc3 => ?_⟩
      · skip
        refine ⟨fun hc4 => ?_, fun hc4 => ?_⟩
        · skip
          have f5 := dAddE (X := x3.toInt) (Y := 1) (x := x3) (y := (1 : Int32)) rfl (by decide) (by omega) (by omega)
          exact ih.1 _ _ _ (by omega) (by omega)
        · skip
          exact ih.2.2.2 _ (by omega)
      · skip
        refine v_X3_endsOf_2 ?_
        refine ⟨by omega, ?_⟩
        refine ⟨by omega, ?_⟩
        refine v_X11_has ?_
        have f4 := ti_1
        have f5 := dAndE (x := (x1.toUInt32 >>> (x5.toUInt32 &&& Int32.toUInt32 31)).toInt32) (y := (1 : Int32)) (by decide)
        refine ⟨fun hc6 => ?_, fun hc6 => ?_⟩
        · skip
          have f7 := ti_0
          refine ⟨fun hc8 => ?_, fun hc8 => ?_⟩
          · skip
            exfalso; omega
          · skip
            have f9 := Inv.s hG hI (k := 4) (j := x5.toNatClampNeg) rfl rfl
            have f10 := dShl8 (x := (m.1 4 x5.toNatClampNeg)) (by omega) (by omega)
            have f11 := Inv.s hG hI (k := 5) (j := x5.toNatClampNeg) rfl rfl
            have f12 := dShl8 (x := (m.1 5 x5.toNatClampNeg)) (by omega) (by omega)
            refine ⟨fun hc13 => ?_, fun hc13 => ?_⟩
            · skip
              exact ih.2.2.1 _ _ _ _ _ (by omega) (by omega) (by omega)
            · skip
              exact ih.2.2.1 _ _ _ _ _ (by omega) (by omega) (by omega)
        · skip
          refine ⟨fun hc7 => ?_, fun hc7 => ?_⟩
          · skip
            exact ih.2.2.1 _ _ _ _ _ (by omega) (by omega) (by omega)
          · skip
            exfalso; omega
    · intro x1 x2 x3 x4 x5 h3 h5 hμ
      refine v_X3_litWithout_2_67 ?_
      have f1 := dAddE (X := x5.toInt) (Y := 1) (x := x5) (y := (1 : Int32)) rfl (by decide) (by omega) (by omega)
      exact ih.2.1 _ _ _ _ _ (by omega) (by omega) (by omega)
    · intro x2 hμ
      refine v_X3_litWithout_2_88 ?_
      exact hQ _
theorem s_X3_litWithout_2 {g : gM} {x1 : Int32} {m : dM} {Q : Int32 → dM → Prop} (hG : Gd g) (hI : Inv g m) (hQ : ∀ r : Int32, Q r m) : c_X3_litWithout_2 2 x1 m Q := by
  refine v_X3_litWithout_2 ?_
  have f1 := congrArg Int32.toInt (hI.2 2 0 rfl)
  have f2 := Inv.s hG hI (k := 2) (j := 0) rfl rfl
  refine ⟨fun hc3 => ?_, fun hc3 => ?_⟩
  · skip
    have f4 := ti_0
    have f5 := ti_1
    exact (s_X3_litWithout_2_all hG hI hQ 163).1 _ _ _ (by omega) (by omega)
  · skip
    have f4 := ti_1
    exact (s_X3_litWithout_2_all hG hI hQ 163).1 _ _ _ (by omega) (by omega)
theorem s_J6_bitCount {g : gM} {x0 : Int32} {m : dM} {Q : Int32 → dM → Prop} (hG : Gd g) (hI : Inv g m) (hQ : ∀ r : Int32, (0 ≤ r.toInt ∧ r.toInt ≤ 63) → Q r m) : c_J6_bitCount 1 x0 m Q := by
  refine v_J6_bitCount ?_
  have f1 := ti_1431655765
  have f2 := dAndE (x := (x0.toUInt32 >>> ((1 : Int32).toUInt32 &&& Int32.toUInt32 31)).toInt32) (y := (1431655765 : Int32)) (by decide)
  have f3 := ti_858993459
  have f4 := dAndE (x := (x0 - ((x0.toUInt32 >>> ((1 : Int32).toUInt32 &&& Int32.toUInt32 31)).toInt32 &&& (1431655765 : Int32)))) (y := (858993459 : Int32)) (by decide)
  have f5 := dAndE (x := ((x0 - ((x0.toUInt32 >>> ((1 : Int32).toUInt32 &&& Int32.toUInt32 31)).toInt32 &&& (1431655765 : Int32))).toUInt32 >>> ((2 : Int32).toUInt32 &&& Int32.toUInt32 31)).toInt32) (y := (858993459 : Int32)) (by decide)
  have f6 := dAddE (X := ((x0 - ((x0.toUInt32 >>> ((1 : Int32).toUInt32 &&& Int32.toUInt32 31)).toInt32 &&& (1431655765 : Int32))) &&& (858993459 : Int32)).toInt) (Y := (((x0 - ((x0.toUInt32 >>> ((1 : Int32).toUInt32 &&& Int32.toUInt32 31)).toInt32 &&& (1431655765 : Int32))).toUInt32 >>> ((2 : Int32).toUInt32 &&& Int32.toUInt32 31)).toInt32 &&& (858993459 : Int32)).toInt) (x := ((x0 - ((x0.toUInt32 >>> ((1 : Int32).toUInt32 &&& Int32.toUInt32 31)).toInt32 &&& (1431655765 : Int32))) &&& (858993459 : Int32))) (y := (((x0 - ((x0.toUInt32 >>> ((1 : Int32).toUInt32 &&& Int32.toUInt32 31)).toInt32 &&& (1431655765 : Int32))).toUInt32 >>> ((2 : Int32).toUInt32 &&& Int32.toUInt32 31)).toInt32 &&& (858993459 : Int32))) rfl rfl (by omega) (by omega)
  have f7 := ti_252645135
  have f8 := dAndE (x := ((((x0 - ((x0.toUInt32 >>> ((1 : Int32).toUInt32 &&& Int32.toUInt32 31)).toInt32 &&& (1431655765 : Int32))) &&& (858993459 : Int32)) + (((x0 - ((x0.toUInt32 >>> ((1 : Int32).toUInt32 &&& Int32.toUInt32 31)).toInt32 &&& (1431655765 : Int32))).toUInt32 >>> ((2 : Int32).toUInt32 &&& Int32.toUInt32 31)).toInt32 &&& (858993459 : Int32))) + ((((x0 - ((x0.toUInt32 >>> ((1 : Int32).toUInt32 &&& Int32.toUInt32 31)).toInt32 &&& (1431655765 : Int32))) &&& (858993459 : Int32)) + (((x0 - ((x0.toUInt32 >>> ((1 : Int32).toUInt32 &&& Int32.toUInt32 31)).toInt32 &&& (1431655765 : Int32))).toUInt32 >>> ((2 : Int32).toUInt32 &&& Int32.toUInt32 31)).toInt32 &&& (858993459 : Int32))).toUInt32 >>> ((4 : Int32).toUInt32 &&& Int32.toUInt32 31)).toInt32)) (y := (252645135 : Int32)) (by decide)
  have f9 := ti_63
  have f10 := dAndE (x := (((((((x0 - ((x0.toUInt32 >>> ((1 : Int32).toUInt32 &&& Int32.toUInt32 31)).toInt32 &&& (1431655765 : Int32))) &&& (858993459 : Int32)) + (((x0 - ((x0.toUInt32 >>> ((1 : Int32).toUInt32 &&& Int32.toUInt32 31)).toInt32 &&& (1431655765 : Int32))).toUInt32 >>> ((2 : Int32).toUInt32 &&& Int32.toUInt32 31)).toInt32 &&& (858993459 : Int32))) + ((((x0 - ((x0.toUInt32 >>> ((1 : Int32).toUInt32 &&& Int32.toUInt32 31)).toInt32 &&& (1431655765 : Int32))) &&& (858993459 : Int32)) + (((x0 - ((x0.toUInt32 >>> ((1 : Int32).toUInt32 &&& Int32.toUInt32 31)).toInt32 &&& (1431655765 : Int32))).toUInt32 >>> ((2 : Int32).toUInt32 &&& Int32.toUInt32 31)).toInt32 &&& (858993459 : Int32))).toUInt32 >>> ((4 : Int32).toUInt32 &&& Int32.toUInt32 31)).toInt32) &&& (252645135 : Int32)) + ((((((x0 - ((x0.toUInt32 >>> ((1 : Int32).toUInt32 &&& Int32.toUInt32 31)).toInt32 &&& (1431655765 : Int32))) &&& (858993459 : Int32)) + (((x0 - ((x0.toUInt32 >>> ((1 : Int32).toUInt32 &&& Int32.toUInt32 31)).toInt32 &&& (1431655765 : Int32))).toUInt32 >>> ((2 : Int32).toUInt32 &&& Int32.toUInt32 31)).toInt32 &&& (858993459 : Int32))) + ((((x0 - ((x0.toUInt32 >>> ((1 : Int32).toUInt32 &&& Int32.toUInt32 31)).toInt32 &&& (1431655765 : Int32))) &&& (858993459 : Int32)) + (((x0 - ((x0.toUInt32 >>> ((1 : Int32).toUInt32 &&& Int32.toUInt32 31)).toInt32 &&& (1431655765 : Int32))).toUInt32 >>> ((2 : Int32).toUInt32 &&& Int32.toUInt32 31)).toInt32 &&& (858993459 : Int32))).toUInt32 >>> ((4 : Int32).toUInt32 &&& Int32.toUInt32 31)).toInt32) &&& (252645135 : Int32)).toUInt32 >>> ((8 : Int32).toUInt32 &&& Int32.toUInt32 31)).toInt32) + (((((((x0 - ((x0.toUInt32 >>> ((1 : Int32).toUInt32 &&& Int32.toUInt32 31)).toInt32 &&& (1431655765 : Int32))) &&& (858993459 : Int32)) + (((x0 - ((x0.toUInt32 >>> ((1 : Int32).toUInt32 &&& Int32.toUInt32 31)).toInt32 &&& (1431655765 : Int32))).toUInt32 >>> ((2 : Int32).toUInt32 &&& Int32.toUInt32 31)).toInt32 &&& (858993459 : Int32))) + ((((x0 - ((x0.toUInt32 >>> ((1 : Int32).toUInt32 &&& Int32.toUInt32 31)).toInt32 &&& (1431655765 : Int32))) &&& (858993459 : Int32)) + (((x0 - ((x0.toUInt32 >>> ((1 : Int32).toUInt32 &&& Int32.toUInt32 31)).toInt32 &&& (1431655765 : Int32))).toUInt32 >>> ((2 : Int32).toUInt32 &&& Int32.toUInt32 31)).toInt32 &&& (858993459 : Int32))).toUInt32 >>> ((4 : Int32).toUInt32 &&& Int32.toUInt32 31)).toInt32) &&& (252645135 : Int32)) + ((((((x0 - ((x0.toUInt32 >>> ((1 : Int32).toUInt32 &&& Int32.toUInt32 31)).toInt32 &&& (1431655765 : Int32))) &&& (858993459 : Int32)) + (((x0 - ((x0.toUInt32 >>> ((1 : Int32).toUInt32 &&& Int32.toUInt32 31)).toInt32 &&& (1431655765 : Int32))).toUInt32 >>> ((2 : Int32).toUInt32 &&& Int32.toUInt32 31)).toInt32 &&& (858993459 : Int32))) + ((((x0 - ((x0.toUInt32 >>> ((1 : Int32).toUInt32 &&& Int32.toUInt32 31)).toInt32 &&& (1431655765 : Int32))) &&& (858993459 : Int32)) + (((x0 - ((x0.toUInt32 >>> ((1 : Int32).toUInt32 &&& Int32.toUInt32 31)).toInt32 &&& (1431655765 : Int32))).toUInt32 >>> ((2 : Int32).toUInt32 &&& Int32.toUInt32 31)).toInt32 &&& (858993459 : Int32))).toUInt32 >>> ((4 : Int32).toUInt32 &&& Int32.toUInt32 31)).toInt32) &&& (252645135 : Int32)).toUInt32 >>> ((8 : Int32).toUInt32 &&& Int32.toUInt32 31)).toInt32).toUInt32 >>> ((16 : Int32).toUInt32 &&& Int32.toUInt32 31)).toInt32)) (y := (63 : Int32)) (by decide)
  exact hQ _ (by omega)
theorem s_X12_goneBits_70_all {g : gM} {Q : Int32 → dM → Prop} {m : dM} (hG : Gd g) (hI : Inv g m) (hQ : ∀ r : Int32, Q r m) : ∀ n : Nat, (∀ (x1 : Int32) (x2 : Int32), (0 ≤ x2.toInt ∧ x2.toInt ≤ 10) → 21 - 2 * x2.toInt < (n : Int) → j_X12_goneBits_70_4 1 x1 x2 m Q) ∧ (∀ (x1 : Int32) (x2 : Int32), (0 ≤ x2.toInt ∧ x2.toInt ≤ 9) → 20 - 2 * x2.toInt < (n : Int) → j_X12_goneBits_70_36 1 x1 x2 m Q) := by
  intro n
  induction n with
  | zero => exact ⟨fun x1 x2 h2 hμ => by exfalso; omega, fun x1 x2 h2 hμ => by exfalso; omega⟩
  | succ n ih =>
    refine ⟨?_, ?_⟩
    · intro x1 x2 h2 hμ
      refine v_X12_goneBits_70_4 ?_
      have f1 := congrArg Int32.toInt (hI.2 70 18 rfl)
      have f2 := Inv.s hG hI (k := 70) (j := 18) rfl rfl
      refine ⟨by omega, ?_⟩
      have f3 := Inv.cnt82 hG hI
      have f4 := Inv.s hG hI (k := 82) (j := (m.1 70 18).toNatClampNeg) rfl rfl
      refine ⟨fun hc5 => ?_, fun hc5 => ?_⟩
      · skip
        exact hQ _
      · skip
        have f6 := dAddE (X := 10) (Y := x2.toInt) (x := (10 : Int32)) (y := x2) (by decide) rfl (by omega) (by omega)
        refine ⟨by omega, ?_⟩
        refine ⟨fun hc7 => ?_, fun hc7 => ?_⟩
        · skip
          exact ih.2 _ _ (by omega) (by omega)
        · skip
          have f8 := dShl10 (x := x2) (by omega) (by omega)
          exact ih.2 _ _ (by omega) (by omega)
    · intro x1 x2 h2 hμ
      refine v_X12_goneBits_70_36 ?_
      have f1 := dAddE (X := x2.toInt) (Y := 1) (x := x2) (y := (1 : Int32)) rfl (by decide) (by omega) (by omega)
      exact ih.1 _ _ (by omega) (by omega)
theorem s_X12_goneBits_70 {g : gM} {m : dM} {Q : Int32 → dM → Prop} (hG : Gd g) (hI : Inv g m) (hQ : ∀ r : Int32, Q r m) : c_X12_goneBits_70 1 m Q := by
  refine v_X12_goneBits_70 ?_
  have f1 := ti_0
  exact (s_X12_goneBits_70_all hG hI hQ 23).1 _ _ (by omega) (by omega)
theorem s_X12_ithOf_all {g : gM} {Q : Int32 → dM → Prop} {m : dM} (hG : Gd g) (hI : Inv g m) (hQ : ∀ r : Int32, (-1 ≤ r.toInt ∧ r.toInt ≤ 9) → Q r m) : ∀ n : Nat, (∀ (x0 : Int32) (x1 : Int32) (x2 : Int32) (x3 : Int32), (0 ≤ x0.toInt ∧ x0.toInt ≤ 1023) → (0 ≤ x1.toInt ∧ x1.toInt ≤ 2) → (0 ≤ x3.toInt ∧ x3.toInt ≤ 10) → 21 - 2 * x3.toInt < (n : Int) → j_X12_ithOf_4 1 x0 x1 x2 x3 m Q) ∧ (∀ (x0 : Int32) (x1 : Int32) (x2 : Int32) (x3 : Int32), (0 ≤ x0.toInt ∧ x0.toInt ≤ 1023) → (0 ≤ x1.toInt ∧ x1.toInt ≤ 2) → (0 ≤ x3.toInt ∧ x3.toInt ≤ 9) → 20 - 2 * x3.toInt < (n : Int) → j_X12_ithOf_31 1 x0 x1 x2 x3 m Q) := by
  intro n
  induction n with
  | zero => exact ⟨fun x0 x1 x2 x3 h0 h1 h3 hμ => by exfalso; omega, fun x0 x1 x2 x3 h0 h1 h3 hμ => by exfalso; omega⟩
  | succ n ih =>
    refine ⟨?_, ?_⟩
    · intro x0 x1 x2 x3 h0 h1 h3 hμ
      refine v_X12_ithOf_4 ?_
      refine ⟨fun hc1 => ?_, fun hc1 => ?_⟩
      · skip
        have f2 := ti_m1
        exact hQ _ (by omega)
      · skip
        have f2 := ti_1
        have f3 := dAndE (x := (x0 >>> (x3 &&& 31))) (y := (1 : Int32)) (by decide)
        refine ⟨fun hc4 => ?_, fun hc4 => ?_⟩
        · skip
          refine ⟨fun hc5 => ?_, fun hc5 => ?_⟩
          · skip
            exact ih.2 _ _ _ _ (by omega) (by omega) (by omega) (by omega)
          · skip
            exact hQ _ (by omega)
        · skip
          exact ih.2 _ _ _ _ (by omega) (by omega) (by omega) (by omega)
    · intro x0 x1 x2 x3 h0 h1 h3 hμ
      refine v_X12_ithOf_31 ?_
      have f1 := dAddE (X := x3.toInt) (Y := 1) (x := x3) (y := (1 : Int32)) rfl (by decide) (by omega) (by omega)
      exact ih.1 _ _ _ _ (by omega) (by omega) (by omega) (by omega)
theorem s_X12_ithOf {g : gM} {x0 : Int32} {x1 : Int32} {m : dM} {Q : Int32 → dM → Prop} (hG : Gd g) (hI : Inv g m) (h0 : 0 ≤ x0.toInt ∧ x0.toInt ≤ 1023) (h1 : 0 ≤ x1.toInt ∧ x1.toInt ≤ 2) (hQ : ∀ r : Int32, (-1 ≤ r.toInt ∧ r.toInt ≤ 9) → Q r m) : c_X12_ithOf 1 x0 x1 m Q := by
  refine v_X12_ithOf ?_
  have f1 := ti_0
  exact (s_X12_ithOf_all hG hI hQ 23).1 _ _ _ _ (by omega) (by omega) (by omega) (by omega)
theorem s_X12_bits_all {g : gM} {Q : Int32 → dM → Prop} {m : dM} (hG : Gd g) (hI : Inv g m) (hQ : ∀ r : Int32, Q r m) : ∀ n : Nat, (∀ (x0 : Int32) (x1 : Int32) (x2 : Int32), (0 ≤ x2.toInt ∧ x2.toInt ≤ 10) → 10 - 1 * x2.toInt < (n : Int) → j_X12_bits_4 1 x0 x1 x2 m Q) := by
  intro n
  induction n with
  | zero => exact fun x0 x1 x2 h2 hμ => by exfalso; omega
  | succ n ih =>
    · intro x0 x1 x2 h2 hμ
      refine v_X12_bits_4 ?_
      refine ⟨fun hc1 => ?_, fun hc1 => ?_⟩
      · skip
        exact hQ _
      · skip
        have f2 := ti_1
        have f3 := dAndE (x := (x0 >>> (x2 &&& 31))) (y := (1 : Int32)) (by decide)
        have f4 := dAddE (X := x2.toInt) (Y := 1) (x := x2) (y := (1 : Int32)) rfl (by decide) (by omega) (by omega)
        exact ih _ _ _ (by omega) (by omega)
theorem s_X12_bits {g : gM} {x0 : Int32} {m : dM} {Q : Int32 → dM → Prop} (hG : Gd g) (hI : Inv g m) (hQ : ∀ r : Int32, Q r m) : c_X12_bits 1 x0 m Q := by
  refine v_X12_bits ?_
  have f1 := ti_0
  exact (s_X12_bits_all hG hI hQ 12) _ _ _ (by omega) (by omega)
theorem s_X12_isEarlier_all {g : gM} {Q : Int32 → dM → Prop} {m : dM} (hG : Gd g) (hI : Inv g m) (hQ : ∀ r : Int32, (0 ≤ r.toInt ∧ r.toInt ≤ 1) → Q r m) : ∀ n : Nat, (∀ (x0 : Int32) (x1 : Int32) (x2 : Int32), (0 ≤ x0.toInt ∧ x0.toInt ≤ 1023) → (0 ≤ x1.toInt ∧ x1.toInt ≤ 1023) → (0 ≤ x2.toInt ∧ x2.toInt ≤ 3) → 3 - 1 * x2.toInt < (n : Int) → j_X12_isEarlier_2 2 x0 x1 x2 m Q) := by
  intro n
  induction n with
  | zero => exact fun x0 x1 x2 h0 h1 h2 hμ => by exfalso; omega
  | succ n ih =>
    · intro x0 x1 x2 h0 h1 h2 hμ
      refine v_X12_isEarlier_2 ?_
      refine ⟨fun hc1 => ?_, fun hc1 => ?_⟩
      · skip
        have f2 := ti_0
        exact hQ _ (by omega)
      · skip
        refine Wp.deep (s_X12_ithOf hG hI (by omega) (by omega) (fun R2 hr2 => ?_)) (Nat.le_of_ble_eq_true rfl)
        refine Wp.deep (s_X12_ithOf hG hI (by omega) (by omega) (fun R3 hr3 => ?_)) (Nat.le_of_ble_eq_true rfl)
        refine ⟨fun hc4 => ?_, fun hc4 => ?_⟩
        · skip
          have f5 := dAddE (X := x2.toInt) (Y := 1) (x := x2) (y := (1 : Int32)) rfl (by decide) (by omega) (by omega)
          exact ih _ _ _ (by omega) (by omega) (by omega) (by omega)
        · skip
          refine Wp.deep (s_X12_ithOf hG hI (by omega) (by omega) (fun R5 hr5 => ?_)) (Nat.le_of_ble_eq_true rfl)
          refine Wp.deep (s_X12_ithOf hG hI (by omega) (by omega) (fun R6 hr6 => ?_)) (Nat.le_of_ble_eq_true rfl)
          refine ⟨fun hc7 => ?_, fun hc7 => ?_⟩
          · skip
            have f8 := ti_0
            exact hQ _ (by omega)
          · skip
            have f8 := ti_1
            exact hQ _ (by omega)
theorem s_X12_isEarlier {g : gM} {x0 : Int32} {x1 : Int32} {m : dM} {Q : Int32 → dM → Prop} (hG : Gd g) (hI : Inv g m) (h0 : 0 ≤ x0.toInt ∧ x0.toInt ≤ 1023) (h1 : 0 ≤ x1.toInt ∧ x1.toInt ≤ 1023) (hQ : ∀ r : Int32, (0 ≤ r.toInt ∧ r.toInt ≤ 1) → Q r m) : c_X12_isEarlier 2 x0 x1 m Q := by
  refine v_X12_isEarlier ?_
  have f1 := ti_0
  exact (s_X12_isEarlier_all hG hI hQ 5) _ _ _ (by omega) (by omega) (by omega) (by omega)
theorem s_X11_share_0 {g : gM} {x1 : Int32} {x2 : Int32} {m : dM} {Q : Int32 → dM → Prop} (hG : Gd g) (hI : Inv g m) (hQ : ∀ (r : Int32) (m' : dM), Inv g m' → Q r m') : c_X11_share_0 5 x1 x2 m Q := by
  refine v_X11_share_0 ?_
  refine v_X11_isFlat_0 ?_
  refine ⟨fun hc1 => ?_, fun hc1 => ?_⟩
  · skip
    refine v_X11_isFlat_0_19 ?_
    have f2 := ti_0
    refine ⟨fun hc3 => ?_, fun hc3 => ?_⟩
    · skip
      refine v_X11_share_0_16 ?_
      have f4 := ti_m1
      exact hQ _ _ hI
    · skip
      exfalso; omega
  · skip
    have f2 := congrArg Int32.toInt (hI.2 2 0 rfl)
    have f3 := Inv.s hG hI (k := 2) (j := 0) rfl rfl
    refine ⟨fun hc4 => ?_, fun hc4 => ?_⟩
    · skip
      refine v_X11_isFlat_0_19 ?_
      have f5 := ti_0
      refine ⟨fun hc6 => ?_, fun hc6 => ?_⟩
      · skip
        refine v_X11_share_0_16 ?_
        have f7 := ti_m1
        exact hQ _ _ hI
      · skip
        exfalso; omega
    · skip
      have f5 := ti_1
      refine ⟨fun hc6 => ?_, fun hc6 => ?_⟩
      · skip
        exfalso; omega
      · skip
        refine v_X11_isWire_0 ?_
        refine ⟨fun hc7 => ?_, fun hc7 => ?_⟩
        · skip
          refine v_X11_isWire_0_19 ?_
          have f8 := ti_0
          refine ⟨fun hc9 => ?_, fun hc9 => ?_⟩
          · skip
            exfalso; omega
          · skip
            refine v_X11_share_0_16 ?_
            have f10 := ti_m1
            exact hQ _ _ hI
        · skip
          have f8 := congrArg Int32.toInt (hI.2 2 1 rfl)
          have f9 := Inv.s hG hI (k := 2) (j := 1) rfl rfl
          refine ⟨fun hc10 => ?_, fun hc10 => ?_⟩
          · skip
            refine v_X11_isWire_0_19 ?_
            have f11 := ti_0
            refine ⟨fun hc12 => ?_, fun hc12 => ?_⟩
            · skip
              exfalso; omega
            · skip
              refine v_X11_share_0_16 ?_
              have f13 := ti_m1
              exact hQ _ _ hI
          · skip
            refine ⟨fun hc11 => ?_, fun hc11 => ?_⟩
            · skip
              refine Wp.deep (s_X0_waysNow_54_47 hG hI (fun M12 I12 => ?_)) (Nat.le_of_ble_eq_true rfl)
              refine ⟨by omega, ?_⟩
              refine v_X11_has ?_
              have f13 := dAndE (x := ((M12.1 60 x1.toNatClampNeg).toUInt32 >>> (x2.toUInt32 &&& Int32.toUInt32 31)).toInt32) (y := (1 : Int32)) (by decide)
              refine ⟨fun hc14 => ?_, fun hc14 => ?_⟩
              · skip
                have f15 := ti_0
                refine ⟨fun hc16 => ?_, fun hc16 => ?_⟩
                · skip
                  exact hQ _ _ I12
                · skip
                  exfalso; omega
              · skip
                refine ⟨fun hc15 => ?_, fun hc15 => ?_⟩
                · skip
                  exfalso; omega
                · skip
                  refine Wp.deep (s_X0_usesNow_54_47 hG I12 (fun R16 M16 I16 => ?_)) (Nat.le_of_ble_eq_true rfl)
                  refine Wp.deep (s_X0_ampsOf_54 hG I16 (by omega) (fun R17 => ?_)) (Nat.le_of_ble_eq_true rfl)
                  exact hQ _ _ I16
            · skip
              exfalso; omega
theorem s_X11_without_0 {g : gM} {x1 : Int32} {m : dM} {Q : Int32 → dM → Prop} (hG : Gd g) (hI : Inv g m) (hQ : ∀ r : Int32, Q r m) : c_X11_without_0 3 x1 m Q := by
  refine v_X11_without_0 ?_
  refine v_X11_isWire_0 ?_
  refine ⟨fun hc1 => ?_, fun hc1 => ?_⟩
  · skip
    refine v_X11_isWire_0_19 ?_
    have f2 := ti_0
    refine ⟨fun hc3 => ?_, fun hc3 => ?_⟩
    · skip
      have f4 := ti_m1
      exact hQ _
    · skip
      exfalso; omega
  · skip
    have f2 := congrArg Int32.toInt (hI.2 2 1 rfl)
    have f3 := Inv.s hG hI (k := 2) (j := 1) rfl rfl
    refine ⟨fun hc4 => ?_, fun hc4 => ?_⟩
    · skip
      refine v_X11_isWire_0_19 ?_
      have f5 := ti_0
      refine ⟨fun hc6 => ?_, fun hc6 => ?_⟩
      · skip
        have f7 := ti_m1
        exact hQ _
      · skip
        exfalso; omega
    · skip
      have f5 := ti_1
      refine ⟨fun hc6 => ?_, fun hc6 => ?_⟩
      · skip
        exfalso; omega
      · skip
        refine v_X3_allFlats_2 ?_
        have f7 := dShl10 (x := x1) (by omega) (by omega)
        refine Wp.deep (s_X3_litWithout_2 hG hI (fun R8 => ?_)) (Nat.le_of_ble_eq_true rfl)
        have f9 := congrArg Int32.toInt (hI.2 2 0 rfl)
        have f10 := Inv.s hG hI (k := 2) (j := 0) rfl rfl
        have f11 := dShl8 (x := (m.1 2 0)) (by omega) (by omega)
        have f12 := dSubE (X := ((1 : Int32) <<< ((m.1 2 0) &&& 31)).toInt) (Y := 1) (x := ((1 : Int32) <<< ((m.1 2 0) &&& 31))) (y := (1 : Int32)) rfl (by decide) (by omega) (by omega)
        exact hQ _
theorem s_X12_litBits_70_all {g : gM} {Q : Int32 → dM → Prop} {m : dM} (hG : Gd g) (hI : Inv g m) (hQ : ∀ r : Int32, Q r m) : ∀ n : Nat, (∀ (x1 : Int32) (x2 : Int32), (0 ≤ x2.toInt ∧ x2.toInt ≤ 7) → 15 - 2 * x2.toInt < (n : Int) → j_X12_litBits_70_4 2 x1 x2 m Q) ∧ (∀ (x1 : Int32) (x2 : Int32), (0 ≤ x2.toInt ∧ x2.toInt ≤ 6) → 14 - 2 * x2.toInt < (n : Int) → j_X12_litBits_70_31 2 x1 x2 m Q) := by
  intro n
  induction n with
  | zero => exact ⟨fun x1 x2 h2 hμ => by exfalso; omega, fun x1 x2 h2 hμ => by exfalso; omega⟩
  | succ n ih =>
    refine ⟨?_, ?_⟩
    · intro x1 x2 h2 hμ
      refine v_X12_litBits_70_4 ?_
      have f1 := congrArg Int32.toInt (hI.2 70 18 rfl)
      have f2 := Inv.s hG hI (k := 70) (j := 18) rfl rfl
      refine ⟨by omega, ?_⟩
      have f3 := Inv.cnt80 hG hI
      have f4 := Inv.s hG hI (k := 80) (j := (m.1 70 18).toNatClampNeg) rfl rfl
      refine ⟨fun hc5 => ?_, fun hc5 => ?_⟩
      · skip
        exact hQ _
      · skip
        refine v_X12_isLit_70 ?_
        refine ⟨by omega, ?_⟩
        refine ⟨fun hc6 => ?_, fun hc6 => ?_⟩
        · skip
          have f7 := ti_0
          refine ⟨fun hc8 => ?_, fun hc8 => ?_⟩
          · skip
            exact ih.2 _ _ (by omega) (by omega)
          · skip
            exfalso; omega
        · skip
          have f7 := ti_1
          refine ⟨fun hc8 => ?_, fun hc8 => ?_⟩
          · skip
            exfalso; omega
          · skip
            have f9 := dShl8 (x := x2) (by omega) (by omega)
            exact ih.2 _ _ (by omega) (by omega)
    · intro x1 x2 h2 hμ
      refine v_X12_litBits_70_31 ?_
      have f1 := dAddE (X := x2.toInt) (Y := 1) (x := x2) (y := (1 : Int32)) rfl (by decide) (by omega) (by omega)
      exact ih.1 _ _ (by omega) (by omega)
theorem s_X12_litBits_70 {g : gM} {m : dM} {Q : Int32 → dM → Prop} (hG : Gd g) (hI : Inv g m) (hQ : ∀ r : Int32, Q r m) : c_X12_litBits_70 2 m Q := by
  refine v_X12_litBits_70 ?_
  have f1 := ti_0
  exact (s_X12_litBits_70_all hG hI hQ 17).1 _ _ (by omega) (by omega)
theorem s_X12_darkBits_70 {g : gM} {m : dM} {Q : Int32 → dM → Prop} (hG : Gd g) (hI : Inv g m) (hQ : ∀ r : Int32, Q r m) : c_X12_darkBits_70 3 m Q := by
  refine v_X12_darkBits_70 ?_
  have f1 := congrArg Int32.toInt (hI.2 70 18 rfl)
  have f2 := Inv.s hG hI (k := 70) (j := 18) rfl rfl
  refine ⟨by omega, ?_⟩
  refine Wp.deep (s_X12_litBits_70 hG hI (fun R3 => ?_)) (Nat.le_of_ble_eq_true rfl)
  have f4 := Inv.cnt80 hG hI
  have f5 := Inv.s hG hI (k := 80) (j := (m.1 70 18).toNatClampNeg) rfl rfl
  have f6 := dShl8 (x := (m.1 80 (m.1 70 18).toNatClampNeg)) (by omega) (by omega)
  have f7 := dSubE (X := ((1 : Int32) <<< ((m.1 80 (m.1 70 18).toNatClampNeg) &&& 31)).toInt) (Y := 1) (x := ((1 : Int32) <<< ((m.1 80 (m.1 70 18).toNatClampNeg) &&& 31))) (y := (1 : Int32)) rfl (by decide) (by omega) (by omega)
  exact hQ _
theorem s_X11_needed_0_all {g : gM} {Q : Int32 → dM → Prop} {m : dM} (hG : Gd g) (hI : Inv g m) (hQ : ∀ r : Int32, Q r m) : ∀ n : Nat, (∀ (x1 : Int32) (x2 : Int32) (x3 : Int32), (0 ≤ x3.toInt ∧ x3.toInt ≤ 10) → 21 - 2 * x3.toInt < (n : Int) → j_X11_needed_0_19 3 x1 x2 x3 m Q) ∧ (∀ (x1 : Int32) (x2 : Int32) (x3 : Int32), (0 ≤ x3.toInt ∧ x3.toInt ≤ 9) → 20 - 2 * x3.toInt < (n : Int) → j_X11_needed_0_72 3 x1 x2 x3 m Q) := by
  intro n
  induction n with
  | zero => exact ⟨fun x1 x2 x3 h3 hμ => by exfalso; omega, fun x1 x2 x3 h3 hμ => by exfalso; omega⟩
  | succ n ih =>
    refine ⟨?_, ?_⟩
    · intro x1 x2 x3 h3 hμ
      refine v_X11_needed_0_19 ?_
      have f1 := congrArg Int32.toInt (hI.2 2 1 rfl)
      have f2 := Inv.s hG hI (k := 2) (j := 1) rfl rfl
      refine ⟨fun hc3 => ?_, fun hc3 => ?_⟩
      · skip
        exact hQ _
      · skip
        refine v_X11_has ?_
        have f4 := ti_1
        have f5 := dAndE (x := ((m.1 47 3).toUInt32 >>> (x3.toUInt32 &&& Int32.toUInt32 31)).toInt32) (y := (1 : Int32)) (by decide)
        refine ⟨fun hc6 => ?_, fun hc6 => ?_⟩
        · skip
          have f7 := ti_0
          refine ⟨fun hc8 => ?_, fun hc8 => ?_⟩
          · skip
            exfalso; omega
          · skip
            have f9 := dShl10 (x := x3) (by omega) (by omega)
            refine Wp.deep (s_X3_litWithout_2 hG hI (fun R10 => ?_)) (Nat.le_of_ble_eq_true rfl)
            refine ⟨fun hc11 => ?_, fun hc11 => ?_⟩
            · skip
              exact ih.2 _ _ _ (by omega) (by omega)
            · skip
              exact ih.2 _ _ _ (by omega) (by omega)
        · skip
          refine ⟨fun hc7 => ?_, fun hc7 => ?_⟩
          · skip
            exact ih.2 _ _ _ (by omega) (by omega)
          · skip
            exfalso; omega
    · intro x1 x2 x3 h3 hμ
      refine v_X11_needed_0_72 ?_
      have f1 := dAddE (X := x3.toInt) (Y := 1) (x := x3) (y := (1 : Int32)) rfl (by decide) (by omega) (by omega)
      exact ih.1 _ _ _ (by omega) (by omega)
theorem s_X11_needed_0 {g : gM} {m : dM} {Q : Int32 → dM → Prop} (hG : Gd g) (hI : Inv g m) (hQ : ∀ r : Int32, Q r m) : c_X11_needed_0 3 m Q := by
  refine v_X11_needed_0 ?_
  refine Wp.deep (s_X3_litWithout_2 hG hI (fun R1 => ?_)) (Nat.le_of_ble_eq_true rfl)
  have f2 := ti_0
  exact (s_X11_needed_0_all hG hI hQ 23).1 _ _ _ (by omega) (by omega)
theorem s_X11_hottest_0_all {g : gM} {Q : Int32 → dM → Prop} (hG : Gd g) (hQ : ∀ (r : Int32) (m' : dM), Inv g m' → Q r m') : ∀ n : Nat, (∀ (m : dM), Inv g m → 0 < (n : Int) → j_X11_hottest_0_9 5 m Q) ∧ (∀ (x1 : Int32) (x2 : Int32) (x3 : Int32) (x4 : Int32) (m : dM), Inv g m → (0 ≤ x1.toInt ∧ x1.toInt ≤ 1) → (-1 ≤ x2.toInt ∧ x2.toInt ≤ 9) → (0 ≤ x4.toInt ∧ x4.toInt ≤ 10) → 33 - 3 * x4.toInt < (n : Int) → j_X11_hottest_0_42 5 x1 x2 x3 x4 m Q) ∧ (∀ (x1 : Int32) (x4 : Int32) (x5 : Int32) (m : dM), Inv g m → (0 ≤ x1.toInt ∧ x1.toInt ≤ 1) → (0 ≤ x4.toInt ∧ x4.toInt ≤ 9) → 32 - 3 * x4.toInt < (n : Int) → j_X11_hottest_0_103 5 x1 x4 x5 m Q) ∧ (∀ (x1 : Int32) (x2 : Int32) (x3 : Int32) (x4 : Int32) (m : dM), Inv g m → (0 ≤ x1.toInt ∧ x1.toInt ≤ 1) → (-1 ≤ x2.toInt ∧ x2.toInt ≤ 9) → (0 ≤ x4.toInt ∧ x4.toInt ≤ 9) → 31 - 3 * x4.toInt < (n : Int) → j_X11_hottest_0_109 5 x1 x2 x3 x4 m Q) := by
  intro n
  induction n with
  | zero => exact ⟨fun m hI hμ => by exfalso; omega, fun x1 x2 x3 x4 m hI h1 h2 h4 hμ => by exfalso; omega, fun x1 x4 x5 m hI h1 h4 hμ => by exfalso; omega, fun x1 x2 x3 x4 m hI h1 h2 h4 hμ => by exfalso; omega⟩
  | succ n ih =>
    refine ⟨?_, ?_, ?_, ?_⟩
    · intro m hI hμ
      refine v_X11_hottest_0_9 ?_
      have f1 := ti_m1000
      exact hQ _ _ hI
    · intro x1 x2 x3 x4 m hI h1 h2 h4 hμ
      refine v_X11_hottest_0_42 ?_
      have f1 := congrArg Int32.toInt (hI.2 2 1 rfl)
      have f2 := Inv.s hG hI (k := 2) (j := 1) rfl rfl
      refine ⟨fun hc3 => ?_, fun hc3 => ?_⟩
      · skip
        refine ⟨fun hc4 => ?_, fun hc4 => ?_⟩
        · skip
          refine ⟨fun hc5 => ?_, fun hc5 => ?_⟩
          · skip
            exact hQ _ _ hI
          · skip
            exact hQ _ _ hI
        · skip
          have f5 := ti_m2000
          exact hQ _ _ hI
      · skip
        refine ⟨by omega, ?_⟩
        refine ⟨by omega, ?_⟩
        refine v_X11_has ?_
        have f4 := ti_1
        have f5 := dAndE (x := ((m.1 47 3).toUInt32 >>> (x4.toUInt32 &&& Int32.toUInt32 31)).toInt32) (y := (1 : Int32)) (by decide)
        refine ⟨fun hc6 => ?_, fun hc6 => ?_⟩
        · skip
          have f7 := ti_0
          refine ⟨fun hc8 => ?_, fun hc8 => ?_⟩
          · skip
            exfalso; omega
          · skip
            refine ⟨fun hc9 => ?_, fun hc9 => ?_⟩
            · skip
              exact ih.2.2.1 _ _ _ _ hI (by omega) (by omega) (by omega)
            · skip
              refine ⟨fun hc10 => ?_, fun hc10 => ?_⟩
              · skip
                exact ih.2.2.2 _ _ _ _ _ hI (by omega) (by omega) (by omega) (by omega)
              · skip
                exact ih.2.2.1 _ _ _ _ hI (by omega) (by omega) (by omega)
        · skip
          refine ⟨fun hc7 => ?_, fun hc7 => ?_⟩
          · skip
            exact ih.2.2.2 _ _ _ _ _ hI (by omega) (by omega) (by omega) (by omega)
          · skip
            exfalso; omega
    · intro x1 x4 x5 m hI h1 h4 hμ
      refine v_X11_hottest_0_103 ?_
      exact ih.2.2.2 _ _ _ _ _ hI (by omega) (by omega) (by omega) (by omega)
    · intro x1 x2 x3 x4 m hI h1 h2 h4 hμ
      refine v_X11_hottest_0_109 ?_
      have f1 := dAddE (X := x4.toInt) (Y := 1) (x := x4) (y := (1 : Int32)) rfl (by decide) (by omega) (by omega)
      exact ih.2.1 _ _ _ _ _ hI (by omega) (by omega) (by omega) (by omega)
theorem s_X11_hottest_0 {g : gM} {x1 : Int32} {m : dM} {Q : Int32 → dM → Prop} (hG : Gd g) (hI : Inv g m) (hQ : ∀ (r : Int32) (m' : dM), Inv g m' → Q r m') : c_X11_hottest_0 5 x1 m Q := by
  refine v_X11_hottest_0 ?_
  refine ⟨fun hc1 => ?_, fun hc1 => ?_⟩
  · skip
    exact (s_X11_hottest_0_all hG hQ 35).1 _ hI (by omega)
  · skip
    refine ⟨fun hc2 => ?_, fun hc2 => ?_⟩
    · skip
      refine Wp.deep (s_X0_usesNow_54_47 hG hI (fun R3 M3 I3 => ?_)) (Nat.le_of_ble_eq_true rfl)
      refine Wp.deep (s_X0_putOn_54_47 hG I3 (fun M4 I4 => ?_)) (Nat.le_of_ble_eq_true rfl)
      have f5 := ti_m1
      have f6 := ti_0
      exact (s_X11_hottest_0_all hG hQ 35).2.1 _ _ _ _ _ I4 (by omega) (by omega) (by omega) (by omega)
    · skip
      exact (s_X11_hottest_0_all hG hQ 35).1 _ hI (by omega)
