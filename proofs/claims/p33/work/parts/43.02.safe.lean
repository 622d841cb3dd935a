theorem s_X12_when_70_all {g : gM} {Q : Int32 → dM → Prop} (hG : Gd g) (hQ : ∀ (r : Int32) (m' : dM), Inv g m' → (-2 ≤ r.toInt ∧ r.toInt ≤ 10022) → Q r m') : ∀ n : Nat, (∀ (x1 : Int32) (x2 : Int32) (x3 : Int32) (m : dM), Inv g m → (0 ≤ x1.toInt ∧ x1.toInt ≤ 7) → (-9999 ≤ x2.toInt ∧ x2.toInt ≤ 9999) → (0 ≤ x3.toInt ∧ x3.toInt ≤ 10023) → x1.toInt < (g 86 (gL g)).toInt → 10023 - 1 * x3.toInt < (n : Int) → j_X12_when_70_46 24 x1 x2 x3 m Q) := by
  intro n
  induction n with
  | zero => exact fun x1 x2 x3 m hI h1 h2 h3 hb1 hμ => by exfalso; omega
  | succ n ih =>
    · intro x1 x2 x3 m hI h1 h2 h3 hb1 hμ
      refine v_X12_when_70_46 ?_
      have f1 := dAddE (X := x3.toInt) (Y := x2.toInt) (x := x3) (y := x2) rfl rfl (by omega) (by omega)
      refine ⟨fun hc2 => ?_, fun hc2 => ?_⟩
      · skip
        have f3 := ti_m2
        exact hQ _ _ hI (by omega)
      · skip
        refine Wp.deep (s_X12_canBegin_70 hG hI (by omega) (by omega) (by omega) (fun R3 M3 I3 hr3 => ?_)) (Nat.le_of_ble_eq_true rfl)
        refine ⟨fun hc4 => ?_, fun hc4 => ?_⟩
        · skip
          have f5 := dAddE (X := x3.toInt) (Y := 1) (x := x3) (y := (1 : Int32)) rfl (by decide) (by omega) (by omega)
          exact ih _ _ _ _ I3 (by omega) (by omega) (by omega) (by omega) (by omega)
        · skip
          exact hQ _ _ I3 (by omega)
theorem s_X12_when_70 {g : gM} {x1 : Int32} {m : dM} {Q : Int32 → dM → Prop} (hG : Gd g) (hI : Inv g m) (hQ : ∀ (r : Int32) (m' : dM), Inv g m' → (-2 ≤ r.toInt ∧ r.toInt ≤ 10022) → Q r m') : c_X12_when_70 24 x1 m Q := by
  refine v_X12_when_70 ?_
  refine v_X12_isUse_70 ?_
  have f1 := congrArg Int32.toInt (hI.2 70 18 rfl)
  have f2 := Inv.s hG hI (k := 70) (j := 18) rfl rfl
  refine ⟨by omega, ?_⟩
  refine v_X12_in ?_
  have f3 := ti_0
  refine ⟨fun hc4 => ?_, fun hc4 => ?_⟩
  · skip
    refine v_X12_in_14 ?_
    refine ⟨by decide, ?_⟩
    refine ⟨fun hc5 => ?_, fun hc5 => ?_⟩
    · skip
      exfalso; omega
    · skip
      have f6 := ti_m1
      exact hQ _ _ hI (by omega)
  · skip
    have f5 := Inv.cnt86 hG hI
    have f6 := Inv.s hG hI (k := 86) (j := (m.1 70 18).toNatClampNeg) rfl rfl
    have f7 := dSubE (X := (m.1 86 (m.1 70 18).toNatClampNeg).toInt) (Y := 1) (x := (m.1 86 (m.1 70 18).toNatClampNeg)) (y := (1 : Int32)) rfl (by decide) (by omega) (by omega)
    refine ⟨fun hc8 => ?_, fun hc8 => ?_⟩
    · skip
      refine v_X12_in_14 ?_
      refine ⟨by decide, ?_⟩
      refine ⟨fun hc9 => ?_, fun hc9 => ?_⟩
      · skip
        exfalso; omega
      · skip
        have f10 := ti_m1
        exact hQ _ _ hI (by omega)
    · skip
      have f9 := ti_1
      refine ⟨by decide, ?_⟩
      refine ⟨fun hc10 => ?_, fun hc10 => ?_⟩
      · skip
        refine Wp.deep (s_X12_copies_70 hG hI (fun M11 I11 => ?_)) (Nat.le_of_ble_eq_true rfl)
        have f12 := congrArg Int32.toInt (I11.2 70 18 rfl)
        have f13 := Inv.s hG I11 (k := 70) (j := 18) rfl rfl
        have f14 := dMulE (X := 8) (Y := (M11.1 70 18).toInt) (x := (8 : Int32)) (y := (M11.1 70 18)) (by decide) rfl (by omega) (by omega)
        have f15 := dAddE (X := ((8 : Int32) * (M11.1 70 18)).toInt) (Y := x1.toInt) (x := ((8 : Int32) * (M11.1 70 18))) (y := x1) rfl rfl (by omega) (by omega)
        refine ⟨by omega, ?_⟩
        refine ⟨by omega, ?_⟩
        have f16 := Inv.s hG I11 (k := 90) (j := (((8 : Int32) * (M11.1 70 18)) + x1).toNatClampNeg) rfl rfl
        have f17 := Inv.s hG I11 (k := 89) (j := (((8 : Int32) * (M11.1 70 18)) + x1).toNatClampNeg) rfl rfl
        have f18 := dSubE (X := (M11.1 90 (((8 : Int32) * (M11.1 70 18)) + x1).toNatClampNeg).toInt) (Y := (M11.1 89 (((8 : Int32) * (M11.1 70 18)) + x1).toNatClampNeg).toInt) (x := (M11.1 90 (((8 : Int32) * (M11.1 70 18)) + x1).toNatClampNeg)) (y := (M11.1 89 (((8 : Int32) * (M11.1 70 18)) + x1).toNatClampNeg)) rfl rfl (by omega) (by omega)
        exact (s_X12_when_70_all hG hQ 10025) _ _ _ _ I11 (by omega) (by omega) (by omega) (by omega) (by omega)
      · skip
        exfalso; omega
theorem s_X12_thick_70_all {g : gM} {Q : Int32 → dM → Prop} (hG : Gd g) (hQ : ∀ (r : Int32) (m' : dM), Inv g m' → (-2 ≤ r.toInt ∧ r.toInt ≤ 9) → Q r m') : ∀ n : Nat, (∀ (x1 : Int32) (x2 : Int32) (x3 : Int32) (x4 : Int32) (m : dM), Inv g m → (1 ≤ x1.toInt ∧ x1.toInt ≤ 20) → (1 ≤ x2.toInt ∧ x2.toInt ≤ 201) → (-2 ≤ x3.toInt ∧ x3.toInt ≤ 9) → (0 ≤ x4.toInt ∧ x4.toInt ≤ 10) → 21 - 2 * x4.toInt < (n : Int) → j_X12_thick_70_27 25 x1 x2 x3 x4 m Q) ∧ (∀ (x1 : Int32) (x2 : Int32) (x3 : Int32) (x4 : Int32) (m : dM), Inv g m → (1 ≤ x1.toInt ∧ x1.toInt ≤ 20) → (1 ≤ x2.toInt ∧ x2.toInt ≤ 201) → (-2 ≤ x3.toInt ∧ x3.toInt ≤ 9) → (0 ≤ x4.toInt ∧ x4.toInt ≤ 9) → 20 - 2 * x4.toInt < (n : Int) → j_X12_thick_70_105 25 x1 x2 x3 x4 m Q) := by
  intro n
  induction n with
  | zero => exact ⟨fun x1 x2 x3 x4 m hI h1 h2 h3 h4 hμ => by exfalso; omega, fun x1 x2 x3 x4 m hI h1 h2 h3 h4 hμ => by exfalso; omega⟩
  | succ n ih =>
    refine ⟨?_, ?_⟩
    · intro x1 x2 x3 x4 m hI h1 h2 h3 h4 hμ
      refine v_X12_thick_70_27 ?_
      have f1 := congrArg Int32.toInt (hI.2 70 18 rfl)
      have f2 := Inv.s hG hI (k := 70) (j := 18) rfl rfl
      refine ⟨by omega, ?_⟩
      have f3 := Inv.cnt82 hG hI
      have f4 := Inv.s hG hI (k := 82) (j := (m.1 70 18).toNatClampNeg) rfl rfl
      refine ⟨fun hc5 => ?_, fun hc5 => ?_⟩
      · skip
        exact hQ _ _ hI (by omega)
      · skip
        have f6 := dAddE (X := 10) (Y := x4.toInt) (x := (10 : Int32)) (y := x4) (by decide) rfl (by omega) (by omega)
        refine ⟨by omega, ?_⟩
        refine ⟨fun hc7 => ?_, fun hc7 => ?_⟩
        · skip
          refine Wp.deep (s_X12_copiesStill_70 hG hI (fun M8 I8 => ?_)) (Nat.le_of_ble_eq_true rfl)
          refine ⟨by omega, ?_⟩
          refine v_X12_within ?_
          have f9 := ti_1
          refine ⟨fun hc10 => ?_, fun hc10 => ?_⟩
          · skip
            have f11 := ti_99
            refine ⟨fun hc12 => ?_, fun hc12 => ?_⟩
            · skip
              refine ⟨by omega, ?_⟩
              have I13 : Inv g (dSet M8 108 x4.toNatClampNeg ((M8.1 108 x4.toNatClampNeg) + x1)) := (Inv.setA I8 rfl)
              refine Wp.deep (s_X12_firstGoing_70 hG I13 (fun R14 M14 I14 hr14 => ?_)) (Nat.le_of_ble_eq_true rfl)
              refine ⟨fun hc15 => ?_, fun hc15 => ?_⟩
              · skip
                exact ih.2 _ _ _ _ _ I14 (by omega) (by omega) (by omega) (by omega) (by omega)
              · skip
                exact ih.2 _ _ _ _ _ I14 (by omega) (by omega) (by omega) (by omega) (by omega)
            · skip
              refine ⟨by omega, ?_⟩
              have I13 : Inv g (dSet M8 108 x4.toNatClampNeg (99 : Int32)) := (Inv.setA I8 rfl)
              refine Wp.deep (s_X12_firstGoing_70 hG I13 (fun R14 M14 I14 hr14 => ?_)) (Nat.le_of_ble_eq_true rfl)
              refine ⟨fun hc15 => ?_, fun hc15 => ?_⟩
              · skip
                exact ih.2 _ _ _ _ _ I14 (by omega) (by omega) (by omega) (by omega) (by omega)
              · skip
                exact ih.2 _ _ _ _ _ I14 (by omega) (by omega) (by omega) (by omega) (by omega)
          · skip
            refine ⟨by omega, ?_⟩
            have I11 : Inv g (dSet M8 108 x4.toNatClampNeg (1 : Int32)) := (Inv.setA I8 rfl)
            refine Wp.deep (s_X12_firstGoing_70 hG I11 (fun R12 M12 I12 hr12 => ?_)) (Nat.le_of_ble_eq_true rfl)
            refine ⟨fun hc13 => ?_, fun hc13 => ?_⟩
            · skip
              exact ih.2 _ _ _ _ _ I12 (by omega) (by omega) (by omega) (by omega) (by omega)
            · skip
              exact ih.2 _ _ _ _ _ I12 (by omega) (by omega) (by omega) (by omega) (by omega)
        · skip
          exact ih.2 _ _ _ _ _ hI (by omega) (by omega) (by omega) (by omega) (by omega)
    · intro x1 x2 x3 x4 m hI h1 h2 h3 h4 hμ
      refine v_X12_thick_70_105 ?_
      have f1 := dAddE (X := x4.toInt) (Y := 1) (x := x4) (y := (1 : Int32)) rfl (by decide) (by omega) (by omega)
      exact ih.1 _ _ _ _ _ hI (by omega) (by omega) (by omega) (by omega) (by omega)
theorem s_X12_thick_70 {g : gM} {x1 : Int32} {m : dM} {Q : Int32 → dM → Prop} (hG : Gd g) (hI : Inv g m) (hQ : ∀ (r : Int32) (m' : dM), Inv g m' → (-2 ≤ r.toInt ∧ r.toInt ≤ 9) → Q r m') : c_X12_thick_70 25 x1 m Q := by
  refine v_X12_thick_70 ?_
  refine v_X12_in ?_
  have f1 := ti_1
  refine ⟨fun hc2 => ?_, fun hc2 => ?_⟩
  · skip
    refine v_X12_in_14 ?_
    have f3 := ti_0
    refine ⟨fun hc4 => ?_, fun hc4 => ?_⟩
    · skip
      exfalso; omega
    · skip
      have f5 := ti_m1
      exact hQ _ _ hI (by omega)
  · skip
    have f3 := ti_20
    refine ⟨fun hc4 => ?_, fun hc4 => ?_⟩
    · skip
      refine v_X12_in_14 ?_
      have f5 := ti_0
      refine ⟨fun hc6 => ?_, fun hc6 => ?_⟩
      · skip
        exfalso; omega
      · skip
        have f7 := ti_m1
        exact hQ _ _ hI (by omega)
    · skip
      refine ⟨fun hc5 => ?_, fun hc5 => ?_⟩
      · skip
        refine Wp.deep (s_X12_copiesStill_70 hG hI (fun M6 I6 => ?_)) (Nat.le_of_ble_eq_true rfl)
        refine Wp.deep (s_X12_firstGoing_70 hG I6 (fun R7 M7 I7 hr7 => ?_)) (Nat.le_of_ble_eq_true rfl)
        have f8 := ti_m2
        have f9 := ti_0
        exact (s_X12_thick_70_all hG hQ 23).1 _ _ _ _ _ I7 (by omega) (by omega) (by omega) (by omega) (by omega)
      · skip
        exfalso; omega
theorem s_X1_leastCut_61_47_all {g : gM} {Q : Int32 → dM → Prop} {m : dM} (hG : Gd g) (hI : Inv g m) (hQ : ∀ r : Int32, Q r m) : ∀ n : Nat, (∀ (x2 : Int32) (x3 : Int32), (0 ≤ x2.toInt ∧ x2.toInt ≤ 6) → (0 ≤ x3.toInt ∧ x3.toInt ≤ 4) → 4 - 1 * x3.toInt < (n : Int) → j_X1_leastCut_61_47_2 21 x2 x3 m Q) := by
  intro n
  induction n with
  | zero => exact fun x2 x3 h2 h3 hμ => by exfalso; omega
  | succ n ih =>
    · intro x2 x3 h2 h3 hμ
      refine v_X1_leastCut_61_47_2 ?_
      refine ⟨fun hc1 => ?_, fun hc1 => ?_⟩
      · skip
        have f2 := ti_m1
        exact hQ _
      · skip
        have f2 := ti_0
        refine Wp.deep (s_X1_cutBy_2 hG hI (by omega) (by omega) (by omega) (fun R3 => ?_)) (Nat.le_of_ble_eq_true rfl)
        refine ⟨fun hc4 => ?_, fun hc4 => ?_⟩
        · skip
          have f5 := dAddE (X := x3.toInt) (Y := 1) (x := x3) (y := (1 : Int32)) rfl (by decide) (by omega) (by omega)
          exact ih _ _ (by omega) (by omega) (by omega)
        · skip
          exact hQ _
theorem s_X1_leastCut_61_47 {g : gM} {x2 : Int32} {m : dM} {Q : Int32 → dM → Prop} (hG : Gd g) (hI : Inv g m) (h2 : 0 ≤ x2.toInt ∧ x2.toInt ≤ 6) (hQ : ∀ r : Int32, Q r m) : c_X1_leastCut_61_47 21 x2 m Q := by
  refine v_X1_leastCut_61_47 ?_
  have f1 := ti_0
  exact (s_X1_leastCut_61_47_all hG hI hQ 6) _ _ (by omega) (by omega) (by omega)
theorem s_X11_cut_0 {g : gM} {x1 : Int32} {x2 : Int32} {m : dM} {Q : Int32 → dM → Prop} (hG : Gd g) (hI : Inv g m) (hQ : ∀ r : Int32, (-2 ≤ r.toInt ∧ r.toInt ≤ 63) → Q r m) : c_X11_cut_0 22 x1 x2 m Q := by
  refine v_X11_cut_0 ?_
  refine v_X11_isFlat_0 ?_
  refine ⟨fun hc1 => ?_, fun hc1 => ?_⟩
  · skip
    refine v_X11_isFlat_0_19 ?_
    have f2 := ti_0
    refine ⟨fun hc3 => ?_, fun hc3 => ?_⟩
    · skip
      refine v_X11_cut_0_18 ?_
      have f4 := ti_m1
      exact hQ _ (by omega)
    · skip
      exfalso; omega
  · skip
    have f2 := congrArg Int32.toInt (hI.2 2 0 rfl)
    have f3 := Inv.s hG hI (k := 2) (j := 0) rfl rfl
    refine ⟨fun hc4 => ?_, fun hc4 => ?_⟩
    · skip
      refine v_X11_isFlat_0_19 ?_
      have f5 := ti_0
      refine ⟨fun hc6 => ?_, fun hc6 => ?_⟩
      · skip
        refine v_X11_cut_0_18 ?_
        have f7 := ti_m1
        exact hQ _ (by omega)
      · skip
        exfalso; omega
    · skip
      have f5 := ti_1
      refine ⟨fun hc6 => ?_, fun hc6 => ?_⟩
      · skip
        exfalso; omega
      · skip
        refine ⟨fun hc7 => ?_, fun hc7 => ?_⟩
        · skip
          refine v_X11_cut_0_18 ?_
          have f8 := ti_m1
          exact hQ _ (by omega)
        · skip
          refine ⟨fun hc8 => ?_, fun hc8 => ?_⟩
          · skip
            refine Wp.deep (s_X1_leastCut_61_47 hG hI (by omega) (fun R9 => ?_)) (Nat.le_of_ble_eq_true rfl)
            refine ⟨fun hc10 => ?_, fun hc10 => ?_⟩
            · skip
              refine ⟨fun hc11 => ?_, fun hc11 => ?_⟩
              · skip
                refine Wp.deep (s_X11_bitAt hG hI (by omega) (fun R12 hr12 => ?_)) (Nat.le_of_ble_eq_true rfl)
                exact hQ _ (by omega)
              · skip
                refine Wp.deep (s_J6_bitCount hG hI (fun R12 hr12 => ?_)) (Nat.le_of_ble_eq_true rfl)
                exact hQ _ (by omega)
            · skip
              have f11 := ti_m2
              exact hQ _ (by omega)
          · skip
            refine v_X11_cut_0_18 ?_
            have f9 := ti_m1
            exact hQ _ (by omega)
theorem s_X12_loses_70_all {g : gM} {Q : dM → Prop} (hG : Gd g) (hQ : ∀ m' : dM, Inv g m' → Q m') : ∀ n : Nat, (∀ (x1 : Int32) (x2 : Int32) (m : dM), Inv g m → (0 ≤ x1.toInt ∧ x1.toInt ≤ 1024) → (0 ≤ x2.toInt ∧ x2.toInt ≤ 10) → 21 - 2 * x2.toInt < (n : Int) → j_X12_loses_70_6 22 x1 x2 m Q) ∧ (∀ (x1 : Int32) (x2 : Int32) (m : dM), Inv g m → (0 ≤ x1.toInt ∧ x1.toInt ≤ 1024) → (0 ≤ x2.toInt ∧ x2.toInt ≤ 9) → 20 - 2 * x2.toInt < (n : Int) → j_X12_loses_70_31 22 x1 x2 m Q) := by
  intro n
  induction n with
  | zero => exact ⟨fun x1 x2 m hI h1 h2 hμ => by exfalso; omega, fun x1 x2 m hI h1 h2 hμ => by exfalso; omega⟩
  | succ n ih =>
    refine ⟨?_, ?_⟩
    · intro x1 x2 m hI h1 h2 hμ
      refine v_X12_loses_70_6 ?_
      refine ⟨fun hc1 => ?_, fun hc1 => ?_⟩
      · skip
        refine Wp.deep (s_X12_fillsWays_70 hG hI (fun M2 I2 => ?_)) (Nat.le_of_ble_eq_true rfl)
        exact hQ _ I2
      · skip
        have f2 := ti_1
        have f3 := dAndE (x := (x1 >>> (x2 &&& 31))) (y := (1 : Int32)) (by decide)
        refine ⟨fun hc4 => ?_, fun hc4 => ?_⟩
        · skip
          exact ih.2 _ _ _ hI (by omega) (by omega) (by omega)
        · skip
          have f5 := dAddE (X := 10) (Y := x2.toInt) (x := (10 : Int32)) (y := x2) (by decide) rfl (by omega) (by omega)
          refine ⟨by omega, ?_⟩
          have I6 : Inv g (dSet m 108 ((10 : Int32) + x2).toNatClampNeg (1 : Int32)) := (Inv.setA hI rfl)
          exact ih.2 _ _ _ I6 (by omega) (by omega) (by omega)
    · intro x1 x2 m hI h1 h2 hμ
      refine v_X12_loses_70_31 ?_
      have f1 := dAddE (X := x2.toInt) (Y := 1) (x := x2) (y := (1 : Int32)) rfl (by decide) (by omega) (by omega)
      exact ih.1 _ _ _ hI (by omega) (by omega) (by omega)
theorem s_X12_loses_70 {g : gM} {x1 : Int32} {m : dM} {Q : dM → Prop} (hG : Gd g) (hI : Inv g m) (h1 : 0 ≤ x1.toInt ∧ x1.toInt ≤ 1024) (hQ : ∀ m' : dM, Inv g m' → Q m') : c_X12_loses_70 22 x1 m Q := by
  refine v_X12_loses_70 ?_
  refine Wp.deep (s_X12_copies_70 hG hI (fun M1 I1 => ?_)) (Nat.le_of_ble_eq_true rfl)
  have f2 := ti_0
  exact (s_X12_loses_70_all hG hQ 23).1 _ _ _ I1 (by omega) (by omega) (by omega)
theorem s_X12_cut_70_all {g : gM} {Q : Int32 → dM → Prop} (hG : Gd g) (hQ : ∀ (r : Int32) (m' : dM), Inv g m' → Q r m') : ∀ n : Nat, (∀ (m : dM), Inv g m → 0 < (n : Int) → j_X12_cut_70_17 23 m Q) ∧ (∀ (x1 : Int32) (x2 : Int32) (x3 : Int32) (x4 : Int32) (x5 : Int32) (m : dM), Inv g m → (0 ≤ x1.toInt ∧ x1.toInt ≤ 6) → (-1 ≤ x2.toInt ∧ x2.toInt ≤ 2) → (-1 ≤ x4.toInt ∧ x4.toInt ≤ 1023) → (0 ≤ x5.toInt ∧ x5.toInt ≤ 1024) → 3075 - 3 * x5.toInt < (n : Int) → j_X12_cut_70_30 23 x1 x2 x3 x4 x5 m Q) ∧ (∀ (x1 : Int32) (x2 : Int32) (x3 : Int32) (x4 : Int32) (x5 : Int32) (m : dM), Inv g m → (0 ≤ x1.toInt ∧ x1.toInt ≤ 6) → (-1 ≤ x2.toInt ∧ x2.toInt ≤ 2) → (-1 ≤ x4.toInt ∧ x4.toInt ≤ 1023) → (0 ≤ x5.toInt ∧ x5.toInt ≤ 1023) → 3074 - 3 * x5.toInt < (n : Int) → j_X12_cut_70_109 23 x1 x2 x3 x4 x5 m Q) ∧ (∀ (x1 : Int32) (x2 : Int32) (x3 : Int32) (x4 : Int32) (x5 : Int32) (m : dM), Inv g m → (0 ≤ x1.toInt ∧ x1.toInt ≤ 6) → (-1 ≤ x2.toInt ∧ x2.toInt ≤ 2) → (-1 ≤ x4.toInt ∧ x4.toInt ≤ 1023) → (0 ≤ x5.toInt ∧ x5.toInt ≤ 1023) → 3073 - 3 * x5.toInt < (n : Int) → j_X12_cut_70_127 23 x1 x2 x3 x4 x5 m Q) := by
  intro n
  induction n with
  | zero => exact ⟨fun m hI hμ => by exfalso; omega, fun x1 x2 x3 x4 x5 m hI h1 h2 h4 h5 hμ => by exfalso; omega, fun x1 x2 x3 x4 x5 m hI h1 h2 h4 h5 hμ => by exfalso; omega, fun x1 x2 x3 x4 x5 m hI h1 h2 h4 h5 hμ => by exfalso; omega⟩
  | succ n ih =>
    refine ⟨?_, ?_, ?_, ?_⟩
    · intro m hI hμ
      refine v_X12_cut_70_17 ?_
      have f1 := ti_m1
      exact hQ _ _ hI
    · intro x1 x2 x3 x4 x5 m hI h1 h2 h4 h5 hμ
      refine v_X12_cut_70_30 ?_
      have f1 := congrArg Int32.toInt (hI.2 70 18 rfl)
      have f2 := Inv.s hG hI (k := 70) (j := 18) rfl rfl
      refine ⟨by omega, ?_⟩
      have f3 := Inv.cnt82 hG hI
      have f4 := Inv.s hG hI (k := 82) (j := (m.1 70 18).toNatClampNeg) rfl rfl
      have f5 := dShl10 (x := (m.1 82 (m.1 70 18).toNatClampNeg)) (by omega) (by omega)
      refine ⟨fun hc6 => ?_, fun hc6 => ?_⟩
      · skip
        refine ⟨fun hc7 => ?_, fun hc7 => ?_⟩
        · skip
          refine ⟨fun hc8 => ?_, fun hc8 => ?_⟩
          · skip
            refine Wp.deep (s_X12_ithOf hG hI (by omega) (by omega) (fun R9 hr9 => ?_)) (Nat.le_of_ble_eq_true rfl)
            exact hQ _ _ hI
          · skip
            refine Wp.deep (s_X12_bits hG hI (fun R9 => ?_)) (Nat.le_of_ble_eq_true rfl)
            exact hQ _ _ hI
        · skip
          have f8 := ti_m2
          exact hQ _ _ hI
      · skip
        refine Wp.deep (s_X12_bits hG hI (fun R7 => ?_)) (Nat.le_of_ble_eq_true rfl)
        refine ⟨fun hc8 => ?_, fun hc8 => ?_⟩
        · skip
          exact ih.2.2.2 _ _ _ _ _ _ hI (by omega) (by omega) (by omega) (by omega) (by omega)
        · skip
          refine ⟨fun hc9 => ?_, fun hc9 => ?_⟩
          · skip
            refine ⟨fun hc10 => ?_, fun hc10 => ?_⟩
            · skip
              exact ih.2.2.1 _ _ _ _ _ _ hI (by omega) (by omega) (by omega) (by omega) (by omega)
            · skip
              refine Wp.deep (s_X12_bits hG hI (fun R11 => ?_)) (Nat.le_of_ble_eq_true rfl)
              refine Wp.deep (s_X12_bits hG hI (fun R12 => ?_)) (Nat.le_of_ble_eq_true rfl)
              refine ⟨fun hc13 => ?_, fun hc13 => ?_⟩
              · skip
                exact ih.2.2.2 _ _ _ _ _ _ hI (by omega) (by omega) (by omega) (by omega) (by omega)
              · skip
                refine Wp.deep (s_X12_bits hG hI (fun R14 => ?_)) (Nat.le_of_ble_eq_true rfl)
                refine Wp.deep (s_X12_bits hG hI (fun R15 => ?_)) (Nat.le_of_ble_eq_true rfl)
                refine ⟨fun hc16 => ?_, fun hc16 => ?_⟩
                · skip
                  exact ih.2.2.1 _ _ _ _ _ _ hI (by omega) (by omega) (by omega) (by omega) (by omega)
                · skip
                  refine Wp.deep (s_X12_isEarlier hG hI (by omega) (by omega) (fun R17 hr17 => ?_)) (Nat.le_of_ble_eq_true rfl)
                  refine ⟨fun hc18 => ?_, fun hc18 => ?_⟩
                  · skip
                    exact ih.2.2.1 _ _ _ _ _ _ hI (by omega) (by omega) (by omega) (by omega) (by omega)
                  · skip
                    exact ih.2.2.2 _ _ _ _ _ _ hI (by omega) (by omega) (by omega) (by omega) (by omega)
          · skip
            exact ih.2.2.2 _ _ _ _ _ _ hI (by omega) (by omega) (by omega) (by omega) (by omega)
    · intro x1 x2 x3 x4 x5 m hI h1 h2 h4 h5 hμ
      refine v_X12_cut_70_109 ?_
      refine Wp.deep (s_X12_loses_70 hG hI (by omega) (fun M1 I1 => ?_)) (Nat.le_of_ble_eq_true rfl)
      refine v_X12_isLit_70 ?_
      refine ⟨by omega, ?_⟩
      refine ⟨fun hc2 => ?_, fun hc2 => ?_⟩
      · skip
        have f3 := ti_0
        refine ⟨fun hc4 => ?_, fun hc4 => ?_⟩
        · skip
          exfalso; omega
        · skip
          exact ih.2.2.2 _ _ _ _ _ _ I1 (by omega) (by omega) (by omega) (by omega) (by omega)
      · skip
        have f3 := ti_1
        refine ⟨fun hc4 => ?_, fun hc4 => ?_⟩
        · skip
          exact ih.2.2.2 _ _ _ _ _ _ I1 (by omega) (by omega) (by omega) (by omega) (by omega)
        · skip
          exfalso; omega
    · intro x1 x2 x3 x4 x5 m hI h1 h2 h4 h5 hμ
      refine v_X12_cut_70_127 ?_
      have f1 := dAddE (X := x5.toInt) (Y := 1) (x := x5) (y := (1 : Int32)) rfl (by decide) (by omega) (by omega)
      exact ih.2.1 _ _ _ _ _ _ hI (by omega) (by omega) (by omega) (by omega) (by omega)
theorem s_X12_cut_70 {g : gM} {x1 : Int32} {x2 : Int32} {m : dM} {Q : Int32 → dM → Prop} (hG : Gd g) (hI : Inv g m) (hQ : ∀ (r : Int32) (m' : dM), Inv g m' → Q r m') : c_X12_cut_70 23 x1 x2 m Q := by
  refine v_X12_cut_70 ?_
  refine v_X12_isFlat_70 ?_
  have f1 := congrArg Int32.toInt (hI.2 70 18 rfl)
  have f2 := Inv.s hG hI (k := 70) (j := 18) rfl rfl
  refine ⟨by omega, ?_⟩
  refine v_X12_in ?_
  have f3 := ti_0
  refine ⟨fun hc4 => ?_, fun hc4 => ?_⟩
  · skip
    refine v_X12_in_14 ?_
    refine ⟨by decide, ?_⟩
    refine ⟨fun hc5 => ?_, fun hc5 => ?_⟩
    · skip
      exact (s_X12_cut_70_all hG hQ 3077).1 _ hI (by omega)
    · skip
      exfalso; omega
  · skip
    have f5 := Inv.cnt80 hG hI
    have f6 := Inv.s hG hI (k := 80) (j := (m.1 70 18).toNatClampNeg) rfl rfl
    have f7 := dSubE (X := (m.1 80 (m.1 70 18).toNatClampNeg).toInt) (Y := 1) (x := (m.1 80 (m.1 70 18).toNatClampNeg)) (y := (1 : Int32)) rfl (by decide) (by omega) (by omega)
    refine ⟨fun hc8 => ?_, fun hc8 => ?_⟩
    · skip
      refine v_X12_in_14 ?_
      refine ⟨by decide, ?_⟩
      refine ⟨fun hc9 => ?_, fun hc9 => ?_⟩
      · skip
        exact (s_X12_cut_70_all hG hQ 3077).1 _ hI (by omega)
      · skip
        exfalso; omega
    · skip
      have f9 := ti_1
      refine ⟨by decide, ?_⟩
      refine ⟨fun hc10 => ?_, fun hc10 => ?_⟩
      · skip
        exfalso; omega
      · skip
        refine v_X12_in ?_
        have f11 := ti_m1
        refine ⟨fun hc12 => ?_, fun hc12 => ?_⟩
        · skip
          refine v_X12_in_14 ?_
          refine ⟨fun hc13 => ?_, fun hc13 => ?_⟩
          · skip
            exfalso; omega
          · skip
            exact (s_X12_cut_70_all hG hQ 3077).1 _ hI (by omega)
        · skip
          have f13 := ti_2
          refine ⟨fun hc14 => ?_, fun hc14 => ?_⟩
          · skip
            refine v_X12_in_14 ?_
            refine ⟨fun hc15 => ?_, fun hc15 => ?_⟩
            · skip
              exfalso; omega
            · skip
              exact (s_X12_cut_70_all hG hQ 3077).1 _ hI (by omega)
          · skip
            refine ⟨fun hc15 => ?_, fun hc15 => ?_⟩
            · skip
              refine Wp.deep (s_X12_goneBits_70 hG hI (fun R16 => ?_)) (Nat.le_of_ble_eq_true rfl)
              exact (s_X12_cut_70_all hG hQ 3077).2.1 _ _ _ _ _ _ hI (by omega) (by omega) (by omega) (by omega) (by omega)
            · skip
              exfalso; omega
theorem s_X12_share_70 {g : gM} {x1 : Int32} {x2 : Int32} {m : dM} {Q : Int32 → dM → Prop} (hG : Gd g) (hI : Inv g m) (hQ : ∀ (r : Int32) (m' : dM), Inv g m' → Q r m') : c_X12_share_70 22 x1 x2 m Q := by
  refine v_X12_share_70 ?_
  refine v_X12_isFlat_70 ?_
  have f1 := congrArg Int32.toInt (hI.2 70 18 rfl)
  have f2 := Inv.s hG hI (k := 70) (j := 18) rfl rfl
  refine ⟨by omega, ?_⟩
  refine v_X12_in ?_
  have f3 := ti_0
  refine ⟨fun hc4 => ?_, fun hc4 => ?_⟩
  · skip
    refine v_X12_in_14 ?_
    refine ⟨by decide, ?_⟩
    refine ⟨fun hc5 => ?_, fun hc5 => ?_⟩
    · skip
      refine v_X12_share_70_16 ?_
      have f6 := ti_m1
      exact hQ _ _ hI
    · skip
      exfalso; omega
  · skip
    have f5 := Inv.cnt80 hG hI
    have f6 := Inv.s hG hI (k := 80) (j := (m.1 70 18).toNatClampNeg) rfl rfl
    have f7 := dSubE (X := (m.1 80 (m.1 70 18).toNatClampNeg).toInt) (Y := 1) (x := (m.1 80 (m.1 70 18).toNatClampNeg)) (y := (1 : Int32)) rfl (by decide) (by omega) (by omega)
    refine ⟨fun hc8 => ?_, fun hc8 => ?_⟩
    · skip
      refine v_X12_in_14 ?_
      refine ⟨by decide, ?_⟩
      refine ⟨fun hc9 => ?_, fun hc9 => ?_⟩
      · skip
        refine v_X12_share_70_16 ?_
        have f10 := ti_m1
        exact hQ _ _ hI
      · skip
        exfalso; omega
    · skip
      have f9 := ti_1
      refine ⟨by decide, ?_⟩
      refine ⟨fun hc10 => ?_, fun hc10 => ?_⟩
      · skip
        exfalso; omega
      · skip
        refine v_X12_isWire_70 ?_
        refine ⟨by omega, ?_⟩
        refine v_X12_in ?_
        refine ⟨fun hc11 => ?_, fun hc11 => ?_⟩
        · skip
          refine v_X12_in_14 ?_
          refine ⟨by decide, ?_⟩
          refine ⟨fun hc12 => ?_, fun hc12 => ?_⟩
          · skip
            exfalso; omega
          · skip
            refine v_X12_share_70_16 ?_
            have f13 := ti_m1
            exact hQ _ _ hI
        · skip
          have f12 := Inv.cnt82 hG hI
          have f13 := Inv.s hG hI (k := 82) (j := (m.1 70 18).toNatClampNeg) rfl rfl
          have f14 := dSubE (X := (m.1 82 (m.1 70 18).toNatClampNeg).toInt) (Y := 1) (x := (m.1 82 (m.1 70 18).toNatClampNeg)) (y := (1 : Int32)) rfl (by decide) (by omega) (by omega)
          refine ⟨fun hc15 => ?_, fun hc15 => ?_⟩
          · skip
            refine v_X12_in_14 ?_
            refine ⟨by decide, ?_⟩
            refine ⟨fun hc16 => ?_, fun hc16 => ?_⟩
            · skip
              exfalso; omega
            · skip
              refine v_X12_share_70_16 ?_
              have f17 := ti_m1
              exact hQ _ _ hI
          · skip
            refine ⟨by decide, ?_⟩
            refine ⟨fun hc16 => ?_, fun hc16 => ?_⟩
            · skip
              refine Wp.deep (s_X12_copies_70 hG hI (fun M17 I17 => ?_)) (Nat.le_of_ble_eq_true rfl)
              refine ⟨by omega, ?_⟩
              have f18 := dAndE (x := ((M17.1 110 x1.toNatClampNeg) >>> (x2 &&& 31))) (y := (1 : Int32)) (by decide)
              refine ⟨fun hc19 => ?_, fun hc19 => ?_⟩
              · skip
                exact hQ _ _ I17
              · skip
                refine Wp.deep (s_X12_ampsOn_70 hG I17 (by omega) (fun R20 => ?_)) (Nat.le_of_ble_eq_true rfl)
                exact hQ _ _ I17
            · skip
              exfalso; omega
theorem s_X12_without_70 {g : gM} {x1 : Int32} {m : dM} {Q : Int32 → dM → Prop} (hG : Gd g) (hI : Inv g m) (hQ : ∀ (r : Int32) (m' : dM), Inv g m' → Q r m') : c_X12_without_70 23 x1 m Q := by
  refine v_X12_without_70 ?_
  refine v_X12_isWire_70 ?_
  have f1 := congrArg Int32.toInt (hI.2 70 18 rfl)
  have f2 := Inv.s hG hI (k := 70) (j := 18) rfl rfl
  refine ⟨by omega, ?_⟩
  refine v_X12_in ?_
  have f3 := ti_0
  refine ⟨fun hc4 => ?_, fun hc4 => ?_⟩
  · skip
    refine v_X12_in_14 ?_
    refine ⟨by decide, ?_⟩
    refine ⟨fun hc5 => ?_, fun hc5 => ?_⟩
    · skip
      exfalso; omega
    · skip
      have f6 := ti_m1
      exact hQ _ _ hI
  · skip
    have f5 := Inv.cnt82 hG hI
    have f6 := Inv.s hG hI (k := 82) (j := (m.1 70 18).toNatClampNeg) rfl rfl
    have f7 := dSubE (X := (m.1 82 (m.1 70 18).toNatClampNeg).toInt) (Y := 1) (x := (m.1 82 (m.1 70 18).toNatClampNeg)) (y := (1 : Int32)) rfl (by decide) (by omega) (by omega)
    refine ⟨fun hc8 => ?_, fun hc8 => ?_⟩
    · skip
      refine v_X12_in_14 ?_
      refine ⟨by decide, ?_⟩
      refine ⟨fun hc9 => ?_, fun hc9 => ?_⟩
      · skip
        exfalso; omega
      · skip
        have f10 := ti_m1
        exact hQ _ _ hI
    · skip
      have f9 := ti_1
      refine ⟨by decide, ?_⟩
      refine ⟨fun hc10 => ?_, fun hc10 => ?_⟩
      · skip
        have f11 := dShl10 (x := x1) (by omega) (by omega)
        refine Wp.deep (s_X12_loses_70 hG hI (by omega) (fun M12 I12 => ?_)) (Nat.le_of_ble_eq_true rfl)
        refine Wp.deep (s_X12_darkBits_70 hG I12 (fun R13 => ?_)) (Nat.le_of_ble_eq_true rfl)
        exact hQ _ _ I12
      · skip
        exfalso; omega
theorem s_X12_needed_70_all {g : gM} {Q : Int32 → dM → Prop} (hG : Gd g) (hQ : ∀ (r : Int32) (m' : dM), Inv g m' → Q r m') : ∀ n : Nat, (∀ (x1 : Int32) (x2 : Int32) (x3 : Int32) (m : dM), Inv g m → (0 ≤ x3.toInt ∧ x3.toInt ≤ 10) → 21 - 2 * x3.toInt < (n : Int) → j_X12_needed_70_13 23 x1 x2 x3 m Q) ∧ (∀ (x1 : Int32) (x2 : Int32) (x3 : Int32) (m : dM), Inv g m → (0 ≤ x3.toInt ∧ x3.toInt ≤ 9) → 20 - 2 * x3.toInt < (n : Int) → j_X12_needed_70_63 23 x1 x2 x3 m Q) := by
  intro n
  induction n with
  | zero => exact ⟨fun x1 x2 x3 m hI h3 hμ => by exfalso; omega, fun x1 x2 x3 m hI h3 hμ => by exfalso; omega⟩
  | succ n ih =>
    refine ⟨?_, ?_⟩
    · intro x1 x2 x3 m hI h3 hμ
      refine v_X12_needed_70_13 ?_
      have f1 := congrArg Int32.toInt (hI.2 70 18 rfl)
      have f2 := Inv.s hG hI (k := 70) (j := 18) rfl rfl
      refine ⟨by omega, ?_⟩
      have f3 := Inv.cnt82 hG hI
      have f4 := Inv.s hG hI (k := 82) (j := (m.1 70 18).toNatClampNeg) rfl rfl
      refine ⟨fun hc5 => ?_, fun hc5 => ?_⟩
      · skip
        exact hQ _ _ hI
      · skip
        have f6 := dAddE (X := 10) (Y := x3.toInt) (x := (10 : Int32)) (y := x3) (by decide) rfl (by omega) (by omega)
        refine ⟨by omega, ?_⟩
        refine ⟨fun hc7 => ?_, fun hc7 => ?_⟩
        · skip
          have f8 := dShl10 (x := x3) (by omega) (by omega)
          refine Wp.deep (s_X12_loses_70 hG hI (by omega) (fun M9 I9 => ?_)) (Nat.le_of_ble_eq_true rfl)
          refine Wp.deep (s_X12_darkBits_70 hG I9 (fun R10 => ?_)) (Nat.le_of_ble_eq_true rfl)
          refine ⟨fun hc11 => ?_, fun hc11 => ?_⟩
          · skip
            exact ih.2 _ _ _ _ I9 (by omega) (by omega)
          · skip
            exact ih.2 _ _ _ _ I9 (by omega) (by omega)
        · skip
          exact ih.2 _ _ _ _ hI (by omega) (by omega)
    · intro x1 x2 x3 m hI h3 hμ
      refine v_X12_needed_70_63 ?_
      have f1 := dAddE (X := x3.toInt) (Y := 1) (x := x3) (y := (1 : Int32)) rfl (by decide) (by omega) (by omega)
      exact ih.1 _ _ _ _ hI (by omega) (by omega)
theorem s_X12_needed_70 {g : gM} {m : dM} {Q : Int32 → dM → Prop} (hG : Gd g) (hI : Inv g m) (hQ : ∀ (r : Int32) (m' : dM), Inv g m' → Q r m') : c_X12_needed_70 23 m Q := by
  refine v_X12_needed_70 ?_
  refine Wp.deep (s_X12_copies_70 hG hI (fun M1 I1 => ?_)) (Nat.le_of_ble_eq_true rfl)
  refine Wp.deep (s_X12_darkBits_70 hG I1 (fun R2 => ?_)) (Nat.le_of_ble_eq_true rfl)
  have f3 := ti_0
  exact (s_X12_needed_70_all hG hQ 23).1 _ _ _ _ I1 (by omega) (by omega)
theorem s_X12_hottest_70_all {g : gM} {Q : Int32 → dM → Prop} (hG : Gd g) (hQ : ∀ (r : Int32) (m' : dM), Inv g m' → Q r m') : ∀ n : Nat, (∀ (x1 : Int32) (x2 : Int32) (x3 : Int32) (x4 : Int32) (x5 : Int32) (m : dM), Inv g m → (0 ≤ x1.toInt ∧ x1.toInt ≤ 1) → (-2000 ≤ x3.toInt ∧ x3.toInt ≤ 9) → (0 ≤ x5.toInt ∧ x5.toInt ≤ 10) → 32 - 3 * x5.toInt < (n : Int) → j_X12_hottest_70_34 22 x1 x2 x3 x4 x5 m Q) ∧ (∀ (x1 : Int32) (x2 : Int32) (x5 : Int32) (x6 : Int32) (m : dM), Inv g m → (0 ≤ x1.toInt ∧ x1.toInt ≤ 1) → (0 ≤ x5.toInt ∧ x5.toInt ≤ 9) → 31 - 3 * x5.toInt < (n : Int) → j_X12_hottest_70_88 22 x1 x2 x5 x6 m Q) ∧ (∀ (x1 : Int32) (x2 : Int32) (x3 : Int32) (x4 : Int32) (x5 : Int32) (m : dM), Inv g m → (0 ≤ x1.toInt ∧ x1.toInt ≤ 1) → (-2000 ≤ x3.toInt ∧ x3.toInt ≤ 9) → (0 ≤ x5.toInt ∧ x5.toInt ≤ 9) → 30 - 3 * x5.toInt < (n : Int) → j_X12_hottest_70_95 22 x1 x2 x3 x4 x5 m Q) := by
  intro n
  induction n with
  | zero => exact ⟨fun x1 x2 x3 x4 x5 m hI h1 h3 h5 hμ => by exfalso; omega, fun x1 x2 x5 x6 m hI h1 h5 hμ => by exfalso; omega, fun x1 x2 x3 x4 x5 m hI h1 h3 h5 hμ => by exfalso; omega⟩
  | succ n ih =>
    refine ⟨?_, ?_, ?_⟩
    · intro x1 x2 x3 x4 x5 m hI h1 h3 h5 hμ
      refine v_X12_hottest_70_34 ?_
      have f1 := congrArg Int32.toInt (hI.2 70 18 rfl)
      have f2 := Inv.s hG hI (k := 70) (j := 18) rfl rfl
      refine ⟨by omega, ?_⟩
      have f3 := Inv.cnt82 hG hI
      have f4 := Inv.s hG hI (k := 82) (j := (m.1 70 18).toNatClampNeg) rfl rfl
      refine ⟨fun hc5 => ?_, fun hc5 => ?_⟩
      · skip
        refine ⟨fun hc6 => ?_, fun hc6 => ?_⟩
        · skip
          exact hQ _ _ hI
        · skip
          exact hQ _ _ hI
      · skip
        refine Wp.deep (s_X12_loadBy_70 hG hI (by omega) (fun R6 => ?_)) (Nat.le_of_ble_eq_true rfl)
        refine ⟨by omega, ?_⟩
        refine v_X12_isWhole_70 ?_
        refine v_X12_isWire_70 ?_
        refine ⟨by omega, ?_⟩
        refine v_X12_in ?_
        have f7 := ti_0
        refine ⟨fun hc8 => ?_, fun hc8 => ?_⟩
        · skip
          exfalso; omega
        · skip
          have f9 := dSubE (X := (m.1 82 (m.1 70 18).toNatClampNeg).toInt) (Y := 1) (x := (m.1 82 (m.1 70 18).toNatClampNeg)) (y := (1 : Int32)) rfl (by decide) (by omega) (by omega)
          refine ⟨fun hc10 => ?_, fun hc10 => ?_⟩
          · skip
            refine v_X12_in_14 ?_
            refine ⟨by decide, ?_⟩
            refine ⟨fun hc11 => ?_, fun hc11 => ?_⟩
            · skip
              refine v_X12_isWhole_70_24 ?_
              refine ⟨fun hc12 => ?_, fun hc12 => ?_⟩
              · skip
                exact ih.2.2 _ _ _ _ _ _ hI (by omega) (by omega) (by omega) (by omega)
              · skip
                exfalso; omega
            · skip
              exfalso; omega
          · skip
            have f11 := ti_1
            refine ⟨by decide, ?_⟩
            refine ⟨fun hc12 => ?_, fun hc12 => ?_⟩
            · skip
              exfalso; omega
            · skip
              have f13 := dAddE (X := 10) (Y := x5.toInt) (x := (10 : Int32)) (y := x5) (by decide) rfl (by omega) (by omega)
              refine ⟨by omega, ?_⟩
              refine ⟨fun hc14 => ?_, fun hc14 => ?_⟩
              · skip
                refine v_X12_isWhole_70_24 ?_
                refine ⟨fun hc15 => ?_, fun hc15 => ?_⟩
                · skip
                  exact ih.2.2 _ _ _ _ _ _ hI (by omega) (by omega) (by omega) (by omega)
                · skip
                  exfalso; omega
              · skip
                refine ⟨fun hc15 => ?_, fun hc15 => ?_⟩
                · skip
                  exfalso; omega
                · skip
                  refine ⟨fun hc16 => ?_, fun hc16 => ?_⟩
                  · skip
                    exact ih.2.1 _ _ _ _ _ hI (by omega) (by omega) (by omega)
                  · skip
                    refine ⟨fun hc17 => ?_, fun hc17 => ?_⟩
                    · skip
                      exact ih.2.1 _ _ _ _ _ hI (by omega) (by omega) (by omega)
                    · skip
                      exact ih.2.2 _ _ _ _ _ _ hI (by omega) (by omega) (by omega) (by omega)
    · intro x1 x2 x5 x6 m hI h1 h5 hμ
      refine v_X12_hottest_70_88 ?_
      exact ih.2.2 _ _ _ _ _ _ hI (by omega) (by omega) (by omega) (by omega)
    · intro x1 x2 x3 x4 x5 m hI h1 h3 h5 hμ
      refine v_X12_hottest_70_95 ?_
      have f1 := dAddE (X := x5.toInt) (Y := 1) (x := x5) (y := (1 : Int32)) rfl (by decide) (by omega) (by omega)
      exact ih.1 _ _ _ _ _ _ hI (by omega) (by omega) (by omega) (by omega)
theorem s_X12_hottest_70 {g : gM} {x1 : Int32} {m : dM} {Q : Int32 → dM → Prop} (hG : Gd g) (hI : Inv g m) (hQ : ∀ (r : Int32) (m' : dM), Inv g m' → Q r m') : c_X12_hottest_70 22 x1 m Q := by
  refine v_X12_hottest_70 ?_
  refine v_X12_in ?_
  have f1 := ti_0
  refine ⟨fun hc2 => ?_, fun hc2 => ?_⟩
  · skip
    refine v_X12_in_14 ?_
    refine ⟨fun hc3 => ?_, fun hc3 => ?_⟩
    · skip
      exfalso; omega
    · skip
      have f4 := ti_m1000
      exact hQ _ _ hI
  · skip
    have f3 := ti_1
    refine ⟨fun hc4 => ?_, fun hc4 => ?_⟩
    · skip
      refine v_X12_in_14 ?_
      refine ⟨fun hc5 => ?_, fun hc5 => ?_⟩
      · skip
        exfalso; omega
      · skip
        have f6 := ti_m1000
        exact hQ _ _ hI
    · skip
      refine ⟨fun hc5 => ?_, fun hc5 => ?_⟩
      · skip
        refine Wp.deep (s_X12_copies_70 hG hI (fun M6 I6 => ?_)) (Nat.le_of_ble_eq_true rfl)
        refine Wp.deep (s_X12_onNow_70 hG I6 (fun R7 => ?_)) (Nat.le_of_ble_eq_true rfl)
        have f8 := ti_m2000
        exact (s_X12_hottest_70_all hG hQ 34).1 _ _ _ _ _ _ I6 (by omega) (by omega) (by omega) (by omega)
      · skip
        exfalso; omega
theorem s_X12_clash_70 {g : gM} {x1 : Int32} {x2 : Int32} {m : dM} {Q : Int32 → dM → Prop} (hG : Gd g) (hI : Inv g m) (hQ : ∀ (r : Int32) (m' : dM), Inv g m' → Q r m') : c_X12_clash_70 23 x1 x2 m Q := by
  refine v_X12_clash_70 ?_
  refine v_X12_isUse_70 ?_
  have f1 := congrArg Int32.toInt (hI.2 70 18 rfl)
  have f2 := Inv.s hG hI (k := 70) (j := 18) rfl rfl
  refine ⟨by omega, ?_⟩
  refine v_X12_in ?_
  have f3 := ti_0
  refine ⟨fun hc4 => ?_, fun hc4 => ?_⟩
  · skip
    refine v_X12_in_14 ?_
    refine ⟨by decide, ?_⟩
    refine ⟨fun hc5 => ?_, fun hc5 => ?_⟩
    · skip
      refine v_X12_clash_70_21 ?_
      have f6 := ti_m1
      exact hQ _ _ hI
    · skip
      exfalso; omega
  · skip
    have f5 := Inv.cnt86 hG hI
    have f6 := Inv.s hG hI (k := 86) (j := (m.1 70 18).toNatClampNeg) rfl rfl
    have f7 := dSubE (X := (m.1 86 (m.1 70 18).toNatClampNeg).toInt) (Y := 1) (x := (m.1 86 (m.1 70 18).toNatClampNeg)) (y := (1 : Int32)) rfl (by decide) (by omega) (by omega)
    refine ⟨fun hc8 => ?_, fun hc8 => ?_⟩
    · skip
      refine v_X12_in_14 ?_
      refine ⟨by decide, ?_⟩
      refine ⟨fun hc9 => ?_, fun hc9 => ?_⟩
      · skip
        refine v_X12_clash_70_21 ?_
        have f10 := ti_m1
        exact hQ _ _ hI
      · skip
        exfalso; omega
    · skip
      have f9 := ti_1
      refine ⟨by decide, ?_⟩
      refine ⟨fun hc10 => ?_, fun hc10 => ?_⟩
      · skip
        exfalso; omega
      · skip
        refine v_X12_isUse_70 ?_
        refine ⟨by omega, ?_⟩
        refine v_X12_in ?_
        refine ⟨fun hc11 => ?_, fun hc11 => ?_⟩
        · skip
          refine v_X12_in_14 ?_
          refine ⟨by decide, ?_⟩
          refine ⟨fun hc12 => ?_, fun hc12 => ?_⟩
          · skip
            refine v_X12_clash_70_21 ?_
            have f13 := ti_m1
            exact hQ _ _ hI
          · skip
            exfalso; omega
        · skip
          refine ⟨fun hc12 => ?_, fun hc12 => ?_⟩
          · skip
            refine v_X12_in_14 ?_
            refine ⟨by decide, ?_⟩
            refine ⟨fun hc13 => ?_, fun hc13 => ?_⟩
            · skip
              refine v_X12_clash_70_21 ?_
              have f14 := ti_m1
              exact hQ _ _ hI
            · skip
              exfalso; omega
          · skip
            refine ⟨by decide, ?_⟩
            refine ⟨fun hc13 => ?_, fun hc13 => ?_⟩
            · skip
              exfalso; omega
            · skip
              refine ⟨fun hc14 => ?_, fun hc14 => ?_⟩
              · skip
                refine Wp.deep (s_X12_copies_70 hG hI (fun M15 I15 => ?_)) (Nat.le_of_ble_eq_true rfl)
                refine v_X12_flatAt_70 ?_
                have f16 := congrArg Int32.toInt (I15.2 70 18 rfl)
                have f17 := Inv.s hG I15 (k := 70) (j := 18) rfl rfl
                have f18 := dMulE (X := 8) (Y := (M15.1 70 18).toInt) (x := (8 : Int32)) (y := (M15.1 70 18)) (by decide) rfl (by omega) (by omega)
                have f19 := dAddE (X := ((8 : Int32) * (M15.1 70 18)).toInt) (Y := x1.toInt) (x := ((8 : Int32) * (M15.1 70 18))) (y := x1) rfl rfl (by omega) (by omega)
                refine ⟨by omega, ?_⟩
                refine v_X12_isLit_70 ?_
                have f20 := Inv.cnt86 hG I15
                have f21 := Inv.s hG I15 (k := 86) (j := (M15.1 70 18).toNatClampNeg) rfl rfl
                have f22 := Inv.flat hG I15 (u := x1) (by omega) (by omega)
                refine ⟨by omega, ?_⟩
                refine ⟨fun hc23 => ?_, fun hc23 => ?_⟩
                · skip
                  refine ⟨fun hc24 => ?_, fun hc24 => ?_⟩
                  · skip
                    refine v_X12_clash_70_51 ?_
                    exact hQ _ _ I15
                  · skip
                    exfalso; omega
                · skip
                  refine ⟨fun hc24 => ?_, fun hc24 => ?_⟩
                  · skip
                    exfalso; omega
                  · skip
                    refine v_X12_flatAt_70 ?_
                    have f25 := dAddE (X := ((8 : Int32) * (M15.1 70 18)).toInt) (Y := x2.toInt) (x := ((8 : Int32) * (M15.1 70 18))) (y := x2) rfl rfl (by omega) (by omega)
                    refine ⟨by omega, ?_⟩
                    refine v_X12_isLit_70 ?_
                    have f26 := Inv.flat hG I15 (u := x2) (by omega) (by omega)
                    refine ⟨by omega, ?_⟩
                    refine ⟨fun hc27 => ?_, fun hc27 => ?_⟩
                    · skip
                      refine ⟨fun hc28 => ?_, fun hc28 => ?_⟩
                      · skip
                        exfalso; omega
                      · skip
                        refine v_X12_clash_70_51 ?_
                        exact hQ _ _ I15
                    · skip
                      refine ⟨fun hc28 => ?_, fun hc28 => ?_⟩
                      · skip
                        have f29 := dShl8 (x := x1) (by omega) (by omega)
                        have f30 := dShl8 (x := x2) (by omega) (by omega)
                        have f31 := dRemE (x := (M15.1 108 55)) (y := (24 : Int32)) (Y := 24) (by decide) (by decide)
                        refine Wp.deep (s_X12_goingBits_70 hG I15 (by omega) (fun R32 M32 I32 => ?_)) (Nat.le_of_ble_eq_true rfl)
                        refine Wp.deep (s_X12_goingBits_70 hG I32 (by omega) (fun R33 M33 I33 => ?_)) (Nat.le_of_ble_eq_true rfl)
                        refine Wp.deep (s_X12_goingBits_70 hG I33 (by omega) (fun R34 M34 I34 => ?_)) (Nat.le_of_ble_eq_true rfl)
                        refine Wp.deep (s_X12_bits hG I34 (fun R35 => ?_)) (Nat.le_of_ble_eq_true rfl)
                        exact hQ _ _ I34
                      · skip
                        exfalso; omega
              · skip
                refine v_X12_clash_70_21 ?_
                have f15 := ti_m1
                exact hQ _ _ hI
theorem s_X12_then_70_all {g : gM} {Q : Int32 → dM → Prop} (hG : Gd g) (hQ : ∀ (r : Int32) (m' : dM), Inv g m' → Q r m') : ∀ n : Nat, (∀ (m : dM), Inv g m → 0 < (n : Int) → j_X12_then_70_16 25 m Q) ∧ (∀ (x3 : Int32) (x4 : Int32) (m : dM), Inv g m → (0 ≤ x4.toInt ∧ x4.toInt ≤ 10) → 11 - 1 * x4.toInt < (n : Int) → j_X12_then_70_57 25 x3 x4 m Q) := by
  intro n
  induction n with
  | zero => exact ⟨fun m hI hμ => by exfalso; omega, fun x3 x4 m hI h4 hμ => by exfalso; omega⟩
  | succ n ih =>
    refine ⟨?_, ?_⟩
    · intro m hI hμ
      refine v_X12_then_70_16 ?_
      have f1 := ti_m1
      exact hQ _ _ hI
    · intro x3 x4 m hI h4 hμ
      refine v_X12_then_70_57 ?_
      have f1 := congrArg Int32.toInt (hI.2 70 18 rfl)
      have f2 := Inv.s hG hI (k := 70) (j := 18) rfl rfl
      refine ⟨by omega, ?_⟩
      have f3 := Inv.cnt82 hG hI
      have f4 := Inv.s hG hI (k := 82) (j := (m.1 70 18).toNatClampNeg) rfl rfl
      refine ⟨fun hc5 => ?_, fun hc5 => ?_⟩
      · skip
        exact hQ _ _ hI
      · skip
        have f6 := dAddE (X := 10) (Y := x4.toInt) (x := (10 : Int32)) (y := x4) (by decide) rfl (by omega) (by omega)
        refine ⟨by omega, ?_⟩
        have f7 := dAddE (X := x4.toInt) (Y := 1) (x := x4) (y := (1 : Int32)) rfl (by decide) (by omega) (by omega)
        exact ih.2 _ _ _ hI (by omega) (by omega)
theorem s_X12_then_70 {g : gM} {x1 : Int32} {x2 : Int32} {m : dM} {Q : Int32 → dM → Prop} (hG : Gd g) (hI : Inv g m) (hQ : ∀ (r : Int32) (m' : dM), Inv g m' → Q r m') : c_X12_then_70 25 x1 x2 m Q := by
  refine v_X12_then_70 ?_
  refine v_X12_isLong ?_
  refine v_X12_in ?_
  have f1 := ti_0
  refine ⟨fun hc2 => ?_, fun hc2 => ?_⟩
  · skip
    refine v_X12_in_14 ?_
    refine ⟨by decide, ?_⟩
    refine ⟨fun hc3 => ?_, fun hc3 => ?_⟩
    · skip
      exact (s_X12_then_70_all hG hQ 13).1 _ hI (by omega)
    · skip
      exfalso; omega
  · skip
    have f3 := ti_72
    refine ⟨fun hc4 => ?_, fun hc4 => ?_⟩
    · skip
      refine v_X12_in_14 ?_
      refine ⟨by decide, ?_⟩
      refine ⟨fun hc5 => ?_, fun hc5 => ?_⟩
      · skip
        exact (s_X12_then_70_all hG hQ 13).1 _ hI (by omega)
      · skip
        exfalso; omega
    · skip
      have f5 := ti_1
      refine ⟨by decide, ?_⟩
      refine ⟨fun hc6 => ?_, fun hc6 => ?_⟩
      · skip
        exfalso; omega
      · skip
        refine v_X12_in ?_
        refine ⟨fun hc7 => ?_, fun hc7 => ?_⟩
        · skip
          refine v_X12_in_14 ?_
          refine ⟨fun hc8 => ?_, fun hc8 => ?_⟩
          · skip
            exfalso; omega
          · skip
            exact (s_X12_then_70_all hG hQ 13).1 _ hI (by omega)
        · skip
          have f8 := ti_2
          refine ⟨fun hc9 => ?_, fun hc9 => ?_⟩
          · skip
            refine v_X12_in_14 ?_
            refine ⟨fun hc10 => ?_, fun hc10 => ?_⟩
            · skip
              exfalso; omega
            · skip
              exact (s_X12_then_70_all hG hQ 13).1 _ hI (by omega)
          · skip
            refine ⟨fun hc10 => ?_, fun hc10 => ?_⟩
            · skip
              refine Wp.deep (s_X12_copies_70 hG hI (fun M11 I11 => ?_)) (Nat.le_of_ble_eq_true rfl)
              refine Wp.deep (s_X12_goes_70 hG I11 (by omega) (fun M12 I12 => ?_)) (Nat.le_of_ble_eq_true rfl)
              refine ⟨fun hc13 => ?_, fun hc13 => ?_⟩
              · skip
                exact (s_X12_then_70_all hG hQ 13).2 _ _ _ I12 (by omega) (by omega)
              · skip
                have f14 := dAddE (X := 56) (Y := x2.toInt) (x := (56 : Int32)) (y := x2) (by decide) rfl (by omega) (by omega)
                refine ⟨by omega, ?_⟩
                refine ⟨by omega, ?_⟩
                exact hQ _ _ I12
            · skip
              exfalso; omega
