section
theorem s_X12_looks_70_all {g : gM} {Q : dM → Prop} (hG : Gd g) (hQ : ∀ m' : dM, Inv g m' → Q m') : ∀ n : Nat, (∀ (x1 : Int32) (x2 : Int32) (x3 : Int32) (m : dM), Inv g m → (-23 ≤ x1.toInt ∧ x1.toInt ≤ 20046) → (0 ≤ x2.toInt ∧ x2.toInt ≤ 9) → (0 ≤ x3.toInt ∧ x3.toInt ≤ 9) → 9 - 1 * x3.toInt < (n : Int) → j_X12_looks_70_2 1 x1 x2 x3 m Q) := by
  intro n
  induction n with
  | zero => exact fun x1 x2 x3 m hI h1 h2 h3 hμ => by exfalso; omega
  | succ n ih =>
    · intro x1 x2 x3 m hI h1 h2 h3 hμ
      refine v_X12_looks_70_2 ?_
      refine ⟨fun hc1 => ?_, fun hc1 => ?_⟩
      · skip
        have I2 : Inv g (dSet m 105 3 x1) := (Inv.setA hI rfl)
        have I3 : Inv g (dSet (dSet m 105 3 x1) 105 4 ((m.1 108 55) / (24 : Int32))) := (Inv.setA I2 rfl)
        have I4 : Inv g (dSet (dSet (dSet m 105 3 x1) 105 4 ((m.1 108 55) / (24 : Int32))) 105 8 x2) := (Inv.setA I3 rfl)
        exact hQ _ I4
      · skip
        refine ⟨by omega, ?_⟩
        have f2 := dAddE (X := x3.toInt) (Y := 1) (x := x3) (y := (1 : Int32)) rfl (by decide) (by omega) (by omega)
        have I3 : Inv g (dSet m 105 x3.toNatClampNeg (0 : Int32)) := (Inv.setA hI rfl)
        exact ih _ _ _ _ I3 (by omega) (by omega) (by omega) (by omega)
theorem s_X12_looks_70 {g : gM} {x1 : Int32} {x2 : Int32} {m : dM} {Q : dM → Prop} (hG : Gd g) (hI : Inv g m) (h1 : -23 ≤ x1.toInt ∧ x1.toInt ≤ 20046) (h2 : 0 ≤ x2.toInt ∧ x2.toInt ≤ 9) (hQ : ∀ m' : dM, Inv g m' → Q m') : c_X12_looks_70 1 x1 x2 m Q := by
  refine v_X12_looks_70 ?_
  have f1 := ti_0
  exact (s_X12_looks_70_all hG hQ 11) _ _ _ _ hI (by omega) (by omega) (by omega) (by omega)
theorem s_X12_onAt_70_all {g : gM} {Q : Int32 → dM → Prop} {m : dM} (hG : Gd g) (hI : Inv g m) (hQ : ∀ r : Int32, Q r m) : ∀ n : Nat, (∀ (x1 : Int32) (x2 : Int32) (x3 : Int32), (-23 ≤ x1.toInt ∧ x1.toInt ≤ 20046) → (0 ≤ x3.toInt ∧ x3.toInt ≤ 8) → 17 - 2 * x3.toInt < (n : Int) → j_X12_onAt_70_4 2 x1 x2 x3 m Q) ∧ (∀ (x1 : Int32) (x2 : Int32) (x3 : Int32), (-23 ≤ x1.toInt ∧ x1.toInt ≤ 20046) → (0 ≤ x3.toInt ∧ x3.toInt ≤ 7) → 16 - 2 * x3.toInt < (n : Int) → j_X12_onAt_70_83 2 x1 x2 x3 m Q) := by
  intro n
  induction n with
  | zero => exact ⟨fun x1 x2 x3 h1 h3 hμ => by exfalso; omega, fun x1 x2 x3 h1 h3 hμ => by exfalso; omega⟩
  | succ n ih =>
    refine ⟨?_, ?_⟩
    · intro x1 x2 x3 h1 h3 hμ
      refine v_X12_onAt_70_4 ?_
      have f1 := congrArg Int32.toInt (hI.2 70 18 rfl)
      have f2 := Inv.s hG hI (k := 70) (j := 18) rfl rfl
      refine ⟨by omega, ?_⟩
      have f3 := Inv.cnt86 hG hI
      have f4 := Inv.s hG hI (k := 86) (j := (m.1 70 18).toNatClampNeg) rfl rfl
      refine ⟨fun hc5 => ?_, fun hc5 => ?_⟩
      · skip
        exact hQ _
      · skip
        have f6 := dAddE (X := 47) (Y := x3.toInt) (x := (47 : Int32)) (y := x3) (by decide) rfl (by omega) (by omega)
        refine ⟨by omega, ?_⟩
        refine ⟨fun hc7 => ?_, fun hc7 => ?_⟩
        · skip
          exact ih.2 _ _ _ (by omega) (by omega) (by omega)
        · skip
          have f8 := dMulE (X := 8) (Y := (m.1 70 18).toInt) (x := (8 : Int32)) (y := (m.1 70 18)) (by decide) rfl (by omega) (by omega)
          have f9 := dAddE (X := ((8 : Int32) * (m.1 70 18)).toInt) (Y := x3.toInt) (x := ((8 : Int32) * (m.1 70 18))) (y := x3) rfl rfl (by omega) (by omega)
          refine ⟨by omega, ?_⟩
          refine ⟨by omega, ?_⟩
          refine v_X12_in ?_
          have f10 := Inv.s hG hI (k := 89) (j := (((8 : Int32) * (m.1 70 18)) + x3).toNatClampNeg) rfl rfl
          refine ⟨fun hc11 => ?_, fun hc11 => ?_⟩
          · skip
            refine v_X12_in_14 ?_
            have f12 := ti_0
            refine ⟨fun hc13 => ?_, fun hc13 => ?_⟩
            · skip
              exact ih.2 _ _ _ (by omega) (by omega) (by omega)
            · skip
              exfalso; omega
          · skip
            have f12 := Inv.s hG hI (k := 90) (j := (((8 : Int32) * (m.1 70 18)) + x3).toNatClampNeg) rfl rfl
            refine ⟨fun hc13 => ?_, fun hc13 => ?_⟩
            · skip
              refine v_X12_in_14 ?_
              have f14 := ti_0
              refine ⟨fun hc15 => ?_, fun hc15 => ?_⟩
              · skip
                exact ih.2 _ _ _ (by omega) (by omega) (by omega)
              · skip
                exfalso; omega
            · skip
              have f14 := ti_1
              refine ⟨fun hc15 => ?_, fun hc15 => ?_⟩
              · skip
                exfalso; omega
              · skip
                refine v_X12_flatAt_70 ?_
                refine ⟨by omega, ?_⟩
                refine v_X12_isLit_70 ?_
                have f16 := Inv.flat hG hI (u := x3) (by omega) (by omega)
                refine ⟨by omega, ?_⟩
                refine ⟨fun hc17 => ?_, fun hc17 => ?_⟩
                · skip
                  have f18 := ti_0
                  refine ⟨fun hc19 => ?_, fun hc19 => ?_⟩
                  · skip
                    exact ih.2 _ _ _ (by omega) (by omega) (by omega)
                  · skip
                    exfalso; omega
                · skip
                  refine ⟨fun hc18 => ?_, fun hc18 => ?_⟩
                  · skip
                    exfalso; omega
                  · skip
                    have f19 := dShl8 (x := x3) (by omega) (by omega)
                    exact ih.2 _ _ _ (by omega) (by omega) (by omega)
    · intro x1 x2 x3 h1 h3 hμ
      refine v_X12_onAt_70_83 ?_
      have f1 := dAddE (X := x3.toInt) (Y := 1) (x := x3) (y := (1 : Int32)) rfl (by decide) (by omega) (by omega)
      exact ih.1 _ _ _ (by omega) (by omega) (by omega)
theorem s_X12_onAt_70 {g : gM} {x1 : Int32} {m : dM} {Q : Int32 → dM → Prop} (hG : Gd g) (hI : Inv g m) (h1 : -23 ≤ x1.toInt ∧ x1.toInt ≤ 20046) (hQ : ∀ r : Int32, Q r m) : c_X12_onAt_70 2 x1 m Q := by
  refine v_X12_onAt_70 ?_
  have f1 := ti_0
  exact (s_X12_onAt_70_all hG hI hQ 19).1 _ _ _ (by omega) (by omega) (by omega)
theorem s_X12_onNow_70 {g : gM} {m : dM} {Q : Int32 → dM → Prop} (hG : Gd g) (hI : Inv g m) (hQ : ∀ r : Int32, Q r m) : c_X12_onNow_70 3 m Q := by
  refine v_X12_onNow_70 ?_
  have f1 := dRemE (x := (m.1 108 55)) (y := (24 : Int32)) (Y := 24) (by decide) (by decide)
  refine Wp.deep (s_X12_onAt_70 hG hI (by omega) (fun R2 => ?_)) (Nat.le_of_ble_eq_true rfl)
  exact hQ _
theorem s_X12_ampsOn_70_all {g : gM} {Q : Int32 → dM → Prop} {m : dM} (hG : Gd g) (hI : Inv g m) (hQ : ∀ r : Int32, Q r m) : ∀ n : Nat, (∀ (x1 : Int32) (x2 : Int32) (x3 : Int32) (x4 : Int32), (0 ≤ x1.toInt ∧ x1.toInt ≤ 6) → (0 ≤ x4.toInt ∧ x4.toInt ≤ 8) → 17 - 2 * x4.toInt < (n : Int) → j_X12_ampsOn_70_10 4 x1 x2 x3 x4 m Q) ∧ (∀ (x1 : Int32) (x2 : Int32) (x3 : Int32) (x4 : Int32), (0 ≤ x1.toInt ∧ x1.toInt ≤ 6) → (0 ≤ x4.toInt ∧ x4.toInt ≤ 7) → 16 - 2 * x4.toInt < (n : Int) → j_X12_ampsOn_70_53 4 x1 x2 x3 x4 m Q) := by
  intro n
  induction n with
  | zero => exact ⟨fun x1 x2 x3 x4 h1 h4 hμ => by exfalso; omega, fun x1 x2 x3 x4 h1 h4 hμ => by exfalso; omega⟩
  | succ n ih =>
    refine ⟨?_, ?_⟩
    · intro x1 x2 x3 x4 h1 h4 hμ
      refine v_X12_ampsOn_70_10 ?_
      have f1 := congrArg Int32.toInt (hI.2 70 18 rfl)
      have f2 := Inv.s hG hI (k := 70) (j := 18) rfl rfl
      refine ⟨by omega, ?_⟩
      have f3 := Inv.cnt86 hG hI
      have f4 := Inv.s hG hI (k := 86) (j := (m.1 70 18).toNatClampNeg) rfl rfl
      refine ⟨fun hc5 => ?_, fun hc5 => ?_⟩
      · skip
        exact hQ _
      · skip
        have f6 := ti_1
        have f7 := dAndE (x := (x2 >>> (x4 &&& 31))) (y := (1 : Int32)) (by decide)
        refine ⟨fun hc8 => ?_, fun hc8 => ?_⟩
        · skip
          exact ih.2 _ _ _ _ (by omega) (by omega) (by omega)
        · skip
          refine v_X12_flatAt_70 ?_
          have f9 := dMulE (X := 8) (Y := (m.1 70 18).toInt) (x := (8 : Int32)) (y := (m.1 70 18)) (by decide) rfl (by omega) (by omega)
          have f10 := dAddE (X := ((8 : Int32) * (m.1 70 18)).toInt) (Y := x4.toInt) (x := ((8 : Int32) * (m.1 70 18))) (y := x4) rfl rfl (by omega) (by omega)
          refine ⟨by omega, ?_⟩
          have f11 := Inv.flat hG hI (u := x4) (by omega) (by omega)
          refine ⟨fun hc12 => ?_, fun hc12 => ?_⟩
          · skip
            exact ih.2 _ _ _ _ (by omega) (by omega) (by omega)
          · skip
            refine v_X12_ampsAt_70 ?_
            refine ⟨by omega, ?_⟩
            exact ih.2 _ _ _ _ (by omega) (by omega) (by omega)
    · intro x1 x2 x3 x4 h1 h4 hμ
      refine v_X12_ampsOn_70_53 ?_
      have f1 := dAddE (X := x4.toInt) (Y := 1) (x := x4) (y := (1 : Int32)) rfl (by decide) (by omega) (by omega)
      exact ih.1 _ _ _ _ (by omega) (by omega) (by omega)
theorem s_X12_ampsOn_70 {g : gM} {x1 : Int32} {m : dM} {Q : Int32 → dM → Prop} (hG : Gd g) (hI : Inv g m) (h1 : 0 ≤ x1.toInt ∧ x1.toInt ≤ 6) (hQ : ∀ r : Int32, Q r m) : c_X12_ampsOn_70 4 x1 m Q := by
  refine v_X12_ampsOn_70 ?_
  refine Wp.deep (s_X12_onNow_70 hG hI (fun R1 => ?_)) (Nat.le_of_ble_eq_true rfl)
  have f2 := ti_0
  exact (s_X12_ampsOn_70_all hG hI hQ 19).1 _ _ _ _ (by omega) (by omega) (by omega)
theorem s_J7_fill_56_all {g : gM} {Q : dM → Prop} (hG : Gd g) (hQ : ∀ m' : dM, Inv g m' → Q m') : ∀ n : Nat, (∀ (x1 : Int32) (x2 : Int32) (x3 : Int32) (m : dM), Inv g m → (0 ≤ x1.toInt ∧ x1.toInt ≤ 0) → (0 ≤ x2.toInt ∧ x2.toInt ≤ 10) → (10 ≤ x3.toInt ∧ x3.toInt ≤ 10) → 10 - 1 * x2.toInt < (n : Int) → j_J7_fill_56_5 1 x1 x2 x3 m Q) := by
  intro n
  induction n with
  | zero => exact fun x1 x2 x3 m hI h1 h2 h3 hμ => by exfalso; omega
  | succ n ih =>
    · intro x1 x2 x3 m hI h1 h2 h3 hμ
      refine v_J7_fill_56_5 ?_
      refine ⟨fun hc1 => ?_, fun hc1 => ?_⟩
      · skip
        exact hQ _ hI
      · skip
        refine ⟨by omega, ?_⟩
        have f2 := dAddE (X := x2.toInt) (Y := 1) (x := x2) (y := (1 : Int32)) rfl (by decide) (by omega) (by omega)
        have I3 : Inv g (dSet m 56 x2.toNatClampNeg x1) := (Inv.setA hI rfl)
        exact ih _ _ _ _ I3 (by omega) (by omega) (by omega) (by omega)
theorem s_J7_fill_56 {g : gM} {x1 : Int32} {m : dM} {Q : dM → Prop} (hG : Gd g) (hI : Inv g m) (h1 : 0 ≤ x1.toInt ∧ x1.toInt ≤ 0) (hQ : ∀ m' : dM, Inv g m' → Q m') : c_J7_fill_56 1 x1 m Q := by
  refine v_J7_fill_56 ?_
  have f1 := ti_0
  have f2 := ti_10
  exact (s_J7_fill_56_all hG hQ 12) _ _ _ _ hI (by omega) (by omega) (by omega) (by omega)
theorem s_X0_putOn_54_47_all {g : gM} {Q : dM → Prop} (hG : Gd g) (hQ : ∀ m' : dM, Inv g m' → Q m') : ∀ n : Nat, (∀ (x2 : Int32) (x3 : Int32) (m : dM), Inv g m → (0 ≤ x3.toInt ∧ x3.toInt ≤ 8) → 116 - 13 * x3.toInt < (n : Int) → j_X0_putOn_54_47_21 3 x2 x3 m Q) ∧ (∀ (x2 : Int32) (x3 : Int32) (x4 : Int32) (x5 : Int32) (m : dM), Inv g m → (0 ≤ x3.toInt ∧ x3.toInt ≤ 7) → (0 ≤ x5.toInt ∧ x5.toInt ≤ 10) → 115 - 13 * x3.toInt - 1 * x5.toInt < (n : Int) → j_X0_putOn_54_47_66 3 x2 x3 x4 x5 m Q) ∧ (∀ (x2 : Int32) (x3 : Int32) (m : dM), Inv g m → (0 ≤ x3.toInt ∧ x3.toInt ≤ 7) → 104 - 13 * x3.toInt < (n : Int) → j_X0_putOn_54_47_125 3 x2 x3 m Q) := by
  intro n
  induction n with
  | zero => exact ⟨fun x2 x3 m hI h3 hμ => by exfalso; omega, fun x2 x3 x4 x5 m hI h3 h5 hμ => by exfalso; omega, fun x2 x3 m hI h3 hμ => by exfalso; omega⟩
  | succ n ih =>
    refine ⟨?_, ?_, ?_⟩
    · intro x2 x3 m hI h3 hμ
      refine v_X0_putOn_54_47_21 ?_
      have f1 := congrArg Int32.toInt (hI.2 2 2 rfl)
      have f2 := Inv.s hG hI (k := 2) (j := 2) rfl rfl
      refine ⟨fun hc3 => ?_, fun hc3 => ?_⟩
      · skip
        exact hQ _ hI
      · skip
        refine v_X11_has ?_
        have f4 := ti_1
        have f5 := dAndE (x := (x2.toUInt32 >>> (x3.toUInt32 &&& Int32.toUInt32 31)).toInt32) (y := (1 : Int32)) (by decide)
        refine ⟨fun hc6 => ?_, fun hc6 => ?_⟩
        · skip
          have f7 := ti_0
          refine ⟨fun hc8 => ?_, fun hc8 => ?_⟩
          · skip
            exact ih.2.1 _ _ _ _ _ hI (by omega) (by omega) (by omega)
          · skip
            exfalso; omega
        · skip
          refine ⟨fun hc7 => ?_, fun hc7 => ?_⟩
          · skip
            exfalso; omega
          · skip
            refine ⟨by omega, ?_⟩
            have f8 := Inv.home hG hI (u := x3) (by omega) (by omega)
            refine ⟨by omega, ?_⟩
            have f9 := ti_0
            exact ih.2.1 _ _ _ _ _ hI (by omega) (by omega) (by omega)
    · intro x2 x3 x4 x5 m hI h3 h5 hμ
      refine v_X0_putOn_54_47_66 ?_
      refine ⟨fun hc1 => ?_, fun hc1 => ?_⟩
      · skip
        exact ih.2.2 _ _ _ hI (by omega) (by omega)
      · skip
        have f2 := congrArg Int32.toInt (hI.2 2 1 rfl)
        have f3 := Inv.s hG hI (k := 2) (j := 1) rfl rfl
        refine ⟨fun hc4 => ?_, fun hc4 => ?_⟩
        · skip
          exact ih.2.2 _ _ _ hI (by omega) (by omega)
        · skip
          refine ⟨by omega, ?_⟩
          refine v_X11_has ?_
          have f5 := ti_1
          have f6 := dAndE (x := (x4.toUInt32 >>> (x5.toUInt32 &&& Int32.toUInt32 31)).toInt32) (y := (1 : Int32)) (by decide)
          refine ⟨fun hc7 => ?_, fun hc7 => ?_⟩
          · skip
            have f8 := ti_0
            refine ⟨fun hc9 => ?_, fun hc9 => ?_⟩
            · skip
              refine ⟨by omega, ?_⟩
              have f10 := dAddE (X := x5.toInt) (Y := 1) (x := x5) (y := (1 : Int32)) rfl (by decide) (by omega) (by omega)
              have I11 : Inv g (dSet m 56 x5.toNatClampNeg ((m.1 56 x5.toNatClampNeg) + (0 : Int32))) := (Inv.setA hI rfl)
              exact ih.2.1 _ _ _ _ _ I11 (by omega) (by omega) (by omega)
            · skip
              exfalso; omega
          · skip
            refine ⟨fun hc8 => ?_, fun hc8 => ?_⟩
            · skip
              exfalso; omega
            · skip
              refine ⟨by omega, ?_⟩
              refine ⟨by omega, ?_⟩
              have f9 := dAddE (X := x5.toInt) (Y := 1) (x := x5) (y := (1 : Int32)) rfl (by decide) (by omega) (by omega)
              have I10 : Inv g (dSet m 56 x5.toNatClampNeg ((m.1 56 x5.toNatClampNeg) + (m.1 8 x3.toNatClampNeg))) := (Inv.setA hI rfl)
              exact ih.2.1 _ _ _ _ _ I10 (by omega) (by omega) (by omega)
    · intro x2 x3 m hI h3 hμ
      refine v_X0_putOn_54_47_125 ?_
      have f1 := dAddE (X := x3.toInt) (Y := 1) (x := x3) (y := (1 : Int32)) rfl (by decide) (by omega) (by omega)
      exact ih.1 _ _ _ hI (by omega) (by omega)
theorem s_X0_putOn_54_47 {g : gM} {x2 : Int32} {m : dM} {Q : dM → Prop} (hG : Gd g) (hI : Inv g m) (hQ : ∀ m' : dM, Inv g m' → Q m') : c_X0_putOn_54_47 3 x2 m Q := by
  refine v_X0_putOn_54_47 ?_
  refine Wp.deep (s_X10_lay_57 hG hI (fun M1 I1 => ?_)) (Nat.le_of_ble_eq_true rfl)
  have f2 := ti_0
  refine Wp.deep (s_J7_fill_56 hG I1 (by omega) (fun M3 I3 => ?_)) (Nat.le_of_ble_eq_true rfl)
  exact (s_X0_putOn_54_47_all hG hQ 118).1 _ _ _ I3 (by omega) (by omega)
theorem s_X0_loadNow_54_47 {g : gM} {x2 : Int32} {m : dM} {Q : Int32 → dM → Prop} (hG : Gd g) (hI : Inv g m) (h2 : 0 ≤ x2.toInt ∧ x2.toInt ≤ 9) (hQ : ∀ (r : Int32) (m' : dM), Inv g m' → Q r m') : c_X0_loadNow_54_47 5 x2 m Q := by
  refine v_X0_loadNow_54_47 ?_
  refine Wp.deep (s_X0_usesNow_54_47 hG hI (fun R1 M1 I1 => ?_)) (Nat.le_of_ble_eq_true rfl)
  refine Wp.deep (s_X0_putOn_54_47 hG I1 (fun M2 I2 => ?_)) (Nat.le_of_ble_eq_true rfl)
  refine ⟨by omega, ?_⟩
  exact hQ _ _ I2
theorem s_X0_costOf_54_47 {g : gM} {x2 : Int32} {m : dM} {Q : Int32 → dM → Prop} (hG : Gd g) (hI : Inv g m) (h2 : 0 ≤ x2.toInt ∧ x2.toInt ≤ 9) (hQ : ∀ (r : Int32) (m' : dM), Inv g m' → (0 ≤ r.toInt ∧ r.toInt ≤ 99) → Q r m') : c_X0_costOf_54_47 4 x2 m Q := by
  refine v_X0_costOf_54_47 ?_
  refine v_X7_hourOfDay_47 ?_
  refine v_X7_day_47 ?_
  have f1 := dRemE (x := (m.1 47 0)) (y := (24 : Int32)) (Y := 24) (by decide) (by decide)
  refine Wp.deep (s_X0_setVars_54 hG hI (by omega) (by omega) (fun M2 I2 => ?_)) (Nat.le_of_ble_eq_true rfl)
  refine ⟨by omega, ?_⟩
  refine ⟨by omega, ?_⟩
  have f3 := ti_2
  have I4 : Inv g (dSet M2 55 1 (M2.1 48 x2.toNatClampNeg)) := (Inv.setA I2 rfl)
  have I5 : Inv g (dSet (dSet M2 55 1 (M2.1 48 x2.toNatClampNeg)) 55 2 (M2.1 49 x2.toNatClampNeg)) := (Inv.setA I4 rfl)
  refine Wp.deep (s_X4_tells_11_55 hG I5 (by omega) (fun R6 M6 I6 => ?_)) (Nat.le_of_ble_eq_true rfl)
  refine Wp.deep (s_X0_held hG I6 (fun R7 hr7 => ?_)) (Nat.le_of_ble_eq_true rfl)
  exact hQ _ _ I6 (by omega)
theorem s_X0_going_54_47_all {g : gM} {Q : Int32 → dM → Prop} (hG : Gd g) (hQ : ∀ (r : Int32) (m' : dM), Inv g m' → Q r m') : ∀ n : Nat, (∀ (x2 : Int32) (x3 : Int32) (x4 : Int32) (x5 : Int32) (m : dM), Inv g m → (-23 ≤ x2.toInt ∧ x2.toInt ≤ 23) → (0 ≤ x5.toInt ∧ x5.toInt ≤ 10) → 21 - 2 * x5.toInt < (n : Int) → j_X0_going_54_47_6 4 x2 x3 x4 x5 m Q) ∧ (∀ (x2 : Int32) (x3 : Int32) (x4 : Int32) (x5 : Int32) (m : dM), Inv g m → (-23 ≤ x2.toInt ∧ x2.toInt ≤ 23) → (0 ≤ x5.toInt ∧ x5.toInt ≤ 9) → 20 - 2 * x5.toInt < (n : Int) → j_X0_going_54_47_119 4 x2 x3 x4 x5 m Q) := by
  intro n
  induction n with
  | zero => exact ⟨fun x2 x3 x4 x5 m hI h2 h5 hμ => by exfalso; omega, fun x2 x3 x4 x5 m hI h2 h5 hμ => by exfalso; omega⟩
  | succ n ih =>
    refine ⟨?_, ?_⟩
    · intro x2 x3 x4 x5 m hI h2 h5 hμ
      refine v_X0_going_54_47_6 ?_
      have f1 := congrArg Int32.toInt (hI.2 2 1 rfl)
      have f2 := Inv.s hG hI (k := 2) (j := 1) rfl rfl
      refine ⟨fun hc3 => ?_, fun hc3 => ?_⟩
      · skip
        exact hQ _ _ hI
      · skip
        refine ⟨by omega, ?_⟩
        refine ⟨fun hc4 => ?_, fun hc4 => ?_⟩
        · skip
          exact ih.2 _ _ _ _ _ hI (by omega) (by omega) (by omega)
        · skip
          refine v_X11_has ?_
          have f5 := ti_1
          have f6 := dAndE (x := ((m.1 47 4).toUInt32 >>> (x5.toUInt32 &&& Int32.toUInt32 31)).toInt32) (y := (1 : Int32)) (by decide)
          refine ⟨fun hc7 => ?_, fun hc7 => ?_⟩
          · skip
            have f8 := ti_0
            refine ⟨fun hc9 => ?_, fun hc9 => ?_⟩
            · skip
              exfalso; omega
            · skip
              refine v_X7_day_47 ?_
              refine Wp.deep (s_X0_setVars_54 hG hI (by omega) (by omega) (fun M10 I10 => ?_)) (Nat.le_of_ble_eq_true rfl)
              refine ⟨by omega, ?_⟩
              refine ⟨by omega, ?_⟩
              refine ⟨by omega, ?_⟩
              have I11 : Inv g (dSet M10 55 0 ((M10.1 56 x5.toNatClampNeg) + x3)) := (Inv.setA I10 rfl)
              have I12 : Inv g (dSet (dSet M10 55 0 ((M10.1 56 x5.toNatClampNeg) + x3)) 55 1 (M10.1 48 x5.toNatClampNeg)) := (Inv.setA I11 rfl)
              have I13 : Inv g (dSet (dSet (dSet M10 55 0 ((M10.1 56 x5.toNatClampNeg) + x3)) 55 1 (M10.1 48 x5.toNatClampNeg)) 55 2 (M10.1 49 x5.toNatClampNeg)) := (Inv.setA I12 rfl)
              refine Wp.deep (s_X4_tells_11_55 hG I13 (by omega) (fun R14 M14 I14 => ?_)) (Nat.le_of_ble_eq_true rfl)
              refine ⟨fun hc15 => ?_, fun hc15 => ?_⟩
              · skip
                exact ih.2 _ _ _ _ _ I14 (by omega) (by omega) (by omega)
              · skip
                have f16 := dShl10 (x := x5) (by omega) (by omega)
                exact ih.2 _ _ _ _ _ I14 (by omega) (by omega) (by omega)
          · skip
            refine ⟨fun hc8 => ?_, fun hc8 => ?_⟩
            · skip
              exact ih.2 _ _ _ _ _ hI (by omega) (by omega) (by omega)
            · skip
              exfalso; omega
    · intro x2 x3 x4 x5 m hI h2 h5 hμ
      refine v_X0_going_54_47_119 ?_
      have f1 := dAddE (X := x5.toInt) (Y := 1) (x := x5) (y := (1 : Int32)) rfl (by decide) (by omega) (by omega)
      exact ih.1 _ _ _ _ _ hI (by omega) (by omega) (by omega)
theorem s_X0_going_54_47 {g : gM} {x2 : Int32} {x3 : Int32} {m : dM} {Q : Int32 → dM → Prop} (hG : Gd g) (hI : Inv g m) (h2 : -23 ≤ x2.toInt ∧ x2.toInt ≤ 23) (hQ : ∀ (r : Int32) (m' : dM), Inv g m' → Q r m') : c_X0_going_54_47 4 x2 x3 m Q := by
  refine v_X0_going_54_47 ?_
  have f1 := ti_0
  exact (s_X0_going_54_47_all hG hQ 23).1 _ _ _ _ _ hI (by omega) (by omega) (by omega)
theorem s_X0_goingWith_54_47 {g : gM} {x2 : Int32} {m : dM} {Q : Int32 → dM → Prop} (hG : Gd g) (hI : Inv g m) (hQ : ∀ (r : Int32) (m' : dM), Inv g m' → Q r m') : c_X0_goingWith_54_47 5 x2 m Q := by
  refine v_X0_goingWith_54_47 ?_
  refine Wp.deep (s_X0_putOn_54_47 hG hI (fun M1 I1 => ?_)) (Nat.le_of_ble_eq_true rfl)
  refine v_X7_hourOfDay_47 ?_
  have f2 := dRemE (x := (M1.1 47 0)) (y := (24 : Int32)) (Y := 24) (by decide) (by decide)
  have f3 := ti_0
  refine Wp.deep (s_X0_going_54_47 hG I1 (by omega) (fun R4 M4 I4 => ?_)) (Nat.le_of_ble_eq_true rfl)
  exact hQ _ _ I4
theorem s_X0_goingNow_54_47 {g : gM} {m : dM} {Q : Int32 → dM → Prop} (hG : Gd g) (hI : Inv g m) (hQ : ∀ (r : Int32) (m' : dM), Inv g m' → Q r m') : c_X0_goingNow_54_47 6 m Q := by
  refine v_X0_goingNow_54_47 ?_
  refine Wp.deep (s_X0_usesNow_54_47 hG hI (fun R1 M1 I1 => ?_)) (Nat.le_of_ble_eq_true rfl)
  refine Wp.deep (s_X0_goingWith_54_47 hG I1 (fun R2 M2 I2 => ?_)) (Nat.le_of_ble_eq_true rfl)
  exact hQ _ _ I2
theorem s_X11_wire_0 {g : gM} {x1 : Int32} {x2 : Int32} {m : dM} {Q : Int32 → dM → Prop} (hG : Gd g) (hI : Inv g m) (hQ : ∀ (r : Int32) (m' : dM), Inv g m' → Q r m') : c_X11_wire_0 7 x1 x2 m Q := by
  refine v_X11_wire_0 ?_
  refine v_X11_isWire_0 ?_
  refine ⟨fun hc1 => ?_, fun hc1 => ?_⟩
  · skip
    refine v_X11_isWire_0_19 ?_
    have f2 := ti_0
    refine ⟨fun hc3 => ?_, fun hc3 => ?_⟩
    · skip
      exfalso; omega
    · skip
      have f4 := ti_m1
      exact hQ _ _ hI
  · skip
    have f2 := congrArg Int32.toInt (hI.2 2 1 rfl)
    have f3 := Inv.s hG hI (k := 2) (j := 1) rfl rfl
    refine ⟨fun hc4 => ?_, fun hc4 => ?_⟩
    · skip
      refine v_X11_isWire_0_19 ?_
      have f5 := ti_0
      refine ⟨fun hc6 => ?_, fun hc6 => ?_⟩
      · skip
        exfalso; omega
      · skip
        have f7 := ti_m1
        exact hQ _ _ hI
    · skip
      have f5 := ti_1
      refine ⟨fun hc6 => ?_, fun hc6 => ?_⟩
      · skip
        refine ⟨fun hc7 => ?_, fun hc7 => ?_, fun hc7 => ?_, fun hc7 => ?_, fun hc7 => ?_, fun hc7 => ?_, fun hc7 => ?_, fun hc7 => ?_, fun hc7 => ?_, fun hc7 => ?_⟩
        · skip
          refine ⟨by omega, ?_⟩
          have f8 := Inv.s hG hI (k := 4) (j := x1.toNatClampNeg) rfl rfl
          exact hQ _ _ hI
        · skip
          refine ⟨by omega, ?_⟩
          have f8 := Inv.s hG hI (k := 5) (j := x1.toNatClampNeg) rfl rfl
          exact hQ _ _ hI
        · skip
          refine ⟨by omega, ?_⟩
          exact hQ _ _ hI
        · skip
          refine v_X11_has ?_
          have f8 := dAndE (x := ((m.1 47 3).toUInt32 >>> (x1.toUInt32 &&& Int32.toUInt32 31)).toInt32) (y := (1 : Int32)) (by decide)
          refine ⟨fun hc9 => ?_, fun hc9 => ?_⟩
          · skip
            have f10 := ti_0
            refine ⟨fun hc11 => ?_, fun hc11 => ?_⟩
            · skip
              exact hQ _ _ hI
            · skip
              exfalso; omega
          · skip
            refine ⟨fun hc10 => ?_, fun hc10 => ?_⟩
            · skip
              exfalso; omega
            · skip
              have f11 := ti_0
              exact hQ _ _ hI
        · skip
          refine ⟨by omega, ?_⟩
          exact hQ _ _ hI
        · skip
          refine v_X11_has ?_
          have f8 := dAndE (x := ((m.1 47 4).toUInt32 >>> (x1.toUInt32 &&& Int32.toUInt32 31)).toInt32) (y := (1 : Int32)) (by decide)
          refine ⟨fun hc9 => ?_, fun hc9 => ?_⟩
          · skip
            have f10 := ti_0
            refine ⟨fun hc11 => ?_, fun hc11 => ?_⟩
            · skip
              exact hQ _ _ hI
            · skip
              exfalso; omega
          · skip
            refine ⟨fun hc10 => ?_, fun hc10 => ?_⟩
            · skip
              exfalso; omega
            · skip
              exact hQ _ _ hI
        · skip
          refine Wp.deep (s_X0_loadNow_54_47 hG hI (by omega) (fun R8 M8 I8 => ?_)) (Nat.le_of_ble_eq_true rfl)
          exact hQ _ _ I8
        · skip
          refine Wp.deep (s_X0_costOf_54_47 hG hI (by omega) (fun R8 M8 I8 hr8 => ?_)) (Nat.le_of_ble_eq_true rfl)
          exact hQ _ _ I8
        · skip
          refine Wp.deep (s_X0_goingNow_54_47 hG hI (fun R8 M8 I8 => ?_)) (Nat.le_of_ble_eq_true rfl)
          refine v_X11_has ?_
          have f9 := dAndE (x := (R8.toUInt32 >>> (x1.toUInt32 &&& Int32.toUInt32 31)).toInt32) (y := (1 : Int32)) (by decide)
          refine ⟨fun hc10 => ?_, fun hc10 => ?_⟩
          · skip
            have f11 := ti_0
            refine ⟨fun hc12 => ?_, fun hc12 => ?_⟩
            · skip
              exact hQ _ _ I8
            · skip
              exfalso; omega
          · skip
            refine ⟨fun hc11 => ?_, fun hc11 => ?_⟩
            · skip
              exfalso; omega
            · skip
              exact hQ _ _ I8
        · skip
          have f8 := ti_m1
          exact hQ _ _ hI
      · skip
        exfalso; omega
theorem s_X12_loadBy_70_all {g : gM} {Q : Int32 → dM → Prop} {m : dM} (hG : Gd g) (hI : Inv g m) (hQ : ∀ r : Int32, Q r m) : ∀ n : Nat, (∀ (x1 : Int32) (x2 : Int32) (x3 : Int32) (x4 : Int32), (0 ≤ x1.toInt ∧ x1.toInt ≤ 9) → (0 ≤ x4.toInt ∧ x4.toInt ≤ 8) → 17 - 2 * x4.toInt < (n : Int) → j_X12_loadBy_70_5 2 x1 x2 x3 x4 m Q) ∧ (∀ (x1 : Int32) (x2 : Int32) (x3 : Int32) (x4 : Int32), (0 ≤ x1.toInt ∧ x1.toInt ≤ 9) → (0 ≤ x4.toInt ∧ x4.toInt ≤ 7) → 16 - 2 * x4.toInt < (n : Int) → j_X12_loadBy_70_57 2 x1 x2 x3 x4 m Q) := by
  intro n
  induction n with
  | zero => exact ⟨fun x1 x2 x3 x4 h1 h4 hμ => by exfalso; omega, fun x1 x2 x3 x4 h1 h4 hμ => by exfalso; omega⟩
  | succ n ih =>
    refine ⟨?_, ?_⟩
    · intro x1 x2 x3 x4 h1 h4 hμ
      refine v_X12_loadBy_70_5 ?_
      have f1 := congrArg Int32.toInt (hI.2 70 18 rfl)
      have f2 := Inv.s hG hI (k := 70) (j := 18) rfl rfl
      refine ⟨by omega, ?_⟩
      have f3 := Inv.cnt86 hG hI
      have f4 := Inv.s hG hI (k := 86) (j := (m.1 70 18).toNatClampNeg) rfl rfl
      refine ⟨fun hc5 => ?_, fun hc5 => ?_⟩
      · skip
        exact hQ _
      · skip
        have f6 := ti_1
        have f7 := dAndE (x := (x2 >>> (x4 &&& 31))) (y := (1 : Int32)) (by decide)
        refine ⟨fun hc8 => ?_, fun hc8 => ?_⟩
        · skip
          exact ih.2 _ _ _ _ (by omega) (by omega) (by omega)
        · skip
          refine v_X12_flatAt_70 ?_
          have f9 := dMulE (X := 8) (Y := (m.1 70 18).toInt) (x := (8 : Int32)) (y := (m.1 70 18)) (by decide) rfl (by omega) (by omega)
          have f10 := dAddE (X := ((8 : Int32) * (m.1 70 18)).toInt) (Y := x4.toInt) (x := ((8 : Int32) * (m.1 70 18))) (y := x4) rfl rfl (by omega) (by omega)
          refine ⟨by omega, ?_⟩
          have f11 := Inv.flat hG hI (u := x4) (by omega) (by omega)
          refine ⟨by omega, ?_⟩
          have f12 := dAndE (x := ((m.1 110 (m.1 87 (((8 : Int32) * (m.1 70 18)) + x4).toNatClampNeg).toNatClampNeg) >>> (x1 &&& 31))) (y := (1 : Int32)) (by decide)
          refine ⟨fun hc13 => ?_, fun hc13 => ?_⟩
          · skip
            exact ih.2 _ _ _ _ (by omega) (by omega) (by omega)
          · skip
            refine v_X12_ampsAt_70 ?_
            refine ⟨by omega, ?_⟩
            exact ih.2 _ _ _ _ (by omega) (by omega) (by omega)
    · intro x1 x2 x3 x4 h1 h4 hμ
      refine v_X12_loadBy_70_57 ?_
      have f1 := dAddE (X := x4.toInt) (Y := 1) (x := x4) (y := (1 : Int32)) rfl (by decide) (by omega) (by omega)
      exact ih.1 _ _ _ _ (by omega) (by omega) (by omega)
theorem s_X12_loadBy_70 {g : gM} {x1 : Int32} {x2 : Int32} {m : dM} {Q : Int32 → dM → Prop} (hG : Gd g) (hI : Inv g m) (h1 : 0 ≤ x1.toInt ∧ x1.toInt ≤ 9) (hQ : ∀ r : Int32, Q r m) : c_X12_loadBy_70 2 x1 x2 m Q := by
  refine v_X12_loadBy_70 ?_
  have f1 := ti_0
  exact (s_X12_loadBy_70_all hG hI hQ 19).1 _ _ _ _ (by omega) (by omega) (by omega)
theorem s_X0_payOf_54_47 {g : gM} {x2 : Int32} {m : dM} {Q : Int32 → dM → Prop} (hG : Gd g) (hI : Inv g m) (h2 : 0 ≤ x2.toInt ∧ x2.toInt ≤ 7) (hQ : ∀ (r : Int32) (m' : dM), Inv g m' → (0 ≤ r.toInt ∧ r.toInt ≤ 99) → Q r m') : c_X0_payOf_54_47 4 x2 m Q := by
  refine v_X0_payOf_54_47 ?_
  refine v_X7_hourOfDay_47 ?_
  refine v_X7_day_47 ?_
  have f1 := dRemE (x := (m.1 47 0)) (y := (24 : Int32)) (Y := 24) (by decide) (by decide)
  refine Wp.deep (s_X0_setVars_54 hG hI (by omega) (by omega) (fun M2 I2 => ?_)) (Nat.le_of_ble_eq_true rfl)
  refine ⟨by omega, ?_⟩
  have f3 := ti_3
  have I4 : Inv g (dSet M2 55 5 (M2.1 8 x2.toNatClampNeg)) := (Inv.setA I2 rfl)
  refine Wp.deep (s_X4_tells_11_55 hG I4 (by omega) (fun R5 M5 I5 => ?_)) (Nat.le_of_ble_eq_true rfl)
  refine Wp.deep (s_X0_held hG I5 (fun R6 hr6 => ?_)) (Nat.le_of_ble_eq_true rfl)
  exact hQ _ _ I5 (by omega)
theorem s_X11_use_0 {g : gM} {x1 : Int32} {x2 : Int32} {m : dM} {Q : Int32 → dM → Prop} (hG : Gd g) (hI : Inv g m) (hQ : ∀ (r : Int32) (m' : dM), Inv g m' → Q r m') : c_X11_use_0 5 x1 x2 m Q := by
  refine v_X11_use_0 ?_
  refine v_X11_isUse_0 ?_
  refine ⟨fun hc1 => ?_, fun hc1 => ?_⟩
  · skip
    refine v_X11_isUse_0_19 ?_
    have f2 := ti_0
    refine ⟨fun hc3 => ?_, fun hc3 => ?_⟩
    · skip
      exfalso; omega
    · skip
      have f4 := ti_m1
      exact hQ _ _ hI
  · skip
    have f2 := congrArg Int32.toInt (hI.2 2 2 rfl)
    have f3 := Inv.s hG hI (k := 2) (j := 2) rfl rfl
    refine ⟨fun hc4 => ?_, fun hc4 => ?_⟩
    · skip
      refine v_X11_isUse_0_19 ?_
      have f5 := ti_0
      refine ⟨fun hc6 => ?_, fun hc6 => ?_⟩
      · skip
        exfalso; omega
      · skip
        have f7 := ti_m1
        exact hQ _ _ hI
    · skip
      have f5 := ti_1
      refine ⟨fun hc6 => ?_, fun hc6 => ?_⟩
      · skip
        refine Wp.deep (s_X0_usesNow_54_47 hG hI (fun R7 M7 I7 => ?_)) (Nat.le_of_ble_eq_true rfl)
        refine v_X11_has ?_
        have f8 := dAndE (x := (R7.toUInt32 >>> (x1.toUInt32 &&& Int32.toUInt32 31)).toInt32) (y := (1 : Int32)) (by decide)
        refine ⟨fun hc9 => ?_, fun hc9 => ?_⟩
        · skip
          refine ⟨fun hc10 => ?_, fun hc10 => ?_, fun hc10 => ?_, fun hc10 => ?_, fun hc10 => ?_, fun hc10 => ?_, fun hc10 => ?_, fun hc10 => ?_⟩
          · skip
            refine ⟨by omega, ?_⟩
            have f11 := congrArg Int32.toInt (I7.2 2 2 rfl)
            have f12 := Inv.s hG I7 (k := 2) (j := 2) rfl rfl
            have f13 := Inv.home hG I7 (u := x1) (by omega) (by omega)
            exact hQ _ _ I7
          · skip
            refine ⟨by omega, ?_⟩
            exact hQ _ _ I7
          · skip
            refine ⟨by omega, ?_⟩
            exact hQ _ _ I7
          · skip
            refine ⟨by omega, ?_⟩
            exact hQ _ _ I7
          · skip
            refine v_X11_has ?_
            have f11 := dAndE (x := ((M7.1 47 5).toUInt32 >>> (x1.toUInt32 &&& Int32.toUInt32 31)).toInt32) (y := (1 : Int32)) (by decide)
            refine ⟨fun hc12 => ?_, fun hc12 => ?_⟩
            · skip
              have f13 := ti_0
              refine ⟨fun hc14 => ?_, fun hc14 => ?_⟩
              · skip
                exact hQ _ _ I7
              · skip
                exfalso; omega
            · skip
              refine ⟨fun hc13 => ?_, fun hc13 => ?_⟩
              · skip
                exfalso; omega
              · skip
                exact hQ _ _ I7
          · skip
            have f11 := ti_0
            refine ⟨fun hc12 => ?_, fun hc12 => ?_⟩
            · skip
              exact hQ _ _ I7
            · skip
              exfalso; omega
          · skip
            have f11 := ti_0
            refine ⟨fun hc12 => ?_, fun hc12 => ?_⟩
            · skip
              exact hQ _ _ I7
            · skip
              exfalso; omega
          · skip
            have f11 := ti_m1
            exact hQ _ _ I7
        · skip
          refine ⟨fun hc10 => ?_, fun hc10 => ?_, fun hc10 => ?_, fun hc10 => ?_, fun hc10 => ?_, fun hc10 => ?_, fun hc10 => ?_, fun hc10 => ?_⟩
          · skip
            refine ⟨by omega, ?_⟩
            have f11 := congrArg Int32.toInt (I7.2 2 2 rfl)
            have f12 := Inv.s hG I7 (k := 2) (j := 2) rfl rfl
            have f13 := Inv.home hG I7 (u := x1) (by omega) (by omega)
            exact hQ _ _ I7
          · skip
            refine ⟨by omega, ?_⟩
            exact hQ _ _ I7
          · skip
            refine ⟨by omega, ?_⟩
            exact hQ _ _ I7
          · skip
            refine ⟨by omega, ?_⟩
            exact hQ _ _ I7
          · skip
            refine v_X11_has ?_
            have f11 := dAndE (x := ((M7.1 47 5).toUInt32 >>> (x1.toUInt32 &&& Int32.toUInt32 31)).toInt32) (y := (1 : Int32)) (by decide)
            refine ⟨fun hc12 => ?_, fun hc12 => ?_⟩
            · skip
              have f13 := ti_0
              refine ⟨fun hc14 => ?_, fun hc14 => ?_⟩
              · skip
                exact hQ _ _ I7
              · skip
                exfalso; omega
            · skip
              refine ⟨fun hc13 => ?_, fun hc13 => ?_⟩
              · skip
                exfalso; omega
              · skip
                exact hQ _ _ I7
          · skip
            refine ⟨fun hc11 => ?_, fun hc11 => ?_⟩
            · skip
              exfalso; omega
            · skip
              exact hQ _ _ I7
          · skip
            refine ⟨fun hc11 => ?_, fun hc11 => ?_⟩
            · skip
              exfalso; omega
            · skip
              refine Wp.deep (s_X0_payOf_54_47 hG I7 (by omega) (fun R12 M12 I12 hr12 => ?_)) (Nat.le_of_ble_eq_true rfl)
              exact hQ _ _ I12
          · skip
            have f11 := ti_m1
            exact hQ _ _ I7
      · skip
        exfalso; omega
theorem s_X7_writeTo_47_52 {g : gM} {x2 : Int32} {m : dM} {Q : dM → Prop} (hG : Gd g) (hI : Inv g m) (hQ : ∀ m' : dM, Inv g m' → Q m') : c_X7_writeTo_47_52 1 x2 m Q := by
  refine v_X7_writeTo_47_52 ?_
  refine ⟨fun hc1 => ?_, fun hc1 => ?_⟩
  · skip
    refine v_X7_writeTo_47_52_13 ?_
    exact hQ _ hI
  · skip
    have f2 := dSubE (X := 1320) (Y := 33) (x := (1320 : Int32)) (y := (33 : Int32)) (by decide) (by decide) (by omega) (by omega)
    refine ⟨fun hc3 => ?_, fun hc3 => ?_⟩
    · skip
      refine ⟨by omega, ?_⟩
      have f4 := dAddE (X := x2.toInt) (Y := 1) (x := x2) (y := (1 : Int32)) rfl (by decide) (by omega) (by omega)
      refine ⟨by omega, ?_⟩
      have f5 := dAddE (X := x2.toInt) (Y := 2) (x := x2) (y := (2 : Int32)) rfl (by decide) (by omega) (by omega)
      refine ⟨by omega, ?_⟩
      have f6 := dAddE (X := x2.toInt) (Y := 3) (x := x2) (y := (3 : Int32)) rfl (by decide) (by omega) (by omega)
      refine ⟨by omega, ?_⟩
      have f7 := dAddE (X := x2.toInt) (Y := 4) (x := x2) (y := (4 : Int32)) rfl (by decide) (by omega) (by omega)
      refine ⟨by omega, ?_⟩
      have f8 := dAddE (X := x2.toInt) (Y := 5) (x := x2) (y := (5 : Int32)) rfl (by decide) (by omega) (by omega)
      refine ⟨by omega, ?_⟩
      have f9 := ti_10
      have f10 := dAddE (X := x2.toInt) (Y := 6) (x := x2) (y := (6 : Int32)) rfl (by decide) (by omega) (by omega)
      have f11 := ti_0
      refine ⟨by omega, ?_⟩
      have f12 := dAddE (X := (x2 + (6 : Int32)).toInt) (Y := 10) (x := (x2 + (6 : Int32))) (y := (10 : Int32)) rfl (by decide) (by omega) (by omega)
      refine ⟨by omega, ?_⟩
      have f13 := ti_7
      have f14 := dAddE (X := (x2 + (6 : Int32)).toInt) (Y := 20) (x := (x2 + (6 : Int32))) (y := (20 : Int32)) rfl (by decide) (by omega) (by omega)
      refine ⟨by omega, ?_⟩
      have I15 : Inv g (dSet m 52 x2.toNatClampNeg (m.1 47 0)) := (Inv.setA hI rfl)
      have I16 : Inv g (dSet (dSet m 52 x2.toNatClampNeg (m.1 47 0)) 52 (x2 + (1 : Int32)).toNatClampNeg (m.1 47 1)) := (Inv.setA I15 rfl)
      have I17 : Inv g (dSet (dSet (dSet m 52 x2.toNatClampNeg (m.1 47 0)) 52 (x2 + (1 : Int32)).toNatClampNeg (m.1 47 1)) 52 (x2 + (2 : Int32)).toNatClampNeg (m.1 47 2)) := (Inv.setA I16 rfl)
      have I18 : Inv g (dSet (dSet (dSet (dSet m 52 x2.toNatClampNeg (m.1 47 0)) 52 (x2 + (1 : Int32)).toNatClampNeg (m.1 47 1)) 52 (x2 + (2 : Int32)).toNatClampNeg (m.1 47 2)) 52 (x2 + (3 : Int32)).toNatClampNeg (m.1 47 3)) := (Inv.setA I17 rfl)
      have I19 : Inv g (dSet (dSet (dSet (dSet (dSet m 52 x2.toNatClampNeg (m.1 47 0)) 52 (x2 + (1 : Int32)).toNatClampNeg (m.1 47 1)) 52 (x2 + (2 : Int32)).toNatClampNeg (m.1 47 2)) 52 (x2 + (3 : Int32)).toNatClampNeg (m.1 47 3)) 52 (x2 + (4 : Int32)).toNatClampNeg (m.1 47 4)) := (Inv.setA I18 rfl)
      have I20 : Inv g (dSet (dSet (dSet (dSet (dSet (dSet m 52 x2.toNatClampNeg (m.1 47 0)) 52 (x2 + (1 : Int32)).toNatClampNeg (m.1 47 1)) 52 (x2 + (2 : Int32)).toNatClampNeg (m.1 47 2)) 52 (x2 + (3 : Int32)).toNatClampNeg (m.1 47 3)) 52 (x2 + (4 : Int32)).toNatClampNeg (m.1 47 4)) 52 (x2 + (5 : Int32)).toNatClampNeg (m.1 47 5)) := (Inv.setA I19 rfl)
      have I21 : Inv g (dCpy (dSet (dSet (dSet (dSet (dSet (dSet m 52 x2.toNatClampNeg (m.1 47 0)) 52 (x2 + (1 : Int32)).toNatClampNeg (m.1 47 1)) 52 (x2 + (2 : Int32)).toNatClampNeg (m.1 47 2)) 52 (x2 + (3 : Int32)).toNatClampNeg (m.1 47 3)) 52 (x2 + (4 : Int32)).toNatClampNeg (m.1 47 4)) 52 (x2 + (5 : Int32)).toNatClampNeg (m.1 47 5)) 48 (0 : Int).toNat 52 ((x2 + (6 : Int32)).toInt).toNat (10 : Int).toNat) := (Inv.cpy I20 (fun _ => rfl))
      have I22 : Inv g (dCpy (dCpy (dSet (dSet (dSet (dSet (dSet (dSet m 52 x2.toNatClampNeg (m.1 47 0)) 52 (x2 + (1 : Int32)).toNatClampNeg (m.1 47 1)) 52 (x2 + (2 : Int32)).toNatClampNeg (m.1 47 2)) 52 (x2 + (3 : Int32)).toNatClampNeg (m.1 47 3)) 52 (x2 + (4 : Int32)).toNatClampNeg (m.1 47 4)) 52 (x2 + (5 : Int32)).toNatClampNeg (m.1 47 5)) 48 (0 : Int).toNat 52 ((x2 + (6 : Int32)).toInt).toNat (10 : Int).toNat) 49 (0 : Int).toNat 52 (((x2 + (6 : Int32)) + (10 : Int32)).toInt).toNat (10 : Int).toNat) := (Inv.cpy I21 (fun _ => rfl))
      have I23 : Inv g (dCpy (dCpy (dCpy (dSet (dSet (dSet (dSet (dSet (dSet m 52 x2.toNatClampNeg (m.1 47 0)) 52 (x2 + (1 : Int32)).toNatClampNeg (m.1 47 1)) 52 (x2 + (2 : Int32)).toNatClampNeg (m.1 47 2)) 52 (x2 + (3 : Int32)).toNatClampNeg (m.1 47 3)) 52 (x2 + (4 : Int32)).toNatClampNeg (m.1 47 4)) 52 (x2 + (5 : Int32)).toNatClampNeg (m.1 47 5)) 48 (0 : Int).toNat 52 ((x2 + (6 : Int32)).toInt).toNat (10 : Int).toNat) 49 (0 : Int).toNat 52 (((x2 + (6 : Int32)) + (10 : Int32)).toInt).toNat (10 : Int).toNat) 50 (0 : Int).toNat 52 (((x2 + (6 : Int32)) + (20 : Int32)).toInt).toNat (7 : Int).toNat) := (Inv.cpy I22 (fun _ => rfl))
      exact hQ _ I23
    · skip
      refine v_X7_writeTo_47_52_13 ?_
      exact hQ _ hI
theorem s_X6_keep_51_47 {g : gM} {m : dM} {Q : dM → Prop} (hG : Gd g) (hI : Inv g m) (hQ : ∀ m' : dM, Inv g m' → Q m') : c_X6_keep_51_47 2 m Q := by
  refine v_X6_keep_51_47 ?_
  refine Wp.deep (s_X7_writeTo_47_52 hG hI (fun M1 I1 => ?_)) (Nat.le_of_ble_eq_true rfl)
  have I2 : Inv g (dSet M1 51 2 (((M1.1 51 2) + (1 : Int32)) - ((M1.1 51 2) + (1 : Int32)) / (40 : Int32) * (40 : Int32))) := (Inv.setA I1 rfl)
  have I3 : Inv g (dSet (dSet M1 51 2 (((M1.1 51 2) + (1 : Int32)) - ((M1.1 51 2) + (1 : Int32)) / (40 : Int32) * (40 : Int32))) 51 3 (if (40 : Int32) < ((M1.1 51 3) + (1 : Int32)) then (40 : Int32) else ((M1.1 51 3) + (1 : Int32)))) := (Inv.setA I2 rfl)
  exact hQ _ I3
theorem s_X11_agree_0 {g : gM} {x1 : Int32} {x2 : Int32} {m : dM} {Q : Int32 → dM → Prop} (hG : Gd g) (hI : Inv g m) (h2 : 0 ≤ x2.toInt ∧ x2.toInt ≤ 1) (hQ : ∀ (r : Int32) (m' : dM), Inv g m' → (0 ≤ r.toInt ∧ r.toInt ≤ 1) → Q r m') : c_X11_agree_0 3 x1 x2 m Q := by
  refine v_X11_agree_0 ?_
  refine v_X11_isUse_0 ?_
  refine ⟨fun hc1 => ?_, fun hc1 => ?_⟩
  · skip
    refine v_X11_isUse_0_19 ?_
    have f2 := ti_0
    refine ⟨fun hc3 => ?_, fun hc3 => ?_⟩
    · skip
      refine v_X11_agree_0_23 ?_
      exact hQ _ _ hI (by omega)
    · skip
      exfalso; omega
  · skip
    have f2 := congrArg Int32.toInt (hI.2 2 2 rfl)
    have f3 := Inv.s hG hI (k := 2) (j := 2) rfl rfl
    refine ⟨fun hc4 => ?_, fun hc4 => ?_⟩
    · skip
      refine v_X11_isUse_0_19 ?_
      have f5 := ti_0
      refine ⟨fun hc6 => ?_, fun hc6 => ?_⟩
      · skip
        refine v_X11_agree_0_23 ?_
        exact hQ _ _ hI (by omega)
      · skip
        exfalso; omega
    · skip
      have f5 := ti_1
      refine ⟨fun hc6 => ?_, fun hc6 => ?_⟩
      · skip
        exfalso; omega
      · skip
        refine v_X11_has ?_
        have f7 := dAndE (x := ((m.1 47 5).toUInt32 >>> (x1.toUInt32 &&& Int32.toUInt32 31)).toInt32) (y := (1 : Int32)) (by decide)
        refine ⟨fun hc8 => ?_, fun hc8 => ?_⟩
        · skip
          have f9 := ti_0
          refine ⟨fun hc10 => ?_, fun hc10 => ?_⟩
          · skip
            refine Wp.deep (s_X6_keep_51_47 hG hI (fun M11 I11 => ?_)) (Nat.le_of_ble_eq_true rfl)
            have I12 : Inv g (dSet M11 47 5 ((M11.1 47 5) ^^^ ((1 : Int32) <<< (x1 &&& 31)))) := (Inv.setA I11 rfl)
            exact hQ _ _ I12 (by omega)
          · skip
            refine v_X11_agree_0_23 ?_
            exact hQ _ _ hI (by omega)
        · skip
          refine ⟨fun hc9 => ?_, fun hc9 => ?_⟩
          · skip
            refine Wp.deep (s_X6_keep_51_47 hG hI (fun M10 I10 => ?_)) (Nat.le_of_ble_eq_true rfl)
            have I11 : Inv g (dSet M10 47 5 ((M10.1 47 5) ^^^ ((1 : Int32) <<< (x1 &&& 31)))) := (Inv.setA I10 rfl)
            exact hQ _ _ I11 (by omega)
          · skip
            refine v_X11_agree_0_23 ?_
            have f10 := ti_0
            exact hQ _ _ hI (by omega)
theorem s_X12_records_70_all {g : gM} {Q : dM → Prop} (hG : Gd g) (hQ : ∀ m' : dM, Inv g m' → Q m') : ∀ n : Nat, (∀ (x1 : Int32) (m : dM), Inv g m → (0 ≤ x1.toInt ∧ x1.toInt ≤ 2262) → (40 ≤ (m.1 70 61).toInt ∧ (m.1 70 61).toInt ≤ 40) → 2322 - 1 * x1.toInt < (n : Int) → j_X12_records_70_11 2 x1 m Q) ∧ (∀ (m : dM), Inv g m → (0 ≤ (m.1 70 61).toInt ∧ (m.1 70 61).toInt ≤ 39) → 59 < (n : Int) → j_X12_records_70_49 2 m Q) ∧ (∀ (x1 : Int32) (m : dM), Inv g m → (0 ≤ x1.toInt ∧ x1.toInt ≤ 58) → (0 ≤ (m.1 70 61).toInt ∧ (m.1 70 61).toInt ≤ 39) → 58 - 1 * x1.toInt < (n : Int) → j_X12_records_70_51 2 x1 m Q) := by
  intro n
  induction n with
  | zero => exact ⟨fun x1 m hI h1 hk70_61 hμ => by exfalso; omega, fun m hI hk70_61 hμ => by exfalso; omega, fun x1 m hI h1 hk70_61 hμ => by exfalso; omega⟩
  | succ n ih =>
    refine ⟨?_, ?_, ?_⟩
    · intro x1 m hI h1 hk70_61 hμ
      refine v_X12_records_70_11 ?_
      refine ⟨fun hc1 => ?_, fun hc1 => ?_⟩
      · skip
        have f2 := Inv.w hI (k := 70) (j := 61) rfl
        have f3 := dSubE (X := (m.1 70 61).toInt) (Y := 1) (x := (m.1 70 61)) (y := (1 : Int32)) rfl (by decide) (by omega) (by omega)
        have I4 : Inv g (dSet m 70 61 ((m.1 70 61) - (1 : Int32))) := (Inv.set hI rfl (by omega) (by omega))
        have f5 : ((dSet m 70 61 ((m.1 70 61) - (1 : Int32))).1 70 61).toInt = ((m.1 70 61) - (1 : Int32)).toInt := rfl
        exact ih.2.1 _ I4 (by omega) (by omega)
      · skip
        have f2 := dAddE (X := x1.toInt) (Y := 58) (x := x1) (y := (58 : Int32)) rfl (by decide) (by omega) (by omega)
        refine ⟨by omega, ?_⟩
        refine ⟨by omega, ?_⟩
        have f3 := dAddE (X := x1.toInt) (Y := 1) (x := x1) (y := (1 : Int32)) rfl (by decide) (by omega) (by omega)
        have I4 : Inv g (dSet m 111 x1.toNatClampNeg (m.1 111 (x1 + (58 : Int32)).toNatClampNeg)) := (Inv.setA hI rfl)
        have f5 := Inv.w hI (k := 70) (j := 61) rfl
        have f6 : ((dSet m 111 x1.toNatClampNeg (m.1 111 (x1 + (58 : Int32)).toNatClampNeg)).1 70 61).toInt = (m.1 70 61).toInt := rfl
        exact ih.1 _ _ I4 (by omega) (by omega) (by omega)
    · intro m hI hk70_61 hμ
      refine v_X12_records_70_49 ?_
      have f1 := ti_0
      have f2 := Inv.w hI (k := 70) (j := 61) rfl
      exact ih.2.2 _ _ hI (by omega) (by omega) (by omega)
    · intro x1 m hI h1 hk70_61 hμ
      refine v_X12_records_70_51 ?_
      refine ⟨fun hc1 => ?_, fun hc1 => ?_⟩
      · skip
        have f2 := Inv.w hI (k := 70) (j := 61) rfl
        have f3 := dAddE (X := (m.1 70 61).toInt) (Y := 1) (x := (m.1 70 61)) (y := (1 : Int32)) rfl (by decide) (by omega) (by omega)
        have I4 : Inv g (dSet m 70 61 ((m.1 70 61) + (1 : Int32))) := (Inv.set hI rfl (by omega) (by omega))
        refine Wp.deep (s_X12_keepsRow_70 hG I4 (fun M5 I5 => ?_)) (Nat.le_of_ble_eq_true rfl)
        exact hQ _ I5
      · skip
        refine ⟨by omega, ?_⟩
        have f2 := Inv.w hI (k := 70) (j := 61) rfl
        have f3 := dMulE (X := 58) (Y := (m.1 70 61).toInt) (x := (58 : Int32)) (y := (m.1 70 61)) (by decide) rfl (by omega) (by omega)
        have f4 := dAddE (X := ((58 : Int32) * (m.1 70 61)).toInt) (Y := x1.toInt) (x := ((58 : Int32) * (m.1 70 61))) (y := x1) rfl rfl (by omega) (by omega)
        refine ⟨by omega, ?_⟩
        have f5 := dAddE (X := x1.toInt) (Y := 1) (x := x1) (y := (1 : Int32)) rfl (by decide) (by omega) (by omega)
        have I6 : Inv g (dSet m 111 (((58 : Int32) * (m.1 70 61)) + x1).toNatClampNeg (m.1 107 x1.toNatClampNeg)) := (Inv.setA hI rfl)
        have f7 : ((dSet m 111 (((58 : Int32) * (m.1 70 61)) + x1).toNatClampNeg (m.1 107 x1.toNatClampNeg)).1 70 61).toInt = (m.1 70 61).toInt := rfl
        exact ih.2.2 _ _ I6 (by omega) (by omega) (by omega)
theorem s_X12_records_70 {g : gM} {m : dM} {Q : dM → Prop} (hG : Gd g) (hI : Inv g m) (hQ : ∀ m' : dM, Inv g m' → Q m') : c_X12_records_70 2 m Q := by
  have hz2 := e_lo (m.1 70 61)
  have hz3 := e_hi (m.1 70 61)
  refine v_X12_records_70 ?_
  have f1 := Inv.w hI (k := 70) (j := 61) rfl
  refine ⟨fun hc2 => ?_, fun hc2 => ?_⟩
  · skip
    exact (s_X12_records_70_all hG hQ 2324).2.1 _ hI (by omega) (by omega)
  · skip
    have f3 := ti_0
    exact (s_X12_records_70_all hG hQ 2324).1 _ _ hI (by omega) (by omega) (by omega)
theorem s_X11_mend_0 {g : gM} {x1 : Int32} {m : dM} {Q : Int32 → dM → Prop} (hG : Gd g) (hI : Inv g m) (hQ : ∀ (r : Int32) (m' : dM), Inv g m' → Q r m') : c_X11_mend_0 5 x1 m Q := by
  refine v_X11_mend_0 ?_
  refine v_X11_isWire_0 ?_
  refine ⟨fun hc1 => ?_, fun hc1 => ?_⟩
  · skip
    refine v_X11_isWire_0_19 ?_
    have f2 := ti_0
    refine ⟨fun hc3 => ?_, fun hc3 => ?_⟩
    · skip
      exfalso; omega
    · skip
      have f4 := ti_m1
      exact hQ _ _ hI
  · skip
    have f2 := congrArg Int32.toInt (hI.2 2 1 rfl)
    have f3 := Inv.s hG hI (k := 2) (j := 1) rfl rfl
    refine ⟨fun hc4 => ?_, fun hc4 => ?_⟩
    · skip
      refine v_X11_isWire_0_19 ?_
      have f5 := ti_0
      refine ⟨fun hc6 => ?_, fun hc6 => ?_⟩
      · skip
        exfalso; omega
      · skip
        have f7 := ti_m1
        exact hQ _ _ hI
    · skip
      have f5 := ti_1
      refine ⟨fun hc6 => ?_, fun hc6 => ?_⟩
      · skip
        refine Wp.deep (s_X0_costOf_54_47 hG hI (by omega) (fun R7 M7 I7 hr7 => ?_)) (Nat.le_of_ble_eq_true rfl)
        refine v_X11_has ?_
        have f8 := dAndE (x := ((M7.1 47 3).toUInt32 >>> (x1.toUInt32 &&& Int32.toUInt32 31)).toInt32) (y := (1 : Int32)) (by decide)
        refine ⟨fun hc9 => ?_, fun hc9 => ?_⟩
        · skip
          have f10 := ti_0
          refine ⟨fun hc11 => ?_, fun hc11 => ?_⟩
          · skip
            refine v_X11_mend_0_48 ?_
            have f12 := ti_m2
            exact hQ _ _ I7
          · skip
            exfalso; omega
        · skip
          refine ⟨fun hc10 => ?_, fun hc10 => ?_⟩
          · skip
            exfalso; omega
          · skip
            refine ⟨fun hc11 => ?_, fun hc11 => ?_⟩
            · skip
              refine Wp.deep (s_X6_keep_51_47 hG I7 (fun M12 I12 => ?_)) (Nat.le_of_ble_eq_true rfl)
              refine ⟨by omega, ?_⟩
              have I13 : Inv g (dSet M12 47 1 ((M12.1 47 1) - R7)) := (Inv.setA I12 rfl)
              have I14 : Inv g (dSet (dSet M12 47 1 ((M12.1 47 1) - R7)) 47 3 ((M12.1 47 3) &&& (((1 : Int32) <<< (x1 &&& 31)) ^^^ (-1 : Int32)))) := (Inv.setA I13 rfl)
              have I15 : Inv g (dSet (dSet (dSet M12 47 1 ((M12.1 47 1) - R7)) 47 3 ((M12.1 47 3) &&& (((1 : Int32) <<< (x1 &&& 31)) ^^^ (-1 : Int32)))) 47 4 ((M12.1 47 4) &&& (((1 : Int32) <<< (x1 &&& 31)) ^^^ (-1 : Int32)))) := (Inv.setA I14 rfl)
              have I16 : Inv g (dSet (dSet (dSet (dSet M12 47 1 ((M12.1 47 1) - R7)) 47 3 ((M12.1 47 3) &&& (((1 : Int32) <<< (x1 &&& 31)) ^^^ (-1 : Int32)))) 47 4 ((M12.1 47 4) &&& (((1 : Int32) <<< (x1 &&& 31)) ^^^ (-1 : Int32)))) 49 x1.toNatClampNeg (0 : Int32)) := (Inv.setA I15 rfl)
              exact hQ _ _ I16
            · skip
              refine v_X11_mend_0_48 ?_
              have f12 := ti_m2
              exact hQ _ _ I7
      · skip
        exfalso; omega
theorem s_X11_thicken_0 {g : gM} {x1 : Int32} {m : dM} {Q : Int32 → dM → Prop} (hG : Gd g) (hI : Inv g m) (hQ : ∀ (r : Int32) (m' : dM), Inv g m' → Q r m') : c_X11_thicken_0 5 x1 m Q := by
  refine v_X11_thicken_0 ?_
  refine v_X11_isWire_0 ?_
  refine ⟨fun hc1 => ?_, fun hc1 => ?_⟩
  · skip
    refine v_X11_isWire_0_19 ?_
    have f2 := ti_0
    refine ⟨fun hc3 => ?_, fun hc3 => ?_⟩
    · skip
      exfalso; omega
    · skip
      have f4 := ti_m1
      exact hQ _ _ hI
  · skip
    have f2 := congrArg Int32.toInt (hI.2 2 1 rfl)
    have f3 := Inv.s hG hI (k := 2) (j := 1) rfl rfl
    refine ⟨fun hc4 => ?_, fun hc4 => ?_⟩
    · skip
      refine v_X11_isWire_0_19 ?_
      have f5 := ti_0
      refine ⟨fun hc6 => ?_, fun hc6 => ?_⟩
      · skip
        exfalso; omega
      · skip
        have f7 := ti_m1
        exact hQ _ _ hI
    · skip
      have f5 := ti_1
      refine ⟨fun hc6 => ?_, fun hc6 => ?_⟩
      · skip
        refine Wp.deep (s_X0_costOf_54_47 hG hI (by omega) (fun R7 M7 I7 hr7 => ?_)) (Nat.le_of_ble_eq_true rfl)
        refine v_X11_has ?_
        have f8 := dAndE (x := ((M7.1 47 3).toUInt32 >>> (x1.toUInt32 &&& Int32.toUInt32 31)).toInt32) (y := (1 : Int32)) (by decide)
        refine ⟨fun hc9 => ?_, fun hc9 => ?_⟩
        · skip
          have f10 := ti_0
          refine ⟨fun hc11 => ?_, fun hc11 => ?_⟩
          · skip
            exfalso; omega
          · skip
            refine ⟨by omega, ?_⟩
            refine ⟨fun hc12 => ?_, fun hc12 => ?_⟩
            · skip
              refine v_X11_thicken_0_62 ?_
              have f13 := ti_m2
              exact hQ _ _ I7
            · skip
              refine ⟨fun hc13 => ?_, fun hc13 => ?_⟩
              · skip
                refine Wp.deep (s_X6_keep_51_47 hG I7 (fun M14 I14 => ?_)) (Nat.le_of_ble_eq_true rfl)
                refine ⟨by omega, ?_⟩
                refine ⟨by omega, ?_⟩
                have I15 : Inv g (dSet M14 47 1 ((M14.1 47 1) - R7)) := (Inv.setA I14 rfl)
                have I16 : Inv g (dSet (dSet M14 47 1 ((M14.1 47 1) - R7)) 48 x1.toNatClampNeg ((M14.1 48 x1.toNatClampNeg) + (1 : Int32))) := (Inv.setA I15 rfl)
                exact hQ _ _ I16
              · skip
                refine v_X11_thicken_0_62 ?_
                have f14 := ti_m2
                exact hQ _ _ I7
        · skip
          refine ⟨fun hc10 => ?_, fun hc10 => ?_⟩
          · skip
            refine v_X11_thicken_0_62 ?_
            have f11 := ti_m2
            exact hQ _ _ I7
          · skip
            exfalso; omega
      · skip
        exfalso; omega
end
section
theorem s_X11_pin_0 {g : gM} {x1 : Int32} {x2 : Int32} {m : dM} {Q : Int32 → dM → Prop} (hG : Gd g) (hI : Inv g m) (h2 : 0 ≤ x2.toInt ∧ x2.toInt ≤ 1) (hQ : ∀ (r : Int32) (m' : dM), Inv g m' → (0 ≤ r.toInt ∧ r.toInt ≤ 1) → Q r m') : c_X11_pin_0 3 x1 x2 m Q := by
  refine v_X11_pin_0 ?_
  refine v_X11_isWire_0 ?_
  refine ⟨fun hc1 => ?_, fun hc1 => ?_⟩
  · skip
    refine v_X11_isWire_0_19 ?_
    have f2 := ti_0
    refine ⟨fun hc3 => ?_, fun hc3 => ?_⟩
    · skip
      refine v_X11_pin_0_37 ?_
      exact hQ _ _ hI (by omega)
    · skip
      exfalso; omega
  · skip
    have f2 := congrArg Int32.toInt (hI.2 2 1 rfl)
    have f3 := Inv.s hG hI (k := 2) (j := 1) rfl rfl
    refine ⟨fun hc4 => ?_, fun hc4 => ?_⟩
    · skip
      refine v_X11_isWire_0_19 ?_
      have f5 := ti_0
      refine ⟨fun hc6 => ?_, fun hc6 => ?_⟩
      · skip
        refine v_X11_pin_0_37 ?_
        exact hQ _ _ hI (by omega)
      · skip
        exfalso; omega
    · skip
      have f5 := ti_1
      refine ⟨fun hc6 => ?_, fun hc6 => ?_⟩
      · skip
        exfalso; omega
      · skip
        refine v_X11_has ?_
        have f7 := dAndE (x := ((m.1 47 3).toUInt32 >>> (x1.toUInt32 &&& Int32.toUInt32 31)).toInt32) (y := (1 : Int32)) (by decide)
        refine ⟨fun hc8 => ?_, fun hc8 => ?_⟩
        · skip
          have f9 := ti_0
          refine ⟨fun hc10 => ?_, fun hc10 => ?_⟩
          · skip
            exfalso; omega
          · skip
            refine v_X11_has ?_
            have f11 := dAndE (x := ((m.1 47 4).toUInt32 >>> (x1.toUInt32 &&& Int32.toUInt32 31)).toInt32) (y := (1 : Int32)) (by decide)
            refine ⟨fun hc12 => ?_, fun hc12 => ?_⟩
            · skip
              refine ⟨fun hc13 => ?_, fun hc13 => ?_⟩
              · skip
                refine Wp.deep (s_X6_keep_51_47 hG hI (fun M14 I14 => ?_)) (Nat.le_of_ble_eq_true rfl)
                have I15 : Inv g (dSet M14 47 4 ((M14.1 47 4) ^^^ ((1 : Int32) <<< (x1 &&& 31)))) := (Inv.setA I14 rfl)
                exact hQ _ _ I15 (by omega)
              · skip
                refine v_X11_pin_0_37 ?_
                exact hQ _ _ hI (by omega)
            · skip
              refine ⟨fun hc13 => ?_, fun hc13 => ?_⟩
              · skip
                refine Wp.deep (s_X6_keep_51_47 hG hI (fun M14 I14 => ?_)) (Nat.le_of_ble_eq_true rfl)
                have I15 : Inv g (dSet M14 47 4 ((M14.1 47 4) ^^^ ((1 : Int32) <<< (x1 &&& 31)))) := (Inv.setA I14 rfl)
                exact hQ _ _ I15 (by omega)
              · skip
                refine v_X11_pin_0_37 ?_
                exact hQ _ _ hI (by omega)
        · skip
          refine ⟨fun hc9 => ?_, fun hc9 => ?_⟩
          · skip
            refine v_X11_pin_0_37 ?_
            have f10 := ti_0
            exact hQ _ _ hI (by omega)
          · skip
            exfalso; omega
theorem s_X0_takePay_54_47_all {g : gM} {Q : dM → Prop} (hG : Gd g) (hQ : ∀ m' : dM, Inv g m' → Q m') : ∀ n : Nat, (∀ (x2 : Int32) (x3 : Int32) (m : dM), Inv g m → (0 ≤ x3.toInt ∧ x3.toInt ≤ 8) → 17 - 2 * x3.toInt < (n : Int) → j_X0_takePay_54_47_12 5 x2 x3 m Q) ∧ (∀ (x2 : Int32) (x3 : Int32) (m : dM), Inv g m → (0 ≤ x3.toInt ∧ x3.toInt ≤ 7) → 16 - 2 * x3.toInt < (n : Int) → j_X0_takePay_54_47_51 5 x2 x3 m Q) := by
  intro n
  induction n with
  | zero => exact ⟨fun x2 x3 m hI h3 hμ => by exfalso; omega, fun x2 x3 m hI h3 hμ => by exfalso; omega⟩
  | succ n ih =>
    refine ⟨?_, ?_⟩
    · intro x2 x3 m hI h3 hμ
      refine v_X0_takePay_54_47_12 ?_
      have f1 := congrArg Int32.toInt (hI.2 2 2 rfl)
      have f2 := Inv.s hG hI (k := 2) (j := 2) rfl rfl
      refine ⟨fun hc3 => ?_, fun hc3 => ?_⟩
      · skip
        exact hQ _ hI
      · skip
        refine v_X11_has ?_
        have f4 := ti_1
        have f5 := dAndE (x := (x2.toUInt32 >>> (x3.toUInt32 &&& Int32.toUInt32 31)).toInt32) (y := (1 : Int32)) (by decide)
        refine ⟨fun hc6 => ?_, fun hc6 => ?_⟩
        · skip
          have f7 := ti_0
          refine ⟨fun hc8 => ?_, fun hc8 => ?_⟩
          · skip
            exact ih.2 _ _ _ hI (by omega) (by omega)
          · skip
            exfalso; omega
        · skip
          refine ⟨fun hc7 => ?_, fun hc7 => ?_⟩
          · skip
            exfalso; omega
          · skip
            refine Wp.deep (s_X0_payOf_54_47 hG hI (by omega) (fun R8 M8 I8 hr8 => ?_)) (Nat.le_of_ble_eq_true rfl)
            have I9 : Inv g (dSet M8 47 1 (if ((m.1 47 1) + R8) < (99999 : Int32) then ((m.1 47 1) + R8) else (99999 : Int32))) := (Inv.setA I8 rfl)
            exact ih.2 _ _ _ I9 (by omega) (by omega)
    · intro x2 x3 m hI h3 hμ
      refine v_X0_takePay_54_47_51 ?_
      have f1 := dAddE (X := x3.toInt) (Y := 1) (x := x3) (y := (1 : Int32)) rfl (by decide) (by omega) (by omega)
      exact ih.1 _ _ _ hI (by omega) (by omega)
theorem s_X0_takePay_54_47 {g : gM} {m : dM} {Q : dM → Prop} (hG : Gd g) (hI : Inv g m) (hQ : ∀ m' : dM, Inv g m' → Q m') : c_X0_takePay_54_47 5 m Q := by
  refine v_X0_takePay_54_47 ?_
  refine v_X7_hourOfDay_47 ?_
  have f1 := dRemE (x := (m.1 47 0)) (y := (24 : Int32)) (Y := 24) (by decide) (by decide)
  refine Wp.deep (s_X0_usesAt_54_47 hG hI (by omega) (fun R2 M2 I2 => ?_)) (Nat.le_of_ble_eq_true rfl)
  have f3 := ti_0
  exact (s_X0_takePay_54_47_all hG hQ 19).1 _ _ _ I2 (by omega) (by omega)
theorem s_X0_countQuarrels_54_47_all {g : gM} {Q : dM → Prop} (hG : Gd g) (hQ : ∀ m' : dM, Inv g m' → Q m') : ∀ n : Nat, (∀ (x2 : Int32) (m : dM), Inv g m → (0 ≤ x2.toInt ∧ x2.toInt ≤ 7) → 15 - 2 * x2.toInt < (n : Int) → j_X0_countQuarrels_54_47_13 5 x2 m Q) ∧ (∀ (x2 : Int32) (m : dM), Inv g m → (0 ≤ x2.toInt ∧ x2.toInt ≤ 6) → 14 - 2 * x2.toInt < (n : Int) → j_X0_countQuarrels_54_47_78 5 x2 m Q) := by
  intro n
  induction n with
  | zero => exact ⟨fun x2 m hI h2 hμ => by exfalso; omega, fun x2 m hI h2 hμ => by exfalso; omega⟩
  | succ n ih =>
    refine ⟨?_, ?_⟩
    · intro x2 m hI h2 hμ
      refine v_X0_countQuarrels_54_47_13 ?_
      have f1 := congrArg Int32.toInt (hI.2 2 0 rfl)
      have f2 := Inv.s hG hI (k := 2) (j := 0) rfl rfl
      refine ⟨fun hc3 => ?_, fun hc3 => ?_⟩
      · skip
        exact hQ _ hI
      · skip
        refine v_X11_has ?_
        have f4 := ti_1
        have f5 := dAndE (x := ((m.1 57 5).toUInt32 >>> (x2.toUInt32 &&& Int32.toUInt32 31)).toInt32) (y := (1 : Int32)) (by decide)
        refine ⟨fun hc6 => ?_, fun hc6 => ?_⟩
        · skip
          have f7 := ti_0
          refine ⟨fun hc8 => ?_, fun hc8 => ?_⟩
          · skip
            refine Wp.deep (s_X0_quarrelOf_54_47 hG hI (by omega) (fun R9 M9 I9 hr9 => ?_)) (Nat.le_of_ble_eq_true rfl)
            refine ⟨by omega, ?_⟩
            refine ⟨by omega, ?_⟩
            have I10 : Inv g (dSet M9 47 2 (if ((m.1 47 2) + R9) < (999999 : Int32) then ((m.1 47 2) + R9) else (999999 : Int32))) := (Inv.setA I9 rfl)
            have I11 : Inv g (dSet (dSet M9 47 2 (if ((m.1 47 2) + R9) < (999999 : Int32) then ((m.1 47 2) + R9) else (999999 : Int32))) 50 x2.toNatClampNeg ((M9.1 50 x2.toNatClampNeg) + (1 : Int32))) := (Inv.setA I10 rfl)
            exact ih.2 _ _ I11 (by omega) (by omega)
          · skip
            exfalso; omega
        · skip
          refine ⟨fun hc7 => ?_, fun hc7 => ?_⟩
          · skip
            exfalso; omega
          · skip
            refine ⟨by omega, ?_⟩
            have I8 : Inv g (dSet m 50 x2.toNatClampNeg (0 : Int32)) := (Inv.setA hI rfl)
            exact ih.2 _ _ I8 (by omega) (by omega)
    · intro x2 m hI h2 hμ
      refine v_X0_countQuarrels_54_47_78 ?_
      have f1 := dAddE (X := x2.toInt) (Y := 1) (x := x2) (y := (1 : Int32)) rfl (by decide) (by omega) (by omega)
      exact ih.1 _ _ hI (by omega) (by omega)
theorem s_X0_countQuarrels_54_47 {g : gM} {m : dM} {Q : dM → Prop} (hG : Gd g) (hI : Inv g m) (hQ : ∀ m' : dM, Inv g m' → Q m') : c_X0_countQuarrels_54_47 5 m Q := by
  refine v_X0_countQuarrels_54_47 ?_
  refine Wp.deep (s_X10_lay_57 hG hI (fun M1 I1 => ?_)) (Nat.le_of_ble_eq_true rfl)
  have f2 := ti_0
  exact (s_X0_countQuarrels_54_47_all hG hQ 17).1 _ _ I1 (by omega) (by omega)
theorem s_X0_stirred {g : gM} {x0 : Int32} {x1 : Int32} {m : dM} {Q : Int32 → dM → Prop} (hG : Gd g) (hI : Inv g m) (hQ : ∀ r : Int32, Q r m) : c_X0_stirred 1 x0 x1 m Q := by
  refine v_X0_stirred ?_
  exact hQ _
theorem s_X0_lot {g : gM} {x0 : Int32} {x1 : Int32} {x2 : Int32} {m : dM} {Q : Int32 → dM → Prop} (hG : Gd g) (hI : Inv g m) (h0 : 100 ≤ x0.toInt ∧ x0.toInt ≤ 100) (hQ : ∀ r : Int32, (-99 ≤ r.toInt ∧ r.toInt ≤ 99) → Q r m) : c_X0_lot 2 x0 x1 x2 m Q := by
  refine v_X0_lot ?_
  have f1 := ti_129
  refine Wp.deep (s_X0_stirred hG hI (fun R2 => ?_)) (Nat.le_of_ble_eq_true rfl)
  refine Wp.deep (s_X0_stirred hG hI (fun R3 => ?_)) (Nat.le_of_ble_eq_true rfl)
  refine ⟨fun hc4 => ?_, fun hc4 => ?_⟩
  · skip
    exfalso; omega
  · skip
    refine ⟨fun hz => by have := congrArg Int32.toInt hz; have e0 : (0 : Int32).toInt = 0 := rfl; omega, ?_⟩
    have f5 := dRemE (x := (R3.toUInt32 >>> ((1 : Int32).toUInt32 &&& Int32.toUInt32 31)).toInt32) (y := x0) (Y := 100) (by omega) (by decide)
    exact hQ _ (by omega)
theorem s_X0_isSurge_54 {g : gM} {x1 : Int32} {x2 : Int32} {m : dM} {Q : Int32 → dM → Prop} (hG : Gd g) (hI : Inv g m) (hQ : ∀ r : Int32, (0 ≤ r.toInt ∧ r.toInt ≤ 1) → Q r m) : c_X0_isSurge_54 3 x1 x2 m Q := by
  refine v_X0_isSurge_54 ?_
  have f1 := ti_100
  refine Wp.deep (s_X0_lot hG hI (by omega) (fun R2 hr2 => ?_)) (Nat.le_of_ble_eq_true rfl)
  have f3 := congrArg Int32.toInt (hI.2 2 3 rfl)
  refine ⟨fun hc4 => ?_, fun hc4 => ?_⟩
  · skip
    have f5 := ti_0
    exact hQ _ (by omega)
  · skip
    have f5 := ti_1
    exact hQ _ (by omega)
theorem s_X0_surgeOf_54 {g : gM} {x1 : Int32} {x2 : Int32} {m : dM} {Q : Int32 → dM → Prop} (hG : Gd g) (hI : Inv g m) (hQ : ∀ r : Int32, Q r m) : c_X0_surgeOf_54 4 x1 x2 m Q := by
  refine v_X0_surgeOf_54 ?_
  refine Wp.deep (s_X0_isSurge_54 hG hI (fun R1 hr1 => ?_)) (Nat.le_of_ble_eq_true rfl)
  refine ⟨fun hc2 => ?_, fun hc2 => ?_⟩
  · skip
    have f3 := ti_0
    exact hQ _
  · skip
    have f3 := congrArg Int32.toInt (hI.2 2 4 rfl)
    exact hQ _
theorem s_X0_passWires_54_47_all {g : gM} {Q : Int32 → dM → Prop} (hG : Gd g) (hQ : ∀ (r : Int32) (m' : dM), Inv g m' → Q r m') : ∀ n : Nat, (∀ (x3 : Int32) (x4 : Int32) (m : dM), Inv g m → (0 ≤ x4.toInt ∧ x4.toInt ≤ 10) → 21 - 2 * x4.toInt < (n : Int) → j_X0_passWires_54_47_38 5 x3 x4 m Q) ∧ (∀ (x3 : Int32) (x4 : Int32) (m : dM), Inv g m → (0 ≤ x4.toInt ∧ x4.toInt ≤ 9) → 20 - 2 * x4.toInt < (n : Int) → j_X0_passWires_54_47_84 5 x3 x4 m Q) := by
  intro n
  induction n with
  | zero => exact ⟨fun x3 x4 m hI h4 hμ => by exfalso; omega, fun x3 x4 m hI h4 hμ => by exfalso; omega⟩
  | succ n ih =>
    refine ⟨?_, ?_⟩
    · intro x3 x4 m hI h4 hμ
      refine v_X0_passWires_54_47_38 ?_
      have f1 := congrArg Int32.toInt (hI.2 2 1 rfl)
      have f2 := Inv.s hG hI (k := 2) (j := 1) rfl rfl
      refine ⟨fun hc3 => ?_, fun hc3 => ?_⟩
      · skip
        have I4 : Inv g (dSet m 47 0 ((m.1 47 0) + (1 : Int32))) := (Inv.setA hI rfl)
        exact hQ _ _ I4
      · skip
        refine v_X11_has ?_
        have f4 := ti_1
        have f5 := dAndE (x := ((m.1 47 3).toUInt32 >>> (x4.toUInt32 &&& Int32.toUInt32 31)).toInt32) (y := (1 : Int32)) (by decide)
        refine ⟨fun hc6 => ?_, fun hc6 => ?_⟩
        · skip
          have f7 := ti_0
          refine ⟨fun hc8 => ?_, fun hc8 => ?_⟩
          · skip
            exfalso; omega
          · skip
            refine ⟨by omega, ?_⟩
            refine ⟨by omega, ?_⟩
            have I9 : Inv g (dSet m 49 x4.toNatClampNeg (if ((m.1 49 x4.toNatClampNeg) + (1 : Int32)) < (999 : Int32) then ((m.1 49 x4.toNatClampNeg) + (1 : Int32)) else (999 : Int32))) := (Inv.setA hI rfl)
            exact ih.2 _ _ _ I9 (by omega) (by omega)
        · skip
          refine ⟨fun hc7 => ?_, fun hc7 => ?_⟩
          · skip
            exact ih.2 _ _ _ hI (by omega) (by omega)
          · skip
            exfalso; omega
    · intro x3 x4 m hI h4 hμ
      refine v_X0_passWires_54_47_84 ?_
      have f1 := dAddE (X := x4.toInt) (Y := 1) (x := x4) (y := (1 : Int32)) rfl (by decide) (by omega) (by omega)
      exact ih.1 _ _ _ hI (by omega) (by omega)
theorem s_X0_passWires_54_47 {g : gM} {x2 : Int32} {m : dM} {Q : Int32 → dM → Prop} (hG : Gd g) (hI : Inv g m) (hQ : ∀ (r : Int32) (m' : dM), Inv g m' → Q r m') : c_X0_passWires_54_47 5 x2 m Q := by
  refine v_X0_passWires_54_47 ?_
  refine v_X7_hourOfDay_47 ?_
  have f1 := dRemE (x := (m.1 47 0)) (y := (24 : Int32)) (Y := 24) (by decide) (by decide)
  refine Wp.deep (s_X0_usesAt_54_47 hG hI (by omega) (fun R2 M2 I2 => ?_)) (Nat.le_of_ble_eq_true rfl)
  refine Wp.deep (s_X0_putOn_54_47 hG I2 (fun M3 I3 => ?_)) (Nat.le_of_ble_eq_true rfl)
  refine v_X7_hourOfDay_47 ?_
  have f4 := dRemE (x := (M3.1 47 0)) (y := (24 : Int32)) (Y := 24) (by decide) (by decide)
  refine Wp.deep (s_X0_going_54_47 hG I3 (by omega) (fun R5 M5 I5 => ?_)) (Nat.le_of_ble_eq_true rfl)
  have f6 := ti_0
  have I7 : Inv g (dSet M5 47 3 ((M5.1 47 3) ||| R5)) := (Inv.setA I5 rfl)
  exact (s_X0_passWires_54_47_all hG hQ 23).1 _ _ _ I7 (by omega) (by omega)
theorem s_X0_passHour_54_47 {g : gM} {m : dM} {Q : dM → Prop} (hG : Gd g) (hI : Inv g m) (hQ : ∀ m' : dM, Inv g m' → Q m') : c_X0_passHour_54_47 6 m Q := by
  refine v_X0_passHour_54_47 ?_
  refine Wp.deep (s_X0_takePay_54_47 hG hI (fun M1 I1 => ?_)) (Nat.le_of_ble_eq_true rfl)
  refine Wp.deep (s_X0_countQuarrels_54_47 hG I1 (fun M2 I2 => ?_)) (Nat.le_of_ble_eq_true rfl)
  have f3 := congrArg Int32.toInt (I2.2 2 6 rfl)
  refine Wp.deep (s_X0_surgeOf_54 hG I2 (fun R4 => ?_)) (Nat.le_of_ble_eq_true rfl)
  refine Wp.deep (s_X0_passWires_54_47 hG I2 (fun R5 M5 I5 => ?_)) (Nat.le_of_ble_eq_true rfl)
  exact hQ _ I5
theorem s_X11_hours_0_all {g : gM} {Q : Int32 → dM → Prop} (hG : Gd g) (hQ : ∀ (r : Int32) (m' : dM), Inv g m' → Q r m') : ∀ n : Nat, (∀ (m : dM), Inv g m → 0 < (n : Int) → j_X11_hours_0_10 7 m Q) ∧ (∀ (x1 : Int32) (m : dM), Inv g m → (0 ≤ x1.toInt ∧ x1.toInt ≤ 72) → 74 < (n : Int) → j_X11_hours_0_27 7 x1 m Q) ∧ (∀ (x1 : Int32) (x2 : Int32) (m : dM), Inv g m → (0 ≤ x1.toInt ∧ x1.toInt ≤ 72) → (0 ≤ x2.toInt ∧ x2.toInt ≤ 72) → 73 - 1 * x2.toInt < (n : Int) → j_X11_hours_0_29 7 x1 x2 m Q) := by
  intro n
  induction n with
  | zero => exact ⟨fun m hI hμ => by exfalso; omega, fun x1 m hI h1 hμ => by exfalso; omega, fun x1 x2 m hI h1 h2 hμ => by exfalso; omega⟩
  | succ n ih =>
    refine ⟨?_, ?_, ?_⟩
    · intro m hI hμ
      refine v_X11_hours_0_10 ?_
      have f1 := ti_m1
      exact hQ _ _ hI
    · intro x1 m hI h1 hμ
      refine v_X11_hours_0_27 ?_
      have f1 := ti_0
      exact ih.2.2 _ _ _ hI (by omega) (by omega) (by omega)
    · intro x1 x2 m hI h1 h2 hμ
      refine v_X11_hours_0_29 ?_
      refine ⟨fun hc1 => ?_, fun hc1 => ?_⟩
      · skip
        exact hQ _ _ hI
      · skip
        refine Wp.deep (s_X0_passHour_54_47 hG hI (fun M2 I2 => ?_)) (Nat.le_of_ble_eq_true rfl)
        have f3 := dAddE (X := x2.toInt) (Y := 1) (x := x2) (y := (1 : Int32)) rfl (by decide) (by omega) (by omega)
        exact ih.2.2 _ _ _ I2 (by omega) (by omega) (by omega)
theorem s_X11_hours_0 {g : gM} {x1 : Int32} {m : dM} {Q : Int32 → dM → Prop} (hG : Gd g) (hI : Inv g m) (hQ : ∀ (r : Int32) (m' : dM), Inv g m' → Q r m') : c_X11_hours_0 7 x1 m Q := by
  refine v_X11_hours_0 ?_
  refine ⟨fun hc1 => ?_, fun hc1 => ?_⟩
  · skip
    exact (s_X11_hours_0_all hG hQ 76).1 _ hI (by omega)
  · skip
    refine ⟨fun hc2 => ?_, fun hc2 => ?_⟩
    · skip
      refine ⟨fun hc3 => ?_, fun hc3 => ?_⟩
      · skip
        exact (s_X11_hours_0_all hG hQ 76).2.1 _ _ hI (by omega) (by omega)
      · skip
        refine Wp.deep (s_X6_keep_51_47 hG hI (fun M4 I4 => ?_)) (Nat.le_of_ble_eq_true rfl)
        exact (s_X11_hours_0_all hG hQ 76).2.1 _ _ I4 (by omega) (by omega)
    · skip
      exact (s_X11_hours_0_all hG hQ 76).1 _ hI (by omega)
theorem s_X12_mixed {g : gM} {x0 : Int32} {x1 : Int32} {m : dM} {Q : Int32 → dM → Prop} (hG : Gd g) (hI : Inv g m) (hQ : ∀ r : Int32, Q r m) : c_X12_mixed 1 x0 x1 m Q := by
  refine v_X12_mixed ?_
  exact hQ _
theorem s_X12_isSurge_70 {g : gM} {m : dM} {Q : Int32 → dM → Prop} (hG : Gd g) (hI : Inv g m) (hQ : ∀ r : Int32, (0 ≤ r.toInt ∧ r.toInt ≤ 1) → Q r m) : c_X12_isSurge_70 2 m Q := by
  refine v_X12_isSurge_70 ?_
  have f1 := ti_129
  refine Wp.deep (s_X12_mixed hG hI (fun R2 => ?_)) (Nat.le_of_ble_eq_true rfl)
  refine Wp.deep (s_X12_mixed hG hI (fun R3 => ?_)) (Nat.le_of_ble_eq_true rfl)
  have f4 := congrArg Int32.toInt (hI.2 70 18 rfl)
  have f5 := Inv.s hG hI (k := 70) (j := 18) rfl rfl
  refine ⟨by omega, ?_⟩
  have f6 := dRemE (x := (R3.toUInt32 >>> ((1 : Int32).toUInt32 &&& Int32.toUInt32 31)).toInt32) (y := (100 : Int32)) (Y := 100) (by decide) (by decide)
  refine ⟨fun hc7 => ?_, fun hc7 => ?_⟩
  · skip
    have f8 := ti_0
    exact hQ _ (by omega)
  · skip
    have f8 := ti_1
    exact hQ _ (by omega)
theorem s_X7_readFrom_47_52 {g : gM} {x2 : Int32} {m : dM} {Q : dM → Prop} (hG : Gd g) (hI : Inv g m) (h2 : -1287 ≤ x2.toInt ∧ x2.toInt ≤ 1287) (hQ : ∀ m' : dM, Inv g m' → Q m') : c_X7_readFrom_47_52 1 x2 m Q := by
  refine v_X7_readFrom_47_52 ?_
  refine ⟨fun hc1 => ?_, fun hc1 => ?_⟩
  · skip
    refine v_X7_readFrom_47_52_13 ?_
    exact hQ _ hI
  · skip
    have f2 := dSubE (X := 1320) (Y := 33) (x := (1320 : Int32)) (y := (33 : Int32)) (by decide) (by decide) (by omega) (by omega)
    refine ⟨fun hc3 => ?_, fun hc3 => ?_⟩
    · skip
      refine ⟨by omega, ?_⟩
      have f4 := dAddE (X := x2.toInt) (Y := 1) (x := x2) (y := (1 : Int32)) rfl (by decide) (by omega) (by omega)
      refine ⟨by omega, ?_⟩
      have f5 := dAddE (X := x2.toInt) (Y := 2) (x := x2) (y := (2 : Int32)) rfl (by decide) (by omega) (by omega)
      refine ⟨by omega, ?_⟩
      have f6 := dAddE (X := x2.toInt) (Y := 3) (x := x2) (y := (3 : Int32)) rfl (by decide) (by omega) (by omega)
      refine ⟨by omega, ?_⟩
      have f7 := dAddE (X := x2.toInt) (Y := 4) (x := x2) (y := (4 : Int32)) rfl (by decide) (by omega) (by omega)
      refine ⟨by omega, ?_⟩
      have f8 := dAddE (X := x2.toInt) (Y := 5) (x := x2) (y := (5 : Int32)) rfl (by decide) (by omega) (by omega)
      refine ⟨by omega, ?_⟩
      have f9 := ti_10
      have f10 := ti_0
      have f11 := dAddE (X := x2.toInt) (Y := 6) (x := x2) (y := (6 : Int32)) rfl (by decide) (by omega) (by omega)
      refine ⟨by omega, ?_⟩
      have f12 := dAddE (X := (x2 + (6 : Int32)).toInt) (Y := 10) (x := (x2 + (6 : Int32))) (y := (10 : Int32)) rfl (by decide) (by omega) (by omega)
      refine ⟨by omega, ?_⟩
      have f13 := ti_7
      have f14 := dAddE (X := (x2 + (6 : Int32)).toInt) (Y := 20) (x := (x2 + (6 : Int32))) (y := (20 : Int32)) rfl (by decide) (by omega) (by omega)
      refine ⟨by omega, ?_⟩
      have I15 : Inv g (dSet m 47 0 (m.1 52 x2.toNatClampNeg)) := (Inv.setA hI rfl)
      have I16 : Inv g (dSet (dSet m 47 0 (m.1 52 x2.toNatClampNeg)) 47 1 (m.1 52 (x2 + (1 : Int32)).toNatClampNeg)) := (Inv.setA I15 rfl)
      have I17 : Inv g (dSet (dSet (dSet m 47 0 (m.1 52 x2.toNatClampNeg)) 47 1 (m.1 52 (x2 + (1 : Int32)).toNatClampNeg)) 47 2 (m.1 52 (x2 + (2 : Int32)).toNatClampNeg)) := (Inv.setA I16 rfl)
      have I18 : Inv g (dSet (dSet (dSet (dSet m 47 0 (m.1 52 x2.toNatClampNeg)) 47 1 (m.1 52 (x2 + (1 : Int32)).toNatClampNeg)) 47 2 (m.1 52 (x2 + (2 : Int32)).toNatClampNeg)) 47 3 (m.1 52 (x2 + (3 : Int32)).toNatClampNeg)) := (Inv.setA I17 rfl)
      have I19 : Inv g (dSet (dSet (dSet (dSet (dSet m 47 0 (m.1 52 x2.toNatClampNeg)) 47 1 (m.1 52 (x2 + (1 : Int32)).toNatClampNeg)) 47 2 (m.1 52 (x2 + (2 : Int32)).toNatClampNeg)) 47 3 (m.1 52 (x2 + (3 : Int32)).toNatClampNeg)) 47 4 (m.1 52 (x2 + (4 : Int32)).toNatClampNeg)) := (Inv.setA I18 rfl)
      have I20 : Inv g (dSet (dSet (dSet (dSet (dSet (dSet m 47 0 (m.1 52 x2.toNatClampNeg)) 47 1 (m.1 52 (x2 + (1 : Int32)).toNatClampNeg)) 47 2 (m.1 52 (x2 + (2 : Int32)).toNatClampNeg)) 47 3 (m.1 52 (x2 + (3 : Int32)).toNatClampNeg)) 47 4 (m.1 52 (x2 + (4 : Int32)).toNatClampNeg)) 47 5 (m.1 52 (x2 + (5 : Int32)).toNatClampNeg)) := (Inv.setA I19 rfl)
      have I21 : Inv g (dCpy (dSet (dSet (dSet (dSet (dSet (dSet m 47 0 (m.1 52 x2.toNatClampNeg)) 47 1 (m.1 52 (x2 + (1 : Int32)).toNatClampNeg)) 47 2 (m.1 52 (x2 + (2 : Int32)).toNatClampNeg)) 47 3 (m.1 52 (x2 + (3 : Int32)).toNatClampNeg)) 47 4 (m.1 52 (x2 + (4 : Int32)).toNatClampNeg)) 47 5 (m.1 52 (x2 + (5 : Int32)).toNatClampNeg)) 52 ((x2 + (6 : Int32)).toInt).toNat 48 (0 : Int).toNat (10 : Int).toNat) := (Inv.cpy I20 (fun _ => rfl))
      have I22 : Inv g (dCpy (dCpy (dSet (dSet (dSet (dSet (dSet (dSet m 47 0 (m.1 52 x2.toNatClampNeg)) 47 1 (m.1 52 (x2 + (1 : Int32)).toNatClampNeg)) 47 2 (m.1 52 (x2 + (2 : Int32)).toNatClampNeg)) 47 3 (m.1 52 (x2 + (3 : Int32)).toNatClampNeg)) 47 4 (m.1 52 (x2 + (4 : Int32)).toNatClampNeg)) 47 5 (m.1 52 (x2 + (5 : Int32)).toNatClampNeg)) 52 ((x2 + (6 : Int32)).toInt).toNat 48 (0 : Int).toNat (10 : Int).toNat) 52 (((x2 + (6 : Int32)) + (10 : Int32)).toInt).toNat 49 (0 : Int).toNat (10 : Int).toNat) := (Inv.cpy I21 (fun _ => rfl))
      have I23 : Inv g (dCpy (dCpy (dCpy (dSet (dSet (dSet (dSet (dSet (dSet m 47 0 (m.1 52 x2.toNatClampNeg)) 47 1 (m.1 52 (x2 + (1 : Int32)).toNatClampNeg)) 47 2 (m.1 52 (x2 + (2 : Int32)).toNatClampNeg)) 47 3 (m.1 52 (x2 + (3 : Int32)).toNatClampNeg)) 47 4 (m.1 52 (x2 + (4 : Int32)).toNatClampNeg)) 47 5 (m.1 52 (x2 + (5 : Int32)).toNatClampNeg)) 52 ((x2 + (6 : Int32)).toInt).toNat 48 (0 : Int).toNat (10 : Int).toNat) 52 (((x2 + (6 : Int32)) + (10 : Int32)).toInt).toNat 49 (0 : Int).toNat (10 : Int).toNat) 52 (((x2 + (6 : Int32)) + (20 : Int32)).toInt).toNat 50 (0 : Int).toNat (7 : Int).toNat) := (Inv.cpy I22 (fun _ => rfl))
      exact hQ _ I23
    · skip
      exfalso; omega
theorem s_X6_takeBack_51_47 {g : gM} {m : dM} {Q : Int32 → dM → Prop} (hG : Gd g) (hI : Inv g m) (hQ : ∀ (r : Int32) (m' : dM), Inv g m' → (0 ≤ r.toInt ∧ r.toInt ≤ 1) → Q r m') : c_X6_takeBack_51_47 2 m Q := by
  refine v_X6_takeBack_51_47 ?_
  refine ⟨fun hc1 => ?_, fun hc1 => ?_⟩
  · skip
    have f2 := dRemE (x := (((m.1 51 2) + (40 : Int32)) - (1 : Int32))) (y := (40 : Int32)) (Y := 40) (by decide) (by decide)
    have f3 := dMulE (X := ((((m.1 51 2) + (40 : Int32)) - (1 : Int32)) - (((m.1 51 2) + (40 : Int32)) - (1 : Int32)) / (40 : Int32) * (40 : Int32)).toInt) (Y := 33) (x := ((((m.1 51 2) + (40 : Int32)) - (1 : Int32)) - (((m.1 51 2) + (40 : Int32)) - (1 : Int32)) / (40 : Int32) * (40 : Int32))) (y := (33 : Int32)) rfl (by decide) (by omega) (by omega)
    have I4 : Inv g (dSet m 51 2 ((((m.1 51 2) + (40 : Int32)) - (1 : Int32)) - (((m.1 51 2) + (40 : Int32)) - (1 : Int32)) / (40 : Int32) * (40 : Int32))) := (Inv.setA hI rfl)
    have I5 : Inv g (dSet (dSet m 51 2 ((((m.1 51 2) + (40 : Int32)) - (1 : Int32)) - (((m.1 51 2) + (40 : Int32)) - (1 : Int32)) / (40 : Int32) * (40 : Int32))) 51 3 ((m.1 51 3) - (1 : Int32))) := (Inv.setA I4 rfl)
    refine Wp.deep (s_X7_readFrom_47_52 hG I5 (by omega) (fun M6 I6 => ?_)) (Nat.le_of_ble_eq_true rfl)
    have f7 := ti_1
    exact hQ _ _ I6 (by omega)
  · skip
    have f2 := ti_0
    exact hQ _ _ hI (by omega)
theorem s_X11_undo_0 {g : gM} {m : dM} {Q : Int32 → dM → Prop} (hG : Gd g) (hI : Inv g m) (hQ : ∀ (r : Int32) (m' : dM), Inv g m' → (0 ≤ r.toInt ∧ r.toInt ≤ 1) → Q r m') : c_X11_undo_0 3 m Q := by
  refine v_X11_undo_0 ?_
  refine Wp.deep (s_X6_takeBack_51_47 hG hI (fun R1 M1 I1 hr1 => ?_)) (Nat.le_of_ble_eq_true rfl)
  refine ⟨dB01 (by omega), ?_⟩
  exact hQ _ _ I1 (by omega)
theorem s_X12_undo_70_all {g : gM} {Q : Int32 → dM → Prop} (hG : Gd g) (hQ : ∀ (r : Int32) (m' : dM), Inv g m' → (0 ≤ r.toInt ∧ r.toInt ≤ 1) → Q r m') : ∀ n : Nat, (∀ (x1 : Int32) (m : dM), Inv g m → (0 ≤ x1.toInt ∧ x1.toInt ≤ 58) → (0 ≤ (m.1 70 61).toInt ∧ (m.1 70 61).toInt ≤ 39) → 58 - 1 * x1.toInt < (n : Int) → j_X12_undo_70_21 1 x1 m Q) := by
  intro n
  induction n with
  | zero => exact fun x1 m hI h1 hk70_61 hμ => by exfalso; omega
  | succ n ih =>
    · intro x1 m hI h1 hk70_61 hμ
      refine v_X12_undo_70_21 ?_
      refine ⟨fun hc1 => ?_, fun hc1 => ?_⟩
      · skip
        have f2 := ti_1
        exact hQ _ _ hI (by omega)
      · skip
        have f2 := Inv.w hI (k := 70) (j := 61) rfl
        have f3 := dMulE (X := 58) (Y := (m.1 70 61).toInt) (x := (58 : Int32)) (y := (m.1 70 61)) (by decide) rfl (by omega) (by omega)
        have f4 := dAddE (X := ((58 : Int32) * (m.1 70 61)).toInt) (Y := x1.toInt) (x := ((58 : Int32) * (m.1 70 61))) (y := x1) rfl rfl (by omega) (by omega)
        refine ⟨by omega, ?_⟩
        refine ⟨by omega, ?_⟩
        have f5 := dAddE (X := x1.toInt) (Y := 1) (x := x1) (y := (1 : Int32)) rfl (by decide) (by omega) (by omega)
        have I6 : Inv g (dSet m 107 x1.toNatClampNeg (m.1 111 (((58 : Int32) * (m.1 70 61)) + x1).toNatClampNeg)) := (Inv.setA hI rfl)
        have f7 : ((dSet m 107 x1.toNatClampNeg (m.1 111 (((58 : Int32) * (m.1 70 61)) + x1).toNatClampNeg)).1 70 61).toInt = (m.1 70 61).toInt := rfl
        exact ih _ _ I6 (by omega) (by omega) (by omega)
theorem s_X12_undo_70 {g : gM} {m : dM} {Q : Int32 → dM → Prop} (hG : Gd g) (hI : Inv g m) (hQ : ∀ (r : Int32) (m' : dM), Inv g m' → (0 ≤ r.toInt ∧ r.toInt ≤ 1) → Q r m') : c_X12_undo_70 1 m Q := by
  have hz2 := e_lo (m.1 70 61)
  have hz3 := e_hi (m.1 70 61)
  refine v_X12_undo_70 ?_
  have f1 := Inv.w hI (k := 70) (j := 61) rfl
  refine ⟨fun hc2 => ?_, fun hc2 => ?_⟩
  · skip
    have f3 := ti_0
    have f4 := dSubE (X := (m.1 70 61).toInt) (Y := 1) (x := (m.1 70 61)) (y := (1 : Int32)) rfl (by decide) (by omega) (by omega)
    have I5 : Inv g (dSet m 70 61 ((m.1 70 61) - (1 : Int32))) := (Inv.set hI rfl (by omega) (by omega))
    have f6 : ((dSet m 70 61 ((m.1 70 61) - (1 : Int32))).1 70 61).toInt = ((m.1 70 61) - (1 : Int32)).toInt := rfl
    exact (s_X12_undo_70_all hG hQ 60) _ _ I5 (by omega) (by omega) (by omega)
  · skip
    have f3 := ti_0
    exact hQ _ _ hI (by omega)
theorem s_X10_wireAt_57_all {g : gM} {Q : Int32 → dM → Prop} {m : dM} (hG : Gd g) (hI : Inv g m) (hQ : ∀ r : Int32, (-1 ≤ r.toInt ∧ r.toInt ≤ 9) → Q r m) : ∀ n : Nat, (0 < (n : Int) → j_X10_wireAt_57_14 1 m Q) ∧ (∀ (x2 : Int32) (x3 : Int32) (x4 : Int32), (0 ≤ x2.toInt ∧ x2.toInt ≤ 6) → (0 ≤ x3.toInt ∧ x3.toInt ≤ 6) → (0 ≤ x4.toInt ∧ x4.toInt ≤ 6) → 7 - 1 * x4.toInt < (n : Int) → j_X10_wireAt_57_21 1 x2 x3 x4 m Q) := by
  intro n
  induction n with
  | zero => exact ⟨fun hμ => by exfalso; omega, fun x2 x3 x4 h2 h3 h4 hμ => by exfalso; omega⟩
  | succ n ih =>
    refine ⟨?_, ?_⟩
    · intro hμ
      refine v_X10_wireAt_57_14 ?_
      have f1 := ti_m1
      exact hQ _ (by omega)
    · intro x2 x3 x4 h2 h3 h4 hμ
      refine v_X10_wireAt_57_21 ?_
      refine ⟨fun hc1 => ?_, fun hc1 => ?_⟩
      · skip
        refine ⟨by omega, ?_⟩
        have f2 := Inv.w hI (k := 58) (j := x3.toNatClampNeg) rfl
        exact hQ _ (by omega)
      · skip
        refine ⟨by omega, ?_⟩
        have f2 := Inv.w hI (k := 58) (j := x3.toNatClampNeg) rfl
        refine ⟨by omega, ?_⟩
        have f3 := Inv.s hG hI (k := 4) (j := (m.1 58 x3.toNatClampNeg).toNatClampNeg) rfl rfl
        refine ⟨fun hc4 => ?_, fun hc4 => ?_⟩
        · skip
          refine ⟨by omega, ?_⟩
          have f5 := dAddE (X := x4.toInt) (Y := 1) (x := x4) (y := (1 : Int32)) rfl (by decide) (by omega) (by omega)
          exact ih.2 _ _ _ (by omega) (by omega) (by omega) (by omega)
        · skip
          refine ⟨by omega, ?_⟩
          have f5 := Inv.s hG hI (k := 5) (j := (m.1 58 x3.toNatClampNeg).toNatClampNeg) rfl rfl
          have f6 := dAddE (X := x4.toInt) (Y := 1) (x := x4) (y := (1 : Int32)) rfl (by decide) (by omega) (by omega)
          exact ih.2 _ _ _ (by omega) (by omega) (by omega) (by omega)
theorem s_X10_wireAt_57 {g : gM} {x1 : Int32} {x2 : Int32} {m : dM} {Q : Int32 → dM → Prop} (hG : Gd g) (hI : Inv g m) (h1 : 0 ≤ x1.toInt ∧ x1.toInt ≤ 6) (h2 : 0 ≤ x2.toInt) (hQ : ∀ r : Int32, (-1 ≤ r.toInt ∧ r.toInt ≤ 9) → Q r m) : c_X10_wireAt_57 1 x1 x2 m Q := by
  refine v_X10_wireAt_57 ?_
  refine ⟨fun hc1 => ?_, fun hc1 => ?_⟩
  · skip
    exfalso; omega
  · skip
    refine ⟨by omega, ?_⟩
    have f2 := Inv.w hI (k := 59) (j := x1.toNatClampNeg) rfl
    refine ⟨fun hc3 => ?_, fun hc3 => ?_⟩
    · skip
      have f4 := ti_0
      exact (s_X10_wireAt_57_all hG hI hQ 9).2 _ _ _ (by omega) (by omega) (by omega) (by omega)
    · skip
      exact (s_X10_wireAt_57_all hG hI hQ 9).1 (by omega)
theorem s_X11_way_0 {g : gM} {x1 : Int32} {x2 : Int32} {m : dM} {Q : Int32 → dM → Prop} (hG : Gd g) (hI : Inv g m) (hQ : ∀ (r : Int32) (m' : dM), Inv g m' → (-2 ≤ r.toInt ∧ r.toInt ≤ 9) → Q r m') : c_X11_way_0 4 x1 x2 m Q := by
  refine v_X11_way_0 ?_
  refine v_X11_isFlat_0 ?_
  refine ⟨fun hc1 => ?_, fun hc1 => ?_⟩
  · skip
    refine v_X11_isFlat_0_19 ?_
    have f2 := ti_0
    refine ⟨fun hc3 => ?_, fun hc3 => ?_⟩
    · skip
      refine v_X11_way_0_12 ?_
      have f4 := ti_m1
      exact hQ _ _ hI (by omega)
    · skip
      exfalso; omega
  · skip
    have f2 := congrArg Int32.toInt (hI.2 2 0 rfl)
    have f3 := Inv.s hG hI (k := 2) (j := 0) rfl rfl
    refine ⟨fun hc4 => ?_, fun hc4 => ?_⟩
    · skip
      refine v_X11_isFlat_0_19 ?_
      have f5 := ti_0
      refine ⟨fun hc6 => ?_, fun hc6 => ?_⟩
      · skip
        refine v_X11_way_0_12 ?_
        have f7 := ti_m1
        exact hQ _ _ hI (by omega)
      · skip
        exfalso; omega
    · skip
      have f5 := ti_1
      refine ⟨fun hc6 => ?_, fun hc6 => ?_⟩
      · skip
        exfalso; omega
      · skip
        refine ⟨fun hc7 => ?_, fun hc7 => ?_⟩
        · skip
          refine Wp.deep (s_X0_waysNow_54_47 hG hI (fun M8 I8 => ?_)) (Nat.le_of_ble_eq_true rfl)
          refine v_X11_has ?_
          have f9 := dAndE (x := ((M8.1 57 5).toUInt32 >>> (x1.toUInt32 &&& Int32.toUInt32 31)).toInt32) (y := (1 : Int32)) (by decide)
          refine ⟨fun hc10 => ?_, fun hc10 => ?_⟩
          · skip
            have f11 := ti_0
            refine ⟨fun hc12 => ?_, fun hc12 => ?_⟩
            · skip
              have f13 := ti_m2
              exact hQ _ _ I8 (by omega)
            · skip
              exfalso; omega
          · skip
            refine ⟨fun hc11 => ?_, fun hc11 => ?_⟩
            · skip
              exfalso; omega
            · skip
              refine Wp.deep (s_X10_wireAt_57 hG I8 (by omega) (by omega) (fun R12 hr12 => ?_)) (Nat.le_of_ble_eq_true rfl)
              exact hQ _ _ I8 (by omega)
        · skip
          refine v_X11_way_0_12 ?_
          have f8 := ti_m1
          exact hQ _ _ hI (by omega)
theorem s_X7_copy_62_47 {g : gM} {m : dM} {Q : dM → Prop} (hG : Gd g) (hI : Inv g m) (hQ : ∀ m' : dM, Inv g m' → Q m') : c_X7_copy_62_47 1 m Q := by
  refine v_X7_copy_62_47 ?_
  have I1 : Inv g (dSet m 62 0 (m.1 47 0)) := (Inv.setA hI rfl)
  have I2 : Inv g (dSet (dSet m 62 0 (m.1 47 0)) 62 1 (m.1 47 1)) := (Inv.setA I1 rfl)
  have I3 : Inv g (dSet (dSet (dSet m 62 0 (m.1 47 0)) 62 1 (m.1 47 1)) 62 2 (m.1 47 2)) := (Inv.setA I2 rfl)
  have I4 : Inv g (dSet (dSet (dSet (dSet m 62 0 (m.1 47 0)) 62 1 (m.1 47 1)) 62 2 (m.1 47 2)) 62 3 (m.1 47 3)) := (Inv.setA I3 rfl)
  have I5 : Inv g (dSet (dSet (dSet (dSet (dSet m 62 0 (m.1 47 0)) 62 1 (m.1 47 1)) 62 2 (m.1 47 2)) 62 3 (m.1 47 3)) 62 4 (m.1 47 4)) := (Inv.setA I4 rfl)
  have I6 : Inv g (dSet (dSet (dSet (dSet (dSet (dSet m 62 0 (m.1 47 0)) 62 1 (m.1 47 1)) 62 2 (m.1 47 2)) 62 3 (m.1 47 3)) 62 4 (m.1 47 4)) 62 5 (m.1 47 5)) := (Inv.setA I5 rfl)
  have I7 : Inv g (dCpy (dSet (dSet (dSet (dSet (dSet (dSet m 62 0 (m.1 47 0)) 62 1 (m.1 47 1)) 62 2 (m.1 47 2)) 62 3 (m.1 47 3)) 62 4 (m.1 47 4)) 62 5 (m.1 47 5)) 48 (0 : Int).toNat 63 (0 : Int).toNat (10 : Int).toNat) := (Inv.cpy I6 (fun _ => rfl))
  have I8 : Inv g (dCpy (dCpy (dSet (dSet (dSet (dSet (dSet (dSet m 62 0 (m.1 47 0)) 62 1 (m.1 47 1)) 62 2 (m.1 47 2)) 62 3 (m.1 47 3)) 62 4 (m.1 47 4)) 62 5 (m.1 47 5)) 48 (0 : Int).toNat 63 (0 : Int).toNat (10 : Int).toNat) 49 (0 : Int).toNat 64 (0 : Int).toNat (10 : Int).toNat) := (Inv.cpy I7 (fun _ => rfl))
  have I9 : Inv g (dCpy (dCpy (dCpy (dSet (dSet (dSet (dSet (dSet (dSet m 62 0 (m.1 47 0)) 62 1 (m.1 47 1)) 62 2 (m.1 47 2)) 62 3 (m.1 47 3)) 62 4 (m.1 47 4)) 62 5 (m.1 47 5)) 48 (0 : Int).toNat 63 (0 : Int).toNat (10 : Int).toNat) 49 (0 : Int).toNat 64 (0 : Int).toNat (10 : Int).toNat) 50 (0 : Int).toNat 65 (0 : Int).toNat (7 : Int).toNat) := (Inv.cpy I8 (fun _ => rfl))
  exact hQ _ I9
theorem s_X0_usesAt_54_62_all {g : gM} {Q : Int32 → dM → Prop} (hG : Gd g) (hQ : ∀ (r : Int32) (m' : dM), Inv g m' → Q r m') : ∀ n : Nat, (∀ (x2 : Int32) (x3 : Int32) (x4 : Int32) (m : dM), Inv g m → (-23 ≤ x2.toInt ∧ x2.toInt ≤ 23) → (0 ≤ x4.toInt ∧ x4.toInt ≤ 8) → 26 - 3 * x4.toInt < (n : Int) → j_X0_usesAt_54_62_16 3 x2 x3 x4 m Q) ∧ (∀ (x2 : Int32) (x3 : Int32) (x4 : Int32) (m : dM), Inv g m → (-23 ≤ x2.toInt ∧ x2.toInt ≤ 23) → (0 ≤ x4.toInt ∧ x4.toInt ≤ 7) → 25 - 3 * x4.toInt < (n : Int) → j_X0_usesAt_54_62_60 3 x2 x3 x4 m Q) ∧ (∀ (x2 : Int32) (x3 : Int32) (x4 : Int32) (m : dM), Inv g m → (-23 ≤ x2.toInt ∧ x2.toInt ≤ 23) → (0 ≤ x4.toInt ∧ x4.toInt ≤ 7) → 24 - 3 * x4.toInt < (n : Int) → j_X0_usesAt_54_62_110 3 x2 x3 x4 m Q) := by
  intro n
  induction n with
  | zero => exact ⟨fun x2 x3 x4 m hI h2 h4 hμ => by exfalso; omega, fun x2 x3 x4 m hI h2 h4 hμ => by exfalso; omega, fun x2 x3 x4 m hI h2 h4 hμ => by exfalso; omega⟩
  | succ n ih =>
    refine ⟨?_, ?_, ?_⟩
    · intro x2 x3 x4 m hI h2 h4 hμ
      refine v_X0_usesAt_54_62_16 ?_
      have f1 := congrArg Int32.toInt (hI.2 2 2 rfl)
      have f2 := Inv.s hG hI (k := 2) (j := 2) rfl rfl
      refine ⟨fun hc3 => ?_, fun hc3 => ?_⟩
      · skip
        exact hQ _ _ hI
      · skip
        refine ⟨by omega, ?_⟩
        refine ⟨fun hc4 => ?_, fun hc4 => ?_⟩
        · skip
          exact ih.2.1 _ _ _ _ hI (by omega) (by omega) (by omega)
        · skip
          refine ⟨by omega, ?_⟩
          refine ⟨fun hc5 => ?_, fun hc5 => ?_⟩
          · skip
            exact ih.2.1 _ _ _ _ hI (by omega) (by omega) (by omega)
          · skip
            refine v_X11_has ?_
            have f6 := ti_1
            have f7 := dAndE (x := ((m.1 62 5).toUInt32 >>> (x4.toUInt32 &&& Int32.toUInt32 31)).toInt32) (y := (1 : Int32)) (by decide)
            refine ⟨fun hc8 => ?_, fun hc8 => ?_⟩
            · skip
              have f9 := ti_0
              refine ⟨fun hc10 => ?_, fun hc10 => ?_⟩
              · skip
                exact ih.2.2 _ _ _ _ hI (by omega) (by omega) (by omega)
              · skip
                exfalso; omega
            · skip
              refine ⟨fun hc9 => ?_, fun hc9 => ?_⟩
              · skip
                exfalso; omega
              · skip
                refine ⟨by omega, ?_⟩
                refine v_X11_has ?_
                have f10 := Inv.home hG hI (u := x4) (by omega) (by omega)
                have f11 := dAndE (x := ((m.1 57 5).toUInt32 >>> ((m.1 7 x4.toNatClampNeg).toUInt32 &&& Int32.toUInt32 31)).toInt32) (y := (1 : Int32)) (by decide)
                refine ⟨fun hc12 => ?_, fun hc12 => ?_⟩
                · skip
                  have f13 := ti_0
                  refine ⟨fun hc14 => ?_, fun hc14 => ?_⟩
                  · skip
                    exact ih.2.2 _ _ _ _ hI (by omega) (by omega) (by omega)
                  · skip
                    exfalso; omega
                · skip
                  refine ⟨fun hc13 => ?_, fun hc13 => ?_⟩
                  · skip
                    exfalso; omega
                  · skip
                    have f14 := dShl8 (x := x4) (by omega) (by omega)
                    exact ih.2.2 _ _ _ _ hI (by omega) (by omega) (by omega)
    · intro x2 x3 x4 m hI h2 h4 hμ
      refine v_X0_usesAt_54_62_60 ?_
      exact ih.2.2 _ _ _ _ hI (by omega) (by omega) (by omega)
    · intro x2 x3 x4 m hI h2 h4 hμ
      refine v_X0_usesAt_54_62_110 ?_
      have f1 := dAddE (X := x4.toInt) (Y := 1) (x := x4) (y := (1 : Int32)) rfl (by decide) (by omega) (by omega)
      exact ih.1 _ _ _ _ hI (by omega) (by omega) (by omega)
theorem s_X0_usesAt_54_62 {g : gM} {x2 : Int32} {m : dM} {Q : Int32 → dM → Prop} (hG : Gd g) (hI : Inv g m) (h2 : -23 ≤ x2.toInt ∧ x2.toInt ≤ 23) (hQ : ∀ (r : Int32) (m' : dM), Inv g m' → Q r m') : c_X0_usesAt_54_62 3 x2 m Q := by
  refine v_X0_usesAt_54_62 ?_
  refine Wp.deep (s_X10_lay_57 hG hI (fun M1 I1 => ?_)) (Nat.le_of_ble_eq_true rfl)
  have f2 := ti_0
  exact (s_X0_usesAt_54_62_all hG hQ 28).1 _ _ _ _ I1 (by omega) (by omega) (by omega)
theorem s_X0_putOn_54_62_all {g : gM} {Q : dM → Prop} (hG : Gd g) (hQ : ∀ m' : dM, Inv g m' → Q m') : ∀ n : Nat, (∀ (x2 : Int32) (x3 : Int32) (m : dM), Inv g m → (0 ≤ x3.toInt ∧ x3.toInt ≤ 8) → 116 - 13 * x3.toInt < (n : Int) → j_X0_putOn_54_62_21 3 x2 x3 m Q) ∧ (∀ (x2 : Int32) (x3 : Int32) (x4 : Int32) (x5 : Int32) (m : dM), Inv g m → (0 ≤ x3.toInt ∧ x3.toInt ≤ 7) → (0 ≤ x5.toInt ∧ x5.toInt ≤ 10) → 115 - 13 * x3.toInt - 1 * x5.toInt < (n : Int) → j_X0_putOn_54_62_66 3 x2 x3 x4 x5 m Q) ∧ (∀ (x2 : Int32) (x3 : Int32) (m : dM), Inv g m → (0 ≤ x3.toInt ∧ x3.toInt ≤ 7) → 104 - 13 * x3.toInt < (n : Int) → j_X0_putOn_54_62_125 3 x2 x3 m Q) := by
  intro n
  induction n with
  | zero => exact ⟨fun x2 x3 m hI h3 hμ => by exfalso; omega, fun x2 x3 x4 x5 m hI h3 h5 hμ => by exfalso; omega, fun x2 x3 m hI h3 hμ => by exfalso; omega⟩
  | succ n ih =>
    refine ⟨?_, ?_, ?_⟩
    · intro x2 x3 m hI h3 hμ
      refine v_X0_putOn_54_62_21 ?_
      have f1 := congrArg Int32.toInt (hI.2 2 2 rfl)
      have f2 := Inv.s hG hI (k := 2) (j := 2) rfl rfl
      refine ⟨fun hc3 => ?_, fun hc3 => ?_⟩
      · skip
        exact hQ _ hI
      · skip
        refine v_X11_has ?_
        have f4 := ti_1
        have f5 := dAndE (x := (x2.toUInt32 >>> (x3.toUInt32 &&& Int32.toUInt32 31)).toInt32) (y := (1 : Int32)) (by decide)
        refine ⟨fun hc6 => ?_, fun hc6 => ?_⟩
        · skip
          have f7 := ti_0
          refine ⟨fun hc8 => ?_, fun hc8 => ?_⟩
          · skip
            exact ih.2.1 _ _ _ _ _ hI (by omega) (by omega) (by omega)
          · skip
            exfalso; omega
        · skip
          refine ⟨fun hc7 => ?_, fun hc7 => ?_⟩
          · skip
            exfalso; omega
          · skip
            refine ⟨by omega, ?_⟩
            have f8 := Inv.home hG hI (u := x3) (by omega) (by omega)
            refine ⟨by omega, ?_⟩
            have f9 := ti_0
            exact ih.2.1 _ _ _ _ _ hI (by omega) (by omega) (by omega)
    · intro x2 x3 x4 x5 m hI h3 h5 hμ
      refine v_X0_putOn_54_62_66 ?_
      refine ⟨fun hc1 => ?_, fun hc1 => ?_⟩
      · skip
        exact ih.2.2 _ _ _ hI (by omega) (by omega)
      · skip
        have f2 := congrArg Int32.toInt (hI.2 2 1 rfl)
        have f3 := Inv.s hG hI (k := 2) (j := 1) rfl rfl
        refine ⟨fun hc4 => ?_, fun hc4 => ?_⟩
        · skip
          exact ih.2.2 _ _ _ hI (by omega) (by omega)
        · skip
          refine ⟨by omega, ?_⟩
          refine v_X11_has ?_
          have f5 := ti_1
          have f6 := dAndE (x := (x4.toUInt32 >>> (x5.toUInt32 &&& Int32.toUInt32 31)).toInt32) (y := (1 : Int32)) (by decide)
          refine ⟨fun hc7 => ?_, fun hc7 => ?_⟩
          · skip
            have f8 := ti_0
            refine ⟨fun hc9 => ?_, fun hc9 => ?_⟩
            · skip
              refine ⟨by omega, ?_⟩
              have f10 := dAddE (X := x5.toInt) (Y := 1) (x := x5) (y := (1 : Int32)) rfl (by decide) (by omega) (by omega)
              have I11 : Inv g (dSet m 56 x5.toNatClampNeg ((m.1 56 x5.toNatClampNeg) + (0 : Int32))) := (Inv.setA hI rfl)
              exact ih.2.1 _ _ _ _ _ I11 (by omega) (by omega) (by omega)
            · skip
              exfalso; omega
          · skip
            refine ⟨fun hc8 => ?_, fun hc8 => ?_⟩
            · skip
              exfalso; omega
            · skip
              refine ⟨by omega, ?_⟩
              refine ⟨by omega, ?_⟩
              have f9 := dAddE (X := x5.toInt) (Y := 1) (x := x5) (y := (1 : Int32)) rfl (by decide) (by omega) (by omega)
              have I10 : Inv g (dSet m 56 x5.toNatClampNeg ((m.1 56 x5.toNatClampNeg) + (m.1 8 x3.toNatClampNeg))) := (Inv.setA hI rfl)
              exact ih.2.1 _ _ _ _ _ I10 (by omega) (by omega) (by omega)
    · intro x2 x3 m hI h3 hμ
      refine v_X0_putOn_54_62_125 ?_
      have f1 := dAddE (X := x3.toInt) (Y := 1) (x := x3) (y := (1 : Int32)) rfl (by decide) (by omega) (by omega)
      exact ih.1 _ _ _ hI (by omega) (by omega)
theorem s_X0_putOn_54_62 {g : gM} {x2 : Int32} {m : dM} {Q : dM → Prop} (hG : Gd g) (hI : Inv g m) (hQ : ∀ m' : dM, Inv g m' → Q m') : c_X0_putOn_54_62 3 x2 m Q := by
  refine v_X0_putOn_54_62 ?_
  refine Wp.deep (s_X10_lay_57 hG hI (fun M1 I1 => ?_)) (Nat.le_of_ble_eq_true rfl)
  have f2 := ti_0
  refine Wp.deep (s_J7_fill_56 hG I1 (by omega) (fun M3 I3 => ?_)) (Nat.le_of_ble_eq_true rfl)
  exact (s_X0_putOn_54_62_all hG hQ 118).1 _ _ _ I3 (by omega) (by omega)
theorem s_X0_going_54_62_all {g : gM} {Q : Int32 → dM → Prop} (hG : Gd g) (hQ : ∀ (r : Int32) (m' : dM), Inv g m' → Q r m') : ∀ n : Nat, (∀ (x2 : Int32) (x3 : Int32) (x4 : Int32) (x5 : Int32) (m : dM), Inv g m → (-23 ≤ x2.toInt ∧ x2.toInt ≤ 23) → (0 ≤ x5.toInt ∧ x5.toInt ≤ 10) → 21 - 2 * x5.toInt < (n : Int) → j_X0_going_54_62_6 4 x2 x3 x4 x5 m Q) ∧ (∀ (x2 : Int32) (x3 : Int32) (x4 : Int32) (x5 : Int32) (m : dM), Inv g m → (-23 ≤ x2.toInt ∧ x2.toInt ≤ 23) → (0 ≤ x5.toInt ∧ x5.toInt ≤ 9) → 20 - 2 * x5.toInt < (n : Int) → j_X0_going_54_62_119 4 x2 x3 x4 x5 m Q) := by
  intro n
  induction n with
  | zero => exact ⟨fun x2 x3 x4 x5 m hI h2 h5 hμ => by exfalso; omega, fun x2 x3 x4 x5 m hI h2 h5 hμ => by exfalso; omega⟩
  | succ n ih =>
    refine ⟨?_, ?_⟩
    · intro x2 x3 x4 x5 m hI h2 h5 hμ
      refine v_X0_going_54_62_6 ?_
      have f1 := congrArg Int32.toInt (hI.2 2 1 rfl)
      have f2 := Inv.s hG hI (k := 2) (j := 1) rfl rfl
      refine ⟨fun hc3 => ?_, fun hc3 => ?_⟩
      · skip
        exact hQ _ _ hI
      · skip
        refine ⟨by omega, ?_⟩
        refine ⟨fun hc4 => ?_, fun hc4 => ?_⟩
        · skip
          exact ih.2 _ _ _ _ _ hI (by omega) (by omega) (by omega)
        · skip
          refine v_X11_has ?_
          have f5 := ti_1
          have f6 := dAndE (x := ((m.1 62 4).toUInt32 >>> (x5.toUInt32 &&& Int32.toUInt32 31)).toInt32) (y := (1 : Int32)) (by decide)
          refine ⟨fun hc7 => ?_, fun hc7 => ?_⟩
          · skip
            have f8 := ti_0
            refine ⟨fun hc9 => ?_, fun hc9 => ?_⟩
            · skip
              exfalso; omega
            · skip
              refine v_X7_day_62 ?_
              refine Wp.deep (s_X0_setVars_54 hG hI (by omega) (by omega) (fun M10 I10 => ?_)) (Nat.le_of_ble_eq_true rfl)
              refine ⟨by omega, ?_⟩
              refine ⟨by omega, ?_⟩
              refine ⟨by omega, ?_⟩
              have I11 : Inv g (dSet M10 55 0 ((M10.1 56 x5.toNatClampNeg) + x3)) := (Inv.setA I10 rfl)
              have I12 : Inv g (dSet (dSet M10 55 0 ((M10.1 56 x5.toNatClampNeg) + x3)) 55 1 (M10.1 63 x5.toNatClampNeg)) := (Inv.setA I11 rfl)
              have I13 : Inv g (dSet (dSet (dSet M10 55 0 ((M10.1 56 x5.toNatClampNeg) + x3)) 55 1 (M10.1 63 x5.toNatClampNeg)) 55 2 (M10.1 64 x5.toNatClampNeg)) := (Inv.setA I12 rfl)
              refine Wp.deep (s_X4_tells_11_55 hG I13 (by omega) (fun R14 M14 I14 => ?_)) (Nat.le_of_ble_eq_true rfl)
              refine ⟨fun hc15 => ?_, fun hc15 => ?_⟩
              · skip
                exact ih.2 _ _ _ _ _ I14 (by omega) (by omega) (by omega)
              · skip
                have f16 := dShl10 (x := x5) (by omega) (by omega)
                exact ih.2 _ _ _ _ _ I14 (by omega) (by omega) (by omega)
          · skip
            refine ⟨fun hc8 => ?_, fun hc8 => ?_⟩
            · skip
              exact ih.2 _ _ _ _ _ hI (by omega) (by omega) (by omega)
            · skip
              exfalso; omega
    · intro x2 x3 x4 x5 m hI h2 h5 hμ
      refine v_X0_going_54_62_119 ?_
      have f1 := dAddE (X := x5.toInt) (Y := 1) (x := x5) (y := (1 : Int32)) rfl (by decide) (by omega) (by omega)
      exact ih.1 _ _ _ _ _ hI (by omega) (by omega) (by omega)
theorem s_X0_going_54_62 {g : gM} {x2 : Int32} {x3 : Int32} {m : dM} {Q : Int32 → dM → Prop} (hG : Gd g) (hI : Inv g m) (h2 : -23 ≤ x2.toInt ∧ x2.toInt ≤ 23) (hQ : ∀ (r : Int32) (m' : dM), Inv g m' → Q r m') : c_X0_going_54_62 4 x2 x3 m Q := by
  refine v_X0_going_54_62 ?_
  have f1 := ti_0
  exact (s_X0_going_54_62_all hG hQ 23).1 _ _ _ _ _ hI (by omega) (by omega) (by omega)
theorem s_X0_passWires_54_62_all {g : gM} {Q : Int32 → dM → Prop} (hG : Gd g) (hQ : ∀ (r : Int32) (m' : dM), Inv g m' → Q r m') : ∀ n : Nat, (∀ (x3 : Int32) (x4 : Int32) (m : dM), Inv g m → (0 ≤ x4.toInt ∧ x4.toInt ≤ 10) → 21 - 2 * x4.toInt < (n : Int) → j_X0_passWires_54_62_38 5 x3 x4 m Q) ∧ (∀ (x3 : Int32) (x4 : Int32) (m : dM), Inv g m → (0 ≤ x4.toInt ∧ x4.toInt ≤ 9) → 20 - 2 * x4.toInt < (n : Int) → j_X0_passWires_54_62_84 5 x3 x4 m Q) := by
  intro n
  induction n with
  | zero => exact ⟨fun x3 x4 m hI h4 hμ => by exfalso; omega, fun x3 x4 m hI h4 hμ => by exfalso; omega⟩
  | succ n ih =>
    refine ⟨?_, ?_⟩
    · intro x3 x4 m hI h4 hμ
      refine v_X0_passWires_54_62_38 ?_
      have f1 := congrArg Int32.toInt (hI.2 2 1 rfl)
      have f2 := Inv.s hG hI (k := 2) (j := 1) rfl rfl
      refine ⟨fun hc3 => ?_, fun hc3 => ?_⟩
      · skip
        have I4 : Inv g (dSet m 62 0 ((m.1 62 0) + (1 : Int32))) := (Inv.setA hI rfl)
        exact hQ _ _ I4
      · skip
        refine v_X11_has ?_
        have f4 := ti_1
        have f5 := dAndE (x := ((m.1 62 3).toUInt32 >>> (x4.toUInt32 &&& Int32.toUInt32 31)).toInt32) (y := (1 : Int32)) (by decide)
        refine ⟨fun hc6 => ?_, fun hc6 => ?_⟩
        · skip
          have f7 := ti_0
          refine ⟨fun hc8 => ?_, fun hc8 => ?_⟩
          · skip
            exfalso; omega
          · skip
            refine ⟨by omega, ?_⟩
            refine ⟨by omega, ?_⟩
            have I9 : Inv g (dSet m 64 x4.toNatClampNeg (if ((m.1 64 x4.toNatClampNeg) + (1 : Int32)) < (999 : Int32) then ((m.1 64 x4.toNatClampNeg) + (1 : Int32)) else (999 : Int32))) := (Inv.setA hI rfl)
            exact ih.2 _ _ _ I9 (by omega) (by omega)
        · skip
          refine ⟨fun hc7 => ?_, fun hc7 => ?_⟩
          · skip
            exact ih.2 _ _ _ hI (by omega) (by omega)
          · skip
            exfalso; omega
    · intro x3 x4 m hI h4 hμ
      refine v_X0_passWires_54_62_84 ?_
      have f1 := dAddE (X := x4.toInt) (Y := 1) (x := x4) (y := (1 : Int32)) rfl (by decide) (by omega) (by omega)
      exact ih.1 _ _ _ hI (by omega) (by omega)
theorem s_X0_passWires_54_62 {g : gM} {x2 : Int32} {m : dM} {Q : Int32 → dM → Prop} (hG : Gd g) (hI : Inv g m) (hQ : ∀ (r : Int32) (m' : dM), Inv g m' → Q r m') : c_X0_passWires_54_62 5 x2 m Q := by
  refine v_X0_passWires_54_62 ?_
  refine v_X7_hourOfDay_62 ?_
  have f1 := dRemE (x := (m.1 62 0)) (y := (24 : Int32)) (Y := 24) (by decide) (by decide)
  refine Wp.deep (s_X0_usesAt_54_62 hG hI (by omega) (fun R2 M2 I2 => ?_)) (Nat.le_of_ble_eq_true rfl)
  refine Wp.deep (s_X0_putOn_54_62 hG I2 (fun M3 I3 => ?_)) (Nat.le_of_ble_eq_true rfl)
  refine v_X7_hourOfDay_62 ?_
  have f4 := dRemE (x := (M3.1 62 0)) (y := (24 : Int32)) (Y := 24) (by decide) (by decide)
  refine Wp.deep (s_X0_going_54_62 hG I3 (by omega) (fun R5 M5 I5 => ?_)) (Nat.le_of_ble_eq_true rfl)
  have f6 := ti_0
  have I7 : Inv g (dSet M5 62 3 ((M5.1 62 3) ||| R5)) := (Inv.setA I5 rfl)
  exact (s_X0_passWires_54_62_all hG hQ 23).1 _ _ _ I7 (by omega) (by omega)
theorem s_X1_peakOf_61_47_all {g : gM} {Q : Int32 → dM → Prop} (hG : Gd g) (hQ : ∀ (r : Int32) (m' : dM), Inv g m' → (0 ≤ r.toInt) → Q r m') : ∀ n : Nat, (∀ (x2 : Int32) (x3 : Int32) (x4 : Int32) (x5 : Int32) (x6 : Int32) (x7 : Int32) (m : dM), Inv g m → (0 ≤ x2.toInt ∧ x2.toInt ≤ 9) → (1 ≤ x3.toInt ∧ x3.toInt ≤ 48) → (0 ≤ x4.toInt ∧ x4.toInt ≤ 1) → (0 ≤ x5.toInt) → (0 ≤ x6.toInt ∧ x6.toInt ≤ 47) → (0 ≤ x7.toInt ∧ x7.toInt ≤ 48) → 97 - 2 * x7.toInt < (n : Int) → j_X1_peakOf_61_47_17 6 x2 x3 x4 x5 x6 x7 m Q) ∧ (∀ (x2 : Int32) (x3 : Int32) (x4 : Int32) (x5 : Int32) (x6 : Int32) (x7 : Int32) (m : dM), Inv g m → (0 ≤ x2.toInt ∧ x2.toInt ≤ 9) → (1 ≤ x3.toInt ∧ x3.toInt ≤ 48) → (0 ≤ x4.toInt ∧ x4.toInt ≤ 1) → (0 ≤ x5.toInt) → (0 ≤ x6.toInt ∧ x6.toInt ≤ 47) → (0 ≤ x7.toInt ∧ x7.toInt ≤ 47) → 96 - 2 * x7.toInt < (n : Int) → j_X1_peakOf_61_47_65 6 x2 x3 x4 x5 x6 x7 m Q) := by
  intro n
  induction n with
  | zero => exact ⟨fun x2 x3 x4 x5 x6 x7 m hI h2 h3 h4 h5 h6 h7 hμ => by exfalso; omega, fun x2 x3 x4 x5 x6 x7 m hI h2 h3 h4 h5 h6 h7 hμ => by exfalso; omega⟩
  | succ n ih =>
    refine ⟨?_, ?_⟩
    · intro x2 x3 x4 x5 x6 x7 m hI h2 h3 h4 h5 h6 h7 hμ
      refine v_X1_peakOf_61_47_17 ?_
      refine ⟨fun hc1 => ?_, fun hc1 => ?_⟩
      · skip
        refine ⟨fun hc2 => ?_, fun hc2 => ?_⟩
        · skip
          exact hQ _ _ hI (by omega)
        · skip
          exact hQ _ _ hI (by omega)
      · skip
        have f2 := ti_0
        refine Wp.deep (s_X0_passWires_54_62 hG hI (fun R3 M3 I3 => ?_)) (Nat.le_of_ble_eq_true rfl)
        refine ⟨by omega, ?_⟩
        refine ⟨fun hc4 => ?_, fun hc4 => ?_⟩
        · skip
          exact ih.2 _ _ _ _ _ _ _ I3 (by omega) (by omega) (by omega) (by omega) (by omega) (by omega) (by omega)
        · skip
          refine ⟨by omega, ?_⟩
          exact ih.2 _ _ _ _ _ _ _ I3 (by omega) (by omega) (by omega) (by omega) (by omega) (by omega) (by omega)
    · intro x2 x3 x4 x5 x6 x7 m hI h2 h3 h4 h5 h6 h7 hμ
      refine v_X1_peakOf_61_47_65 ?_
      have f1 := dAddE (X := x7.toInt) (Y := 1) (x := x7) (y := (1 : Int32)) rfl (by decide) (by omega) (by omega)
      exact ih.1 _ _ _ _ _ _ _ hI (by omega) (by omega) (by omega) (by omega) (by omega) (by omega) (by omega)
theorem s_X1_peakOf_61_47 {g : gM} {x2 : Int32} {x3 : Int32} {x4 : Int32} {m : dM} {Q : Int32 → dM → Prop} (hG : Gd g) (hI : Inv g m) (h2 : 0 ≤ x2.toInt ∧ x2.toInt ≤ 9) (h3 : 1 ≤ x3.toInt ∧ x3.toInt ≤ 48) (h4 : 0 ≤ x4.toInt ∧ x4.toInt ≤ 1) (hQ : ∀ (r : Int32) (m' : dM), Inv g m' → (0 ≤ r.toInt) → Q r m') : c_X1_peakOf_61_47 6 x2 x3 x4 m Q := by
  refine v_X1_peakOf_61_47 ?_
  refine Wp.deep (s_X7_copy_62_47 hG hI (fun M1 I1 => ?_)) (Nat.le_of_ble_eq_true rfl)
  have f2 := ti_0
  exact (s_X1_peakOf_61_47_all hG hQ 99).1 _ _ _ _ _ _ _ I1 (by omega) (by omega) (by omega) (by omega) (by omega) (by omega) (by omega)
theorem s_X11_peak_0 {g : gM} {x1 : Int32} {x2 : Int32} {x3 : Int32} {m : dM} {Q : Int32 → dM → Prop} (hG : Gd g) (hI : Inv g m) (hQ : ∀ (r : Int32) (m' : dM), Inv g m' → (-1 ≤ r.toInt) → Q r m') : c_X11_peak_0 7 x1 x2 x3 m Q := by
  refine v_X11_peak_0 ?_
  refine v_X11_isWire_0 ?_
  refine ⟨fun hc1 => ?_, fun hc1 => ?_⟩
  · skip
    refine v_X11_isWire_0_19 ?_
    have f2 := ti_0
    refine ⟨fun hc3 => ?_, fun hc3 => ?_⟩
    · skip
      refine v_X11_peak_0_28 ?_
      have f4 := ti_m1
      exact hQ _ _ hI (by omega)
    · skip
      exfalso; omega
  · skip
    have f2 := congrArg Int32.toInt (hI.2 2 1 rfl)
    have f3 := Inv.s hG hI (k := 2) (j := 1) rfl rfl
    refine ⟨fun hc4 => ?_, fun hc4 => ?_⟩
    · skip
      refine v_X11_isWire_0_19 ?_
      have f5 := ti_0
      refine ⟨fun hc6 => ?_, fun hc6 => ?_⟩
      · skip
        refine v_X11_peak_0_28 ?_
        have f7 := ti_m1
        exact hQ _ _ hI (by omega)
      · skip
        exfalso; omega
    · skip
      have f5 := ti_1
      refine ⟨fun hc6 => ?_, fun hc6 => ?_⟩
      · skip
        exfalso; omega
      · skip
        refine ⟨fun hc7 => ?_, fun hc7 => ?_⟩
        · skip
          refine v_X11_peak_0_28 ?_
          have f8 := ti_m1
          exact hQ _ _ hI (by omega)
        · skip
          refine ⟨fun hc8 => ?_, fun hc8 => ?_⟩
          · skip
            refine v_X11_peak_0_28 ?_
            have f9 := ti_m1
            exact hQ _ _ hI (by omega)
          · skip
            refine ⟨fun hc9 => ?_, fun hc9 => ?_⟩
            · skip
              refine v_X11_peak_0_28 ?_
              have f10 := ti_m1
              exact hQ _ _ hI (by omega)
            · skip
              refine ⟨fun hc10 => ?_, fun hc10 => ?_⟩
              · skip
                refine ⟨fun hc11 => ?_, fun hc11 => ?_⟩
                · skip
                  have f12 := ti_0
                  refine Wp.deep (s_X1_peakOf_61_47 hG hI (by omega) (by omega) (by omega) (fun R13 M13 I13 hr13 => ?_)) (Nat.le_of_ble_eq_true rfl)
                  exact hQ _ _ I13 (by omega)
                · skip
                  refine Wp.deep (s_X1_peakOf_61_47 hG hI (by omega) (by omega) (by omega) (fun R12 M12 I12 hr12 => ?_)) (Nat.le_of_ble_eq_true rfl)
                  exact hQ _ _ I12 (by omega)
              · skip
                refine v_X11_peak_0_28 ?_
                have f11 := ti_m1
                exact hQ _ _ hI (by omega)
theorem s_X1_trialTillGone_61_all {g : gM} {Q : Int32 → dM → Prop} (hG : Gd g) (hQ : ∀ (r : Int32) (m' : dM), Inv g m' → (1 ≤ r.toInt ∧ r.toInt ≤ 201) → Q r m') : ∀ n : Nat, (∀ (x1 : Int32) (m : dM), Inv g m → (1 ≤ x1.toInt ∧ x1.toInt ≤ 201) → 201 - 1 * x1.toInt < (n : Int) → j_X1_trialTillGone_61_7 6 x1 m Q) := by
  intro n
  induction n with
  | zero => exact fun x1 m hI h1 hμ => by exfalso; omega
  | succ n ih =>
    · intro x1 m hI h1 hμ
      refine v_X1_trialTillGone_61_7 ?_
      refine ⟨fun hc1 => ?_, fun hc1 => ?_⟩
      · skip
        have f2 := ti_201
        exact hQ _ _ hI (by omega)
      · skip
        have f2 := ti_0
        refine Wp.deep (s_X0_passWires_54_62 hG hI (fun R3 M3 I3 => ?_)) (Nat.le_of_ble_eq_true rfl)
        refine ⟨fun hc4 => ?_, fun hc4 => ?_⟩
        · skip
          have f5 := dAddE (X := x1.toInt) (Y := 1) (x := x1) (y := (1 : Int32)) rfl (by decide) (by omega) (by omega)
          have I6 : Inv g (dSet M3 61 4 R3) := (Inv.setA I3 rfl)
          exact ih _ _ I6 (by omega) (by omega)
        · skip
          have I5 : Inv g (dSet M3 61 4 R3) := (Inv.setA I3 rfl)
          exact hQ _ _ I5 (by omega)
theorem s_X1_trialTillGone_61 {g : gM} {m : dM} {Q : Int32 → dM → Prop} (hG : Gd g) (hI : Inv g m) (hQ : ∀ (r : Int32) (m' : dM), Inv g m' → (1 ≤ r.toInt ∧ r.toInt ≤ 201) → Q r m') : c_X1_trialTillGone_61 6 m Q := by
  refine v_X1_trialTillGone_61 ?_
  have f1 := ti_1
  have I2 : Inv g (dSet m 61 4 (0 : Int32)) := (Inv.setA hI rfl)
  exact (s_X1_trialTillGone_61_all hG hQ 202) _ _ I2 (by omega) (by omega)
end
section
theorem s_X1_firstGone_61_47 {g : gM} {m : dM} {Q : Int32 → dM → Prop} (hG : Gd g) (hI : Inv g m) (hQ : ∀ (r : Int32) (m' : dM), Inv g m' → (1 ≤ r.toInt ∧ r.toInt ≤ 201) → Q r m') : c_X1_firstGone_61_47 7 m Q := by
  refine v_X1_firstGone_61_47 ?_
  refine Wp.deep (s_X7_copy_62_47 hG hI (fun M1 I1 => ?_)) (Nat.le_of_ble_eq_true rfl)
  refine Wp.deep (s_X1_trialTillGone_61 hG I1 (fun R2 M2 I2 hr2 => ?_)) (Nat.le_of_ble_eq_true rfl)
  exact hQ _ _ I2 (by omega)
theorem s_X11_bitAt_all {g : gM} {Q : Int32 → dM → Prop} {m : dM} (hG : Gd g) (hI : Inv g m) (hQ : ∀ r : Int32, (-1 ≤ r.toInt ∧ r.toInt ≤ 31) → Q r m) : ∀ n : Nat, (∀ (x0 : Int32) (x1 : Int32) (x2 : Int32) (x3 : Int32), (0 ≤ x1.toInt ∧ x1.toInt ≤ 2) → (0 ≤ x3.toInt ∧ x3.toInt ≤ 32) → 65 - 2 * x3.toInt < (n : Int) → j_X11_bitAt_4 2 x0 x1 x2 x3 m Q) ∧ (∀ (x0 : Int32) (x1 : Int32) (x2 : Int32) (x3 : Int32), (0 ≤ x1.toInt ∧ x1.toInt ≤ 2) → (0 ≤ x3.toInt ∧ x3.toInt ≤ 31) → 64 - 2 * x3.toInt < (n : Int) → j_X11_bitAt_28 2 x0 x1 x2 x3 m Q) := by
  intro n
  induction n with
  | zero => exact ⟨fun x0 x1 x2 x3 h1 h3 hμ => by exfalso; omega, fun x0 x1 x2 x3 h1 h3 hμ => by exfalso; omega⟩
  | succ n ih =>
    refine ⟨?_, ?_⟩
    · intro x0 x1 x2 x3 h1 h3 hμ
      refine v_X11_bitAt_4 ?_
      refine ⟨fun hc1 => ?_, fun hc1 => ?_⟩
      · skip
        have f2 := ti_m1
        exact hQ _ (by omega)
      · skip
        refine v_X11_has ?_
        have f2 := ti_1
        have f3 := dAndE (x := (x0.toUInt32 >>> (x3.toUInt32 &&& Int32.toUInt32 31)).toInt32) (y := (1 : Int32)) (by decide)
        refine ⟨fun hc4 => ?_, fun hc4 => ?_⟩
        · skip
          have f5 := ti_0
          refine ⟨fun hc6 => ?_, fun hc6 => ?_⟩
          · skip
            exact ih.2 _ _ _ _ (by omega) (by omega) (by omega)
          · skip
            exfalso; omega
        · skip
          refine ⟨fun hc5 => ?_, fun hc5 => ?_⟩
          · skip
            exfalso; omega
          · skip
            refine ⟨fun hc6 => ?_, fun hc6 => ?_⟩
            · skip
              exact ih.2 _ _ _ _ (by omega) (by omega) (by omega)
            · skip
              exact hQ _ (by omega)
    · intro x0 x1 x2 x3 h1 h3 hμ
      refine v_X11_bitAt_28 ?_
      have f1 := dAddE (X := x3.toInt) (Y := 1) (x := x3) (y := (1 : Int32)) rfl (by decide) (by omega) (by omega)
      exact ih.1 _ _ _ _ (by omega) (by omega) (by omega)
theorem s_X11_bitAt {g : gM} {x0 : Int32} {x1 : Int32} {m : dM} {Q : Int32 → dM → Prop} (hG : Gd g) (hI : Inv g m) (h1 : 0 ≤ x1.toInt ∧ x1.toInt ≤ 2) (hQ : ∀ r : Int32, (-1 ≤ r.toInt ∧ r.toInt ≤ 31) → Q r m) : c_X11_bitAt 2 x0 x1 m Q := by
  refine v_X11_bitAt ?_
  have f1 := ti_0
  exact (s_X11_bitAt_all hG hI hQ 67).1 _ _ _ _ (by omega) (by omega) (by omega)
theorem s_X1_firstWire_61 {g : gM} {m : dM} {Q : Int32 → dM → Prop} (hG : Gd g) (hI : Inv g m) (hQ : ∀ r : Int32, (-1 ≤ r.toInt ∧ r.toInt ≤ 31) → Q r m) : c_X1_firstWire_61 3 m Q := by
  refine v_X1_firstWire_61 ?_
  have f1 := ti_0
  refine Wp.deep (s_X11_bitAt hG hI (by omega) (fun R2 hr2 => ?_)) (Nat.le_of_ble_eq_true rfl)
  exact hQ _ (by omega)
theorem s_X11_first_0 {g : gM} {x1 : Int32} {m : dM} {Q : Int32 → dM → Prop} (hG : Gd g) (hI : Inv g m) (hQ : ∀ (r : Int32) (m' : dM), Inv g m' → (-2 ≤ r.toInt ∧ r.toInt ≤ 200) → Q r m') : c_X11_first_0 8 x1 m Q := by
  refine v_X11_first_0 ?_
  refine ⟨fun hc1 => ?_, fun hc1 => ?_⟩
  · skip
    refine v_X11_first_0_9 ?_
    have f2 := ti_m1
    exact hQ _ _ hI (by omega)
  · skip
    refine ⟨fun hc2 => ?_, fun hc2 => ?_⟩
    · skip
      refine Wp.deep (s_X1_firstGone_61_47 hG hI (fun R3 M3 I3 hr3 => ?_)) (Nat.le_of_ble_eq_true rfl)
      refine ⟨fun hc4 => ?_, fun hc4 => ?_⟩
      · skip
        refine ⟨fun hc5 => ?_, fun hc5 => ?_⟩
        · skip
          refine Wp.deep (s_X1_firstWire_61 hG I3 (fun R6 hr6 => ?_)) (Nat.le_of_ble_eq_true rfl)
          exact hQ _ _ I3 (by omega)
        · skip
          exact hQ _ _ I3 (by omega)
      · skip
        have f5 := ti_m2
        exact hQ _ _ I3 (by omega)
    · skip
      refine v_X11_first_0_9 ?_
      have f3 := ti_m1
      exact hQ _ _ hI (by omega)
theorem s_X12_lowestOf_all {g : gM} {Q : Int32 → dM → Prop} {m : dM} (hG : Gd g) (hI : Inv g m) (hQ : ∀ r : Int32, (0 ≤ r.toInt ∧ r.toInt ≤ 10) → Q r m) : ∀ n : Nat, (∀ (x0 : Int32) (x1 : Int32), (0 ≤ x1.toInt ∧ x1.toInt ≤ 10) → 11 - 1 * x1.toInt < (n : Int) → j_X12_lowestOf_2 1 x0 x1 m Q) ∧ (∀ (x1 : Int32), (0 ≤ x1.toInt ∧ x1.toInt ≤ 10) → 0 < (n : Int) → j_X12_lowestOf_22 1 x1 m Q) := by
  intro n
  induction n with
  | zero => exact ⟨fun x0 x1 h1 hμ => by exfalso; omega, fun x1 h1 hμ => by exfalso; omega⟩
  | succ n ih =>
    refine ⟨?_, ?_⟩
    · intro x0 x1 h1 hμ
      refine v_X12_lowestOf_2 ?_
      refine ⟨fun hc1 => ?_, fun hc1 => ?_⟩
      · skip
        exact ih.2 _ (by omega) (by omega)
      · skip
        have f2 := ti_1
        have f3 := dAndE (x := (x0 >>> (x1 &&& 31))) (y := (1 : Int32)) (by decide)
        refine ⟨fun hc4 => ?_, fun hc4 => ?_⟩
        · skip
          exact ih.2 _ (by omega) (by omega)
        · skip
          have f5 := dAddE (X := x1.toInt) (Y := 1) (x := x1) (y := (1 : Int32)) rfl (by decide) (by omega) (by omega)
          exact ih.1 _ _ (by omega) (by omega)
    · intro x1 h1 hμ
      refine v_X12_lowestOf_22 ?_
      exact hQ _ (by omega)
theorem s_X12_lowestOf {g : gM} {x0 : Int32} {m : dM} {Q : Int32 → dM → Prop} (hG : Gd g) (hI : Inv g m) (hQ : ∀ r : Int32, (0 ≤ r.toInt ∧ r.toInt ≤ 10) → Q r m) : c_X12_lowestOf 1 x0 m Q := by
  refine v_X12_lowestOf ?_
  have f1 := ti_0
  exact (s_X12_lowestOf_all hG hI hQ 13).1 _ _ (by omega) (by omega)
theorem s_X1_payOfAll_61_all {g : gM} {Q : Int32 → dM → Prop} {m : dM} (hG : Gd g) (hI : Inv g m) (hQ : ∀ r : Int32, Q r m) : ∀ n : Nat, (∀ (x1 : Int32) (x2 : Int32) (x3 : Int32), (0 ≤ x1.toInt ∧ x1.toInt ≤ 255) → (0 ≤ x3.toInt ∧ x3.toInt ≤ 8) → 8 - 1 * x3.toInt < (n : Int) → j_X1_payOfAll_61_4 2 x1 x2 x3 m Q) := by
  intro n
  induction n with
  | zero => exact fun x1 x2 x3 h1 h3 hμ => by exfalso; omega
  | succ n ih =>
    · intro x1 x2 x3 h1 h3 hμ
      refine v_X1_payOfAll_61_4 ?_
      have f1 := congrArg Int32.toInt (hI.2 2 2 rfl)
      have f2 := Inv.s hG hI (k := 2) (j := 2) rfl rfl
      refine ⟨fun hc3 => ?_, fun hc3 => ?_⟩
      · skip
        exact hQ _
      · skip
        refine v_X11_has ?_
        have f4 := ti_1
        have f5 := dAndE (x := (x1.toUInt32 >>> (x3.toUInt32 &&& Int32.toUInt32 31)).toInt32) (y := (1 : Int32)) (by decide)
        refine ⟨fun hc6 => ?_, fun hc6 => ?_⟩
        · skip
          have f7 := ti_0
          refine ⟨fun hc8 => ?_, fun hc8 => ?_⟩
          · skip
            have f9 := dAddE (X := x3.toInt) (Y := 1) (x := x3) (y := (1 : Int32)) rfl (by decide) (by omega) (by omega)
            exact ih _ _ _ (by omega) (by omega) (by omega)
          · skip
            exfalso; omega
        · skip
          refine ⟨fun hc7 => ?_, fun hc7 => ?_⟩
          · skip
            exfalso; omega
          · skip
            refine ⟨by omega, ?_⟩
            have f8 := dAddE (X := x3.toInt) (Y := 1) (x := x3) (y := (1 : Int32)) rfl (by decide) (by omega) (by omega)
            exact ih _ _ _ (by omega) (by omega) (by omega)
theorem s_X1_payOfAll_61 {g : gM} {x1 : Int32} {m : dM} {Q : Int32 → dM → Prop} (hG : Gd g) (hI : Inv g m) (h1 : 0 ≤ x1.toInt ∧ x1.toInt ≤ 255) (hQ : ∀ r : Int32, Q r m) : c_X1_payOfAll_61 2 x1 m Q := by
  refine v_X1_payOfAll_61 ?_
  have f1 := ti_0
  exact (s_X1_payOfAll_61_all hG hI hQ 10) _ _ _ (by omega) (by omega) (by omega)
theorem s_X1_bestTogether_61_47_all {g : gM} {Q : Int32 → dM → Prop} (hG : Gd g) (hQ : ∀ (r : Int32) (m' : dM), Inv g m' → (0 ≤ r.toInt ∧ r.toInt ≤ 255) → Q r m') : ∀ n : Nat, (∀ (x2 : Int32) (x3 : Int32) (x4 : Int32) (m : dM), Inv g m → (0 ≤ x4.toInt ∧ x4.toInt ≤ 8) → 520 - 1 * x4.toInt < (n : Int) → j_X1_bestTogether_61_47_17 6 x2 x3 x4 m Q) ∧ (∀ (x3 : Int32) (x4 : Int32) (x5 : Int32) (x6 : Int32) (m : dM), Inv g m → (0 ≤ x4.toInt ∧ x4.toInt ≤ 255) → (1 ≤ x6.toInt ∧ x6.toInt ≤ 256) → 513 - 2 * x6.toInt < (n : Int) → j_X1_bestTogether_61_47_89 6 x3 x4 x5 x6 m Q) ∧ (∀ (x3 : Int32) (x4 : Int32) (x5 : Int32) (x6 : Int32) (m : dM), Inv g m → (0 ≤ x4.toInt ∧ x4.toInt ≤ 255) → (1 ≤ x6.toInt ∧ x6.toInt ≤ 255) → 512 - 2 * x6.toInt < (n : Int) → j_X1_bestTogether_61_47_148 6 x3 x4 x5 x6 m Q) := by
  intro n
  induction n with
  | zero => exact ⟨fun x2 x3 x4 m hI h4 hμ => by exfalso; omega, fun x3 x4 x5 x6 m hI h4 h6 hμ => by exfalso; omega, fun x3 x4 x5 x6 m hI h4 h6 hμ => by exfalso; omega⟩
  | succ n ih =>
    refine ⟨?_, ?_, ?_⟩
    · intro x2 x3 x4 m hI h4 hμ
      refine v_X1_bestTogether_61_47_17 ?_
      have f1 := congrArg Int32.toInt (hI.2 2 2 rfl)
      have f2 := Inv.s hG hI (k := 2) (j := 2) rfl rfl
      refine ⟨fun hc3 => ?_, fun hc3 => ?_⟩
      · skip
        have f4 := ti_0
        have f5 := ti_1
        exact ih.2.1 _ _ _ _ _ hI (by omega) (by omega) (by omega)
      · skip
        refine Wp.deep (s_X0_payOf_54_47 hG hI (by omega) (fun R4 M4 I4 hr4 => ?_)) (Nat.le_of_ble_eq_true rfl)
        refine ⟨by omega, ?_⟩
        refine ⟨by omega, ?_⟩
        refine v_X11_has ?_
        have f5 := congrArg Int32.toInt (I4.2 2 2 rfl)
        have f6 := Inv.s hG I4 (k := 2) (j := 2) rfl rfl
        have f7 := Inv.home hG I4 (u := x4) (by omega) (by omega)
        have f8 := ti_1
        have f9 := dAndE (x := (x2.toUInt32 >>> ((M4.1 7 x4.toNatClampNeg).toUInt32 &&& Int32.toUInt32 31)).toInt32) (y := (1 : Int32)) (by decide)
        refine ⟨fun hc10 => ?_, fun hc10 => ?_⟩
        · skip
          have f11 := ti_0
          refine ⟨fun hc12 => ?_, fun hc12 => ?_⟩
          · skip
            have f13 := dAddE (X := x4.toInt) (Y := 1) (x := x4) (y := (1 : Int32)) rfl (by decide) (by omega) (by omega)
            have I14 : Inv g (dSet M4 66 x4.toNatClampNeg R4) := (Inv.setA I4 rfl)
            exact ih.1 _ _ _ _ I14 (by omega) (by omega)
          · skip
            exfalso; omega
        · skip
          refine ⟨fun hc11 => ?_, fun hc11 => ?_⟩
          · skip
            exfalso; omega
          · skip
            have f12 := dShl8 (x := x4) (by omega) (by omega)
            have f13 := dAddE (X := x4.toInt) (Y := 1) (x := x4) (y := (1 : Int32)) rfl (by decide) (by omega) (by omega)
            have I14 : Inv g (dSet M4 66 x4.toNatClampNeg R4) := (Inv.setA I4 rfl)
            exact ih.1 _ _ _ _ I14 (by omega) (by omega)
    · intro x3 x4 x5 x6 m hI h4 h6 hμ
      refine v_X1_bestTogether_61_47_89 ?_
      have f1 := congrArg Int32.toInt (hI.2 2 2 rfl)
      have f2 := Inv.s hG hI (k := 2) (j := 2) rfl rfl
      have f3 := dShl8 (x := (m.1 2 2)) (by omega) (by omega)
      refine ⟨fun hc4 => ?_, fun hc4 => ?_⟩
      · skip
        exact hQ _ _ hI (by omega)
      · skip
        refine ⟨fun hc5 => ?_, fun hc5 => ?_⟩
        · skip
          exact ih.2.2 _ _ _ _ _ hI (by omega) (by omega) (by omega)
        · skip
          refine Wp.deep (s_X1_payOfAll_61 hG hI (by omega) (fun R6 => ?_)) (Nat.le_of_ble_eq_true rfl)
          refine ⟨fun hc7 => ?_, fun hc7 => ?_⟩
          · skip
            exact ih.2.2 _ _ _ _ _ hI (by omega) (by omega) (by omega)
          · skip
            refine Wp.deep (s_X0_goingWith_54_47 hG hI (fun R8 M8 I8 => ?_)) (Nat.le_of_ble_eq_true rfl)
            refine ⟨fun hc9 => ?_, fun hc9 => ?_⟩
            · skip
              exact ih.2.2 _ _ _ _ _ I8 (by omega) (by omega) (by omega)
            · skip
              refine Wp.deep (s_X1_payOfAll_61 hG I8 (by omega) (fun R10 => ?_)) (Nat.le_of_ble_eq_true rfl)
              exact ih.2.2 _ _ _ _ _ I8 (by omega) (by omega) (by omega)
    · intro x3 x4 x5 x6 m hI h4 h6 hμ
      refine v_X1_bestTogether_61_47_148 ?_
      have f1 := dAddE (X := x6.toInt) (Y := 1) (x := x6) (y := (1 : Int32)) rfl (by decide) (by omega) (by omega)
      exact ih.2.1 _ _ _ _ _ hI (by omega) (by omega) (by omega)
theorem s_X1_bestTogether_61_47 {g : gM} {m : dM} {Q : Int32 → dM → Prop} (hG : Gd g) (hI : Inv g m) (hQ : ∀ (r : Int32) (m' : dM), Inv g m' → (0 ≤ r.toInt ∧ r.toInt ≤ 255) → Q r m') : c_X1_bestTogether_61_47 6 m Q := by
  refine v_X1_bestTogether_61_47 ?_
  refine Wp.deep (s_X0_waysNow_54_47 hG hI (fun M1 I1 => ?_)) (Nat.le_of_ble_eq_true rfl)
  have f2 := ti_0
  exact (s_X1_bestTogether_61_47_all hG hQ 522).1 _ _ _ _ I1 (by omega) (by omega)
theorem s_X11_together_0 {g : gM} {x1 : Int32} {m : dM} {Q : Int32 → dM → Prop} (hG : Gd g) (hI : Inv g m) (hQ : ∀ (r : Int32) (m' : dM), Inv g m' → Q r m') : c_X11_together_0 7 x1 m Q := by
  refine v_X11_together_0 ?_
  refine ⟨fun hc1 => ?_, fun hc1 => ?_⟩
  · skip
    refine v_X11_together_0_9 ?_
    have f2 := ti_m1
    exact hQ _ _ hI
  · skip
    refine ⟨fun hc2 => ?_, fun hc2 => ?_⟩
    · skip
      refine Wp.deep (s_X1_bestTogether_61_47 hG hI (fun R3 M3 I3 hr3 => ?_)) (Nat.le_of_ble_eq_true rfl)
      refine ⟨fun hc4 => ?_, fun hc4 => ?_⟩
      · skip
        exact hQ _ _ I3
      · skip
        refine Wp.deep (s_X1_payOfAll_61 hG I3 (by omega) (fun R5 => ?_)) (Nat.le_of_ble_eq_true rfl)
        exact hQ _ _ I3
    · skip
      refine v_X11_together_0_9 ?_
      have f3 := ti_m1
      exact hQ _ _ hI
theorem s_X12_usesLit_70_all {g : gM} {Q : Int32 → dM → Prop} {m : dM} (hG : Gd g) (hI : Inv g m) (hQ : ∀ r : Int32, Q r m) : ∀ n : Nat, (∀ (x1 : Int32) (x2 : Int32), (0 ≤ x2.toInt ∧ x2.toInt ≤ 8) → 17 - 2 * x2.toInt < (n : Int) → j_X12_usesLit_70_4 2 x1 x2 m Q) ∧ (∀ (x1 : Int32) (x2 : Int32), (0 ≤ x2.toInt ∧ x2.toInt ≤ 7) → 16 - 2 * x2.toInt < (n : Int) → j_X12_usesLit_70_35 2 x1 x2 m Q) := by
  intro n
  induction n with
  | zero => exact ⟨fun x1 x2 h2 hμ => by exfalso; omega, fun x1 x2 h2 hμ => by exfalso; omega⟩
  | succ n ih =>
    refine ⟨?_, ?_⟩
    · intro x1 x2 h2 hμ
      refine v_X12_usesLit_70_4 ?_
      have f1 := congrArg Int32.toInt (hI.2 70 18 rfl)
      have f2 := Inv.s hG hI (k := 70) (j := 18) rfl rfl
      refine ⟨by omega, ?_⟩
      have f3 := Inv.cnt86 hG hI
      have f4 := Inv.s hG hI (k := 86) (j := (m.1 70 18).toNatClampNeg) rfl rfl
      refine ⟨fun hc5 => ?_, fun hc5 => ?_⟩
      · skip
        exact hQ _
      · skip
        refine v_X12_flatAt_70 ?_
        have f6 := dMulE (X := 8) (Y := (m.1 70 18).toInt) (x := (8 : Int32)) (y := (m.1 70 18)) (by decide) rfl (by omega) (by omega)
        have f7 := dAddE (X := ((8 : Int32) * (m.1 70 18)).toInt) (Y := x2.toInt) (x := ((8 : Int32) * (m.1 70 18))) (y := x2) rfl rfl (by omega) (by omega)
        refine ⟨by omega, ?_⟩
        refine v_X12_isLit_70 ?_
        have f8 := Inv.flat hG hI (u := x2) (by omega) (by omega)
        refine ⟨by omega, ?_⟩
        refine ⟨fun hc9 => ?_, fun hc9 => ?_⟩
        · skip
          have f10 := ti_0
          refine ⟨fun hc11 => ?_, fun hc11 => ?_⟩
          · skip
            exact ih.2 _ _ (by omega) (by omega)
          · skip
            exfalso; omega
        · skip
          have f10 := ti_1
          refine ⟨fun hc11 => ?_, fun hc11 => ?_⟩
          · skip
            exfalso; omega
          · skip
            have f12 := dShl8 (x := x2) (by omega) (by omega)
            exact ih.2 _ _ (by omega) (by omega)
    · intro x1 x2 h2 hμ
      refine v_X12_usesLit_70_35 ?_
      have f1 := dAddE (X := x2.toInt) (Y := 1) (x := x2) (y := (1 : Int32)) rfl (by decide) (by omega) (by omega)
      exact ih.1 _ _ (by omega) (by omega)
theorem s_X12_usesLit_70 {g : gM} {m : dM} {Q : Int32 → dM → Prop} (hG : Gd g) (hI : Inv g m) (hQ : ∀ r : Int32, Q r m) : c_X12_usesLit_70 2 m Q := by
  refine v_X12_usesLit_70 ?_
  have f1 := ti_0
  exact (s_X12_usesLit_70_all hG hI hQ 19).1 _ _ (by omega) (by omega)
theorem s_X1_firstStart_61_47_all {g : gM} {Q : Int32 → dM → Prop} (hG : Gd g) (hQ : ∀ (r : Int32) (m' : dM), Inv g m' → Q r m') : ∀ n : Nat, (∀ (x2 : Int32) (x3 : Int32) (x4 : Int32) (x5 : Int32) (m : dM), Inv g m → (0 ≤ x2.toInt ∧ x2.toInt ≤ 7) → (0 ≤ x5.toInt ∧ x5.toInt ≤ 24) → 24 - 1 * x5.toInt < (n : Int) → j_X1_firstStart_61_47_28 5 x2 x3 x4 x5 m Q) := by
  intro n
  induction n with
  | zero => exact fun x2 x3 x4 x5 m hI h2 h5 hμ => by exfalso; omega
  | succ n ih =>
    · intro x2 x3 x4 x5 m hI h2 h5 hμ
      refine v_X1_firstStart_61_47_28 ?_
      refine ⟨fun hc1 => ?_, fun hc1 => ?_⟩
      · skip
        have f2 := ti_m2
        exact hQ _ _ hI
      · skip
        refine Wp.deep (s_X0_usesAt_54_47 hG hI (by omega) (fun R2 M2 I2 => ?_)) (Nat.le_of_ble_eq_true rfl)
        have f3 := dShl8 (x := x2) (by omega) (by omega)
        refine Wp.deep (s_X0_putOn_54_47 hG I2 (fun M4 I4 => ?_)) (Nat.le_of_ble_eq_true rfl)
        have f5 := ti_0
        refine Wp.deep (s_X0_going_54_47 hG I4 (by omega) (fun R6 M6 I6 => ?_)) (Nat.le_of_ble_eq_true rfl)
        refine ⟨fun hc7 => ?_, fun hc7 => ?_⟩
        · skip
          refine ⟨fun hc8 => ?_, fun hc8 => ?_⟩
          · skip
            have f9 := dAddE (X := x5.toInt) (Y := 1) (x := x5) (y := (1 : Int32)) rfl (by decide) (by omega) (by omega)
            exact ih _ _ _ _ _ I6 (by omega) (by omega) (by omega)
          · skip
            exact hQ _ _ I6
        · skip
          refine ⟨fun hc8 => ?_, fun hc8 => ?_⟩
          · skip
            have f9 := dAddE (X := x5.toInt) (Y := 1) (x := x5) (y := (1 : Int32)) rfl (by decide) (by omega) (by omega)
            exact ih _ _ _ _ _ I6 (by omega) (by omega) (by omega)
          · skip
            exact hQ _ _ I6
theorem s_X1_firstStart_61_47 {g : gM} {x2 : Int32} {m : dM} {Q : Int32 → dM → Prop} (hG : Gd g) (hI : Inv g m) (h2 : 0 ≤ x2.toInt ∧ x2.toInt ≤ 7) (hQ : ∀ (r : Int32) (m' : dM), Inv g m' → Q r m') : c_X1_firstStart_61_47 5 x2 m Q := by
  refine v_X1_firstStart_61_47 ?_
  refine ⟨by omega, ?_⟩
  refine ⟨by omega, ?_⟩
  have f1 := ti_0
  exact (s_X1_firstStart_61_47_all hG hQ 26) _ _ _ _ _ hI (by omega) (by omega) (by omega)
theorem s_X11_when_0 {g : gM} {x1 : Int32} {m : dM} {Q : Int32 → dM → Prop} (hG : Gd g) (hI : Inv g m) (hQ : ∀ (r : Int32) (m' : dM), Inv g m' → Q r m') : c_X11_when_0 6 x1 m Q := by
  refine v_X11_when_0 ?_
  refine v_X11_isUse_0 ?_
  refine ⟨fun hc1 => ?_, fun hc1 => ?_⟩
  · skip
    refine v_X11_isUse_0_19 ?_
    have f2 := ti_0
    refine ⟨fun hc3 => ?_, fun hc3 => ?_⟩
    · skip
      have f4 := ti_m1
      exact hQ _ _ hI
    · skip
      exfalso; omega
  · skip
    have f2 := congrArg Int32.toInt (hI.2 2 2 rfl)
    have f3 := Inv.s hG hI (k := 2) (j := 2) rfl rfl
    refine ⟨fun hc4 => ?_, fun hc4 => ?_⟩
    · skip
      refine v_X11_isUse_0_19 ?_
      have f5 := ti_0
      refine ⟨fun hc6 => ?_, fun hc6 => ?_⟩
      · skip
        have f7 := ti_m1
        exact hQ _ _ hI
      · skip
        exfalso; omega
    · skip
      have f5 := ti_1
      refine ⟨fun hc6 => ?_, fun hc6 => ?_⟩
      · skip
        exfalso; omega
      · skip
        refine Wp.deep (s_X1_firstStart_61_47 hG hI (by omega) (fun R7 M7 I7 => ?_)) (Nat.le_of_ble_eq_true rfl)
        exact hQ _ _ I7
theorem s_X1_bestThicker_61_47_all {g : gM} {Q : Int32 → dM → Prop} (hG : Gd g) (hQ : ∀ (r : Int32) (m' : dM), Inv g m' → (-2 ≤ r.toInt ∧ r.toInt ≤ 9) → Q r m') : ∀ n : Nat, (∀ (x2 : Int32) (x3 : Int32) (x4 : Int32) (x5 : Int32) (m : dM), Inv g m → (1 ≤ x2.toInt ∧ x2.toInt ≤ 20) → (1 ≤ x3.toInt ∧ x3.toInt ≤ 201) → (-2 ≤ x4.toInt ∧ x4.toInt ≤ 9) → (0 ≤ x5.toInt ∧ x5.toInt ≤ 10) → 22 - 2 * x5.toInt < (n : Int) → j_X1_bestThicker_61_47_20 7 x2 x3 x4 x5 m Q) ∧ (∀ (x2 : Int32) (x3 : Int32) (x4 : Int32) (x5 : Int32) (m : dM), Inv g m → (1 ≤ x2.toInt ∧ x2.toInt ≤ 20) → (1 ≤ x3.toInt ∧ x3.toInt ≤ 201) → (-2 ≤ x4.toInt ∧ x4.toInt ≤ 9) → (0 ≤ x5.toInt ∧ x5.toInt ≤ 9) → 21 - 2 * x5.toInt < (n : Int) → j_X1_bestThicker_61_47_105 7 x2 x3 x4 x5 m Q) ∧ (∀ (x4 : Int32) (m : dM), Inv g m → (-2 ≤ x4.toInt ∧ x4.toInt ≤ 9) → 0 < (n : Int) → j_X1_bestThicker_61_47_111 7 x4 m Q) := by
  intro n
  induction n with
  | zero => exact ⟨fun x2 x3 x4 x5 m hI h2 h3 h4 h5 hμ => by exfalso; omega, fun x2 x3 x4 x5 m hI h2 h3 h4 h5 hμ => by exfalso; omega, fun x4 m hI h4 hμ => by exfalso; omega⟩
  | succ n ih =>
    refine ⟨?_, ?_, ?_⟩
    · intro x2 x3 x4 x5 m hI h2 h3 h4 h5 hμ
      refine v_X1_bestThicker_61_47_20 ?_
      have f1 := congrArg Int32.toInt (hI.2 2 1 rfl)
      have f2 := Inv.s hG hI (k := 2) (j := 1) rfl rfl
      refine ⟨fun hc3 => ?_, fun hc3 => ?_⟩
      · skip
        exact ih.2.2 _ _ hI (by omega) (by omega)
      · skip
        refine ⟨fun hc4 => ?_, fun hc4 => ?_⟩
        · skip
          exact ih.2.2 _ _ hI (by omega) (by omega)
        · skip
          refine v_X11_has ?_
          have f5 := ti_1
          have f6 := dAndE (x := ((m.1 47 3).toUInt32 >>> (x5.toUInt32 &&& Int32.toUInt32 31)).toInt32) (y := (1 : Int32)) (by decide)
          refine ⟨fun hc7 => ?_, fun hc7 => ?_⟩
          · skip
            have f8 := ti_0
            refine ⟨fun hc9 => ?_, fun hc9 => ?_⟩
            · skip
              exfalso; omega
            · skip
              refine Wp.deep (s_X7_copy_62_47 hG hI (fun M10 I10 => ?_)) (Nat.le_of_ble_eq_true rfl)
              refine ⟨by omega, ?_⟩
              refine ⟨by omega, ?_⟩
              have I11 : Inv g (dSet M10 63 x5.toNatClampNeg (if ((M10.1 63 x5.toNatClampNeg) + x2) < (99 : Int32) then ((M10.1 63 x5.toNatClampNeg) + x2) else (99 : Int32))) := (Inv.setA I10 rfl)
              refine Wp.deep (s_X1_trialTillGone_61 hG I11 (fun R12 M12 I12 hr12 => ?_)) (Nat.le_of_ble_eq_true rfl)
              refine ⟨fun hc13 => ?_, fun hc13 => ?_⟩
              · skip
                exact ih.2.1 _ _ _ _ _ I12 (by omega) (by omega) (by omega) (by omega) (by omega)
              · skip
                exact ih.2.1 _ _ _ _ _ I12 (by omega) (by omega) (by omega) (by omega) (by omega)
          · skip
            refine ⟨fun hc8 => ?_, fun hc8 => ?_⟩
            · skip
              exact ih.2.1 _ _ _ _ _ hI (by omega) (by omega) (by omega) (by omega) (by omega)
            · skip
              exfalso; omega
    · intro x2 x3 x4 x5 m hI h2 h3 h4 h5 hμ
      refine v_X1_bestThicker_61_47_105 ?_
      have f1 := dAddE (X := x5.toInt) (Y := 1) (x := x5) (y := (1 : Int32)) rfl (by decide) (by omega) (by omega)
      exact ih.1 _ _ _ _ _ hI (by omega) (by omega) (by omega) (by omega) (by omega)
    · intro x4 m hI h4 hμ
      refine v_X1_bestThicker_61_47_111 ?_
      exact hQ _ _ hI (by omega)
theorem s_X1_bestThicker_61_47 {g : gM} {x2 : Int32} {m : dM} {Q : Int32 → dM → Prop} (hG : Gd g) (hI : Inv g m) (h2 : 1 ≤ x2.toInt ∧ x2.toInt ≤ 20) (hQ : ∀ (r : Int32) (m' : dM), Inv g m' → (-2 ≤ r.toInt ∧ r.toInt ≤ 9) → Q r m') : c_X1_bestThicker_61_47 7 x2 m Q := by
  refine v_X1_bestThicker_61_47 ?_
  refine Wp.deep (s_X7_copy_62_47 hG hI (fun M1 I1 => ?_)) (Nat.le_of_ble_eq_true rfl)
  refine Wp.deep (s_X1_trialTillGone_61 hG I1 (fun R2 M2 I2 hr2 => ?_)) (Nat.le_of_ble_eq_true rfl)
  have f3 := ti_m2
  have f4 := ti_0
  exact (s_X1_bestThicker_61_47_all hG hQ 24).1 _ _ _ _ _ I2 (by omega) (by omega) (by omega) (by omega) (by omega)
theorem s_X11_thick_0 {g : gM} {x1 : Int32} {m : dM} {Q : Int32 → dM → Prop} (hG : Gd g) (hI : Inv g m) (hQ : ∀ (r : Int32) (m' : dM), Inv g m' → (-2 ≤ r.toInt ∧ r.toInt ≤ 9) → Q r m') : c_X11_thick_0 8 x1 m Q := by
  refine v_X11_thick_0 ?_
  refine ⟨fun hc1 => ?_, fun hc1 => ?_⟩
  · skip
    refine v_X11_thick_0_11 ?_
    have f2 := ti_m1
    exact hQ _ _ hI (by omega)
  · skip
    refine ⟨fun hc2 => ?_, fun hc2 => ?_⟩
    · skip
      refine Wp.deep (s_X1_bestThicker_61_47 hG hI (by omega) (fun R3 M3 I3 hr3 => ?_)) (Nat.le_of_ble_eq_true rfl)
      exact hQ _ _ I3 (by omega)
    · skip
      refine v_X11_thick_0_11 ?_
      have f3 := ti_m1
      exact hQ _ _ hI (by omega)
theorem s_X3_litWithout_2_all {g : gM} {Q : Int32 → dM → Prop} {m : dM} (hG : Gd g) (hI : Inv g m) (hQ : ∀ r : Int32, Q r m) : ∀ n : Nat, (∀ (x1 : Int32) (x2 : Int32) (x3 : Int32), (1 ≤ x3.toInt ∧ x3.toInt ≤ 7) → 184 - 23 * x3.toInt < (n : Int) → j_X3_litWithout_2_15 2 x1 x2 x3 m Q) ∧ (∀ (x1 : Int32) (x2 : Int32) (x3 : Int32) (x4 : Int32) (x5 : Int32), (1 ≤ x3.toInt ∧ x3.toInt ≤ 6) → (0 ≤ x5.toInt ∧ x5.toInt ≤ 10) → 183 - 23 * x3.toInt - 2 * x5.toInt < (n : Int) → j_X3_litWithout_2_29 2 x1 x2 x3 x4 x5 m Q) ∧ (∀ (x1 : Int32) (x2 : Int32) (x3 : Int32) (x4 : Int32) (x5 : Int32), (1 ≤ x3.toInt ∧ x3.toInt ≤ 6) → (0 ≤ x5.toInt ∧ x5.toInt ≤ 9) → 182 - 23 * x3.toInt - 2 * x5.toInt < (n : Int) → j_X3_litWithout_2_67 2 x1 x2 x3 x4 x5 m Q) ∧ (∀ (x2 : Int32), 0 < (n : Int) → j_X3_litWithout_2_88 2 x2 m Q) := by
  intro n
  induction n with
  | zero => exact ⟨fun x1 x2 x3 h3 hμ => by exfalso; omega, fun x1 x2 x3 x4 x5 h3 h5 hμ => by exfalso; omega, fun x1 x2 x3 x4 x5 h3 h5 hμ => by exfalso; omega, fun x2 hμ => by exfalso; omega⟩
  | succ n ih =>
    refine ⟨?_, ?_, ?_, ?_⟩
    · intro x1 x2 x3 h3 hμ
      refine v_X3_litWithout_2_15 ?_
      have f1 := congrArg Int32.toInt (hI.2 2 0 rfl)
      have f2 := Inv.s hG hI (k := 2) (j := 0) rfl rfl
      refine ⟨fun hc3 => ?_, fun hc3 => ?_⟩
      · skip
        exact ih.2.2.2 _ (by omega)
      · skip
        have f4 := ti_0
        exact ih.2.1 _ _ _ _ _ (by omega) (by omega) (by omega)
    · intro x1 x2 x3 x4 x5 h3 h5 hμ
      refine v_X3_litWithout_2_29 ?_
      have f1 := congrArg Int32.toInt (hI.2 2 1 rfl)
      have f2 := Inv.s hG hI (k := 2) (j := 1) rfl rfl
      refine ⟨fun hc3 => ?_, fun hc3 => ?_⟩
      · skip
        refine ⟨fun hc4 => ?_, fun hc4 => ?_⟩
        · skip
          have f5 := dAddE (X := x3.toInt) (Y := 1) (x := x3) (y := (1 : Int32)) rfl (by decide) (by omega) (by omega)
          exact ih.1 _ _ _ (by omega) (by omega)
        · skip
          exact ih.2.2.2 _ (by omega)
      · skip
        refine v_X3_endsOf_2 ?_
        refine ⟨by omega, ?_⟩
        refine ⟨by omega, ?_⟩
        refine v_X11_has ?_
        have f4 := ti_1
        have f5 := dAndE (x := (x1.toUInt32 >>> (x5.toUInt32 &&& Int32.toUInt32 31)).toInt32) (y := (1 : Int32)) (by decide)
        refine ⟨fun hc6 => ?_, fun hc6 => ?_⟩
        · skip
          have f7 := ti_0
          refine ⟨fun hc8 => ?_, fun hc8 => ?_⟩
          · skip
            exfalso; omega
          · skip
            have f9 := Inv.s hG hI (k := 4) (j := x5.toNatClampNeg) rfl rfl
            have f10 := dShl8 (x := (m.1 4 x5.toNatClampNeg)) (by omega) (by omega)
            have f11 := Inv.s hG hI (k := 5) (j := x5.toNatClampNeg) rfl rfl
            have f12 := dShl8 (x := (m.1 5 x5.toNatClampNeg)) (by omega) (by omega)
            refine ⟨fun hc13 => ?_, fun hc13 => ?_⟩
            · skip
              exact ih.2.2.1 _ _ _ _ _ (by omega) (by omega) (by omega)
            · skip
              exact ih.2.2.1 _ _ _ _ _ (by omega) (by omega) (by omega)
        · skip
          refine ⟨fun hc7 => ?_, fun hc7 => ?_⟩
          · skip
            exact ih.2.2.1 _ _ _ _ _ (by omega) (by omega) (by omega)
          · skip
            exfalso; omega
    · intro x1 x2 x3 x4 x5 h3 h5 hμ
      refine v_X3_litWithout_2_67 ?_
      have f1 := dAddE (X := x5.toInt) (Y := 1) (x := x5) (y := (1 : Int32)) rfl (by decide) (by omega) (by omega)
      exact ih.2.1 _ _ _ _ _ (by omega) (by omega) (by omega)
    · intro x2 hμ
      refine v_X3_litWithout_2_88 ?_
      exact hQ _
theorem s_X3_litWithout_2 {g : gM} {x1 : Int32} {m : dM} {Q : Int32 → dM → Prop} (hG : Gd g) (hI : Inv g m) (hQ : ∀ r : Int32, Q r m) : c_X3_litWithout_2 2 x1 m Q := by
  refine v_X3_litWithout_2 ?_
  have f1 := congrArg Int32.toInt (hI.2 2 0 rfl)
  have f2 := Inv.s hG hI (k := 2) (j := 0) rfl rfl
  refine ⟨fun hc3 => ?_, fun hc3 => ?_⟩
  · skip
    have f4 := ti_0
    have f5 := ti_1
    exact (s_X3_litWithout_2_all hG hI hQ 163).1 _ _ _ (by omega) (by omega)
  · skip
    have f4 := ti_1
    exact (s_X3_litWithout_2_all hG hI hQ 163).1 _ _ _ (by omega) (by omega)
theorem s_J6_bitCount {g : gM} {x0 : Int32} {m : dM} {Q : Int32 → dM → Prop} (hG : Gd g) (hI : Inv g m) (hQ : ∀ r : Int32, (0 ≤ r.toInt ∧ r.toInt ≤ 63) → Q r m) : c_J6_bitCount 1 x0 m Q := by
  refine v_J6_bitCount ?_
  have f1 := ti_1431655765
  have f2 := dAndE (x := (x0.toUInt32 >>> ((1 : Int32).toUInt32 &&& Int32.toUInt32 31)).toInt32) (y := (1431655765 : Int32)) (by decide)
  have f3 := ti_858993459
  have f4 := dAndE (x := (x0 - ((x0.toUInt32 >>> ((1 : Int32).toUInt32 &&& Int32.toUInt32 31)).toInt32 &&& (1431655765 : Int32)))) (y := (858993459 : Int32)) (by decide)
  have f5 := dAndE (x := ((x0 - ((x0.toUInt32 >>> ((1 : Int32).toUInt32 &&& Int32.toUInt32 31)).toInt32 &&& (1431655765 : Int32))).toUInt32 >>> ((2 : Int32).toUInt32 &&& Int32.toUInt32 31)).toInt32) (y := (858993459 : Int32)) (by decide)
  have f6 := dAddE (X := ((x0 - ((x0.toUInt32 >>> ((1 : Int32).toUInt32 &&& Int32.toUInt32 31)).toInt32 &&& (1431655765 : Int32))) &&& (858993459 : Int32)).toInt) (Y := (((x0 - ((x0.toUInt32 >>> ((1 : Int32).toUInt32 &&& Int32.toUInt32 31)).toInt32 &&& (1431655765 : Int32))).toUInt32 >>> ((2 : Int32).toUInt32 &&& Int32.toUInt32 31)).toInt32 &&& (858993459 : Int32)).toInt) (x := ((x0 - ((x0.toUInt32 >>> ((1 : Int32).toUInt32 &&& Int32.toUInt32 31)).toInt32 &&& (1431655765 : Int32))) &&& (858993459 : Int32))) (y := (((x0 - ((x0.toUInt32 >>> ((1 : Int32).toUInt32 &&& Int32.toUInt32 31)).toInt32 &&& (1431655765 : Int32))).toUInt32 >>> ((2 : Int32).toUInt32 &&& Int32.toUInt32 31)).toInt32 &&& (858993459 : Int32))) rfl rfl (by omega) (by omega)
  have f7 := ti_252645135
  have f8 := dAndE (x := ((((x0 - ((x0.toUInt32 >>> ((1 : Int32).toUInt32 &&& Int32.toUInt32 31)).toInt32 &&& (1431655765 : Int32))) &&& (858993459 : Int32)) + (((x0 - ((x0.toUInt32 >>> ((1 : Int32).toUInt32 &&& Int32.toUInt32 31)).toInt32 &&& (1431655765 : Int32))).toUInt32 >>> ((2 : Int32).toUInt32 &&& Int32.toUInt32 31)).toInt32 &&& (858993459 : Int32))) + ((((x0 - ((x0.toUInt32 >>> ((1 : Int32).toUInt32 &&& Int32.toUInt32 31)).toInt32 &&& (1431655765 : Int32))) &&& (858993459 : Int32)) + (((x0 - ((x0.toUInt32 >>> ((1 : Int32).toUInt32 &&& Int32.toUInt32 31)).toInt32 &&& (1431655765 : Int32))).toUInt32 >>> ((2 : Int32).toUInt32 &&& Int32.toUInt32 31)).toInt32 &&& (858993459 : Int32))).toUInt32 >>> ((4 : Int32).toUInt32 &&& Int32.toUInt32 31)).toInt32)) (y := (252645135 : Int32)) (by decide)
  have f9 := ti_63
  have f10 := dAndE (x := (((((((x0 - ((x0.toUInt32 >>> ((1 : Int32).toUInt32 &&& Int32.toUInt32 31)).toInt32 &&& (1431655765 : Int32))) &&& (858993459 : Int32)) + (((x0 - ((x0.toUInt32 >>> ((1 : Int32).toUInt32 &&& Int32.toUInt32 31)).toInt32 &&& (1431655765 : Int32))).toUInt32 >>> ((2 : Int32).toUInt32 &&& Int32.toUInt32 31)).toInt32 &&& (858993459 : Int32))) + ((((x0 - ((x0.toUInt32 >>> ((1 : Int32).toUInt32 &&& Int32.toUInt32 31)).toInt32 &&& (1431655765 : Int32))) &&& (858993459 : Int32)) + (((x0 - ((x0.toUInt32 >>> ((1 : Int32).toUInt32 &&& Int32.toUInt32 31)).toInt32 &&& (1431655765 : Int32))).toUInt32 >>> ((2 : Int32).toUInt32 &&& Int32.toUInt32 31)).toInt32 &&& (858993459 : Int32))).toUInt32 >>> ((4 : Int32).toUInt32 &&& Int32.toUInt32 31)).toInt32) &&& (252645135 : Int32)) + ((((((x0 - ((x0.toUInt32 >>> ((1 : Int32).toUInt32 &&& Int32.toUInt32 31)).toInt32 &&& (1431655765 : Int32))) &&& (858993459 : Int32)) + (((x0 - ((x0.toUInt32 >>> ((1 : Int32).toUInt32 &&& Int32.toUInt32 31)).toInt32 &&& (1431655765 : Int32))).toUInt32 >>> ((2 : Int32).toUInt32 &&& Int32.toUInt32 31)).toInt32 &&& (858993459 : Int32))) + ((((x0 - ((x0.toUInt32 >>> ((1 : Int32).toUInt32 &&& Int32.toUInt32 31)).toInt32 &&& (1431655765 : Int32))) &&& (858993459 : Int32)) + (((x0 - ((x0.toUInt32 >>> ((1 : Int32).toUInt32 &&& Int32.toUInt32 31)).toInt32 &&& (1431655765 : Int32))).toUInt32 >>> ((2 : Int32).toUInt32 &&& Int32.toUInt32 31)).toInt32 &&& (858993459 : Int32))).toUInt32 >>> ((4 : Int32).toUInt32 &&& Int32.toUInt32 31)).toInt32) &&& (252645135 : Int32)).toUInt32 >>> ((8 : Int32).toUInt32 &&& Int32.toUInt32 31)).toInt32) + (((((((x0 - ((x0.toUInt32 >>> ((1 : Int32).toUInt32 &&& Int32.toUInt32 31)).toInt32 &&& (1431655765 : Int32))) &&& (858993459 : Int32)) + (((x0 - ((x0.toUInt32 >>> ((1 : Int32).toUInt32 &&& Int32.toUInt32 31)).toInt32 &&& (1431655765 : Int32))).toUInt32 >>> ((2 : Int32).toUInt32 &&& Int32.toUInt32 31)).toInt32 &&& (858993459 : Int32))) + ((((x0 - ((x0.toUInt32 >>> ((1 : Int32).toUInt32 &&& Int32.toUInt32 31)).toInt32 &&& (1431655765 : Int32))) &&& (858993459 : Int32)) + (((x0 - ((x0.toUInt32 >>> ((1 : Int32).toUInt32 &&& Int32.toUInt32 31)).toInt32 &&& (1431655765 : Int32))).toUInt32 >>> ((2 : Int32).toUInt32 &&& Int32.toUInt32 31)).toInt32 &&& (858993459 : Int32))).toUInt32 >>> ((4 : Int32).toUInt32 &&& Int32.toUInt32 31)).toInt32) &&& (252645135 : Int32)) + ((((((x0 - ((x0.toUInt32 >>> ((1 : Int32).toUInt32 &&& Int32.toUInt32 31)).toInt32 &&& (1431655765 : Int32))) &&& (858993459 : Int32)) + (((x0 - ((x0.toUInt32 >>> ((1 : Int32).toUInt32 &&& Int32.toUInt32 31)).toInt32 &&& (1431655765 : Int32))).toUInt32 >>> ((2 : Int32).toUInt32 &&& Int32.toUInt32 31)).toInt32 &&& (858993459 : Int32))) + ((((x0 - ((x0.toUInt32 >>> ((1 : Int32).toUInt32 &&& Int32.toUInt32 31)).toInt32 &&& (1431655765 : Int32))) &&& (858993459 : Int32)) + (((x0 - ((x0.toUInt32 >>> ((1 : Int32).toUInt32 &&& Int32.toUInt32 31)).toInt32 &&& (1431655765 : Int32))).toUInt32 >>> ((2 : Int32).toUInt32 &&& Int32.toUInt32 31)).toInt32 &&& (858993459 : Int32))).toUInt32 >>> ((4 : Int32).toUInt32 &&& Int32.toUInt32 31)).toInt32) &&& (252645135 : Int32)).toUInt32 >>> ((8 : Int32).toUInt32 &&& Int32.toUInt32 31)).toInt32).toUInt32 >>> ((16 : Int32).toUInt32 &&& Int32.toUInt32 31)).toInt32)) (y := (63 : Int32)) (by decide)
  exact hQ _ (by omega)
theorem s_X12_goneBits_70_all {g : gM} {Q : Int32 → dM → Prop} {m : dM} (hG : Gd g) (hI : Inv g m) (hQ : ∀ r : Int32, Q r m) : ∀ n : Nat, (∀ (x1 : Int32) (x2 : Int32), (0 ≤ x2.toInt ∧ x2.toInt ≤ 10) → 21 - 2 * x2.toInt < (n : Int) → j_X12_goneBits_70_4 1 x1 x2 m Q) ∧ (∀ (x1 : Int32) (x2 : Int32), (0 ≤ x2.toInt ∧ x2.toInt ≤ 9) → 20 - 2 * x2.toInt < (n : Int) → j_X12_goneBits_70_36 1 x1 x2 m Q) := by
  intro n
  induction n with
  | zero => exact ⟨fun x1 x2 h2 hμ => by exfalso; omega, fun x1 x2 h2 hμ => by exfalso; omega⟩
  | succ n ih =>
    refine ⟨?_, ?_⟩
    · intro x1 x2 h2 hμ
      refine v_X12_goneBits_70_4 ?_
      have f1 := congrArg Int32.toInt (hI.2 70 18 rfl)
      have f2 := Inv.s hG hI (k := 70) (j := 18) rfl rfl
      refine ⟨by omega, ?_⟩
      have f3 := Inv.cnt82 hG hI
      have f4 := Inv.s hG hI (k := 82) (j := (m.1 70 18).toNatClampNeg) rfl rfl
      refine ⟨fun hc5 => ?_, fun hc5 => ?_⟩
      · skip
        exact hQ _
      · skip
        have f6 := dAddE (X := 10) (Y := x2.toInt) (x := (10 : Int32)) (y := x2) (by decide) rfl (by omega) (by omega)
        refine ⟨by omega, ?_⟩
        refine ⟨fun hc7 => ?_, fun hc7 => ?_⟩
        · skip
          exact ih.2 _ _ (by omega) (by omega)
        · skip
          have f8 := dShl10 (x := x2) (by omega) (by omega)
          exact ih.2 _ _ (by omega) (by omega)
    · intro x1 x2 h2 hμ
      refine v_X12_goneBits_70_36 ?_
      have f1 := dAddE (X := x2.toInt) (Y := 1) (x := x2) (y := (1 : Int32)) rfl (by decide) (by omega) (by omega)
      exact ih.1 _ _ (by omega) (by omega)
theorem s_X12_goneBits_70 {g : gM} {m : dM} {Q : Int32 → dM → Prop} (hG : Gd g) (hI : Inv g m) (hQ : ∀ r : Int32, Q r m) : c_X12_goneBits_70 1 m Q := by
  refine v_X12_goneBits_70 ?_
  have f1 := ti_0
  exact (s_X12_goneBits_70_all hG hI hQ 23).1 _ _ (by omega) (by omega)
theorem s_X12_ithOf_all {g : gM} {Q : Int32 → dM → Prop} {m : dM} (hG : Gd g) (hI : Inv g m) (hQ : ∀ r : Int32, (-1 ≤ r.toInt ∧ r.toInt ≤ 9) → Q r m) : ∀ n : Nat, (∀ (x0 : Int32) (x1 : Int32) (x2 : Int32) (x3 : Int32), (0 ≤ x0.toInt ∧ x0.toInt ≤ 1023) → (0 ≤ x1.toInt ∧ x1.toInt ≤ 2) → (0 ≤ x3.toInt ∧ x3.toInt ≤ 10) → 21 - 2 * x3.toInt < (n : Int) → j_X12_ithOf_4 1 x0 x1 x2 x3 m Q) ∧ (∀ (x0 : Int32) (x1 : Int32) (x2 : Int32) (x3 : Int32), (0 ≤ x0.toInt ∧ x0.toInt ≤ 1023) → (0 ≤ x1.toInt ∧ x1.toInt ≤ 2) → (0 ≤ x3.toInt ∧ x3.toInt ≤ 9) → 20 - 2 * x3.toInt < (n : Int) → j_X12_ithOf_31 1 x0 x1 x2 x3 m Q) := by
  intro n
  induction n with
  | zero => exact ⟨fun x0 x1 x2 x3 h0 h1 h3 hμ => by exfalso; omega, fun x0 x1 x2 x3 h0 h1 h3 hμ => by exfalso; omega⟩
  | succ n ih =>
    refine ⟨?_, ?_⟩
    · intro x0 x1 x2 x3 h0 h1 h3 hμ
      refine v_X12_ithOf_4 ?_
      refine ⟨fun hc1 => ?_, fun hc1 => ?_⟩
      · skip
        have f2 := ti_m1
        exact hQ _ (by omega)
      · skip
        have f2 := ti_1
        have f3 := dAndE (x := (x0 >>> (x3 &&& 31))) (y := (1 : Int32)) (by decide)
        refine ⟨fun hc4 => ?_, fun hc4 => ?_⟩
        · skip
          refine ⟨fun hc5 => ?_, fun hc5 => ?_⟩
          · skip
            exact ih.2 _ _ _ _ (by omega) (by omega) (by omega) (by omega)
          · skip
            exact hQ _ (by omega)
        · skip
          exact ih.2 _ _ _ _ (by omega) (by omega) (by omega) (by omega)
    · intro x0 x1 x2 x3 h0 h1 h3 hμ
      refine v_X12_ithOf_31 ?_
      have f1 := dAddE (X := x3.toInt) (Y := 1) (x := x3) (y := (1 : Int32)) rfl (by decide) (by omega) (by omega)
      exact ih.1 _ _ _ _ (by omega) (by omega) (by omega) (by omega)
theorem s_X12_ithOf {g : gM} {x0 : Int32} {x1 : Int32} {m : dM} {Q : Int32 → dM → Prop} (hG : Gd g) (hI : Inv g m) (h0 : 0 ≤ x0.toInt ∧ x0.toInt ≤ 1023) (h1 : 0 ≤ x1.toInt ∧ x1.toInt ≤ 2) (hQ : ∀ r : Int32, (-1 ≤ r.toInt ∧ r.toInt ≤ 9) → Q r m) : c_X12_ithOf 1 x0 x1 m Q := by
  refine v_X12_ithOf ?_
  have f1 := ti_0
  exact (s_X12_ithOf_all hG hI hQ 23).1 _ _ _ _ (by omega) (by omega) (by omega) (by omega)
theorem s_X12_bits_all {g : gM} {Q : Int32 → dM → Prop} {m : dM} (hG : Gd g) (hI : Inv g m) (hQ : ∀ r : Int32, Q r m) : ∀ n : Nat, (∀ (x0 : Int32) (x1 : Int32) (x2 : Int32), (0 ≤ x2.toInt ∧ x2.toInt ≤ 10) → 10 - 1 * x2.toInt < (n : Int) → j_X12_bits_4 1 x0 x1 x2 m Q) := by
  intro n
  induction n with
  | zero => exact fun x0 x1 x2 h2 hμ => by exfalso; omega
  | succ n ih =>
    · intro x0 x1 x2 h2 hμ
      refine v_X12_bits_4 ?_
      refine ⟨fun hc1 => ?_, fun hc1 => ?_⟩
      · skip
        exact hQ _
      · skip
        have f2 := ti_1
        have f3 := dAndE (x := (x0 >>> (x2 &&& 31))) (y := (1 : Int32)) (by decide)
        have f4 := dAddE (X := x2.toInt) (Y := 1) (x := x2) (y := (1 : Int32)) rfl (by decide) (by omega) (by omega)
        exact ih _ _ _ (by omega) (by omega)
theorem s_X12_bits {g : gM} {x0 : Int32} {m : dM} {Q : Int32 → dM → Prop} (hG : Gd g) (hI : Inv g m) (hQ : ∀ r : Int32, Q r m) : c_X12_bits 1 x0 m Q := by
  refine v_X12_bits ?_
  have f1 := ti_0
  exact (s_X12_bits_all hG hI hQ 12) _ _ _ (by omega) (by omega)
theorem s_X12_isEarlier_all {g : gM} {Q : Int32 → dM → Prop} {m : dM} (hG : Gd g) (hI : Inv g m) (hQ : ∀ r : Int32, (0 ≤ r.toInt ∧ r.toInt ≤ 1) → Q r m) : ∀ n : Nat, (∀ (x0 : Int32) (x1 : Int32) (x2 : Int32), (0 ≤ x0.toInt ∧ x0.toInt ≤ 1023) → (0 ≤ x1.toInt ∧ x1.toInt ≤ 1023) → (0 ≤ x2.toInt ∧ x2.toInt ≤ 3) → 3 - 1 * x2.toInt < (n : Int) → j_X12_isEarlier_2 2 x0 x1 x2 m Q) := by
  intro n
  induction n with
  | zero => exact fun x0 x1 x2 h0 h1 h2 hμ => by exfalso; omega
  | succ n ih =>
    · intro x0 x1 x2 h0 h1 h2 hμ
      refine v_X12_isEarlier_2 ?_
      refine ⟨fun hc1 => ?_, fun hc1 => ?_⟩
      · skip
        have f2 := ti_0
        exact hQ _ (by omega)
      · skip
        refine Wp.deep (s_X12_ithOf hG hI (by omega) (by omega) (fun R2 hr2 => ?_)) (Nat.le_of_ble_eq_true rfl)
        refine Wp.deep (s_X12_ithOf hG hI (by omega) (by omega) (fun R3 hr3 => ?_)) (Nat.le_of_ble_eq_true rfl)
        refine ⟨fun hc4 => ?_, fun hc4 => ?_⟩
        · skip
          have f5 := dAddE (X := x2.toInt) (Y := 1) (x := x2) (y := (1 : Int32)) rfl (by decide) (by omega) (by omega)
          exact ih _ _ _ (by omega) (by omega) (by omega) (by omega)
        · skip
          refine Wp.deep (s_X12_ithOf hG hI (by omega) (by omega) (fun R5 hr5 => ?_)) (Nat.le_of_ble_eq_true rfl)
          refine Wp.deep (s_X12_ithOf hG hI (by omega) (by omega) (fun R6 hr6 => ?_)) (Nat.le_of_ble_eq_true rfl)
          refine ⟨fun hc7 => ?_, fun hc7 => ?_⟩
          · skip
            have f8 := ti_0
            exact hQ _ (by omega)
          · skip
            have f8 := ti_1
            exact hQ _ (by omega)
theorem s_X12_isEarlier {g : gM} {x0 : Int32} {x1 : Int32} {m : dM} {Q : Int32 → dM → Prop} (hG : Gd g) (hI : Inv g m) (h0 : 0 ≤ x0.toInt ∧ x0.toInt ≤ 1023) (h1 : 0 ≤ x1.toInt ∧ x1.toInt ≤ 1023) (hQ : ∀ r : Int32, (0 ≤ r.toInt ∧ r.toInt ≤ 1) → Q r m) : c_X12_isEarlier 2 x0 x1 m Q := by
  refine v_X12_isEarlier ?_
  have f1 := ti_0
  exact (s_X12_isEarlier_all hG hI hQ 5) _ _ _ (by omega) (by omega) (by omega) (by omega)
theorem s_X11_share_0 {g : gM} {x1 : Int32} {x2 : Int32} {m : dM} {Q : Int32 → dM → Prop} (hG : Gd g) (hI : Inv g m) (hQ : ∀ (r : Int32) (m' : dM), Inv g m' → Q r m') : c_X11_share_0 5 x1 x2 m Q := by
  refine v_X11_share_0 ?_
  refine v_X11_isFlat_0 ?_
  refine ⟨fun hc1 => ?_, fun hc1 => ?_⟩
  · skip
    refine v_X11_isFlat_0_19 ?_
    have f2 := ti_0
    refine ⟨fun hc3 => ?_, fun hc3 => ?_⟩
    · skip
      refine v_X11_share_0_16 ?_
      have f4 := ti_m1
      exact hQ _ _ hI
    · skip
      exfalso; omega
  · skip
    have f2 := congrArg Int32.toInt (hI.2 2 0 rfl)
    have f3 := Inv.s hG hI (k := 2) (j := 0) rfl rfl
    refine ⟨fun hc4 => ?_, fun hc4 => ?_⟩
    · skip
      refine v_X11_isFlat_0_19 ?_
      have f5 := ti_0
      refine ⟨fun hc6 => ?_, fun hc6 => ?_⟩
      · skip
        refine v_X11_share_0_16 ?_
        have f7 := ti_m1
        exact hQ _ _ hI
      · skip
        exfalso; omega
    · skip
      have f5 := ti_1
      refine ⟨fun hc6 => ?_, fun hc6 => ?_⟩
      · skip
        exfalso; omega
      · skip
        refine v_X11_isWire_0 ?_
        refine ⟨fun hc7 => ?_, fun hc7 => ?_⟩
        · skip
          refine v_X11_isWire_0_19 ?_
          have f8 := ti_0
          refine ⟨fun hc9 => ?_, fun hc9 => ?_⟩
          · skip
            exfalso; omega
          · skip
            refine v_X11_share_0_16 ?_
            have f10 := ti_m1
            exact hQ _ _ hI
        · skip
          have f8 := congrArg Int32.toInt (hI.2 2 1 rfl)
          have f9 := Inv.s hG hI (k := 2) (j := 1) rfl rfl
          refine ⟨fun hc10 => ?_, fun hc10 => ?_⟩
          · skip
            refine v_X11_isWire_0_19 ?_
            have f11 := ti_0
            refine ⟨fun hc12 => ?_, fun hc12 => ?_⟩
            · skip
              exfalso; omega
            · skip
              refine v_X11_share_0_16 ?_
              have f13 := ti_m1
              exact hQ _ _ hI
          · skip
            refine ⟨fun hc11 => ?_, fun hc11 => ?_⟩
            · skip
              refine Wp.deep (s_X0_waysNow_54_47 hG hI (fun M12 I12 => ?_)) (Nat.le_of_ble_eq_true rfl)
              refine ⟨by omega, ?_⟩
              refine v_X11_has ?_
              have f13 := dAndE (x := ((M12.1 60 x1.toNatClampNeg).toUInt32 >>> (x2.toUInt32 &&& Int32.toUInt32 31)).toInt32) (y := (1 : Int32)) (by decide)
              refine ⟨fun hc14 => ?_, fun hc14 => ?_⟩
              · skip
                have f15 := ti_0
                refine ⟨fun hc16 => ?_, fun hc16 => ?_⟩
                · skip
                  exact hQ _ _ I12
                · skip
                  exfalso; omega
              · skip
                refine ⟨fun hc15 => ?_, fun hc15 => ?_⟩
                · skip
                  exfalso; omega
                · skip
                  refine Wp.deep (s_X0_usesNow_54_47 hG I12 (fun R16 M16 I16 => ?_)) (Nat.le_of_ble_eq_true rfl)
                  refine Wp.deep (s_X0_ampsOf_54 hG I16 (by omega) (fun R17 => ?_)) (Nat.le_of_ble_eq_true rfl)
                  exact hQ _ _ I16
            · skip
              exfalso; omega
theorem s_X11_without_0 {g : gM} {x1 : Int32} {m : dM} {Q : Int32 → dM → Prop} (hG : Gd g) (hI : Inv g m) (hQ : ∀ r : Int32, Q r m) : c_X11_without_0 3 x1 m Q := by
  refine v_X11_without_0 ?_
  refine v_X11_isWire_0 ?_
  refine ⟨fun hc1 => ?_, fun hc1 => ?_⟩
  · skip
    refine v_X11_isWire_0_19 ?_
    have f2 := ti_0
    refine ⟨fun hc3 => ?_, fun hc3 => ?_⟩
    · skip
      have f4 := ti_m1
      exact hQ _
    · skip
      exfalso; omega
  · skip
    have f2 := congrArg Int32.toInt (hI.2 2 1 rfl)
    have f3 := Inv.s hG hI (k := 2) (j := 1) rfl rfl
    refine ⟨fun hc4 => ?_, fun hc4 => ?_⟩
    · skip
      refine v_X11_isWire_0_19 ?_
      have f5 := ti_0
      refine ⟨fun hc6 => ?_, fun hc6 => ?_⟩
      · skip
        have f7 := ti_m1
        exact hQ _
      · skip
        exfalso; omega
    · skip
      have f5 := ti_1
      refine ⟨fun hc6 => ?_, fun hc6 => ?_⟩
      · skip
        exfalso; omega
      · skip
        refine v_X3_allFlats_2 ?_
        have f7 := dShl10 (x := x1) (by omega) (by omega)
        refine Wp.deep (s_X3_litWithout_2 hG hI (fun R8 => ?_)) (Nat.le_of_ble_eq_true rfl)
        have f9 := congrArg Int32.toInt (hI.2 2 0 rfl)
        have f10 := Inv.s hG hI (k := 2) (j := 0) rfl rfl
        have f11 := dShl8 (x := (m.1 2 0)) (by omega) (by omega)
        have f12 := dSubE (X := ((1 : Int32) <<< ((m.1 2 0) &&& 31)).toInt) (Y := 1) (x := ((1 : Int32) <<< ((m.1 2 0) &&& 31))) (y := (1 : Int32)) rfl (by decide) (by omega) (by omega)
        exact hQ _
theorem s_X12_litBits_70_all {g : gM} {Q : Int32 → dM → Prop} {m : dM} (hG : Gd g) (hI : Inv g m) (hQ : ∀ r : Int32, Q r m) : ∀ n : Nat, (∀ (x1 : Int32) (x2 : Int32), (0 ≤ x2.toInt ∧ x2.toInt ≤ 7) → 15 - 2 * x2.toInt < (n : Int) → j_X12_litBits_70_4 2 x1 x2 m Q) ∧ (∀ (x1 : Int32) (x2 : Int32), (0 ≤ x2.toInt ∧ x2.toInt ≤ 6) → 14 - 2 * x2.toInt < (n : Int) → j_X12_litBits_70_31 2 x1 x2 m Q) := by
  intro n
  induction n with
  | zero => exact ⟨fun x1 x2 h2 hμ => by exfalso; omega, fun x1 x2 h2 hμ => by exfalso; omega⟩
  | succ n ih =>
    refine ⟨?_, ?_⟩
    · intro x1 x2 h2 hμ
      refine v_X12_litBits_70_4 ?_
      have f1 := congrArg Int32.toInt (hI.2 70 18 rfl)
      have f2 := Inv.s hG hI (k := 70) (j := 18) rfl rfl
      refine ⟨by omega, ?_⟩
      have f3 := Inv.cnt80 hG hI
      have f4 := Inv.s hG hI (k := 80) (j := (m.1 70 18).toNatClampNeg) rfl rfl
      refine ⟨fun hc5 => ?_, fun hc5 => ?_⟩
      · skip
        exact hQ _
      · skip
        refine v_X12_isLit_70 ?_
        refine ⟨by omega, ?_⟩
        refine ⟨fun hc6 => ?_, fun hc6 => ?_⟩
        · skip
          have f7 := ti_0
          refine ⟨fun hc8 => ?_, fun hc8 => ?_⟩
          · skip
            exact ih.2 _ _ (by omega) (by omega)
          · skip
            exfalso; omega
        · skip
          have f7 := ti_1
          refine ⟨fun hc8 => ?_, fun hc8 => ?_⟩
          · skip
            exfalso; omega
          · skip
            have f9 := dShl8 (x := x2) (by omega) (by omega)
            exact ih.2 _ _ (by omega) (by omega)
    · intro x1 x2 h2 hμ
      refine v_X12_litBits_70_31 ?_
      have f1 := dAddE (X := x2.toInt) (Y := 1) (x := x2) (y := (1 : Int32)) rfl (by decide) (by omega) (by omega)
      exact ih.1 _ _ (by omega) (by omega)
theorem s_X12_litBits_70 {g : gM} {m : dM} {Q : Int32 → dM → Prop} (hG : Gd g) (hI : Inv g m) (hQ : ∀ r : Int32, Q r m) : c_X12_litBits_70 2 m Q := by
  refine v_X12_litBits_70 ?_
  have f1 := ti_0
  exact (s_X12_litBits_70_all hG hI hQ 17).1 _ _ (by omega) (by omega)
theorem s_X12_darkBits_70 {g : gM} {m : dM} {Q : Int32 → dM → Prop} (hG : Gd g) (hI : Inv g m) (hQ : ∀ r : Int32, Q r m) : c_X12_darkBits_70 3 m Q := by
  refine v_X12_darkBits_70 ?_
  have f1 := congrArg Int32.toInt (hI.2 70 18 rfl)
  have f2 := Inv.s hG hI (k := 70) (j := 18) rfl rfl
  refine ⟨by omega, ?_⟩
  refine Wp.deep (s_X12_litBits_70 hG hI (fun R3 => ?_)) (Nat.le_of_ble_eq_true rfl)
  have f4 := Inv.cnt80 hG hI
  have f5 := Inv.s hG hI (k := 80) (j := (m.1 70 18).toNatClampNeg) rfl rfl
  have f6 := dShl8 (x := (m.1 80 (m.1 70 18).toNatClampNeg)) (by omega) (by omega)
  have f7 := dSubE (X := ((1 : Int32) <<< ((m.1 80 (m.1 70 18).toNatClampNeg) &&& 31)).toInt) (Y := 1) (x := ((1 : Int32) <<< ((m.1 80 (m.1 70 18).toNatClampNeg) &&& 31))) (y := (1 : Int32)) rfl (by decide) (by omega) (by omega)
  exact hQ _
theorem s_X11_needed_0_all {g : gM} {Q : Int32 → dM → Prop} {m : dM} (hG : Gd g) (hI : Inv g m) (hQ : ∀ r : Int32, Q r m) : ∀ n : Nat, (∀ (x1 : Int32) (x2 : Int32) (x3 : Int32), (0 ≤ x3.toInt ∧ x3.toInt ≤ 10) → 21 - 2 * x3.toInt < (n : Int) → j_X11_needed_0_19 3 x1 x2 x3 m Q) ∧ (∀ (x1 : Int32) (x2 : Int32) (x3 : Int32), (0 ≤ x3.toInt ∧ x3.toInt ≤ 9) → 20 - 2 * x3.toInt < (n : Int) → j_X11_needed_0_72 3 x1 x2 x3 m Q) := by
  intro n
  induction n with
  | zero => exact ⟨fun x1 x2 x3 h3 hμ => by exfalso; omega, fun x1 x2 x3 h3 hμ => by exfalso; omega⟩
  | succ n ih =>
    refine ⟨?_, ?_⟩
    · intro x1 x2 x3 h3 hμ
      refine v_X11_needed_0_19 ?_
      have f1 := congrArg Int32.toInt (hI.2 2 1 rfl)
      have f2 := Inv.s hG hI (k := 2) (j := 1) rfl rfl
      refine ⟨fun hc3 => ?_, fun hc3 => ?_⟩
      · skip
        exact hQ _
      · skip
        refine v_X11_has ?_
        have f4 := ti_1
        have f5 := dAndE (x := ((m.1 47 3).toUInt32 >>> (x3.toUInt32 &&& Int32.toUInt32 31)).toInt32) (y := (1 : Int32)) (by decide)
        refine ⟨fun hc6 => ?_, fun hc6 => ?_⟩
        · skip
          have f7 := ti_0
          refine ⟨fun hc8 => ?_, fun hc8 => ?_⟩
          · skip
            exfalso; omega
          · skip
            have f9 := dShl10 (x := x3) (by omega) (by omega)
            refine Wp.deep (s_X3_litWithout_2 hG hI (fun R10 => ?_)) (Nat.le_of_ble_eq_true rfl)
            refine ⟨fun hc11 => ?_, fun hc11 => ?_⟩
            · skip
              exact ih.2 _ _ _ (by omega) (by omega)
            · skip
              exact ih.2 _ _ _ (by omega) (by omega)
        · skip
          refine ⟨fun hc7 => ?_, fun hc7 => ?_⟩
          · skip
            exact ih.2 _ _ _ (by omega) (by omega)
          · skip
            exfalso; omega
    · intro x1 x2 x3 h3 hμ
      refine v_X11_needed_0_72 ?_
      have f1 := dAddE (X := x3.toInt) (Y := 1) (x := x3) (y := (1 : Int32)) rfl (by decide) (by omega) (by omega)
      exact ih.1 _ _ _ (by omega) (by omega)
theorem s_X11_needed_0 {g : gM} {m : dM} {Q : Int32 → dM → Prop} (hG : Gd g) (hI : Inv g m) (hQ : ∀ r : Int32, Q r m) : c_X11_needed_0 3 m Q := by
  refine v_X11_needed_0 ?_
  refine Wp.deep (s_X3_litWithout_2 hG hI (fun R1 => ?_)) (Nat.le_of_ble_eq_true rfl)
  have f2 := ti_0
  exact (s_X11_needed_0_all hG hI hQ 23).1 _ _ _ (by omega) (by omega)
theorem s_X11_hottest_0_all {g : gM} {Q : Int32 → dM → Prop} (hG : Gd g) (hQ : ∀ (r : Int32) (m' : dM), Inv g m' → Q r m') : ∀ n : Nat, (∀ (m : dM), Inv g m → 0 < (n : Int) → j_X11_hottest_0_9 5 m Q) ∧ (∀ (x1 : Int32) (x2 : Int32) (x3 : Int32) (x4 : Int32) (m : dM), Inv g m → (0 ≤ x1.toInt ∧ x1.toInt ≤ 1) → (-1 ≤ x2.toInt ∧ x2.toInt ≤ 9) → (0 ≤ x4.toInt ∧ x4.toInt ≤ 10) → 33 - 3 * x4.toInt < (n : Int) → j_X11_hottest_0_42 5 x1 x2 x3 x4 m Q) ∧ (∀ (x1 : Int32) (x4 : Int32) (x5 : Int32) (m : dM), Inv g m → (0 ≤ x1.toInt ∧ x1.toInt ≤ 1) → (0 ≤ x4.toInt ∧ x4.toInt ≤ 9) → 32 - 3 * x4.toInt < (n : Int) → j_X11_hottest_0_103 5 x1 x4 x5 m Q) ∧ (∀ (x1 : Int32) (x2 : Int32) (x3 : Int32) (x4 : Int32) (m : dM), Inv g m → (0 ≤ x1.toInt ∧ x1.toInt ≤ 1) → (-1 ≤ x2.toInt ∧ x2.toInt ≤ 9) → (0 ≤ x4.toInt ∧ x4.toInt ≤ 9) → 31 - 3 * x4.toInt < (n : Int) → j_X11_hottest_0_109 5 x1 x2 x3 x4 m Q) := by
  intro n
  induction n with
  | zero => exact ⟨fun m hI hμ => by exfalso; omega, fun x1 x2 x3 x4 m hI h1 h2 h4 hμ => by exfalso; omega, fun x1 x4 x5 m hI h1 h4 hμ => by exfalso; omega, fun x1 x2 x3 x4 m hI h1 h2 h4 hμ => by exfalso; omega⟩
  | succ n ih =>
    refine ⟨?_, ?_, ?_, ?_⟩
    · intro m hI hμ
      refine v_X11_hottest_0_9 ?_
      have f1 := ti_m1000
      exact hQ _ _ hI
    · intro x1 x2 x3 x4 m hI h1 h2 h4 hμ
      refine v_X11_hottest_0_42 ?_
      have f1 := congrArg Int32.toInt (hI.2 2 1 rfl)
      have f2 := Inv.s hG hI (k := 2) (j := 1) rfl rfl
      refine ⟨fun hc3 => ?_, fun hc3 => ?_⟩
      · skip
        refine ⟨fun hc4 => ?_, fun hc4 => ?_⟩
        · skip
          refine ⟨fun hc5 => ?_, fun hc5 => ?_⟩
          · skip
            exact hQ _ _ hI
          · skip
            exact hQ _ _ hI
        · skip
          have f5 := ti_m2000
          exact hQ _ _ hI
      · skip
        refine ⟨by omega, ?_⟩
        refine ⟨by omega, ?_⟩
        refine v_X11_has ?_
        have f4 := ti_1
        have f5 := dAndE (x := ((m.1 47 3).toUInt32 >>> (x4.toUInt32 &&& Int32.toUInt32 31)).toInt32) (y := (1 : Int32)) (by decide)
        refine ⟨fun hc6 => ?_, fun hc6 => ?_⟩
        · skip
          have f7 := ti_0
          refine ⟨fun hc8 => ?_, fun hc8 => ?_⟩
          · skip
            exfalso; omega
          · skip
            refine ⟨fun hc9 => ?_, fun hc9 => ?_⟩
            · skip
              exact ih.2.2.1 _ _ _ _ hI (by omega) (by omega) (by omega)
            · skip
              refine ⟨fun hc10 => ?_, fun hc10 => ?_⟩
              · skip
                exact ih.2.2.2 _ _ _ _ _ hI (by omega) (by omega) (by omega) (by omega)
              · skip
                exact ih.2.2.1 _ _ _ _ hI (by omega) (by omega) (by omega)
        · skip
          refine ⟨fun hc7 => ?_, fun hc7 => ?_⟩
          · skip
            exact ih.2.2.2 _ _ _ _ _ hI (by omega) (by omega) (by omega) (by omega)
          · skip
            exfalso; omega
    · intro x1 x4 x5 m hI h1 h4 hμ
      refine v_X11_hottest_0_103 ?_
      exact ih.2.2.2 _ _ _ _ _ hI (by omega) (by omega) (by omega) (by omega)
    · intro x1 x2 x3 x4 m hI h1 h2 h4 hμ
      refine v_X11_hottest_0_109 ?_
      have f1 := dAddE (X := x4.toInt) (Y := 1) (x := x4) (y := (1 : Int32)) rfl (by decide) (by omega) (by omega)
      exact ih.2.1 _ _ _ _ _ hI (by omega) (by omega) (by omega) (by omega)
theorem s_X11_hottest_0 {g : gM} {x1 : Int32} {m : dM} {Q : Int32 → dM → Prop} (hG : Gd g) (hI : Inv g m) (hQ : ∀ (r : Int32) (m' : dM), Inv g m' → Q r m') : c_X11_hottest_0 5 x1 m Q := by
  refine v_X11_hottest_0 ?_
  refine ⟨fun hc1 => ?_, fun hc1 => ?_⟩
  · skip
    exact (s_X11_hottest_0_all hG hQ 35).1 _ hI (by omega)
  · skip
    refine ⟨fun hc2 => ?_, fun hc2 => ?_⟩
    · skip
      refine Wp.deep (s_X0_usesNow_54_47 hG hI (fun R3 M3 I3 => ?_)) (Nat.le_of_ble_eq_true rfl)
      refine Wp.deep (s_X0_putOn_54_47 hG I3 (fun M4 I4 => ?_)) (Nat.le_of_ble_eq_true rfl)
      have f5 := ti_m1
      have f6 := ti_0
      exact (s_X11_hottest_0_all hG hQ 35).2.1 _ _ _ _ _ I4 (by omega) (by omega) (by omega) (by omega)
    · skip
      exact (s_X11_hottest_0_all hG hQ 35).1 _ hI (by omega)
end
section
theorem s_X1_clashOf_61_47 {g : gM} {x2 : Int32} {x3 : Int32} {m : dM} {Q : Int32 → dM → Prop} (hG : Gd g) (hI : Inv g m) (h2 : 0 ≤ x2.toInt ∧ x2.toInt ≤ 7) (h3 : 0 ≤ x3.toInt ∧ x3.toInt ≤ 7) (hb2 : x2.toInt < (g 2 2).toInt) (hb3 : x3.toInt < (g 2 2).toInt) (hQ : ∀ (r : Int32) (m' : dM), Inv g m' → (0 ≤ r.toInt ∧ r.toInt ≤ 63) → Q r m') : c_X1_clashOf_61_47 6 x2 x3 m Q := by
  refine v_X1_clashOf_61_47 ?_
  refine Wp.deep (s_X0_waysNow_54_47 hG hI (fun M1 I1 => ?_)) (Nat.le_of_ble_eq_true rfl)
  refine ⟨by omega, ?_⟩
  refine v_X11_has ?_
  have f2 := congrArg Int32.toInt (I1.2 2 2 rfl)
  have f3 := Inv.s hG I1 (k := 2) (j := 2) rfl rfl
  have f4 := Inv.home hG I1 (u := x2) (by omega) (by omega)
  have f5 := ti_1
  have f6 := dAndE (x := ((M1.1 57 5).toUInt32 >>> ((M1.1 7 x2.toNatClampNeg).toUInt32 &&& Int32.toUInt32 31)).toInt32) (y := (1 : Int32)) (by decide)
  refine ⟨fun hc7 => ?_, fun hc7 => ?_⟩
  · skip
    have f8 := ti_0
    refine ⟨fun hc9 => ?_, fun hc9 => ?_⟩
    · skip
      refine v_X1_clashOf_61_47_47 ?_
      exact hQ _ _ I1 (by omega)
    · skip
      exfalso; omega
  · skip
    refine ⟨fun hc8 => ?_, fun hc8 => ?_⟩
    · skip
      exfalso; omega
    · skip
      refine ⟨by omega, ?_⟩
      refine v_X11_has ?_
      have f9 := Inv.home hG I1 (u := x3) (by omega) (by omega)
      have f10 := dAndE (x := ((M1.1 57 5).toUInt32 >>> ((M1.1 7 x3.toNatClampNeg).toUInt32 &&& Int32.toUInt32 31)).toInt32) (y := (1 : Int32)) (by decide)
      refine ⟨fun hc11 => ?_, fun hc11 => ?_⟩
      · skip
        have f12 := ti_0
        refine ⟨fun hc13 => ?_, fun hc13 => ?_⟩
        · skip
          exfalso; omega
        · skip
          refine v_X1_clashOf_61_47_47 ?_
          exact hQ _ _ I1 (by omega)
      · skip
        refine ⟨fun hc12 => ?_, fun hc12 => ?_⟩
        · skip
          have f13 := dShl8 (x := x2) (by omega) (by omega)
          refine Wp.deep (s_X0_goingWith_54_47 hG I1 (fun R14 M14 I14 => ?_)) (Nat.le_of_ble_eq_true rfl)
          have f15 := dShl8 (x := x3) (by omega) (by omega)
          refine Wp.deep (s_X0_goingWith_54_47 hG I14 (fun R16 M16 I16 => ?_)) (Nat.le_of_ble_eq_true rfl)
          refine Wp.deep (s_X0_goingWith_54_47 hG I16 (fun R17 M17 I17 => ?_)) (Nat.le_of_ble_eq_true rfl)
          refine Wp.deep (s_J6_bitCount hG I17 (fun R18 hr18 => ?_)) (Nat.le_of_ble_eq_true rfl)
          exact hQ _ _ I17 (by omega)
        · skip
          exfalso; omega
theorem s_X11_clash_0 {g : gM} {x1 : Int32} {x2 : Int32} {m : dM} {Q : Int32 → dM → Prop} (hG : Gd g) (hI : Inv g m) (hQ : ∀ (r : Int32) (m' : dM), Inv g m' → (-1 ≤ r.toInt ∧ r.toInt ≤ 63) → Q r m') : c_X11_clash_0 7 x1 x2 m Q := by
  refine v_X11_clash_0 ?_
  refine v_X11_isUse_0 ?_
  refine ⟨fun hc1 => ?_, fun hc1 => ?_⟩
  · skip
    refine v_X11_isUse_0_19 ?_
    have f2 := ti_0
    refine ⟨fun hc3 => ?_, fun hc3 => ?_⟩
    · skip
      refine v_X11_clash_0_37 ?_
      have f4 := ti_m1
      exact hQ _ _ hI (by omega)
    · skip
      exfalso; omega
  · skip
    have f2 := congrArg Int32.toInt (hI.2 2 2 rfl)
    have f3 := Inv.s hG hI (k := 2) (j := 2) rfl rfl
    refine ⟨fun hc4 => ?_, fun hc4 => ?_⟩
    · skip
      refine v_X11_isUse_0_19 ?_
      have f5 := ti_0
      refine ⟨fun hc6 => ?_, fun hc6 => ?_⟩
      · skip
        refine v_X11_clash_0_37 ?_
        have f7 := ti_m1
        exact hQ _ _ hI (by omega)
      · skip
        exfalso; omega
    · skip
      have f5 := ti_1
      refine ⟨fun hc6 => ?_, fun hc6 => ?_⟩
      · skip
        exfalso; omega
      · skip
        refine v_X11_isUse_0 ?_
        refine ⟨fun hc7 => ?_, fun hc7 => ?_⟩
        · skip
          refine v_X11_isUse_0_19 ?_
          have f8 := ti_0
          refine ⟨fun hc9 => ?_, fun hc9 => ?_⟩
          · skip
            refine v_X11_clash_0_37 ?_
            have f10 := ti_m1
            exact hQ _ _ hI (by omega)
          · skip
            exfalso; omega
        · skip
          refine ⟨fun hc8 => ?_, fun hc8 => ?_⟩
          · skip
            refine v_X11_isUse_0_19 ?_
            have f9 := ti_0
            refine ⟨fun hc10 => ?_, fun hc10 => ?_⟩
            · skip
              refine v_X11_clash_0_37 ?_
              have f11 := ti_m1
              exact hQ _ _ hI (by omega)
            · skip
              exfalso; omega
          · skip
            refine ⟨fun hc9 => ?_, fun hc9 => ?_⟩
            · skip
              exfalso; omega
            · skip
              refine ⟨fun hc10 => ?_, fun hc10 => ?_⟩
              · skip
                refine v_X11_clash_0_37 ?_
                have f11 := ti_m1
                exact hQ _ _ hI (by omega)
              · skip
                refine Wp.deep (s_X1_clashOf_61_47 hG hI (by omega) (by omega) (by omega) (by omega) (fun R11 M11 I11 hr11 => ?_)) (Nat.le_of_ble_eq_true rfl)
                exact hQ _ _ I11 (by omega)
theorem s_X0_payOf_54_62 {g : gM} {x2 : Int32} {m : dM} {Q : Int32 → dM → Prop} (hG : Gd g) (hI : Inv g m) (h2 : 0 ≤ x2.toInt ∧ x2.toInt ≤ 7) (hQ : ∀ (r : Int32) (m' : dM), Inv g m' → (0 ≤ r.toInt ∧ r.toInt ≤ 99) → Q r m') : c_X0_payOf_54_62 4 x2 m Q := by
  refine v_X0_payOf_54_62 ?_
  refine v_X7_hourOfDay_62 ?_
  refine v_X7_day_62 ?_
  have f1 := dRemE (x := (m.1 62 0)) (y := (24 : Int32)) (Y := 24) (by decide) (by decide)
  refine Wp.deep (s_X0_setVars_54 hG hI (by omega) (by omega) (fun M2 I2 => ?_)) (Nat.le_of_ble_eq_true rfl)
  refine ⟨by omega, ?_⟩
  have f3 := ti_3
  have I4 : Inv g (dSet M2 55 5 (M2.1 8 x2.toNatClampNeg)) := (Inv.setA I2 rfl)
  refine Wp.deep (s_X4_tells_11_55 hG I4 (by omega) (fun R5 M5 I5 => ?_)) (Nat.le_of_ble_eq_true rfl)
  refine Wp.deep (s_X0_held hG I5 (fun R6 hr6 => ?_)) (Nat.le_of_ble_eq_true rfl)
  exact hQ _ _ I5 (by omega)
theorem s_X0_takePay_54_62_all {g : gM} {Q : dM → Prop} (hG : Gd g) (hQ : ∀ m' : dM, Inv g m' → Q m') : ∀ n : Nat, (∀ (x2 : Int32) (x3 : Int32) (m : dM), Inv g m → (0 ≤ x3.toInt ∧ x3.toInt ≤ 8) → 17 - 2 * x3.toInt < (n : Int) → j_X0_takePay_54_62_12 5 x2 x3 m Q) ∧ (∀ (x2 : Int32) (x3 : Int32) (m : dM), Inv g m → (0 ≤ x3.toInt ∧ x3.toInt ≤ 7) → 16 - 2 * x3.toInt < (n : Int) → j_X0_takePay_54_62_51 5 x2 x3 m Q) := by
  intro n
  induction n with
  | zero => exact ⟨fun x2 x3 m hI h3 hμ => by exfalso; omega, fun x2 x3 m hI h3 hμ => by exfalso; omega⟩
  | succ n ih =>
    refine ⟨?_, ?_⟩
    · intro x2 x3 m hI h3 hμ
      refine v_X0_takePay_54_62_12 ?_
      have f1 := congrArg Int32.toInt (hI.2 2 2 rfl)
      have f2 := Inv.s hG hI (k := 2) (j := 2) rfl rfl
      refine ⟨fun hc3 => ?_, fun hc3 => ?_⟩
      · skip
        exact hQ _ hI
      · skip
        refine v_X11_has ?_
        have f4 := ti_1
        have f5 := dAndE (x := (x2.toUInt32 >>> (x3.toUInt32 &&& Int32.toUInt32 31)).toInt32) (y := (1 : Int32)) (by decide)
        refine ⟨fun hc6 => ?_, fun hc6 => ?_⟩
        · skip
          have f7 := ti_0
          refine ⟨fun hc8 => ?_, fun hc8 => ?_⟩
          · skip
            exact ih.2 _ _ _ hI (by omega) (by omega)
          · skip
            exfalso; omega
        · skip
          refine ⟨fun hc7 => ?_, fun hc7 => ?_⟩
          · skip
            exfalso; omega
          · skip
            refine Wp.deep (s_X0_payOf_54_62 hG hI (by omega) (fun R8 M8 I8 hr8 => ?_)) (Nat.le_of_ble_eq_true rfl)
            have I9 : Inv g (dSet M8 62 1 (if ((m.1 62 1) + R8) < (99999 : Int32) then ((m.1 62 1) + R8) else (99999 : Int32))) := (Inv.setA I8 rfl)
            exact ih.2 _ _ _ I9 (by omega) (by omega)
    · intro x2 x3 m hI h3 hμ
      refine v_X0_takePay_54_62_51 ?_
      have f1 := dAddE (X := x3.toInt) (Y := 1) (x := x3) (y := (1 : Int32)) rfl (by decide) (by omega) (by omega)
      exact ih.1 _ _ _ hI (by omega) (by omega)
theorem s_X0_takePay_54_62 {g : gM} {m : dM} {Q : dM → Prop} (hG : Gd g) (hI : Inv g m) (hQ : ∀ m' : dM, Inv g m' → Q m') : c_X0_takePay_54_62 5 m Q := by
  refine v_X0_takePay_54_62 ?_
  refine v_X7_hourOfDay_62 ?_
  have f1 := dRemE (x := (m.1 62 0)) (y := (24 : Int32)) (Y := 24) (by decide) (by decide)
  refine Wp.deep (s_X0_usesAt_54_62 hG hI (by omega) (fun R2 M2 I2 => ?_)) (Nat.le_of_ble_eq_true rfl)
  have f3 := ti_0
  exact (s_X0_takePay_54_62_all hG hQ 19).1 _ _ _ I2 (by omega) (by omega)
theorem s_X0_quarrelOf_54_62 {g : gM} {x2 : Int32} {m : dM} {Q : Int32 → dM → Prop} (hG : Gd g) (hI : Inv g m) (h2 : 0 ≤ x2.toInt ∧ x2.toInt ≤ 6) (hQ : ∀ (r : Int32) (m' : dM), Inv g m' → (0 ≤ r.toInt ∧ r.toInt ≤ 99) → Q r m') : c_X0_quarrelOf_54_62 4 x2 m Q := by
  refine v_X0_quarrelOf_54_62 ?_
  refine v_X7_hourOfDay_62 ?_
  refine v_X7_day_62 ?_
  have f1 := dRemE (x := (m.1 62 0)) (y := (24 : Int32)) (Y := 24) (by decide) (by decide)
  refine Wp.deep (s_X0_setVars_54 hG hI (by omega) (by omega) (fun M2 I2 => ?_)) (Nat.le_of_ble_eq_true rfl)
  refine ⟨by omega, ?_⟩
  refine ⟨by omega, ?_⟩
  have f3 := ti_1
  have I4 : Inv g (dSet M2 55 6 (M2.1 3 x2.toNatClampNeg)) := (Inv.setA I2 rfl)
  have I5 : Inv g (dSet (dSet M2 55 6 (M2.1 3 x2.toNatClampNeg)) 55 7 (M2.1 65 x2.toNatClampNeg)) := (Inv.setA I4 rfl)
  refine Wp.deep (s_X4_tells_11_55 hG I5 (by omega) (fun R6 M6 I6 => ?_)) (Nat.le_of_ble_eq_true rfl)
  refine Wp.deep (s_X0_held hG I6 (fun R7 hr7 => ?_)) (Nat.le_of_ble_eq_true rfl)
  exact hQ _ _ I6 (by omega)
theorem s_X0_countQuarrels_54_62_all {g : gM} {Q : dM → Prop} (hG : Gd g) (hQ : ∀ m' : dM, Inv g m' → Q m') : ∀ n : Nat, (∀ (x2 : Int32) (m : dM), Inv g m → (0 ≤ x2.toInt ∧ x2.toInt ≤ 7) → 15 - 2 * x2.toInt < (n : Int) → j_X0_countQuarrels_54_62_13 5 x2 m Q) ∧ (∀ (x2 : Int32) (m : dM), Inv g m → (0 ≤ x2.toInt ∧ x2.toInt ≤ 6) → 14 - 2 * x2.toInt < (n : Int) → j_X0_countQuarrels_54_62_78 5 x2 m Q) := by
  intro n
  induction n with
  | zero => exact ⟨fun x2 m hI h2 hμ => by exfalso; omega, fun x2 m hI h2 hμ => by exfalso; omega⟩
  | succ n ih =>
    refine ⟨?_, ?_⟩
    · intro x2 m hI h2 hμ
      refine v_X0_countQuarrels_54_62_13 ?_
      have f1 := congrArg Int32.toInt (hI.2 2 0 rfl)
      have f2 := Inv.s hG hI (k := 2) (j := 0) rfl rfl
      refine ⟨fun hc3 => ?_, fun hc3 => ?_⟩
      · skip
        exact hQ _ hI
      · skip
        refine v_X11_has ?_
        have f4 := ti_1
        have f5 := dAndE (x := ((m.1 57 5).toUInt32 >>> (x2.toUInt32 &&& Int32.toUInt32 31)).toInt32) (y := (1 : Int32)) (by decide)
        refine ⟨fun hc6 => ?_, fun hc6 => ?_⟩
        · skip
          have f7 := ti_0
          refine ⟨fun hc8 => ?_, fun hc8 => ?_⟩
          · skip
            refine Wp.deep (s_X0_quarrelOf_54_62 hG hI (by omega) (fun R9 M9 I9 hr9 => ?_)) (Nat.le_of_ble_eq_true rfl)
            refine ⟨by omega, ?_⟩
            refine ⟨by omega, ?_⟩
            have I10 : Inv g (dSet M9 62 2 (if ((m.1 62 2) + R9) < (999999 : Int32) then ((m.1 62 2) + R9) else (999999 : Int32))) := (Inv.setA I9 rfl)
            have I11 : Inv g (dSet (dSet M9 62 2 (if ((m.1 62 2) + R9) < (999999 : Int32) then ((m.1 62 2) + R9) else (999999 : Int32))) 65 x2.toNatClampNeg ((M9.1 65 x2.toNatClampNeg) + (1 : Int32))) := (Inv.setA I10 rfl)
            exact ih.2 _ _ I11 (by omega) (by omega)
          · skip
            exfalso; omega
        · skip
          refine ⟨fun hc7 => ?_, fun hc7 => ?_⟩
          · skip
            exfalso; omega
          · skip
            refine ⟨by omega, ?_⟩
            have I8 : Inv g (dSet m 65 x2.toNatClampNeg (0 : Int32)) := (Inv.setA hI rfl)
            exact ih.2 _ _ I8 (by omega) (by omega)
    · intro x2 m hI h2 hμ
      refine v_X0_countQuarrels_54_62_78 ?_
      have f1 := dAddE (X := x2.toInt) (Y := 1) (x := x2) (y := (1 : Int32)) rfl (by decide) (by omega) (by omega)
      exact ih.1 _ _ hI (by omega) (by omega)
theorem s_X0_countQuarrels_54_62 {g : gM} {m : dM} {Q : dM → Prop} (hG : Gd g) (hI : Inv g m) (hQ : ∀ m' : dM, Inv g m' → Q m') : c_X0_countQuarrels_54_62 5 m Q := by
  refine v_X0_countQuarrels_54_62 ?_
  refine Wp.deep (s_X10_lay_57 hG hI (fun M1 I1 => ?_)) (Nat.le_of_ble_eq_true rfl)
  have f2 := ti_0
  exact (s_X0_countQuarrels_54_62_all hG hQ 17).1 _ _ I1 (by omega) (by omega)
theorem s_X0_passHour_54_62 {g : gM} {m : dM} {Q : dM → Prop} (hG : Gd g) (hI : Inv g m) (hQ : ∀ m' : dM, Inv g m' → Q m') : c_X0_passHour_54_62 6 m Q := by
  refine v_X0_passHour_54_62 ?_
  refine Wp.deep (s_X0_takePay_54_62 hG hI (fun M1 I1 => ?_)) (Nat.le_of_ble_eq_true rfl)
  refine Wp.deep (s_X0_countQuarrels_54_62 hG I1 (fun M2 I2 => ?_)) (Nat.le_of_ble_eq_true rfl)
  have f3 := congrArg Int32.toInt (I2.2 2 6 rfl)
  refine Wp.deep (s_X0_surgeOf_54 hG I2 (fun R4 => ?_)) (Nat.le_of_ble_eq_true rfl)
  refine Wp.deep (s_X0_passWires_54_62 hG I2 (fun R5 M5 I5 => ?_)) (Nat.le_of_ble_eq_true rfl)
  exact hQ _ I5
theorem s_X1_after_61_47_all {g : gM} {Q : dM → Prop} (hG : Gd g) (hQ : ∀ m' : dM, Inv g m' → Q m') : ∀ n : Nat, (∀ (x2 : Int32) (x3 : Int32) (m : dM), Inv g m → (0 ≤ x2.toInt ∧ x2.toInt ≤ 72) → (0 ≤ x3.toInt ∧ x3.toInt ≤ 72) → 72 - 1 * x3.toInt < (n : Int) → j_X1_after_61_47_10 7 x2 x3 m Q) := by
  intro n
  induction n with
  | zero => exact fun x2 x3 m hI h2 h3 hμ => by exfalso; omega
  | succ n ih =>
    · intro x2 x3 m hI h2 h3 hμ
      refine v_X1_after_61_47_10 ?_
      refine ⟨fun hc1 => ?_, fun hc1 => ?_⟩
      · skip
        exact hQ _ hI
      · skip
        refine Wp.deep (s_X0_passHour_54_62 hG hI (fun M2 I2 => ?_)) (Nat.le_of_ble_eq_true rfl)
        have f3 := dAddE (X := x3.toInt) (Y := 1) (x := x3) (y := (1 : Int32)) rfl (by decide) (by omega) (by omega)
        exact ih _ _ _ I2 (by omega) (by omega) (by omega)
theorem s_X1_after_61_47 {g : gM} {x2 : Int32} {m : dM} {Q : dM → Prop} (hG : Gd g) (hI : Inv g m) (h2 : 0 ≤ x2.toInt ∧ x2.toInt ≤ 72) (hQ : ∀ m' : dM, Inv g m' → Q m') : c_X1_after_61_47 7 x2 m Q := by
  refine v_X1_after_61_47 ?_
  refine Wp.deep (s_X7_copy_62_47 hG hI (fun M1 I1 => ?_)) (Nat.le_of_ble_eq_true rfl)
  have f2 := ti_0
  exact (s_X1_after_61_47_all hG hQ 74) _ _ _ I1 (by omega) (by omega) (by omega)
theorem s_X11_then_0 {g : gM} {x1 : Int32} {x2 : Int32} {m : dM} {Q : Int32 → dM → Prop} (hG : Gd g) (hI : Inv g m) (hQ : ∀ (r : Int32) (m' : dM), Inv g m' → Q r m') : c_X11_then_0 8 x1 x2 m Q := by
  refine v_X11_then_0 ?_
  refine ⟨fun hc1 => ?_, fun hc1 => ?_⟩
  · skip
    refine v_X11_then_0_19 ?_
    have f2 := ti_m1
    exact hQ _ _ hI
  · skip
    refine ⟨fun hc2 => ?_, fun hc2 => ?_⟩
    · skip
      refine v_X11_then_0_19 ?_
      have f3 := ti_m1
      exact hQ _ _ hI
    · skip
      refine ⟨fun hc3 => ?_, fun hc3 => ?_⟩
      · skip
        refine v_X11_then_0_19 ?_
        have f4 := ti_m1
        exact hQ _ _ hI
      · skip
        refine ⟨fun hc4 => ?_, fun hc4 => ?_⟩
        · skip
          refine Wp.deep (s_X1_after_61_47 hG hI (by omega) (fun M5 I5 => ?_)) (Nat.le_of_ble_eq_true rfl)
          refine ⟨fun hc6 => ?_, fun hc6 => ?_⟩
          · skip
            refine ⟨fun hc7 => ?_, fun hc7 => ?_⟩
            · skip
              refine Wp.deep (s_J6_bitCount hG I5 (fun R8 hr8 => ?_)) (Nat.le_of_ble_eq_true rfl)
              exact hQ _ _ I5
            · skip
              exact hQ _ _ I5
          · skip
            exact hQ _ _ I5
        · skip
          refine v_X11_then_0_19 ?_
          have f5 := ti_m1
          exact hQ _ _ hI
theorem s_X11_litIn_0 {g : gM} {x1 : Int32} {x2 : Int32} {m : dM} {Q : Int32 → dM → Prop} (hG : Gd g) (hI : Inv g m) (hQ : ∀ (r : Int32) (m' : dM), Inv g m' → (-1 ≤ r.toInt ∧ r.toInt ≤ 1) → Q r m') : c_X11_litIn_0 8 x1 x2 m Q := by
  refine v_X11_litIn_0 ?_
  refine v_X11_isFlat_0 ?_
  refine ⟨fun hc1 => ?_, fun hc1 => ?_⟩
  · skip
    refine v_X11_isFlat_0_19 ?_
    have f2 := ti_0
    refine ⟨fun hc3 => ?_, fun hc3 => ?_⟩
    · skip
      refine v_X11_litIn_0_18 ?_
      have f4 := ti_m1
      exact hQ _ _ hI (by omega)
    · skip
      exfalso; omega
  · skip
    have f2 := congrArg Int32.toInt (hI.2 2 0 rfl)
    have f3 := Inv.s hG hI (k := 2) (j := 0) rfl rfl
    refine ⟨fun hc4 => ?_, fun hc4 => ?_⟩
    · skip
      refine v_X11_isFlat_0_19 ?_
      have f5 := ti_0
      refine ⟨fun hc6 => ?_, fun hc6 => ?_⟩
      · skip
        refine v_X11_litIn_0_18 ?_
        have f7 := ti_m1
        exact hQ _ _ hI (by omega)
      · skip
        exfalso; omega
    · skip
      have f5 := ti_1
      refine ⟨fun hc6 => ?_, fun hc6 => ?_⟩
      · skip
        exfalso; omega
      · skip
        refine ⟨fun hc7 => ?_, fun hc7 => ?_⟩
        · skip
          refine v_X11_litIn_0_18 ?_
          have f8 := ti_m1
          exact hQ _ _ hI (by omega)
        · skip
          refine ⟨fun hc8 => ?_, fun hc8 => ?_⟩
          · skip
            refine Wp.deep (s_X1_after_61_47 hG hI (by omega) (fun M9 I9 => ?_)) (Nat.le_of_ble_eq_true rfl)
            refine Wp.deep (s_X3_litWithout_2 hG I9 (fun R10 => ?_)) (Nat.le_of_ble_eq_true rfl)
            refine v_X11_has ?_
            have f11 := dAndE (x := (R10.toUInt32 >>> (x1.toUInt32 &&& Int32.toUInt32 31)).toInt32) (y := (1 : Int32)) (by decide)
            refine ⟨fun hc12 => ?_, fun hc12 => ?_⟩
            · skip
              have f13 := ti_0
              refine ⟨fun hc14 => ?_, fun hc14 => ?_⟩
              · skip
                exact hQ _ _ I9 (by omega)
              · skip
                exfalso; omega
            · skip
              refine ⟨fun hc13 => ?_, fun hc13 => ?_⟩
              · skip
                exfalso; omega
              · skip
                exact hQ _ _ I9 (by omega)
          · skip
            refine v_X11_litIn_0_18 ?_
            have f9 := ti_m1
            exact hQ _ _ hI (by omega)
theorem s_X1_isCalm_61_47_all {g : gM} {Q : Int32 → dM → Prop} (hG : Gd g) (hQ : ∀ (r : Int32) (m' : dM), Inv g m' → (0 ≤ r.toInt ∧ r.toInt ≤ 1) → Q r m') : ∀ n : Nat, (∀ (x2 : Int32) (x3 : Int32) (x4 : Int32) (m : dM), Inv g m → (0 ≤ x2.toInt ∧ x2.toInt ≤ 72) → (0 ≤ x4.toInt ∧ x4.toInt ≤ 72) → 72 - 1 * x4.toInt < (n : Int) → j_X1_isCalm_61_47_11 6 x2 x3 x4 m Q) := by
  intro n
  induction n with
  | zero => exact fun x2 x3 x4 m hI h2 h4 hμ => by exfalso; omega
  | succ n ih =>
    · intro x2 x3 x4 m hI h2 h4 hμ
      refine v_X1_isCalm_61_47_11 ?_
      refine ⟨fun hc1 => ?_, fun hc1 => ?_⟩
      · skip
        have f2 := ti_1
        exact hQ _ _ hI (by omega)
      · skip
        refine Wp.deep (s_X0_surgeOf_54 hG hI (fun R2 => ?_)) (Nat.le_of_ble_eq_true rfl)
        refine Wp.deep (s_X0_passWires_54_62 hG hI (fun R3 M3 I3 => ?_)) (Nat.le_of_ble_eq_true rfl)
        refine ⟨fun hc4 => ?_, fun hc4 => ?_⟩
        · skip
          have f5 := dAddE (X := x4.toInt) (Y := 1) (x := x4) (y := (1 : Int32)) rfl (by decide) (by omega) (by omega)
          exact ih _ _ _ _ I3 (by omega) (by omega) (by omega)
        · skip
          have f5 := ti_0
          exact hQ _ _ I3 (by omega)
theorem s_X1_isCalm_61_47 {g : gM} {x2 : Int32} {x3 : Int32} {m : dM} {Q : Int32 → dM → Prop} (hG : Gd g) (hI : Inv g m) (h2 : 0 ≤ x2.toInt ∧ x2.toInt ≤ 72) (hQ : ∀ (r : Int32) (m' : dM), Inv g m' → (0 ≤ r.toInt ∧ r.toInt ≤ 1) → Q r m') : c_X1_isCalm_61_47 6 x2 x3 m Q := by
  refine v_X1_isCalm_61_47 ?_
  refine Wp.deep (s_X7_copy_62_47 hG hI (fun M1 I1 => ?_)) (Nat.le_of_ble_eq_true rfl)
  have f2 := ti_0
  exact (s_X1_isCalm_61_47_all hG hQ 74) _ _ _ _ I1 (by omega) (by omega) (by omega)
theorem s_X1_calmSeeds_61_47_all {g : gM} {Q : Int32 → dM → Prop} (hG : Gd g) (hQ : ∀ (r : Int32) (m' : dM), Inv g m' → Q r m') : ∀ n : Nat, (∀ (x2 : Int32) (x3 : Int32) (x4 : Int32) (x5 : Int32) (m : dM), Inv g m → (0 ≤ x2.toInt ∧ x2.toInt ≤ 72) → (1 ≤ x3.toInt ∧ x3.toInt ≤ 20) → (0 ≤ x5.toInt ∧ x5.toInt ≤ 20) → 20 - 1 * x5.toInt < (n : Int) → j_X1_calmSeeds_61_47_6 7 x2 x3 x4 x5 m Q) := by
  intro n
  induction n with
  | zero => exact fun x2 x3 x4 x5 m hI h2 h3 h5 hμ => by exfalso; omega
  | succ n ih =>
    · intro x2 x3 x4 x5 m hI h2 h3 h5 hμ
      refine v_X1_calmSeeds_61_47_6 ?_
      refine ⟨fun hc1 => ?_, fun hc1 => ?_⟩
      · skip
        exact hQ _ _ hI
      · skip
        have f2 := congrArg Int32.toInt (hI.2 2 6 rfl)
        refine Wp.deep (s_X1_isCalm_61_47 hG hI (by omega) (fun R3 M3 I3 hr3 => ?_)) (Nat.le_of_ble_eq_true rfl)
        refine ⟨fun hc4 => ?_, fun hc4 => ?_⟩
        · skip
          have f5 := dAddE (X := x5.toInt) (Y := 1) (x := x5) (y := (1 : Int32)) rfl (by decide) (by omega) (by omega)
          exact ih _ _ _ _ _ I3 (by omega) (by omega) (by omega) (by omega)
        · skip
          have f5 := dAddE (X := x5.toInt) (Y := 1) (x := x5) (y := (1 : Int32)) rfl (by decide) (by omega) (by omega)
          exact ih _ _ _ _ _ I3 (by omega) (by omega) (by omega) (by omega)
theorem s_X1_calmSeeds_61_47 {g : gM} {x2 : Int32} {x3 : Int32} {m : dM} {Q : Int32 → dM → Prop} (hG : Gd g) (hI : Inv g m) (h2 : 0 ≤ x2.toInt ∧ x2.toInt ≤ 72) (h3 : 1 ≤ x3.toInt ∧ x3.toInt ≤ 20) (hQ : ∀ (r : Int32) (m' : dM), Inv g m' → Q r m') : c_X1_calmSeeds_61_47 7 x2 x3 m Q := by
  refine v_X1_calmSeeds_61_47 ?_
  have f1 := ti_0
  exact (s_X1_calmSeeds_61_47_all hG hQ 22) _ _ _ _ _ hI (by omega) (by omega) (by omega) (by omega)
theorem s_X11_year_0 {g : gM} {x1 : Int32} {x2 : Int32} {m : dM} {Q : Int32 → dM → Prop} (hG : Gd g) (hI : Inv g m) (hQ : ∀ (r : Int32) (m' : dM), Inv g m' → Q r m') : c_X11_year_0 8 x1 x2 m Q := by
  refine v_X11_year_0 ?_
  refine ⟨fun hc1 => ?_, fun hc1 => ?_⟩
  · skip
    refine v_X11_year_0_21 ?_
    have f2 := ti_m1
    exact hQ _ _ hI
  · skip
    refine ⟨fun hc2 => ?_, fun hc2 => ?_⟩
    · skip
      refine v_X11_year_0_21 ?_
      have f3 := ti_m1
      exact hQ _ _ hI
    · skip
      refine ⟨fun hc3 => ?_, fun hc3 => ?_⟩
      · skip
        refine v_X11_year_0_21 ?_
        have f4 := ti_m1
        exact hQ _ _ hI
      · skip
        refine ⟨fun hc4 => ?_, fun hc4 => ?_⟩
        · skip
          refine Wp.deep (s_X1_calmSeeds_61_47 hG hI (by omega) (by omega) (fun R5 M5 I5 => ?_)) (Nat.le_of_ble_eq_true rfl)
          exact hQ _ _ I5
        · skip
          refine v_X11_year_0_21 ?_
          have f5 := ti_m1
          exact hQ _ _ hI
theorem s_X9_isSo_67_all {g : gM} {Q : Int32 → dM → Prop} {m : dM} (hG : Gd g) (hI : Inv g m) (hQ : ∀ r : Int32, (0 ≤ r.toInt ∧ r.toInt ≤ 1) → Q r m) : ∀ n : Nat, (∀ (x1 : Int32) (x2 : Int32) (x3 : Int32), (0 ≤ x2.toInt ∧ x2.toInt ≤ 20) → (0 ≤ x3.toInt ∧ x3.toInt ≤ 20) → 21 - 1 * x3.toInt < (n : Int) → j_X9_isSo_67_2 2 x1 x2 x3 m Q) ∧ (0 < (n : Int) → j_X9_isSo_67_42 2 m Q) := by
  intro n
  induction n with
  | zero => exact ⟨fun x1 x2 x3 h2 h3 hμ => by exfalso; omega, fun hμ => by exfalso; omega⟩
  | succ n ih =>
    refine ⟨?_, ?_⟩
    · intro x1 x2 x3 h2 h3 hμ
      refine v_X9_isSo_67_2 ?_
      refine ⟨fun hc1 => ?_, fun hc1 => ?_⟩
      · skip
        exact ih.2 (by omega)
      · skip
        have f2 := congrArg Int32.toInt (hI.2 67 3 rfl)
        have f3 := Inv.s hG hI (k := 67) (j := 3) rfl rfl
        refine ⟨fun hc4 => ?_, fun hc4 => ?_⟩
        · skip
          exact ih.2 (by omega)
        · skip
          refine ⟨by omega, ?_⟩
          refine v_X11_has ?_
          have f5 := ti_1
          have f6 := dAndE (x := (x1.toUInt32 >>> ((m.1 68 x3.toNatClampNeg).toUInt32 &&& Int32.toUInt32 31)).toInt32) (y := (1 : Int32)) (by decide)
          refine ⟨fun hc7 => ?_, fun hc7 => ?_⟩
          · skip
            refine ⟨by omega, ?_⟩
            have f8 := ti_0
            refine ⟨fun hc9 => ?_, fun hc9 => ?_⟩
            · skip
              have f10 := dAddE (X := x3.toInt) (Y := 1) (x := x3) (y := (1 : Int32)) rfl (by decide) (by omega) (by omega)
              exact ih.1 _ _ _ (by omega) (by omega) (by omega)
            · skip
              exact hQ _ (by omega)
          · skip
            refine ⟨by omega, ?_⟩
            refine ⟨fun hc8 => ?_, fun hc8 => ?_⟩
            · skip
              have f9 := dAddE (X := x3.toInt) (Y := 1) (x := x3) (y := (1 : Int32)) rfl (by decide) (by omega) (by omega)
              exact ih.1 _ _ _ (by omega) (by omega) (by omega)
            · skip
              have f9 := ti_0
              exact hQ _ (by omega)
    · intro hμ
      refine v_X9_isSo_67_42 ?_
      have f1 := ti_1
      exact hQ _ (by omega)
theorem s_X9_isSo_67 {g : gM} {x1 : Int32} {x2 : Int32} {m : dM} {Q : Int32 → dM → Prop} (hG : Gd g) (hI : Inv g m) (h2 : 0 ≤ x2.toInt ∧ x2.toInt ≤ 20) (hQ : ∀ r : Int32, (0 ≤ r.toInt ∧ r.toInt ≤ 1) → Q r m) : c_X9_isSo_67 2 x1 x2 m Q := by
  refine v_X9_isSo_67 ?_
  have f1 := ti_0
  exact (s_X9_isSo_67_all hG hI hQ 23).1 _ _ _ (by omega) (by omega) (by omega)
theorem s_X9_suspects_67_all {g : gM} {Q : Int32 → dM → Prop} {m : dM} (hG : Gd g) (hI : Inv g m) (hQ : ∀ r : Int32, Q r m) : ∀ n : Nat, (∀ (x1 : Int32) (x2 : Int32) (x3 : Int32) (x4 : Int32), (0 ≤ x2.toInt ∧ x2.toInt ≤ 20) → (0 ≤ x4.toInt ∧ x4.toInt ≤ 10) → 21 - 2 * x4.toInt < (n : Int) → j_X9_suspects_67_5 3 x1 x2 x3 x4 m Q) ∧ (∀ (x1 : Int32) (x2 : Int32) (x3 : Int32) (x4 : Int32), (0 ≤ x2.toInt ∧ x2.toInt ≤ 20) → (0 ≤ x4.toInt ∧ x4.toInt ≤ 9) → 20 - 2 * x4.toInt < (n : Int) → j_X9_suspects_67_54 3 x1 x2 x3 x4 m Q) := by
  intro n
  induction n with
  | zero => exact ⟨fun x1 x2 x3 x4 h2 h4 hμ => by exfalso; omega, fun x1 x2 x3 x4 h2 h4 hμ => by exfalso; omega⟩
  | succ n ih =>
    refine ⟨?_, ?_⟩
    · intro x1 x2 x3 x4 h2 h4 hμ
      refine v_X9_suspects_67_5 ?_
      have f1 := congrArg Int32.toInt (hI.2 2 1 rfl)
      have f2 := Inv.s hG hI (k := 2) (j := 1) rfl rfl
      refine ⟨fun hc3 => ?_, fun hc3 => ?_⟩
      · skip
        exact hQ _
      · skip
        refine v_X11_has ?_
        have f4 := ti_1
        have f5 := dAndE (x := (x1.toUInt32 >>> (x4.toUInt32 &&& Int32.toUInt32 31)).toInt32) (y := (1 : Int32)) (by decide)
        refine ⟨fun hc6 => ?_, fun hc6 => ?_⟩
        · skip
          have f7 := ti_0
          refine ⟨fun hc8 => ?_, fun hc8 => ?_⟩
          · skip
            exfalso; omega
          · skip
            have f9 := dShl10 (x := x4) (by omega) (by omega)
            refine Wp.deep (s_X3_litWithout_2 hG hI (fun R10 => ?_)) (Nat.le_of_ble_eq_true rfl)
            refine Wp.deep (s_X9_isSo_67 hG hI (by omega) (fun R11 hr11 => ?_)) (Nat.le_of_ble_eq_true rfl)
            refine ⟨fun hc12 => ?_, fun hc12 => ?_⟩
            · skip
              exact ih.2 _ _ _ _ (by omega) (by omega) (by omega)
            · skip
              exact ih.2 _ _ _ _ (by omega) (by omega) (by omega)
        · skip
          refine ⟨fun hc7 => ?_, fun hc7 => ?_⟩
          · skip
            exact ih.2 _ _ _ _ (by omega) (by omega) (by omega)
          · skip
            exfalso; omega
    · intro x1 x2 x3 x4 h2 h4 hμ
      refine v_X9_suspects_67_54 ?_
      have f1 := dAddE (X := x4.toInt) (Y := 1) (x := x4) (y := (1 : Int32)) rfl (by decide) (by omega) (by omega)
      exact ih.1 _ _ _ _ (by omega) (by omega) (by omega)
theorem s_X9_suspects_67 {g : gM} {x1 : Int32} {x2 : Int32} {m : dM} {Q : Int32 → dM → Prop} (hG : Gd g) (hI : Inv g m) (h2 : 0 ≤ x2.toInt ∧ x2.toInt ≤ 20) (hQ : ∀ r : Int32, Q r m) : c_X9_suspects_67 3 x1 x2 m Q := by
  refine v_X9_suspects_67 ?_
  have f1 := ti_0
  exact (s_X9_suspects_67_all hG hI hQ 23).1 _ _ _ _ (by omega) (by omega) (by omega)
theorem s_X11_went_0 {g : gM} {x1 : Int32} {x2 : Int32} {m : dM} {Q : Int32 → dM → Prop} (hG : Gd g) (hI : Inv g m) (hQ : ∀ r : Int32, Q r m) : c_X11_went_0 4 x1 x2 m Q := by
  refine v_X11_went_0 ?_
  refine ⟨fun hc1 => ?_, fun hc1 => ?_⟩
  · skip
    refine v_X11_went_0_24 ?_
    have f2 := ti_m1
    exact hQ _
  · skip
    have f2 := congrArg Int32.toInt (hI.2 67 3 rfl)
    have f3 := Inv.s hG hI (k := 67) (j := 3) rfl rfl
    refine ⟨fun hc4 => ?_, fun hc4 => ?_⟩
    · skip
      refine v_X11_went_0_24 ?_
      have f5 := ti_m1
      exact hQ _
    · skip
      refine ⟨fun hc5 => ?_, fun hc5 => ?_⟩
      · skip
        refine v_X11_went_0_24 ?_
        have f6 := ti_m1
        exact hQ _
      · skip
        refine ⟨fun hc6 => ?_, fun hc6 => ?_⟩
        · skip
          refine Wp.deep (s_X9_suspects_67 hG hI (by omega) (fun R7 => ?_)) (Nat.le_of_ble_eq_true rfl)
          refine ⟨fun hc8 => ?_, fun hc8 => ?_⟩
          · skip
            exact hQ _
          · skip
            refine Wp.deep (s_J6_bitCount hG hI (fun R9 hr9 => ?_)) (Nat.le_of_ble_eq_true rfl)
            exact hQ _
        · skip
          refine v_X11_went_0_24 ?_
          have f7 := ti_m1
          exact hQ _
theorem s_X9_leftAtWorst_67_all {g : gM} {Q : Int32 → dM → Prop} {m : dM} (hG : Gd g) (hI : Inv g m) (hQ : ∀ r : Int32, Q r m) : ∀ n : Nat, (∀ (x1 : Int32) (x2 : Int32) (x3 : Int32) (x4 : Int32) (x5 : Int32), (0 ≤ x3.toInt ∧ x3.toInt ≤ 6) → (0 ≤ x5.toInt ∧ x5.toInt ≤ 10) → 10 - 1 * x5.toInt < (n : Int) → j_X9_leftAtWorst_67_6 3 x1 x2 x3 x4 x5 m Q) := by
  intro n
  induction n with
  | zero => exact fun x1 x2 x3 x4 x5 h3 h5 hμ => by exfalso; omega
  | succ n ih =>
    · intro x1 x2 x3 x4 x5 h3 h5 hμ
      refine v_X9_leftAtWorst_67_6 ?_
      have f1 := congrArg Int32.toInt (hI.2 2 1 rfl)
      have f2 := Inv.s hG hI (k := 2) (j := 1) rfl rfl
      refine ⟨fun hc3 => ?_, fun hc3 => ?_⟩
      · skip
        refine Wp.deep (s_J6_bitCount hG hI (fun R4 hr4 => ?_)) (Nat.le_of_ble_eq_true rfl)
        have f5 := dMaxE x4 (R4 - x4)
        exact hQ _
      · skip
        refine v_X11_has ?_
        have f4 := ti_1
        have f5 := dAndE (x := (x2.toUInt32 >>> (x5.toUInt32 &&& Int32.toUInt32 31)).toInt32) (y := (1 : Int32)) (by decide)
        refine ⟨fun hc6 => ?_, fun hc6 => ?_⟩
        · skip
          have f7 := ti_0
          refine ⟨fun hc8 => ?_, fun hc8 => ?_⟩
          · skip
            have f9 := dAddE (X := x5.toInt) (Y := 1) (x := x5) (y := (1 : Int32)) rfl (by decide) (by omega) (by omega)
            exact ih _ _ _ _ _ (by omega) (by omega) (by omega)
          · skip
            exfalso; omega
        · skip
          refine ⟨fun hc7 => ?_, fun hc7 => ?_⟩
          · skip
            exfalso; omega
          · skip
            have f8 := dShl10 (x := x5) (by omega) (by omega)
            refine Wp.deep (s_X3_litWithout_2 hG hI (fun R9 => ?_)) (Nat.le_of_ble_eq_true rfl)
            refine v_X11_has ?_
            have f10 := dAndE (x := (R9.toUInt32 >>> (x3.toUInt32 &&& Int32.toUInt32 31)).toInt32) (y := (1 : Int32)) (by decide)
            refine ⟨fun hc11 => ?_, fun hc11 => ?_⟩
            · skip
              have f12 := ti_0
              refine ⟨fun hc13 => ?_, fun hc13 => ?_⟩
              · skip
                have f14 := dAddE (X := x5.toInt) (Y := 1) (x := x5) (y := (1 : Int32)) rfl (by decide) (by omega) (by omega)
                exact ih _ _ _ _ _ (by omega) (by omega) (by omega)
              · skip
                exfalso; omega
            · skip
              refine ⟨fun hc12 => ?_, fun hc12 => ?_⟩
              · skip
                exfalso; omega
              · skip
                have f13 := dAddE (X := x5.toInt) (Y := 1) (x := x5) (y := (1 : Int32)) rfl (by decide) (by omega) (by omega)
                exact ih _ _ _ _ _ (by omega) (by omega) (by omega)
theorem s_X9_leftAtWorst_67 {g : gM} {x1 : Int32} {x2 : Int32} {x3 : Int32} {m : dM} {Q : Int32 → dM → Prop} (hG : Gd g) (hI : Inv g m) (h3 : 0 ≤ x3.toInt ∧ x3.toInt ≤ 6) (hQ : ∀ r : Int32, Q r m) : c_X9_leftAtWorst_67 3 x1 x2 x3 m Q := by
  refine v_X9_leftAtWorst_67 ?_
  have f1 := ti_0
  exact (s_X9_leftAtWorst_67_all hG hI hQ 12) _ _ _ _ _ (by omega) (by omega) (by omega)
theorem s_X9_bestQuestion_67_all {g : gM} {Q : Int32 → dM → Prop} {m : dM} (hG : Gd g) (hI : Inv g m) (hQ : ∀ r : Int32, (-2 ≤ r.toInt ∧ r.toInt ≤ 6) → Q r m) : ∀ n : Nat, (∀ (x1 : Int32) (x3 : Int32) (x4 : Int32) (x5 : Int32) (x6 : Int32), (-2 ≤ x4.toInt ∧ x4.toInt ≤ 6) → (0 ≤ x6.toInt ∧ x6.toInt ≤ 7) → 16 - 2 * x6.toInt < (n : Int) → j_X9_bestQuestion_67_18 4 x1 x3 x4 x5 x6 m Q) ∧ (∀ (x1 : Int32) (x3 : Int32) (x4 : Int32) (x5 : Int32) (x6 : Int32), (-2 ≤ x4.toInt ∧ x4.toInt ≤ 6) → (0 ≤ x6.toInt ∧ x6.toInt ≤ 6) → 15 - 2 * x6.toInt < (n : Int) → j_X9_bestQuestion_67_59 4 x1 x3 x4 x5 x6 m Q) ∧ (∀ (x4 : Int32), (-2 ≤ x4.toInt ∧ x4.toInt ≤ 6) → 0 < (n : Int) → j_X9_bestQuestion_67_65 4 x4 m Q) := by
  intro n
  induction n with
  | zero => exact ⟨fun x1 x3 x4 x5 x6 h4 h6 hμ => by exfalso; omega, fun x1 x3 x4 x5 x6 h4 h6 hμ => by exfalso; omega, fun x4 h4 hμ => by exfalso; omega⟩
  | succ n ih =>
    refine ⟨?_, ?_, ?_⟩
    · intro x1 x3 x4 x5 x6 h4 h6 hμ
      refine v_X9_bestQuestion_67_18 ?_
      have f1 := congrArg Int32.toInt (hI.2 2 0 rfl)
      have f2 := Inv.s hG hI (k := 2) (j := 0) rfl rfl
      refine ⟨fun hc3 => ?_, fun hc3 => ?_⟩
      · skip
        exact ih.2.2 _ (by omega) (by omega)
      · skip
        refine ⟨fun hc4 => ?_, fun hc4 => ?_⟩
        · skip
          exact ih.2.2 _ (by omega) (by omega)
        · skip
          refine Wp.deep (s_X9_leftAtWorst_67 hG hI (by omega) (fun R5 => ?_)) (Nat.le_of_ble_eq_true rfl)
          refine ⟨fun hc6 => ?_, fun hc6 => ?_⟩
          · skip
            exact ih.2.1 _ _ _ _ _ (by omega) (by omega) (by omega)
          · skip
            exact ih.2.1 _ _ _ _ _ (by omega) (by omega) (by omega)
    · intro x1 x3 x4 x5 x6 h4 h6 hμ
      refine v_X9_bestQuestion_67_59 ?_
      have f1 := dAddE (X := x6.toInt) (Y := 1) (x := x6) (y := (1 : Int32)) rfl (by decide) (by omega) (by omega)
      exact ih.1 _ _ _ _ _ (by omega) (by omega) (by omega)
    · intro x4 h4 hμ
      refine v_X9_bestQuestion_67_65 ?_
      exact hQ _ (by omega)
theorem s_X9_bestQuestion_67 {g : gM} {x1 : Int32} {x2 : Int32} {m : dM} {Q : Int32 → dM → Prop} (hG : Gd g) (hI : Inv g m) (h2 : 0 ≤ x2.toInt ∧ x2.toInt ≤ 20) (hQ : ∀ r : Int32, (-2 ≤ r.toInt ∧ r.toInt ≤ 6) → Q r m) : c_X9_bestQuestion_67 4 x1 x2 m Q := by
  refine v_X9_bestQuestion_67 ?_
  refine Wp.deep (s_X9_suspects_67 hG hI (by omega) (fun R1 => ?_)) (Nat.le_of_ble_eq_true rfl)
  have f2 := ti_m2
  have f3 := ti_2147483647
  have f4 := ti_0
  exact (s_X9_bestQuestion_67_all hG hI hQ 18).1 _ _ _ _ _ (by omega) (by omega) (by omega)
theorem s_X11_ask_0 {g : gM} {x1 : Int32} {m : dM} {Q : Int32 → dM → Prop} (hG : Gd g) (hI : Inv g m) (hQ : ∀ r : Int32, (-2 ≤ r.toInt ∧ r.toInt ≤ 6) → Q r m) : c_X11_ask_0 5 x1 m Q := by
  refine v_X11_ask_0 ?_
  refine ⟨fun hc1 => ?_, fun hc1 => ?_⟩
  · skip
    refine v_X11_ask_0_15 ?_
    have f2 := ti_m1
    exact hQ _ (by omega)
  · skip
    have f2 := congrArg Int32.toInt (hI.2 67 3 rfl)
    have f3 := Inv.s hG hI (k := 67) (j := 3) rfl rfl
    refine ⟨fun hc4 => ?_, fun hc4 => ?_⟩
    · skip
      refine Wp.deep (s_X9_bestQuestion_67 hG hI (by omega) (fun R5 hr5 => ?_)) (Nat.le_of_ble_eq_true rfl)
      exact hQ _ (by omega)
    · skip
      refine v_X11_ask_0_15 ?_
      have f5 := ti_m1
      exact hQ _ (by omega)
theorem s_X7_writeTo_47_53 {g : gM} {x2 : Int32} {m : dM} {Q : dM → Prop} (hG : Gd g) (hI : Inv g m) (h2 : 0 ≤ x2.toInt ∧ x2.toInt ≤ 66) (hQ : ∀ m' : dM, Inv g m' → Q m') : c_X7_writeTo_47_53 1 x2 m Q := by
  refine v_X7_writeTo_47_53 ?_
  refine ⟨fun hc1 => ?_, fun hc1 => ?_⟩
  · skip
    exfalso; omega
  · skip
    have f2 := dSubE (X := 99) (Y := 33) (x := (99 : Int32)) (y := (33 : Int32)) (by decide) (by decide) (by omega) (by omega)
    refine ⟨fun hc3 => ?_, fun hc3 => ?_⟩
    · skip
      refine ⟨by omega, ?_⟩
      have f4 := dAddE (X := x2.toInt) (Y := 1) (x := x2) (y := (1 : Int32)) rfl (by decide) (by omega) (by omega)
      refine ⟨by omega, ?_⟩
      have f5 := dAddE (X := x2.toInt) (Y := 2) (x := x2) (y := (2 : Int32)) rfl (by decide) (by omega) (by omega)
      refine ⟨by omega, ?_⟩
      have f6 := dAddE (X := x2.toInt) (Y := 3) (x := x2) (y := (3 : Int32)) rfl (by decide) (by omega) (by omega)
      refine ⟨by omega, ?_⟩
      have f7 := dAddE (X := x2.toInt) (Y := 4) (x := x2) (y := (4 : Int32)) rfl (by decide) (by omega) (by omega)
      refine ⟨by omega, ?_⟩
      have f8 := dAddE (X := x2.toInt) (Y := 5) (x := x2) (y := (5 : Int32)) rfl (by decide) (by omega) (by omega)
      refine ⟨by omega, ?_⟩
      have f9 := ti_10
      have f10 := dAddE (X := x2.toInt) (Y := 6) (x := x2) (y := (6 : Int32)) rfl (by decide) (by omega) (by omega)
      have f11 := ti_0
      refine ⟨by omega, ?_⟩
      have f12 := dAddE (X := (x2 + (6 : Int32)).toInt) (Y := 10) (x := (x2 + (6 : Int32))) (y := (10 : Int32)) rfl (by decide) (by omega) (by omega)
      refine ⟨by omega, ?_⟩
      have f13 := ti_7
      have f14 := dAddE (X := (x2 + (6 : Int32)).toInt) (Y := 20) (x := (x2 + (6 : Int32))) (y := (20 : Int32)) rfl (by decide) (by omega) (by omega)
      refine ⟨by omega, ?_⟩
      have I15 : Inv g (dSet m 53 x2.toNatClampNeg (m.1 47 0)) := (Inv.setA hI rfl)
      have I16 : Inv g (dSet (dSet m 53 x2.toNatClampNeg (m.1 47 0)) 53 (x2 + (1 : Int32)).toNatClampNeg (m.1 47 1)) := (Inv.setA I15 rfl)
      have I17 : Inv g (dSet (dSet (dSet m 53 x2.toNatClampNeg (m.1 47 0)) 53 (x2 + (1 : Int32)).toNatClampNeg (m.1 47 1)) 53 (x2 + (2 : Int32)).toNatClampNeg (m.1 47 2)) := (Inv.setA I16 rfl)
      have I18 : Inv g (dSet (dSet (dSet (dSet m 53 x2.toNatClampNeg (m.1 47 0)) 53 (x2 + (1 : Int32)).toNatClampNeg (m.1 47 1)) 53 (x2 + (2 : Int32)).toNatClampNeg (m.1 47 2)) 53 (x2 + (3 : Int32)).toNatClampNeg (m.1 47 3)) := (Inv.setA I17 rfl)
      have I19 : Inv g (dSet (dSet (dSet (dSet (dSet m 53 x2.toNatClampNeg (m.1 47 0)) 53 (x2 + (1 : Int32)).toNatClampNeg (m.1 47 1)) 53 (x2 + (2 : Int32)).toNatClampNeg (m.1 47 2)) 53 (x2 + (3 : Int32)).toNatClampNeg (m.1 47 3)) 53 (x2 + (4 : Int32)).toNatClampNeg (m.1 47 4)) := (Inv.setA I18 rfl)
      have I20 : Inv g (dSet (dSet (dSet (dSet (dSet (dSet m 53 x2.toNatClampNeg (m.1 47 0)) 53 (x2 + (1 : Int32)).toNatClampNeg (m.1 47 1)) 53 (x2 + (2 : Int32)).toNatClampNeg (m.1 47 2)) 53 (x2 + (3 : Int32)).toNatClampNeg (m.1 47 3)) 53 (x2 + (4 : Int32)).toNatClampNeg (m.1 47 4)) 53 (x2 + (5 : Int32)).toNatClampNeg (m.1 47 5)) := (Inv.setA I19 rfl)
      have I21 : Inv g (dCpy (dSet (dSet (dSet (dSet (dSet (dSet m 53 x2.toNatClampNeg (m.1 47 0)) 53 (x2 + (1 : Int32)).toNatClampNeg (m.1 47 1)) 53 (x2 + (2 : Int32)).toNatClampNeg (m.1 47 2)) 53 (x2 + (3 : Int32)).toNatClampNeg (m.1 47 3)) 53 (x2 + (4 : Int32)).toNatClampNeg (m.1 47 4)) 53 (x2 + (5 : Int32)).toNatClampNeg (m.1 47 5)) 48 (0 : Int).toNat 53 ((x2 + (6 : Int32)).toInt).toNat (10 : Int).toNat) := (Inv.cpy I20 (fun _ => rfl))
      have I22 : Inv g (dCpy (dCpy (dSet (dSet (dSet (dSet (dSet (dSet m 53 x2.toNatClampNeg (m.1 47 0)) 53 (x2 + (1 : Int32)).toNatClampNeg (m.1 47 1)) 53 (x2 + (2 : Int32)).toNatClampNeg (m.1 47 2)) 53 (x2 + (3 : Int32)).toNatClampNeg (m.1 47 3)) 53 (x2 + (4 : Int32)).toNatClampNeg (m.1 47 4)) 53 (x2 + (5 : Int32)).toNatClampNeg (m.1 47 5)) 48 (0 : Int).toNat 53 ((x2 + (6 : Int32)).toInt).toNat (10 : Int).toNat) 49 (0 : Int).toNat 53 (((x2 + (6 : Int32)) + (10 : Int32)).toInt).toNat (10 : Int).toNat) := (Inv.cpy I21 (fun _ => rfl))
      have I23 : Inv g (dCpy (dCpy (dCpy (dSet (dSet (dSet (dSet (dSet (dSet m 53 x2.toNatClampNeg (m.1 47 0)) 53 (x2 + (1 : Int32)).toNatClampNeg (m.1 47 1)) 53 (x2 + (2 : Int32)).toNatClampNeg (m.1 47 2)) 53 (x2 + (3 : Int32)).toNatClampNeg (m.1 47 3)) 53 (x2 + (4 : Int32)).toNatClampNeg (m.1 47 4)) 53 (x2 + (5 : Int32)).toNatClampNeg (m.1 47 5)) 48 (0 : Int).toNat 53 ((x2 + (6 : Int32)).toInt).toNat (10 : Int).toNat) 49 (0 : Int).toNat 53 (((x2 + (6 : Int32)) + (10 : Int32)).toInt).toNat (10 : Int).toNat) 50 (0 : Int).toNat 53 (((x2 + (6 : Int32)) + (20 : Int32)).toInt).toNat (7 : Int).toNat) := (Inv.cpy I22 (fun _ => rfl))
      exact hQ _ I23
    · skip
      exfalso; omega
theorem s_X7_readFrom_47_53 {g : gM} {x2 : Int32} {m : dM} {Q : dM → Prop} (hG : Gd g) (hI : Inv g m) (h2 : 0 ≤ x2.toInt ∧ x2.toInt ≤ 66) (hQ : ∀ m' : dM, Inv g m' → Q m') : c_X7_readFrom_47_53 1 x2 m Q := by
  refine v_X7_readFrom_47_53 ?_
  refine ⟨fun hc1 => ?_, fun hc1 => ?_⟩
  · skip
    exfalso; omega
  · skip
    have f2 := dSubE (X := 99) (Y := 33) (x := (99 : Int32)) (y := (33 : Int32)) (by decide) (by decide) (by omega) (by omega)
    refine ⟨fun hc3 => ?_, fun hc3 => ?_⟩
    · skip
      refine ⟨by omega, ?_⟩
      have f4 := dAddE (X := x2.toInt) (Y := 1) (x := x2) (y := (1 : Int32)) rfl (by decide) (by omega) (by omega)
      refine ⟨by omega, ?_⟩
      have f5 := dAddE (X := x2.toInt) (Y := 2) (x := x2) (y := (2 : Int32)) rfl (by decide) (by omega) (by omega)
      refine ⟨by omega, ?_⟩
      have f6 := dAddE (X := x2.toInt) (Y := 3) (x := x2) (y := (3 : Int32)) rfl (by decide) (by omega) (by omega)
      refine ⟨by omega, ?_⟩
      have f7 := dAddE (X := x2.toInt) (Y := 4) (x := x2) (y := (4 : Int32)) rfl (by decide) (by omega) (by omega)
      refine ⟨by omega, ?_⟩
      have f8 := dAddE (X := x2.toInt) (Y := 5) (x := x2) (y := (5 : Int32)) rfl (by decide) (by omega) (by omega)
      refine ⟨by omega, ?_⟩
      have f9 := ti_10
      have f10 := ti_0
      have f11 := dAddE (X := x2.toInt) (Y := 6) (x := x2) (y := (6 : Int32)) rfl (by decide) (by omega) (by omega)
      refine ⟨by omega, ?_⟩
      have f12 := dAddE (X := (x2 + (6 : Int32)).toInt) (Y := 10) (x := (x2 + (6 : Int32))) (y := (10 : Int32)) rfl (by decide) (by omega) (by omega)
      refine ⟨by omega, ?_⟩
      have f13 := ti_7
      have f14 := dAddE (X := (x2 + (6 : Int32)).toInt) (Y := 20) (x := (x2 + (6 : Int32))) (y := (20 : Int32)) rfl (by decide) (by omega) (by omega)
      refine ⟨by omega, ?_⟩
      have I15 : Inv g (dSet m 47 0 (m.1 53 x2.toNatClampNeg)) := (Inv.setA hI rfl)
      have I16 : Inv g (dSet (dSet m 47 0 (m.1 53 x2.toNatClampNeg)) 47 1 (m.1 53 (x2 + (1 : Int32)).toNatClampNeg)) := (Inv.setA I15 rfl)
      have I17 : Inv g (dSet (dSet (dSet m 47 0 (m.1 53 x2.toNatClampNeg)) 47 1 (m.1 53 (x2 + (1 : Int32)).toNatClampNeg)) 47 2 (m.1 53 (x2 + (2 : Int32)).toNatClampNeg)) := (Inv.setA I16 rfl)
      have I18 : Inv g (dSet (dSet (dSet (dSet m 47 0 (m.1 53 x2.toNatClampNeg)) 47 1 (m.1 53 (x2 + (1 : Int32)).toNatClampNeg)) 47 2 (m.1 53 (x2 + (2 : Int32)).toNatClampNeg)) 47 3 (m.1 53 (x2 + (3 : Int32)).toNatClampNeg)) := (Inv.setA I17 rfl)
      have I19 : Inv g (dSet (dSet (dSet (dSet (dSet m 47 0 (m.1 53 x2.toNatClampNeg)) 47 1 (m.1 53 (x2 + (1 : Int32)).toNatClampNeg)) 47 2 (m.1 53 (x2 + (2 : Int32)).toNatClampNeg)) 47 3 (m.1 53 (x2 + (3 : Int32)).toNatClampNeg)) 47 4 (m.1 53 (x2 + (4 : Int32)).toNatClampNeg)) := (Inv.setA I18 rfl)
      have I20 : Inv g (dSet (dSet (dSet (dSet (dSet (dSet m 47 0 (m.1 53 x2.toNatClampNeg)) 47 1 (m.1 53 (x2 + (1 : Int32)).toNatClampNeg)) 47 2 (m.1 53 (x2 + (2 : Int32)).toNatClampNeg)) 47 3 (m.1 53 (x2 + (3 : Int32)).toNatClampNeg)) 47 4 (m.1 53 (x2 + (4 : Int32)).toNatClampNeg)) 47 5 (m.1 53 (x2 + (5 : Int32)).toNatClampNeg)) := (Inv.setA I19 rfl)
      have I21 : Inv g (dCpy (dSet (dSet (dSet (dSet (dSet (dSet m 47 0 (m.1 53 x2.toNatClampNeg)) 47 1 (m.1 53 (x2 + (1 : Int32)).toNatClampNeg)) 47 2 (m.1 53 (x2 + (2 : Int32)).toNatClampNeg)) 47 3 (m.1 53 (x2 + (3 : Int32)).toNatClampNeg)) 47 4 (m.1 53 (x2 + (4 : Int32)).toNatClampNeg)) 47 5 (m.1 53 (x2 + (5 : Int32)).toNatClampNeg)) 53 ((x2 + (6 : Int32)).toInt).toNat 48 (0 : Int).toNat (10 : Int).toNat) := (Inv.cpy I20 (fun _ => rfl))
      have I22 : Inv g (dCpy (dCpy (dSet (dSet (dSet (dSet (dSet (dSet m 47 0 (m.1 53 x2.toNatClampNeg)) 47 1 (m.1 53 (x2 + (1 : Int32)).toNatClampNeg)) 47 2 (m.1 53 (x2 + (2 : Int32)).toNatClampNeg)) 47 3 (m.1 53 (x2 + (3 : Int32)).toNatClampNeg)) 47 4 (m.1 53 (x2 + (4 : Int32)).toNatClampNeg)) 47 5 (m.1 53 (x2 + (5 : Int32)).toNatClampNeg)) 53 ((x2 + (6 : Int32)).toInt).toNat 48 (0 : Int).toNat (10 : Int).toNat) 53 (((x2 + (6 : Int32)) + (10 : Int32)).toInt).toNat 49 (0 : Int).toNat (10 : Int).toNat) := (Inv.cpy I21 (fun _ => rfl))
      have I23 : Inv g (dCpy (dCpy (dCpy (dSet (dSet (dSet (dSet (dSet (dSet m 47 0 (m.1 53 x2.toNatClampNeg)) 47 1 (m.1 53 (x2 + (1 : Int32)).toNatClampNeg)) 47 2 (m.1 53 (x2 + (2 : Int32)).toNatClampNeg)) 47 3 (m.1 53 (x2 + (3 : Int32)).toNatClampNeg)) 47 4 (m.1 53 (x2 + (4 : Int32)).toNatClampNeg)) 47 5 (m.1 53 (x2 + (5 : Int32)).toNatClampNeg)) 53 ((x2 + (6 : Int32)).toInt).toNat 48 (0 : Int).toNat (10 : Int).toNat) 53 (((x2 + (6 : Int32)) + (10 : Int32)).toInt).toNat 49 (0 : Int).toNat (10 : Int).toNat) 53 (((x2 + (6 : Int32)) + (20 : Int32)).toInt).toNat 50 (0 : Int).toNat (7 : Int).toNat) := (Inv.cpy I22 (fun _ => rfl))
      exact hQ _ I23
    · skip
      exfalso; omega
theorem s_X6_fetch_51_47 {g : gM} {x1 : Int32} {m : dM} {Q : Int32 → dM → Prop} (hG : Gd g) (hI : Inv g m) (hQ : ∀ (r : Int32) (m' : dM), Inv g m' → (0 ≤ r.toInt ∧ r.toInt ≤ 1) → Q r m') : c_X6_fetch_51_47 2 x1 m Q := by
  refine v_X6_fetch_51_47 ?_
  refine ⟨fun hc1 => ?_, fun hc1 => ?_⟩
  · skip
    refine v_X6_fetch_51_47_20 ?_
    have f2 := ti_0
    exact hQ _ _ hI (by omega)
  · skip
    refine ⟨fun hc2 => ?_, fun hc2 => ?_⟩
    · skip
      refine v_X6_fetch_51_47_20 ?_
      have f3 := ti_0
      exact hQ _ _ hI (by omega)
    · skip
      refine v_X11_has ?_
      have f3 := congrArg Int32.toInt (hI.2 51 4 rfl)
      have f4 := ti_1
      have f5 := dAndE (x := ((m.1 51 4).toUInt32 >>> (x1.toUInt32 &&& Int32.toUInt32 31)).toInt32) (y := (1 : Int32)) (by decide)
      refine ⟨fun hc6 => ?_, fun hc6 => ?_⟩
      · skip
        have f7 := ti_0
        refine ⟨fun hc8 => ?_, fun hc8 => ?_⟩
        · skip
          exfalso; omega
        · skip
          refine v_X6_fetch_51_47_20 ?_
          exact hQ _ _ hI (by omega)
      · skip
        refine ⟨fun hc7 => ?_, fun hc7 => ?_⟩
        · skip
          have f8 := dMulE (X := x1.toInt) (Y := 33) (x := x1) (y := (33 : Int32)) rfl (by decide) (by omega) (by omega)
          refine Wp.deep (s_X7_readFrom_47_53 hG hI (by omega) (fun M9 I9 => ?_)) (Nat.le_of_ble_eq_true rfl)
          refine Wp.deep (s_X6_clear_51 hG I9 (fun M10 I10 => ?_)) (Nat.le_of_ble_eq_true rfl)
          exact hQ _ _ I10 (by omega)
        · skip
          exfalso; omega
theorem s_X11_restore_0 {g : gM} {x1 : Int32} {m : dM} {Q : Int32 → dM → Prop} (hG : Gd g) (hI : Inv g m) (hQ : ∀ (r : Int32) (m' : dM), Inv g m' → (0 ≤ r.toInt ∧ r.toInt ≤ 1) → Q r m') : c_X11_restore_0 3 x1 m Q := by
  refine v_X11_restore_0 ?_
  refine Wp.deep (s_X6_fetch_51_47 hG hI (fun R1 M1 I1 hr1 => ?_)) (Nat.le_of_ble_eq_true rfl)
  refine ⟨dB01 (by omega), ?_⟩
  exact hQ _ _ I1 (by omega)
theorem s_X12_restore_70_all {g : gM} {Q : Int32 → dM → Prop} (hG : Gd g) (hQ : ∀ (r : Int32) (m' : dM), Inv g m' → (0 ≤ r.toInt ∧ r.toInt ≤ 1) → Q r m') : ∀ n : Nat, (∀ (m : dM), Inv g m → 0 < (n : Int) → j_X12_restore_70_18 2 m Q) ∧ (∀ (x1 : Int32) (x2 : Int32) (m : dM), Inv g m → (0 ≤ x1.toInt ∧ x1.toInt ≤ 2) → (0 ≤ x2.toInt ∧ x2.toInt ≤ 58) → 59 - 1 * x2.toInt < (n : Int) → j_X12_restore_70_22 2 x1 x2 m Q) := by
  intro n
  induction n with
  | zero => exact ⟨fun m hI hμ => by exfalso; omega, fun x1 x2 m hI h1 h2 hμ => by exfalso; omega⟩
  | succ n ih =>
    refine ⟨?_, ?_⟩
    · intro m hI hμ
      refine v_X12_restore_70_18 ?_
      have f1 := ti_0
      exact hQ _ _ hI (by omega)
    · intro x1 x2 m hI h1 h2 hμ
      refine v_X12_restore_70_22 ?_
      refine ⟨fun hc1 => ?_, fun hc1 => ?_⟩
      · skip
        have f2 := ti_1
        have f3 := ti_0
        have I4 : Inv g (dSet m 70 61 (0 : Int32)) := (Inv.set hI rfl (by omega) (by omega))
        exact hQ _ _ I4 (by omega)
      · skip
        have f2 := dMulE (X := 58) (Y := x1.toInt) (x := (58 : Int32)) (y := x1) (by decide) rfl (by omega) (by omega)
        have f3 := dAddE (X := ((58 : Int32) * x1).toInt) (Y := x2.toInt) (x := ((58 : Int32) * x1)) (y := x2) rfl rfl (by omega) (by omega)
        refine ⟨by omega, ?_⟩
        refine ⟨by omega, ?_⟩
        have f4 := dAddE (X := x2.toInt) (Y := 1) (x := x2) (y := (1 : Int32)) rfl (by decide) (by omega) (by omega)
        have I5 : Inv g (dSet m 107 x2.toNatClampNeg (m.1 116 (((58 : Int32) * x1) + x2).toNatClampNeg)) := (Inv.setA hI rfl)
        exact ih.2 _ _ _ I5 (by omega) (by omega) (by omega)
theorem s_X12_restore_70 {g : gM} {x1 : Int32} {m : dM} {Q : Int32 → dM → Prop} (hG : Gd g) (hI : Inv g m) (hQ : ∀ (r : Int32) (m' : dM), Inv g m' → (0 ≤ r.toInt ∧ r.toInt ≤ 1) → Q r m') : c_X12_restore_70 2 x1 m Q := by
  refine v_X12_restore_70 ?_
  refine v_X12_in ?_
  have f1 := ti_0
  refine ⟨fun hc2 => ?_, fun hc2 => ?_⟩
  · skip
    refine v_X12_in_14 ?_
    refine ⟨fun hc3 => ?_, fun hc3 => ?_⟩
    · skip
      exact (s_X12_restore_70_all hG hQ 61).1 _ hI (by omega)
    · skip
      exfalso; omega
  · skip
    have f3 := ti_2
    refine ⟨fun hc4 => ?_, fun hc4 => ?_⟩
    · skip
      refine v_X12_in_14 ?_
      refine ⟨fun hc5 => ?_, fun hc5 => ?_⟩
      · skip
        exact (s_X12_restore_70_all hG hQ 61).1 _ hI (by omega)
      · skip
        exfalso; omega
    · skip
      have f5 := ti_1
      refine ⟨fun hc6 => ?_, fun hc6 => ?_⟩
      · skip
        exfalso; omega
      · skip
        refine ⟨by omega, ?_⟩
        refine ⟨fun hc7 => ?_, fun hc7 => ?_⟩
        · skip
          exact (s_X12_restore_70_all hG hQ 61).2 _ _ _ hI (by omega) (by omega) (by omega)
        · skip
          exact (s_X12_restore_70_all hG hQ 61).1 _ hI (by omega)
theorem s_X11_wholeRatings_0_all {g : gM} {Q : Int32 → dM → Prop} {m : dM} (hG : Gd g) (hI : Inv g m) (hQ : ∀ r : Int32, Q r m) : ∀ n : Nat, (∀ (x1 : Int32) (x2 : Int32), (0 ≤ x2.toInt ∧ x2.toInt ≤ 10) → 10 - 1 * x2.toInt < (n : Int) → j_X11_wholeRatings_0_4 2 x1 x2 m Q) := by
  intro n
  induction n with
  | zero => exact fun x1 x2 h2 hμ => by exfalso; omega
  | succ n ih =>
    · intro x1 x2 h2 hμ
      refine v_X11_wholeRatings_0_4 ?_
      have f1 := congrArg Int32.toInt (hI.2 2 1 rfl)
      have f2 := Inv.s hG hI (k := 2) (j := 1) rfl rfl
      refine ⟨fun hc3 => ?_, fun hc3 => ?_⟩
      · skip
        exact hQ _
      · skip
        refine v_X11_has ?_
        have f4 := ti_1
        have f5 := dAndE (x := ((m.1 47 3).toUInt32 >>> (x2.toUInt32 &&& Int32.toUInt32 31)).toInt32) (y := (1 : Int32)) (by decide)
        refine ⟨fun hc6 => ?_, fun hc6 => ?_⟩
        · skip
          have f7 := ti_0
          refine ⟨fun hc8 => ?_, fun hc8 => ?_⟩
          · skip
            refine ⟨by omega, ?_⟩
            have f9 := dAddE (X := x2.toInt) (Y := 1) (x := x2) (y := (1 : Int32)) rfl (by decide) (by omega) (by omega)
            exact ih _ _ (by omega) (by omega)
          · skip
            exfalso; omega
        · skip
          refine ⟨fun hc7 => ?_, fun hc7 => ?_⟩
          · skip
            exfalso; omega
          · skip
            have f8 := dAddE (X := x2.toInt) (Y := 1) (x := x2) (y := (1 : Int32)) rfl (by decide) (by omega) (by omega)
            exact ih _ _ (by omega) (by omega)
theorem s_X11_wholeRatings_0 {g : gM} {m : dM} {Q : Int32 → dM → Prop} (hG : Gd g) (hI : Inv g m) (hQ : ∀ r : Int32, Q r m) : c_X11_wholeRatings_0 2 m Q := by
  refine v_X11_wholeRatings_0 ?_
  have f1 := ti_0
  exact (s_X11_wholeRatings_0_all hG hI hQ 12) _ _ (by omega) (by omega)
end
section
theorem s_X11_count_0 {g : gM} {x1 : Int32} {m : dM} {Q : Int32 → dM → Prop} (hG : Gd g) (hI : Inv g m) (hQ : ∀ (r : Int32) (m' : dM), Inv g m' → Q r m') : c_X11_count_0 5 x1 m Q := by
  refine v_X11_count_0 ?_
  refine ⟨fun hc1 => ?_, fun hc1 => ?_, fun hc1 => ?_, fun hc1 => ?_, fun hc1 => ?_, fun hc1 => ?_, fun hc1 => ?_, fun hc1 => ?_, fun hc1 => ?_, fun hc1 => ?_, fun hc1 => ?_, fun hc1 => ?_, fun hc1 => ?_, fun hc1 => ?_, fun hc1 => ?_, fun hc1 => ?_, fun hc1 => ?_⟩
  · skip
    have f2 := congrArg Int32.toInt (hI.2 2 0 rfl)
    have f3 := Inv.s hG hI (k := 2) (j := 0) rfl rfl
    exact hQ _ _ hI
  · skip
    have f2 := congrArg Int32.toInt (hI.2 2 1 rfl)
    have f3 := Inv.s hG hI (k := 2) (j := 1) rfl rfl
    exact hQ _ _ hI
  · skip
    have f2 := congrArg Int32.toInt (hI.2 2 2 rfl)
    have f3 := Inv.s hG hI (k := 2) (j := 2) rfl rfl
    exact hQ _ _ hI
  · skip
    exact hQ _ _ hI
  · skip
    exact hQ _ _ hI
  · skip
    exact hQ _ _ hI
  · skip
    exact hQ _ _ hI
  · skip
    refine Wp.deep (s_X3_litWithout_2 hG hI (fun R2 => ?_)) (Nat.le_of_ble_eq_true rfl)
    exact hQ _ _ hI
  · skip
    refine Wp.deep (s_X0_usesNow_54_47 hG hI (fun R2 M2 I2 => ?_)) (Nat.le_of_ble_eq_true rfl)
    exact hQ _ _ I2
  · skip
    have f2 := congrArg Int32.toInt (hI.2 0 1 rfl)
    have f3 := Inv.s hG hI (k := 0) (j := 1) rfl rfl
    exact hQ _ _ hI
  · skip
    exact hQ _ _ hI
  · skip
    have f2 := congrArg Int32.toInt (hI.2 67 3 rfl)
    have f3 := Inv.s hG hI (k := 67) (j := 3) rfl rfl
    exact hQ _ _ hI
  · skip
    have f2 := congrArg Int32.toInt (hI.2 51 4 rfl)
    refine Wp.deep (s_J6_bitCount hG hI (fun R3 hr3 => ?_)) (Nat.le_of_ble_eq_true rfl)
    exact hQ _ _ hI
  · skip
    have f2 := congrArg Int32.toInt (hI.2 2 6 rfl)
    refine Wp.deep (s_X0_isSurge_54 hG hI (fun R3 hr3 => ?_)) (Nat.le_of_ble_eq_true rfl)
    refine ⟨fun hc4 => ?_, fun hc4 => ?_⟩
    · skip
      have f5 := ti_0
      exact hQ _ _ hI
    · skip
      have f5 := ti_1
      exact hQ _ _ hI
  · skip
    exact hQ _ _ hI
  · skip
    refine Wp.deep (s_X11_wholeRatings_0 hG hI (fun R2 => ?_)) (Nat.le_of_ble_eq_true rfl)
    exact hQ _ _ hI
  · skip
    have f2 := ti_m1
    exact hQ _ _ hI
end
section
theorem s_X1_cutBy_2_L0 {g : gM} {x1 : Int32} {x2 : Int32} {x3 : Int32} {x4 : Int32} {m : dM} {Q : Int32 → dM → Prop} (hG : Gd g) (hI : Inv g m) (h1 : 0 ≤ x1.toInt ∧ x1.toInt ≤ 6) (h3 : 0 ≤ x3.toInt ∧ x3.toInt ≤ 11) (h4 : 0 ≤ x4.toInt ∧ x4.toInt ≤ 0) (hQ : ∀ r : Int32, Q r m) : c_X1_cutBy_2 12 x1 x2 x3 x4 m Q := by
  refine v_X1_cutBy_2 ?_
  refine ⟨fun hc1 => ?_, fun hc1 => ?_⟩
  · skip
    exfalso; omega
  · skip
    refine Wp.deep (s_X3_litWithout_2 hG hI (fun R2 => ?_)) (Nat.le_of_ble_eq_true rfl)
    refine v_X11_has ?_
    have f3 := ti_1
    have f4 := dAndE (x := (R2.toUInt32 >>> (x1.toUInt32 &&& Int32.toUInt32 31)).toInt32) (y := (1 : Int32)) (by decide)
    refine ⟨fun hc5 => ?_, fun hc5 => ?_⟩
    · skip
      have f6 := ti_0
      refine ⟨fun hc7 => ?_, fun hc7 => ?_⟩
      · skip
        exact hQ _
      · skip
        exfalso; omega
    · skip
      refine ⟨fun hc6 => ?_, fun hc6 => ?_⟩
      · skip
        exfalso; omega
      · skip
        have f7 := ti_m1
        exact hQ _
theorem s_X1_cutBy_2_L1_all {g : gM} {Q : Int32 → dM → Prop} {m : dM} (hG : Gd g) (hI : Inv g m) (hQ : ∀ r : Int32, Q r m) : ∀ n : Nat, (∀ (x1 : Int32) (x2 : Int32) (x4 : Int32) (x5 : Int32), (0 ≤ x1.toInt ∧ x1.toInt ≤ 6) → (1 ≤ x4.toInt ∧ x4.toInt ≤ 1) → (0 ≤ x5.toInt ∧ x5.toInt ≤ 11) → 23 - 2 * x5.toInt < (n : Int) → j_X1_cutBy_2_26 13 x1 x2 x4 x5 m Q) ∧ (∀ (x1 : Int32) (x2 : Int32) (x4 : Int32) (x5 : Int32), (0 ≤ x1.toInt ∧ x1.toInt ≤ 6) → (1 ≤ x4.toInt ∧ x4.toInt ≤ 1) → (0 ≤ x5.toInt ∧ x5.toInt ≤ 9) → 22 - 2 * x5.toInt < (n : Int) → j_X1_cutBy_2_79 13 x1 x2 x4 x5 m Q) := by
  intro n
  induction n with
  | zero => exact ⟨fun x1 x2 x4 x5 h1 h4 h5 hμ => by exfalso; omega, fun x1 x2 x4 x5 h1 h4 h5 hμ => by exfalso; omega⟩
  | succ n ih =>
    refine ⟨?_, ?_⟩
    · intro x1 x2 x4 x5 h1 h4 h5 hμ
      refine v_X1_cutBy_2_26 ?_
      have f1 := congrArg Int32.toInt (hI.2 2 1 rfl)
      have f2 := Inv.s hG hI (k := 2) (j := 1) rfl rfl
      refine ⟨fun hc3 => ?_, fun hc3 => ?_⟩
      · skip
        have f4 := ti_m1
        exact hQ _
      · skip
        refine v_X11_has ?_
        have f4 := ti_1
        have f5 := dAndE (x := (x2.toUInt32 >>> (x5.toUInt32 &&& Int32.toUInt32 31)).toInt32) (y := (1 : Int32)) (by decide)
        refine ⟨fun hc6 => ?_, fun hc6 => ?_⟩
        · skip
          have f7 := ti_0
          refine ⟨fun hc8 => ?_, fun hc8 => ?_⟩
          · skip
            exfalso; omega
          · skip
            have f9 := dShl10 (x := x5) (by omega) (by omega)
            have f10 := dAddE (X := x5.toInt) (Y := 1) (x := x5) (y := (1 : Int32)) rfl (by decide) (by omega) (by omega)
            have f11 := dSubE (X := x4.toInt) (Y := 1) (x := x4) (y := (1 : Int32)) rfl (by decide) (by omega) (by omega)
            refine Wp.deep (s_X1_cutBy_2_L0 hG hI (by omega) (by omega) (by omega) (fun R12 => ?_)) (Nat.le_of_ble_eq_true rfl)
            refine ⟨fun hc13 => ?_, fun hc13 => ?_⟩
            · skip
              exact ih.2 _ _ _ _ (by omega) (by omega) (by omega) (by omega)
            · skip
              exact hQ _
        · skip
          refine ⟨fun hc7 => ?_, fun hc7 => ?_⟩
          · skip
            exact ih.2 _ _ _ _ (by omega) (by omega) (by omega) (by omega)
          · skip
            exfalso; omega
    · intro x1 x2 x4 x5 h1 h4 h5 hμ
      refine v_X1_cutBy_2_79 ?_
      have f1 := dAddE (X := x5.toInt) (Y := 1) (x := x5) (y := (1 : Int32)) rfl (by decide) (by omega) (by omega)
      exact ih.1 _ _ _ _ (by omega) (by omega) (by omega) (by omega)
theorem s_X1_cutBy_2_L1 {g : gM} {x1 : Int32} {x2 : Int32} {x3 : Int32} {x4 : Int32} {m : dM} {Q : Int32 → dM → Prop} (hG : Gd g) (hI : Inv g m) (h1 : 0 ≤ x1.toInt ∧ x1.toInt ≤ 6) (h3 : 0 ≤ x3.toInt ∧ x3.toInt ≤ 11) (h4 : 1 ≤ x4.toInt ∧ x4.toInt ≤ 1) (hQ : ∀ r : Int32, Q r m) : c_X1_cutBy_2 13 x1 x2 x3 x4 m Q := by
  refine v_X1_cutBy_2 ?_
  refine ⟨fun hc1 => ?_, fun hc1 => ?_⟩
  · skip
    exact (s_X1_cutBy_2_L1_all hG hI hQ 25).1 _ _ _ _ (by omega) (by omega) (by omega) (by omega)
  · skip
    exfalso; omega
theorem s_X1_cutBy_2_L2_all {g : gM} {Q : Int32 → dM → Prop} {m : dM} (hG : Gd g) (hI : Inv g m) (hQ : ∀ r : Int32, Q r m) : ∀ n : Nat, (∀ (x1 : Int32) (x2 : Int32) (x4 : Int32) (x5 : Int32), (0 ≤ x1.toInt ∧ x1.toInt ≤ 6) → (2 ≤ x4.toInt ∧ x4.toInt ≤ 2) → (0 ≤ x5.toInt ∧ x5.toInt ≤ 11) → 23 - 2 * x5.toInt < (n : Int) → j_X1_cutBy_2_26 14 x1 x2 x4 x5 m Q) ∧ (∀ (x1 : Int32) (x2 : Int32) (x4 : Int32) (x5 : Int32), (0 ≤ x1.toInt ∧ x1.toInt ≤ 6) → (2 ≤ x4.toInt ∧ x4.toInt ≤ 2) → (0 ≤ x5.toInt ∧ x5.toInt ≤ 9) → 22 - 2 * x5.toInt < (n : Int) → j_X1_cutBy_2_79 14 x1 x2 x4 x5 m Q) := by
  intro n
  induction n with
  | zero => exact ⟨fun x1 x2 x4 x5 h1 h4 h5 hμ => by exfalso; omega, fun x1 x2 x4 x5 h1 h4 h5 hμ => by exfalso; omega⟩
  | succ n ih =>
    refine ⟨?_, ?_⟩
    · intro x1 x2 x4 x5 h1 h4 h5 hμ
      refine v_X1_cutBy_2_26 ?_
      have f1 := congrArg Int32.toInt (hI.2 2 1 rfl)
      have f2 := Inv.s hG hI (k := 2) (j := 1) rfl rfl
      refine ⟨fun hc3 => ?_, fun hc3 => ?_⟩
      · skip
        have f4 := ti_m1
        exact hQ _
      · skip
        refine v_X11_has ?_
        have f4 := ti_1
        have f5 := dAndE (x := (x2.toUInt32 >>> (x5.toUInt32 &&& Int32.toUInt32 31)).toInt32) (y := (1 : Int32)) (by decide)
        refine ⟨fun hc6 => ?_, fun hc6 => ?_⟩
        · skip
          have f7 := ti_0
          refine ⟨fun hc8 => ?_, fun hc8 => ?_⟩
          · skip
            exfalso; omega
          · skip
            have f9 := dShl10 (x := x5) (by omega) (by omega)
            have f10 := dAddE (X := x5.toInt) (Y := 1) (x := x5) (y := (1 : Int32)) rfl (by decide) (by omega) (by omega)
            have f11 := dSubE (X := x4.toInt) (Y := 1) (x := x4) (y := (1 : Int32)) rfl (by decide) (by omega) (by omega)
            refine Wp.deep (s_X1_cutBy_2_L1 hG hI (by omega) (by omega) (by omega) (fun R12 => ?_)) (Nat.le_of_ble_eq_true rfl)
            refine ⟨fun hc13 => ?_, fun hc13 => ?_⟩
            · skip
              exact ih.2 _ _ _ _ (by omega) (by omega) (by omega) (by omega)
            · skip
              exact hQ _
        · skip
          refine ⟨fun hc7 => ?_, fun hc7 => ?_⟩
          · skip
            exact ih.2 _ _ _ _ (by omega) (by omega) (by omega) (by omega)
          · skip
            exfalso; omega
    · intro x1 x2 x4 x5 h1 h4 h5 hμ
      refine v_X1_cutBy_2_79 ?_
      have f1 := dAddE (X := x5.toInt) (Y := 1) (x := x5) (y := (1 : Int32)) rfl (by decide) (by omega) (by omega)
      exact ih.1 _ _ _ _ (by omega) (by omega) (by omega) (by omega)
theorem s_X1_cutBy_2_L2 {g : gM} {x1 : Int32} {x2 : Int32} {x3 : Int32} {x4 : Int32} {m : dM} {Q : Int32 → dM → Prop} (hG : Gd g) (hI : Inv g m) (h1 : 0 ≤ x1.toInt ∧ x1.toInt ≤ 6) (h3 : 0 ≤ x3.toInt ∧ x3.toInt ≤ 11) (h4 : 2 ≤ x4.toInt ∧ x4.toInt ≤ 2) (hQ : ∀ r : Int32, Q r m) : c_X1_cutBy_2 14 x1 x2 x3 x4 m Q := by
  refine v_X1_cutBy_2 ?_
  refine ⟨fun hc1 => ?_, fun hc1 => ?_⟩
  · skip
    exact (s_X1_cutBy_2_L2_all hG hI hQ 25).1 _ _ _ _ (by omega) (by omega) (by omega) (by omega)
  · skip
    exfalso; omega
theorem s_X1_cutBy_2_L3_all {g : gM} {Q : Int32 → dM → Prop} {m : dM} (hG : Gd g) (hI : Inv g m) (hQ : ∀ r : Int32, Q r m) : ∀ n : Nat, (∀ (x1 : Int32) (x2 : Int32) (x4 : Int32) (x5 : Int32), (0 ≤ x1.toInt ∧ x1.toInt ≤ 6) → (3 ≤ x4.toInt ∧ x4.toInt ≤ 3) → (0 ≤ x5.toInt ∧ x5.toInt ≤ 11) → 23 - 2 * x5.toInt < (n : Int) → j_X1_cutBy_2_26 15 x1 x2 x4 x5 m Q) ∧ (∀ (x1 : Int32) (x2 : Int32) (x4 : Int32) (x5 : Int32), (0 ≤ x1.toInt ∧ x1.toInt ≤ 6) → (3 ≤ x4.toInt ∧ x4.toInt ≤ 3) → (0 ≤ x5.toInt ∧ x5.toInt ≤ 9) → 22 - 2 * x5.toInt < (n : Int) → j_X1_cutBy_2_79 15 x1 x2 x4 x5 m Q) := by
  intro n
  induction n with
  | zero => exact ⟨fun x1 x2 x4 x5 h1 h4 h5 hμ => by exfalso; omega, fun x1 x2 x4 x5 h1 h4 h5 hμ => by exfalso; omega⟩
  | succ n ih =>
    refine ⟨?_, ?_⟩
    · intro x1 x2 x4 x5 h1 h4 h5 hμ
      refine v_X1_cutBy_2_26 ?_
      have f1 := congrArg Int32.toInt (hI.2 2 1 rfl)
      have f2 := Inv.s hG hI (k := 2) (j := 1) rfl rfl
      refine ⟨fun hc3 => ?_, fun hc3 => ?_⟩
      · skip
        have f4 := ti_m1
        exact hQ _
      · skip
        refine v_X11_has ?_
        have f4 := ti_1
        have f5 := dAndE (x := (x2.toUInt32 >>> (x5.toUInt32 &&& Int32.toUInt32 31)).toInt32) (y := (1 : Int32)) (by decide)
        refine ⟨fun hc6 => ?_, fun hc6 => ?_⟩
        · skip
          have f7 := ti_0
          refine ⟨fun hc8 => ?_, fun hc8 => ?_⟩
          · skip
            exfalso; omega
          · skip
            have f9 := dShl10 (x := x5) (by omega) (by omega)
            have f10 := dAddE (X := x5.toInt) (Y := 1) (x := x5) (y := (1 : Int32)) rfl (by decide) (by omega) (by omega)
            have f11 := dSubE (X := x4.toInt) (Y := 1) (x := x4) (y := (1 : Int32)) rfl (by decide) (by omega) (by omega)
            refine Wp.deep (s_X1_cutBy_2_L2 hG hI (by omega) (by omega) (by omega) (fun R12 => ?_)) (Nat.le_of_ble_eq_true rfl)
            refine ⟨fun hc13 => ?_, fun hc13 => ?_⟩
            · skip
              exact ih.2 _ _ _ _ (by omega) (by omega) (by omega) (by omega)
            · skip
              exact hQ _
        · skip
          refine ⟨fun hc7 => ?_, fun hc7 => ?_⟩
          · skip
            exact ih.2 _ _ _ _ (by omega) (by omega) (by omega) (by omega)
          · skip
            exfalso; omega
    · intro x1 x2 x4 x5 h1 h4 h5 hμ
      refine v_X1_cutBy_2_79 ?_
      have f1 := dAddE (X := x5.toInt) (Y := 1) (x := x5) (y := (1 : Int32)) rfl (by decide) (by omega) (by omega)
      exact ih.1 _ _ _ _ (by omega) (by omega) (by omega) (by omega)
theorem s_X1_cutBy_2_L3 {g : gM} {x1 : Int32} {x2 : Int32} {x3 : Int32} {x4 : Int32} {m : dM} {Q : Int32 → dM → Prop} (hG : Gd g) (hI : Inv g m) (h1 : 0 ≤ x1.toInt ∧ x1.toInt ≤ 6) (h3 : 0 ≤ x3.toInt ∧ x3.toInt ≤ 11) (h4 : 3 ≤ x4.toInt ∧ x4.toInt ≤ 3) (hQ : ∀ r : Int32, Q r m) : c_X1_cutBy_2 15 x1 x2 x3 x4 m Q := by
  refine v_X1_cutBy_2 ?_
  refine ⟨fun hc1 => ?_, fun hc1 => ?_⟩
  · skip
    exact (s_X1_cutBy_2_L3_all hG hI hQ 25).1 _ _ _ _ (by omega) (by omega) (by omega) (by omega)
  · skip
    exfalso; omega
theorem s_X2_unit_43_L6 {g : gM} {x1 : Int32} {m : dM} {Q : Int32 → dM → Prop} (hG : Gd g) (hI : Inv g m) (h1 : 6 ≤ x1.toInt ∧ x1.toInt ≤ 6) (hQ : ∀ (r : Int32) (m' : dM), Inv g m' → (0 ≤ r.toInt ∧ r.toInt ≤ 1) → Q r m') : c_X2_unit_43 6 x1 m Q := by
  refine v_X2_unit_43 ?_
  refine v_X2_kind_43 ?_
  refine ⟨fun hc1 => ?_, fun hc1 => ?_⟩
  · skip
    refine v_X2_kind_43_32 ?_
    have f2 := ti_24
    refine ⟨fun hc3 => ?_, fun hc3 => ?_⟩
    · skip
      refine ⟨fun hc4 => ?_, fun hc4 => ?_⟩
      · skip
        exfalso; omega
      · skip
        refine ⟨fun hc5 => ?_, fun hc5 => ?_⟩
        · skip
          refine v_X2_unit_43_67 ?_
          refine ⟨fun hc6 => ?_, fun hc6 => ?_⟩
          · skip
            exfalso; omega
          · skip
            have f7 := ti_1
            refine Wp.deep (s_X2_fail_43 hG hI (fun R8 M8 I8 hr8 => ?_)) (Nat.le_of_ble_eq_true rfl)
            refine ⟨dB01 (by omega), ?_⟩
            exact hQ _ _ I8 (by omega)
        · skip
          exfalso; omega
    · skip
      exfalso; omega
  · skip
    refine ⟨fun hc2 => ?_, fun hc2 => ?_⟩
    · skip
      refine v_X2_kind_43_32 ?_
      have f3 := ti_24
      refine ⟨fun hc4 => ?_, fun hc4 => ?_⟩
      · skip
        refine ⟨fun hc5 => ?_, fun hc5 => ?_⟩
        · skip
          exfalso; omega
        · skip
          refine ⟨fun hc6 => ?_, fun hc6 => ?_⟩
          · skip
            refine v_X2_unit_43_67 ?_
            refine ⟨fun hc7 => ?_, fun hc7 => ?_⟩
            · skip
              exfalso; omega
            · skip
              have f8 := ti_1
              refine Wp.deep (s_X2_fail_43 hG hI (fun R9 M9 I9 hr9 => ?_)) (Nat.le_of_ble_eq_true rfl)
              refine ⟨dB01 (by omega), ?_⟩
              exact hQ _ _ I9 (by omega)
          · skip
            exfalso; omega
      · skip
        exfalso; omega
    · skip
      refine ⟨by omega, ?_⟩
      refine ⟨fun hc3 => ?_, fun hc3 => ?_⟩
      · skip
        refine ⟨fun hc4 => ?_, fun hc4 => ?_⟩
        · skip
          refine v_X2_unit_43_67 ?_
          refine ⟨fun hc5 => ?_, fun hc5 => ?_⟩
          · skip
            exfalso; omega
          · skip
            have f6 := ti_1
            refine Wp.deep (s_X2_fail_43 hG hI (fun R7 M7 I7 hr7 => ?_)) (Nat.le_of_ble_eq_true rfl)
            refine ⟨dB01 (by omega), ?_⟩
            exact hQ _ _ I7 (by omega)
        · skip
          refine ⟨fun hc5 => ?_, fun hc5 => ?_⟩
          · skip
            refine v_X2_unit_43_67 ?_
            refine ⟨fun hc6 => ?_, fun hc6 => ?_⟩
            · skip
              refine ⟨fun hc7 => ?_, fun hc7 => ?_⟩
              · skip
                exfalso; omega
              · skip
                have f8 := ti_2
                refine Wp.deep (s_X2_fail_43 hG hI (fun R9 M9 I9 hr9 => ?_)) (Nat.le_of_ble_eq_true rfl)
                refine ⟨dB01 (by omega), ?_⟩
                exact hQ _ _ I9 (by omega)
            · skip
              have f7 := ti_1
              refine Wp.deep (s_X2_fail_43 hG hI (fun R8 M8 I8 hr8 => ?_)) (Nat.le_of_ble_eq_true rfl)
              refine ⟨dB01 (by omega), ?_⟩
              exact hQ _ _ I8 (by omega)
          · skip
            have f6 := dAddE (X := 4) (Y := (m.1 39 (m.1 43 2).toNatClampNeg).toInt) (x := (4 : Int32)) (y := (m.1 39 (m.1 43 2).toNatClampNeg)) (by decide) rfl (by omega) (by omega)
            have f7 := dSubE (X := ((4 : Int32) + (m.1 39 (m.1 43 2).toNatClampNeg)).toInt) (Y := 13) (x := ((4 : Int32) + (m.1 39 (m.1 43 2).toNatClampNeg))) (y := (13 : Int32)) rfl (by decide) (by omega) (by omega)
            refine Wp.deep (s_X4_put_29 hG hI (fun M8 I8 => ?_)) (Nat.le_of_ble_eq_true rfl)
            refine Wp.deep (s_X2_step_43 hG I8 (fun R9 M9 I9 hr9 => ?_)) (Nat.le_of_ble_eq_true rfl)
            refine ⟨dB01 (by omega), ?_⟩
            exact hQ _ _ I9 (by omega)
      · skip
        refine Wp.deep (s_X8_numberAt_38 hG hI (fun R4 => ?_)) (Nat.le_of_ble_eq_true rfl)
        refine Wp.deep (s_X4_put_29 hG hI (fun M5 I5 => ?_)) (Nat.le_of_ble_eq_true rfl)
        refine Wp.deep (s_X2_step_43 hG I5 (fun R6 M6 I6 hr6 => ?_)) (Nat.le_of_ble_eq_true rfl)
        refine ⟨dB01 (by omega), ?_⟩
        exact hQ _ _ I6 (by omega)
theorem s_X2_product_43_L6_all {g : gM} {Q : Int32 → dM → Prop} (hG : Gd g) (hQ : ∀ (r : Int32) (m' : dM), Inv g m' → (0 ≤ r.toInt ∧ r.toInt ≤ 1) → Q r m') : ∀ n : Nat, (∀ (x1 : Int32) (x2 : Int32) (m : dM), Inv g m → (6 ≤ x1.toInt ∧ x1.toInt ≤ 6) → (0 ≤ x2.toInt ∧ x2.toInt ≤ 401) → 805 - 2 * x2.toInt < (n : Int) → j_X2_product_43_12 7 x1 x2 m Q) ∧ (∀ (x1 : Int32) (x2 : Int32) (m : dM), Inv g m → (6 ≤ x1.toInt ∧ x1.toInt ≤ 6) → (0 ≤ x2.toInt ∧ x2.toInt ≤ 400) → 804 - 2 * x2.toInt < (n : Int) → j_X2_product_43_37 7 x1 x2 m Q) ∧ (∀ (m : dM), Inv g m → 1 < (n : Int) → j_X2_product_43_67 7 m Q) ∧ (∀ (m : dM), Inv g m → 0 < (n : Int) → j_X2_product_43_83 7 m Q) := by
  intro n
  induction n with
  | zero => exact ⟨fun x1 x2 m hI h1 h2 hμ => by exfalso; omega, fun x1 x2 m hI h1 h2 hμ => by exfalso; omega, fun m hI hμ => by exfalso; omega, fun m hI hμ => by exfalso; omega⟩
  | succ n ih =>
    refine ⟨?_, ?_, ?_, ?_⟩
    · intro x1 x2 m hI h1 h2 hμ
      refine v_X2_product_43_12 ?_
      refine ⟨fun hc1 => ?_, fun hc1 => ?_⟩
      · skip
        exact ih.2.2.2 _ hI (by omega)
      · skip
        refine v_X2_kind_43 ?_
        refine ⟨fun hc2 => ?_, fun hc2 => ?_⟩
        · skip
          refine v_X2_kind_43_32 ?_
          have f3 := ti_24
          refine ⟨fun hc4 => ?_, fun hc4 => ?_⟩
          · skip
            exfalso; omega
          · skip
            refine v_X2_kind_43 ?_
            refine ⟨fun hc5 => ?_, fun hc5 => ?_⟩
            · skip
              refine v_X2_kind_43_32 ?_
              refine ⟨fun hc6 => ?_, fun hc6 => ?_⟩
              · skip
                exact ih.2.2.2 _ hI (by omega)
              · skip
                exfalso; omega
            · skip
              exfalso; omega
        · skip
          refine ⟨fun hc3 => ?_, fun hc3 => ?_⟩
          · skip
            refine v_X2_kind_43_32 ?_
            have f4 := ti_24
            refine ⟨fun hc5 => ?_, fun hc5 => ?_⟩
            · skip
              exfalso; omega
            · skip
              refine v_X2_kind_43 ?_
              refine ⟨fun hc6 => ?_, fun hc6 => ?_⟩
              · skip
                exfalso; omega
              · skip
                refine ⟨fun hc7 => ?_, fun hc7 => ?_⟩
                · skip
                  refine v_X2_kind_43_32 ?_
                  refine ⟨fun hc8 => ?_, fun hc8 => ?_⟩
                  · skip
                    exact ih.2.2.2 _ hI (by omega)
                  · skip
                    exfalso; omega
                · skip
                  exfalso; omega
          · skip
            refine ⟨by omega, ?_⟩
            refine ⟨fun hc4 => ?_, fun hc4 => ?_⟩
            · skip
              exact ih.2.1 _ _ _ hI (by omega) (by omega) (by omega)
            · skip
              refine v_X2_kind_43 ?_
              refine ⟨fun hc5 => ?_, fun hc5 => ?_⟩
              · skip
                exfalso; omega
              · skip
                refine ⟨fun hc6 => ?_, fun hc6 => ?_⟩
                · skip
                  exfalso; omega
                · skip
                  refine ⟨by omega, ?_⟩
                  refine ⟨fun hc7 => ?_, fun hc7 => ?_⟩
                  · skip
                    exact ih.2.2.2 _ hI (by omega)
                  · skip
                    exact ih.2.1 _ _ _ hI (by omega) (by omega) (by omega)
    · intro x1 x2 m hI h1 h2 hμ
      refine v_X2_product_43_37 ?_
      refine v_X2_kind_43 ?_
      refine ⟨fun hc1 => ?_, fun hc1 => ?_⟩
      · skip
        refine v_X2_kind_43_32 ?_
        have f2 := ti_24
        refine ⟨fun hc3 => ?_, fun hc3 => ?_⟩
        · skip
          refine Wp.deep (s_X2_step_43 hG hI (fun R4 M4 I4 hr4 => ?_)) (Nat.le_of_ble_eq_true rfl)
          refine ⟨fun hc5 => ?_, fun hc5 => ?_⟩
          · skip
            exact ih.2.2.1 _ I4 (by omega)
          · skip
            refine Wp.deep (s_X2_unit_43_L6 hG I4 (by omega) (fun R6 M6 I6 hr6 => ?_)) (Nat.le_of_ble_eq_true rfl)
            refine ⟨fun hc7 => ?_, fun hc7 => ?_⟩
            · skip
              have f8 := ti_3
              refine Wp.deep (s_X4_put_29 hG I6 (fun M9 I9 => ?_)) (Nat.le_of_ble_eq_true rfl)
              have f10 := dAddE (X := x2.toInt) (Y := 1) (x := x2) (y := (1 : Int32)) rfl (by decide) (by omega) (by omega)
              exact ih.1 _ _ _ I9 (by omega) (by omega) (by omega)
            · skip
              exact ih.2.2.1 _ I6 (by omega)
        · skip
          exfalso; omega
      · skip
        refine ⟨fun hc2 => ?_, fun hc2 => ?_⟩
        · skip
          refine v_X2_kind_43_32 ?_
          have f3 := ti_24
          refine ⟨fun hc4 => ?_, fun hc4 => ?_⟩
          · skip
            refine Wp.deep (s_X2_step_43 hG hI (fun R5 M5 I5 hr5 => ?_)) (Nat.le_of_ble_eq_true rfl)
            refine ⟨fun hc6 => ?_, fun hc6 => ?_⟩
            · skip
              exact ih.2.2.1 _ I5 (by omega)
            · skip
              refine Wp.deep (s_X2_unit_43_L6 hG I5 (by omega) (fun R7 M7 I7 hr7 => ?_)) (Nat.le_of_ble_eq_true rfl)
              refine ⟨fun hc8 => ?_, fun hc8 => ?_⟩
              · skip
                have f9 := ti_3
                refine Wp.deep (s_X4_put_29 hG I7 (fun M10 I10 => ?_)) (Nat.le_of_ble_eq_true rfl)
                have f11 := dAddE (X := x2.toInt) (Y := 1) (x := x2) (y := (1 : Int32)) rfl (by decide) (by omega) (by omega)
                exact ih.1 _ _ _ I10 (by omega) (by omega) (by omega)
              · skip
                exact ih.2.2.1 _ I7 (by omega)
          · skip
            exfalso; omega
        · skip
          refine ⟨by omega, ?_⟩
          refine ⟨fun hc3 => ?_, fun hc3 => ?_⟩
          · skip
            refine Wp.deep (s_X2_step_43 hG hI (fun R4 M4 I4 hr4 => ?_)) (Nat.le_of_ble_eq_true rfl)
            refine ⟨fun hc5 => ?_, fun hc5 => ?_⟩
            · skip
              exact ih.2.2.1 _ I4 (by omega)
            · skip
              refine Wp.deep (s_X2_unit_43_L6 hG I4 (by omega) (fun R6 M6 I6 hr6 => ?_)) (Nat.le_of_ble_eq_true rfl)
              refine ⟨fun hc7 => ?_, fun hc7 => ?_⟩
              · skip
                have f8 := ti_3
                refine Wp.deep (s_X4_put_29 hG I6 (fun M9 I9 => ?_)) (Nat.le_of_ble_eq_true rfl)
                have f10 := dAddE (X := x2.toInt) (Y := 1) (x := x2) (y := (1 : Int32)) rfl (by decide) (by omega) (by omega)
                exact ih.1 _ _ _ I9 (by omega) (by omega) (by omega)
              · skip
                exact ih.2.2.1 _ I6 (by omega)
          · skip
            refine Wp.deep (s_X2_step_43 hG hI (fun R4 M4 I4 hr4 => ?_)) (Nat.le_of_ble_eq_true rfl)
            refine ⟨fun hc5 => ?_, fun hc5 => ?_⟩
            · skip
              exact ih.2.2.1 _ I4 (by omega)
            · skip
              refine Wp.deep (s_X2_unit_43_L6 hG I4 (by omega) (fun R6 M6 I6 hr6 => ?_)) (Nat.le_of_ble_eq_true rfl)
              refine ⟨fun hc7 => ?_, fun hc7 => ?_⟩
              · skip
                have f8 := ti_2
                refine Wp.deep (s_X4_put_29 hG I6 (fun M9 I9 => ?_)) (Nat.le_of_ble_eq_true rfl)
                have f10 := dAddE (X := x2.toInt) (Y := 1) (x := x2) (y := (1 : Int32)) rfl (by decide) (by omega) (by omega)
                exact ih.1 _ _ _ I9 (by omega) (by omega) (by omega)
              · skip
                exact ih.2.2.1 _ I6 (by omega)
    · intro m hI hμ
      refine v_X2_product_43_67 ?_
      have f1 := ti_0
      exact hQ _ _ hI (by omega)
    · intro m hI hμ
      refine v_X2_product_43_83 ?_
      have f1 := ti_1
      exact hQ _ _ hI (by omega)
theorem s_X2_product_43_L6 {g : gM} {x1 : Int32} {m : dM} {Q : Int32 → dM → Prop} (hG : Gd g) (hI : Inv g m) (h1 : 6 ≤ x1.toInt ∧ x1.toInt ≤ 6) (hQ : ∀ (r : Int32) (m' : dM), Inv g m' → (0 ≤ r.toInt ∧ r.toInt ≤ 1) → Q r m') : c_X2_product_43 7 x1 m Q := by
  refine v_X2_product_43 ?_
  refine Wp.deep (s_X2_unit_43_L6 hG hI (by omega) (fun R1 M1 I1 hr1 => ?_)) (Nat.le_of_ble_eq_true rfl)
  refine ⟨fun hc2 => ?_, fun hc2 => ?_⟩
  · skip
    have f3 := ti_0
    exact (s_X2_product_43_L6_all hG hQ 807).1 _ _ _ I1 (by omega) (by omega) (by omega)
  · skip
    have f3 := ti_0
    exact hQ _ _ I1 (by omega)
theorem s_X2_sum_43_L6_all {g : gM} {Q : Int32 → dM → Prop} (hG : Gd g) (hQ : ∀ (r : Int32) (m' : dM), Inv g m' → (0 ≤ r.toInt ∧ r.toInt ≤ 1) → Q r m') : ∀ n : Nat, (∀ (x1 : Int32) (x2 : Int32) (m : dM), Inv g m → (6 ≤ x1.toInt ∧ x1.toInt ≤ 6) → (0 ≤ x2.toInt ∧ x2.toInt ≤ 401) → 805 - 2 * x2.toInt < (n : Int) → j_X2_sum_43_12 8 x1 x2 m Q) ∧ (∀ (x1 : Int32) (x2 : Int32) (m : dM), Inv g m → (6 ≤ x1.toInt ∧ x1.toInt ≤ 6) → (0 ≤ x2.toInt ∧ x2.toInt ≤ 400) → 804 - 2 * x2.toInt < (n : Int) → j_X2_sum_43_37 8 x1 x2 m Q) ∧ (∀ (m : dM), Inv g m → 1 < (n : Int) → j_X2_sum_43_67 8 m Q) ∧ (∀ (m : dM), Inv g m → 0 < (n : Int) → j_X2_sum_43_83 8 m Q) := by
  intro n
  induction n with
  | zero => exact ⟨fun x1 x2 m hI h1 h2 hμ => by exfalso; omega, fun x1 x2 m hI h1 h2 hμ => by exfalso; omega, fun m hI hμ => by exfalso; omega, fun m hI hμ => by exfalso; omega⟩
  | succ n ih =>
    refine ⟨?_, ?_, ?_, ?_⟩
    · intro x1 x2 m hI h1 h2 hμ
      refine v_X2_sum_43_12 ?_
      refine ⟨fun hc1 => ?_, fun hc1 => ?_⟩
      · skip
        exact ih.2.2.2 _ hI (by omega)
      · skip
        refine v_X2_kind_43 ?_
        refine ⟨fun hc2 => ?_, fun hc2 => ?_⟩
        · skip
          refine v_X2_kind_43_32 ?_
          have f3 := ti_24
          refine ⟨fun hc4 => ?_, fun hc4 => ?_⟩
          · skip
            exfalso; omega
          · skip
            refine v_X2_kind_43 ?_
            refine ⟨fun hc5 => ?_, fun hc5 => ?_⟩
            · skip
              refine v_X2_kind_43_32 ?_
              refine ⟨fun hc6 => ?_, fun hc6 => ?_⟩
              · skip
                exact ih.2.2.2 _ hI (by omega)
              · skip
                exfalso; omega
            · skip
              exfalso; omega
        · skip
          refine ⟨fun hc3 => ?_, fun hc3 => ?_⟩
          · skip
            refine v_X2_kind_43_32 ?_
            have f4 := ti_24
            refine ⟨fun hc5 => ?_, fun hc5 => ?_⟩
            · skip
              exfalso; omega
            · skip
              refine v_X2_kind_43 ?_
              refine ⟨fun hc6 => ?_, fun hc6 => ?_⟩
              · skip
                exfalso; omega
              · skip
                refine ⟨fun hc7 => ?_, fun hc7 => ?_⟩
                · skip
                  refine v_X2_kind_43_32 ?_
                  refine ⟨fun hc8 => ?_, fun hc8 => ?_⟩
                  · skip
                    exact ih.2.2.2 _ hI (by omega)
                  · skip
                    exfalso; omega
                · skip
                  exfalso; omega
          · skip
            refine ⟨by omega, ?_⟩
            refine ⟨fun hc4 => ?_, fun hc4 => ?_⟩
            · skip
              exact ih.2.1 _ _ _ hI (by omega) (by omega) (by omega)
            · skip
              refine v_X2_kind_43 ?_
              refine ⟨fun hc5 => ?_, fun hc5 => ?_⟩
              · skip
                exfalso; omega
              · skip
                refine ⟨fun hc6 => ?_, fun hc6 => ?_⟩
                · skip
                  exfalso; omega
                · skip
                  refine ⟨by omega, ?_⟩
                  refine ⟨fun hc7 => ?_, fun hc7 => ?_⟩
                  · skip
                    exact ih.2.2.2 _ hI (by omega)
                  · skip
                    exact ih.2.1 _ _ _ hI (by omega) (by omega) (by omega)
    · intro x1 x2 m hI h1 h2 hμ
      refine v_X2_sum_43_37 ?_
      refine v_X2_kind_43 ?_
      refine ⟨fun hc1 => ?_, fun hc1 => ?_⟩
      · skip
        refine v_X2_kind_43_32 ?_
        have f2 := ti_24
        refine ⟨fun hc3 => ?_, fun hc3 => ?_⟩
        · skip
          refine Wp.deep (s_X2_step_43 hG hI (fun R4 M4 I4 hr4 => ?_)) (Nat.le_of_ble_eq_true rfl)
          refine ⟨fun hc5 => ?_, fun hc5 => ?_⟩
          · skip
            exact ih.2.2.1 _ I4 (by omega)
          · skip
            refine Wp.deep (s_X2_product_43_L6 hG I4 (by omega) (fun R6 M6 I6 hr6 => ?_)) (Nat.le_of_ble_eq_true rfl)
            refine ⟨fun hc7 => ?_, fun hc7 => ?_⟩
            · skip
              have f8 := ti_1
              refine Wp.deep (s_X4_put_29 hG I6 (fun M9 I9 => ?_)) (Nat.le_of_ble_eq_true rfl)
              have f10 := dAddE (X := x2.toInt) (Y := 1) (x := x2) (y := (1 : Int32)) rfl (by decide) (by omega) (by omega)
              exact ih.1 _ _ _ I9 (by omega) (by omega) (by omega)
            · skip
              exact ih.2.2.1 _ I6 (by omega)
        · skip
          exfalso; omega
      · skip
        refine ⟨fun hc2 => ?_, fun hc2 => ?_⟩
        · skip
          refine v_X2_kind_43_32 ?_
          have f3 := ti_24
          refine ⟨fun hc4 => ?_, fun hc4 => ?_⟩
          · skip
            refine Wp.deep (s_X2_step_43 hG hI (fun R5 M5 I5 hr5 => ?_)) (Nat.le_of_ble_eq_true rfl)
            refine ⟨fun hc6 => ?_, fun hc6 => ?_⟩
            · skip
              exact ih.2.2.1 _ I5 (by omega)
            · skip
              refine Wp.deep (s_X2_product_43_L6 hG I5 (by omega) (fun R7 M7 I7 hr7 => ?_)) (Nat.le_of_ble_eq_true rfl)
              refine ⟨fun hc8 => ?_, fun hc8 => ?_⟩
              · skip
                have f9 := ti_1
                refine Wp.deep (s_X4_put_29 hG I7 (fun M10 I10 => ?_)) (Nat.le_of_ble_eq_true rfl)
                have f11 := dAddE (X := x2.toInt) (Y := 1) (x := x2) (y := (1 : Int32)) rfl (by decide) (by omega) (by omega)
                exact ih.1 _ _ _ I10 (by omega) (by omega) (by omega)
              · skip
                exact ih.2.2.1 _ I7 (by omega)
          · skip
            exfalso; omega
        · skip
          refine ⟨by omega, ?_⟩
          refine ⟨fun hc3 => ?_, fun hc3 => ?_⟩
          · skip
            refine Wp.deep (s_X2_step_43 hG hI (fun R4 M4 I4 hr4 => ?_)) (Nat.le_of_ble_eq_true rfl)
            refine ⟨fun hc5 => ?_, fun hc5 => ?_⟩
            · skip
              exact ih.2.2.1 _ I4 (by omega)
            · skip
              refine Wp.deep (s_X2_product_43_L6 hG I4 (by omega) (fun R6 M6 I6 hr6 => ?_)) (Nat.le_of_ble_eq_true rfl)
              refine ⟨fun hc7 => ?_, fun hc7 => ?_⟩
              · skip
                have f8 := ti_1
                refine Wp.deep (s_X4_put_29 hG I6 (fun M9 I9 => ?_)) (Nat.le_of_ble_eq_true rfl)
                have f10 := dAddE (X := x2.toInt) (Y := 1) (x := x2) (y := (1 : Int32)) rfl (by decide) (by omega) (by omega)
                exact ih.1 _ _ _ I9 (by omega) (by omega) (by omega)
              · skip
                exact ih.2.2.1 _ I6 (by omega)
          · skip
            refine Wp.deep (s_X2_step_43 hG hI (fun R4 M4 I4 hr4 => ?_)) (Nat.le_of_ble_eq_true rfl)
            refine ⟨fun hc5 => ?_, fun hc5 => ?_⟩
            · skip
              exact ih.2.2.1 _ I4 (by omega)
            · skip
              refine Wp.deep (s_X2_product_43_L6 hG I4 (by omega) (fun R6 M6 I6 hr6 => ?_)) (Nat.le_of_ble_eq_true rfl)
              refine ⟨fun hc7 => ?_, fun hc7 => ?_⟩
              · skip
                have f8 := ti_0
                refine Wp.deep (s_X4_put_29 hG I6 (fun M9 I9 => ?_)) (Nat.le_of_ble_eq_true rfl)
                have f10 := dAddE (X := x2.toInt) (Y := 1) (x := x2) (y := (1 : Int32)) rfl (by decide) (by omega) (by omega)
                exact ih.1 _ _ _ I9 (by omega) (by omega) (by omega)
              · skip
                exact ih.2.2.1 _ I6 (by omega)
    · intro m hI hμ
      refine v_X2_sum_43_67 ?_
      have f1 := ti_0
      exact hQ _ _ hI (by omega)
    · intro m hI hμ
      refine v_X2_sum_43_83 ?_
      have f1 := ti_1
      exact hQ _ _ hI (by omega)
theorem s_X2_sum_43_L6 {g : gM} {x1 : Int32} {m : dM} {Q : Int32 → dM → Prop} (hG : Gd g) (hI : Inv g m) (h1 : 6 ≤ x1.toInt ∧ x1.toInt ≤ 6) (hQ : ∀ (r : Int32) (m' : dM), Inv g m' → (0 ≤ r.toInt ∧ r.toInt ≤ 1) → Q r m') : c_X2_sum_43 8 x1 m Q := by
  refine v_X2_sum_43 ?_
  refine Wp.deep (s_X2_product_43_L6 hG hI (by omega) (fun R1 M1 I1 hr1 => ?_)) (Nat.le_of_ble_eq_true rfl)
  refine ⟨fun hc2 => ?_, fun hc2 => ?_⟩
  · skip
    have f3 := ti_0
    exact (s_X2_sum_43_L6_all hG hQ 807).1 _ _ _ I1 (by omega) (by omega) (by omega)
  · skip
    have f3 := ti_0
    exact hQ _ _ I1 (by omega)
theorem s_X2_unit_43_L5 {g : gM} {x1 : Int32} {m : dM} {Q : Int32 → dM → Prop} (hG : Gd g) (hI : Inv g m) (h1 : 5 ≤ x1.toInt ∧ x1.toInt ≤ 5) (hQ : ∀ (r : Int32) (m' : dM), Inv g m' → (0 ≤ r.toInt ∧ r.toInt ≤ 1) → Q r m') : c_X2_unit_43 9 x1 m Q := by
  refine v_X2_unit_43 ?_
  refine v_X2_kind_43 ?_
  refine ⟨fun hc1 => ?_, fun hc1 => ?_⟩
  · skip
    refine v_X2_kind_43_32 ?_
    have f2 := ti_24
    refine ⟨fun hc3 => ?_, fun hc3 => ?_⟩
    · skip
      refine ⟨fun hc4 => ?_, fun hc4 => ?_⟩
      · skip
        exfalso; omega
      · skip
        refine ⟨fun hc5 => ?_, fun hc5 => ?_⟩
        · skip
          refine v_X2_unit_43_67 ?_
          refine ⟨fun hc6 => ?_, fun hc6 => ?_⟩
          · skip
            exfalso; omega
          · skip
            have f7 := ti_1
            refine Wp.deep (s_X2_fail_43 hG hI (fun R8 M8 I8 hr8 => ?_)) (Nat.le_of_ble_eq_true rfl)
            refine ⟨dB01 (by omega), ?_⟩
            exact hQ _ _ I8 (by omega)
        · skip
          exfalso; omega
    · skip
      exfalso; omega
  · skip
    refine ⟨fun hc2 => ?_, fun hc2 => ?_⟩
    · skip
      refine v_X2_kind_43_32 ?_
      have f3 := ti_24
      refine ⟨fun hc4 => ?_, fun hc4 => ?_⟩
      · skip
        refine ⟨fun hc5 => ?_, fun hc5 => ?_⟩
        · skip
          exfalso; omega
        · skip
          refine ⟨fun hc6 => ?_, fun hc6 => ?_⟩
          · skip
            refine v_X2_unit_43_67 ?_
            refine ⟨fun hc7 => ?_, fun hc7 => ?_⟩
            · skip
              exfalso; omega
            · skip
              have f8 := ti_1
              refine Wp.deep (s_X2_fail_43 hG hI (fun R9 M9 I9 hr9 => ?_)) (Nat.le_of_ble_eq_true rfl)
              refine ⟨dB01 (by omega), ?_⟩
              exact hQ _ _ I9 (by omega)
          · skip
            exfalso; omega
      · skip
        exfalso; omega
    · skip
      refine ⟨by omega, ?_⟩
      refine ⟨fun hc3 => ?_, fun hc3 => ?_⟩
      · skip
        refine ⟨fun hc4 => ?_, fun hc4 => ?_⟩
        · skip
          refine v_X2_unit_43_67 ?_
          refine ⟨fun hc5 => ?_, fun hc5 => ?_⟩
          · skip
            exfalso; omega
          · skip
            have f6 := ti_1
            refine Wp.deep (s_X2_fail_43 hG hI (fun R7 M7 I7 hr7 => ?_)) (Nat.le_of_ble_eq_true rfl)
            refine ⟨dB01 (by omega), ?_⟩
            exact hQ _ _ I7 (by omega)
        · skip
          refine ⟨fun hc5 => ?_, fun hc5 => ?_⟩
          · skip
            refine v_X2_unit_43_67 ?_
            refine ⟨fun hc6 => ?_, fun hc6 => ?_⟩
            · skip
              refine ⟨fun hc7 => ?_, fun hc7 => ?_⟩
              · skip
                refine Wp.deep (s_X2_step_43 hG hI (fun R8 M8 I8 hr8 => ?_)) (Nat.le_of_ble_eq_true rfl)
                refine ⟨fun hc9 => ?_, fun hc9 => ?_⟩
                · skip
                  refine v_X2_unit_43_123 ?_
                  have f10 := ti_0
                  exact hQ _ _ I8 (by omega)
                · skip
                  have f10 := dAddE (X := x1.toInt) (Y := 1) (x := x1) (y := (1 : Int32)) rfl (by decide) (by omega) (by omega)
                  refine Wp.deep (s_X2_sum_43_L6 hG I8 (by omega) (fun R11 M11 I11 hr11 => ?_)) (Nat.le_of_ble_eq_true rfl)
                  refine ⟨fun hc12 => ?_, fun hc12 => ?_⟩
                  · skip
                    refine v_X2_unit_43_123 ?_
                    have f13 := ti_0
                    exact hQ _ _ I11 (by omega)
                  · skip
                    have f13 := ti_41
                    refine Wp.deep (s_X2_need_43 hG I11 (fun R14 M14 I14 hr14 => ?_)) (Nat.le_of_ble_eq_true rfl)
                    refine ⟨fun hc15 => ?_, fun hc15 => ?_⟩
                    · skip
                      refine v_X2_unit_43_123 ?_
                      have f16 := ti_0
                      exact hQ _ _ I14 (by omega)
                    · skip
                      have f16 := ti_1
                      exact hQ _ _ I14 (by omega)
              · skip
                exfalso; omega
            · skip
              have f7 := ti_1
              refine Wp.deep (s_X2_fail_43 hG hI (fun R8 M8 I8 hr8 => ?_)) (Nat.le_of_ble_eq_true rfl)
              refine ⟨dB01 (by omega), ?_⟩
              exact hQ _ _ I8 (by omega)
          · skip
            have f6 := dAddE (X := 4) (Y := (m.1 39 (m.1 43 2).toNatClampNeg).toInt) (x := (4 : Int32)) (y := (m.1 39 (m.1 43 2).toNatClampNeg)) (by decide) rfl (by omega) (by omega)
            have f7 := dSubE (X := ((4 : Int32) + (m.1 39 (m.1 43 2).toNatClampNeg)).toInt) (Y := 13) (x := ((4 : Int32) + (m.1 39 (m.1 43 2).toNatClampNeg))) (y := (13 : Int32)) rfl (by decide) (by omega) (by omega)
            refine Wp.deep (s_X4_put_29 hG hI (fun M8 I8 => ?_)) (Nat.le_of_ble_eq_true rfl)
            refine Wp.deep (s_X2_step_43 hG I8 (fun R9 M9 I9 hr9 => ?_)) (Nat.le_of_ble_eq_true rfl)
            refine ⟨dB01 (by omega), ?_⟩
            exact hQ _ _ I9 (by omega)
      · skip
        refine Wp.deep (s_X8_numberAt_38 hG hI (fun R4 => ?_)) (Nat.le_of_ble_eq_true rfl)
        refine Wp.deep (s_X4_put_29 hG hI (fun M5 I5 => ?_)) (Nat.le_of_ble_eq_true rfl)
        refine Wp.deep (s_X2_step_43 hG I5 (fun R6 M6 I6 hr6 => ?_)) (Nat.le_of_ble_eq_true rfl)
        refine ⟨dB01 (by omega), ?_⟩
        exact hQ _ _ I6 (by omega)
theorem s_X2_product_43_L5_all {g : gM} {Q : Int32 → dM → Prop} (hG : Gd g) (hQ : ∀ (r : Int32) (m' : dM), Inv g m' → (0 ≤ r.toInt ∧ r.toInt ≤ 1) → Q r m') : ∀ n : Nat, (∀ (x1 : Int32) (x2 : Int32) (m : dM), Inv g m → (5 ≤ x1.toInt ∧ x1.toInt ≤ 5) → (0 ≤ x2.toInt ∧ x2.toInt ≤ 401) → 805 - 2 * x2.toInt < (n : Int) → j_X2_product_43_12 10 x1 x2 m Q) ∧ (∀ (x1 : Int32) (x2 : Int32) (m : dM), Inv g m → (5 ≤ x1.toInt ∧ x1.toInt ≤ 5) → (0 ≤ x2.toInt ∧ x2.toInt ≤ 400) → 804 - 2 * x2.toInt < (n : Int) → j_X2_product_43_37 10 x1 x2 m Q) ∧ (∀ (m : dM), Inv g m → 1 < (n : Int) → j_X2_product_43_67 10 m Q) ∧ (∀ (m : dM), Inv g m → 0 < (n : Int) → j_X2_product_43_83 10 m Q) := by
  intro n
  induction n with
  | zero => exact ⟨fun x1 x2 m hI h1 h2 hμ => by exfalso; omega, fun x1 x2 m hI h1 h2 hμ => by exfalso; omega, fun m hI hμ => by exfalso; omega, fun m hI hμ => by exfalso; omega⟩
  | succ n ih =>
    refine ⟨?_, ?_, ?_, ?_⟩
    · intro x1 x2 m hI h1 h2 hμ
      refine v_X2_product_43_12 ?_
      refine ⟨fun hc1 => ?_, fun hc1 => ?_⟩
      · skip
        exact ih.2.2.2 _ hI (by omega)
      · skip
        refine v_X2_kind_43 ?_
        refine ⟨fun hc2 => ?_, fun hc2 => ?_⟩
        · skip
          refine v_X2_kind_43_32 ?_
          have f3 := ti_24
          refine ⟨fun hc4 => ?_, fun hc4 => ?_⟩
          · skip
            exfalso; omega
          · skip
            refine v_X2_kind_43 ?_
            refine ⟨fun hc5 => ?_, fun hc5 => ?_⟩
            · skip
              refine v_X2_kind_43_32 ?_
              refine ⟨fun hc6 => ?_, fun hc6 => ?_⟩
              · skip
                exact ih.2.2.2 _ hI (by omega)
              · skip
                exfalso; omega
            · skip
              exfalso; omega
        · skip
          refine ⟨fun hc3 => ?_, fun hc3 => ?_⟩
          · skip
            refine v_X2_kind_43_32 ?_
            have f4 := ti_24
            refine ⟨fun hc5 => ?_, fun hc5 => ?_⟩
            · skip
              exfalso; omega
            · skip
              refine v_X2_kind_43 ?_
              refine ⟨fun hc6 => ?_, fun hc6 => ?_⟩
              · skip
                exfalso; omega
              · skip
                refine ⟨fun hc7 => ?_, fun hc7 => ?_⟩
                · skip
                  refine v_X2_kind_43_32 ?_
                  refine ⟨fun hc8 => ?_, fun hc8 => ?_⟩
                  · skip
                    exact ih.2.2.2 _ hI (by omega)
                  · skip
                    exfalso; omega
                · skip
                  exfalso; omega
          · skip
            refine ⟨by omega, ?_⟩
            refine ⟨fun hc4 => ?_, fun hc4 => ?_⟩
            · skip
              exact ih.2.1 _ _ _ hI (by omega) (by omega) (by omega)
            · skip
              refine v_X2_kind_43 ?_
              refine ⟨fun hc5 => ?_, fun hc5 => ?_⟩
              · skip
                exfalso; omega
              · skip
                refine ⟨fun hc6 => ?_, fun hc6 => ?_⟩
                · skip
                  exfalso; omega
                · skip
                  refine ⟨by omega, ?_⟩
                  refine ⟨fun hc7 => ?_, fun hc7 => ?_⟩
                  · skip
                    exact ih.2.2.2 _ hI (by omega)
                  · skip
                    exact ih.2.1 _ _ _ hI (by omega) (by omega) (by omega)
    · intro x1 x2 m hI h1 h2 hμ
      refine v_X2_product_43_37 ?_
      refine v_X2_kind_43 ?_
      refine ⟨fun hc1 => ?_, fun hc1 => ?_⟩
      · skip
        refine v_X2_kind_43_32 ?_
        have f2 := ti_24
        refine ⟨fun hc3 => ?_, fun hc3 => ?_⟩
        · skip
          refine Wp.deep (s_X2_step_43 hG hI (fun R4 M4 I4 hr4 => ?_)) (Nat.le_of_ble_eq_true rfl)
          refine ⟨fun hc5 => ?_, fun hc5 => ?_⟩
          · skip
            exact ih.2.2.1 _ I4 (by omega)
          · skip
            refine Wp.deep (s_X2_unit_43_L5 hG I4 (by omega) (fun R6 M6 I6 hr6 => ?_)) (Nat.le_of_ble_eq_true rfl)
            refine ⟨fun hc7 => ?_, fun hc7 => ?_⟩
            · skip
              have f8 := ti_3
              refine Wp.deep (s_X4_put_29 hG I6 (fun M9 I9 => ?_)) (Nat.le_of_ble_eq_true rfl)
              have f10 := dAddE (X := x2.toInt) (Y := 1) (x := x2) (y := (1 : Int32)) rfl (by decide) (by omega) (by omega)
              exact ih.1 _ _ _ I9 (by omega) (by omega) (by omega)
            · skip
              exact ih.2.2.1 _ I6 (by omega)
        · skip
          exfalso; omega
      · skip
        refine ⟨fun hc2 => ?_, fun hc2 => ?_⟩
        · skip
          refine v_X2_kind_43_32 ?_
          have f3 := ti_24
          refine ⟨fun hc4 => ?_, fun hc4 => ?_⟩
          · skip
            refine Wp.deep (s_X2_step_43 hG hI (fun R5 M5 I5 hr5 => ?_)) (Nat.le_of_ble_eq_true rfl)
            refine ⟨fun hc6 => ?_, fun hc6 => ?_⟩
            · skip
              exact ih.2.2.1 _ I5 (by omega)
            · skip
              refine Wp.deep (s_X2_unit_43_L5 hG I5 (by omega) (fun R7 M7 I7 hr7 => ?_)) (Nat.le_of_ble_eq_true rfl)
              refine ⟨fun hc8 => ?_, fun hc8 => ?_⟩
              · skip
                have f9 := ti_3
                refine Wp.deep (s_X4_put_29 hG I7 (fun M10 I10 => ?_)) (Nat.le_of_ble_eq_true rfl)
                have f11 := dAddE (X := x2.toInt) (Y := 1) (x := x2) (y := (1 : Int32)) rfl (by decide) (by omega) (by omega)
                exact ih.1 _ _ _ I10 (by omega) (by omega) (by omega)
              · skip
                exact ih.2.2.1 _ I7 (by omega)
          · skip
            exfalso; omega
        · skip
          refine ⟨by omega, ?_⟩
          refine ⟨fun hc3 => ?_, fun hc3 => ?_⟩
          · skip
            refine Wp.deep (s_X2_step_43 hG hI (fun R4 M4 I4 hr4 => ?_)) (Nat.le_of_ble_eq_true rfl)
            refine ⟨fun hc5 => ?_, fun hc5 => ?_⟩
            · skip
              exact ih.2.2.1 _ I4 (by omega)
            · skip
              refine Wp.deep (s_X2_unit_43_L5 hG I4 (by omega) (fun R6 M6 I6 hr6 => ?_)) (Nat.le_of_ble_eq_true rfl)
              refine ⟨fun hc7 => ?_, fun hc7 => ?_⟩
              · skip
                have f8 := ti_3
                refine Wp.deep (s_X4_put_29 hG I6 (fun M9 I9 => ?_)) (Nat.le_of_ble_eq_true rfl)
                have f10 := dAddE (X := x2.toInt) (Y := 1) (x := x2) (y := (1 : Int32)) rfl (by decide) (by omega) (by omega)
                exact ih.1 _ _ _ I9 (by omega) (by omega) (by omega)
              · skip
                exact ih.2.2.1 _ I6 (by omega)
          · skip
            refine Wp.deep (s_X2_step_43 hG hI (fun R4 M4 I4 hr4 => ?_)) (Nat.le_of_ble_eq_true rfl)
            refine ⟨fun hc5 => ?_, fun hc5 => ?_⟩
            · skip
              exact ih.2.2.1 _ I4 (by omega)
            · skip
              refine Wp.deep (s_X2_unit_43_L5 hG I4 (by omega) (fun R6 M6 I6 hr6 => ?_)) (Nat.le_of_ble_eq_true rfl)
              refine ⟨fun hc7 => ?_, fun hc7 => ?_⟩
              · skip
                have f8 := ti_2
                refine Wp.deep (s_X4_put_29 hG I6 (fun M9 I9 => ?_)) (Nat.le_of_ble_eq_true rfl)
                have f10 := dAddE (X := x2.toInt) (Y := 1) (x := x2) (y := (1 : Int32)) rfl (by decide) (by omega) (by omega)
                exact ih.1 _ _ _ I9 (by omega) (by omega) (by omega)
              · skip
                exact ih.2.2.1 _ I6 (by omega)
    · intro m hI hμ
      refine v_X2_product_43_67 ?_
      have f1 := ti_0
      exact hQ _ _ hI (by omega)
    · intro m hI hμ
      refine v_X2_product_43_83 ?_
      have f1 := ti_1
      exact hQ _ _ hI (by omega)
theorem s_X2_product_43_L5 {g : gM} {x1 : Int32} {m : dM} {Q : Int32 → dM → Prop} (hG : Gd g) (hI : Inv g m) (h1 : 5 ≤ x1.toInt ∧ x1.toInt ≤ 5) (hQ : ∀ (r : Int32) (m' : dM), Inv g m' → (0 ≤ r.toInt ∧ r.toInt ≤ 1) → Q r m') : c_X2_product_43 10 x1 m Q := by
  refine v_X2_product_43 ?_
  refine Wp.deep (s_X2_unit_43_L5 hG hI (by omega) (fun R1 M1 I1 hr1 => ?_)) (Nat.le_of_ble_eq_true rfl)
  refine ⟨fun hc2 => ?_, fun hc2 => ?_⟩
  · skip
    have f3 := ti_0
    exact (s_X2_product_43_L5_all hG hQ 807).1 _ _ _ I1 (by omega) (by omega) (by omega)
  · skip
    have f3 := ti_0
    exact hQ _ _ I1 (by omega)
theorem s_X2_sum_43_L5_all {g : gM} {Q : Int32 → dM → Prop} (hG : Gd g) (hQ : ∀ (r : Int32) (m' : dM), Inv g m' → (0 ≤ r.toInt ∧ r.toInt ≤ 1) → Q r m') : ∀ n : Nat, (∀ (x1 : Int32) (x2 : Int32) (m : dM), Inv g m → (5 ≤ x1.toInt ∧ x1.toInt ≤ 5) → (0 ≤ x2.toInt ∧ x2.toInt ≤ 401) → 805 - 2 * x2.toInt < (n : Int) → j_X2_sum_43_12 11 x1 x2 m Q) ∧ (∀ (x1 : Int32) (x2 : Int32) (m : dM), Inv g m → (5 ≤ x1.toInt ∧ x1.toInt ≤ 5) → (0 ≤ x2.toInt ∧ x2.toInt ≤ 400) → 804 - 2 * x2.toInt < (n : Int) → j_X2_sum_43_37 11 x1 x2 m Q) ∧ (∀ (m : dM), Inv g m → 1 < (n : Int) → j_X2_sum_43_67 11 m Q) ∧ (∀ (m : dM), Inv g m → 0 < (n : Int) → j_X2_sum_43_83 11 m Q) := by
  intro n
  induction n with
  | zero => exact ⟨fun x1 x2 m hI h1 h2 hμ => by exfalso; omega, fun x1 x2 m hI h1 h2 hμ => by exfalso; omega, fun m hI hμ => by exfalso; omega, fun m hI hμ => by exfalso; omega⟩
  | succ n ih =>
    refine ⟨?_, ?_, ?_, ?_⟩
    · intro x1 x2 m hI h1 h2 hμ
      refine v_X2_sum_43_12 ?_
      refine ⟨fun hc1 => ?_, fun hc1 => ?_⟩
      · skip
        exact ih.2.2.2 _ hI (by omega)
      · skip
        refine v_X2_kind_43 ?_
        refine ⟨fun hc2 => ?_, fun hc2 => ?_⟩
        · skip
          refine v_X2_kind_43_32 ?_
          have f3 := ti_24
          refine ⟨fun hc4 => ?_, fun hc4 => ?_⟩
          · skip
            exfalso; omega
          · skip
            refine v_X2_kind_43 ?_
            refine ⟨fun hc5 => ?_, fun hc5 => ?_⟩
            · skip
              refine v_X2_kind_43_32 ?_
              refine ⟨fun hc6 => ?_, fun hc6 => ?_⟩
              · skip
                exact ih.2.2.2 _ hI (by omega)
              · skip
                exfalso; omega
            · skip
              exfalso; omega
        · skip
          refine ⟨fun hc3 => ?_, fun hc3 => ?_⟩
          · skip
            refine v_X2_kind_43_32 ?_
            have f4 := ti_24
            refine ⟨fun hc5 => ?_, fun hc5 => ?_⟩
            · skip
              exfalso; omega
            · skip
              refine v_X2_kind_43 ?_
              refine ⟨fun hc6 => ?_, fun hc6 => ?_⟩
              · skip
                exfalso; omega
              · skip
                refine ⟨fun hc7 => ?_, fun hc7 => ?_⟩
                · skip
                  refine v_X2_kind_43_32 ?_
                  refine ⟨fun hc8 => ?_, fun hc8 => ?_⟩
                  · skip
                    exact ih.2.2.2 _ hI (by omega)
                  · skip
                    exfalso; omega
                · skip
                  exfalso; omega
          · skip
            refine ⟨by omega, ?_⟩
            refine ⟨fun hc4 => ?_, fun hc4 => ?_⟩
            · skip
              exact ih.2.1 _ _ _ hI (by omega) (by omega) (by omega)
            · skip
              refine v_X2_kind_43 ?_
              refine ⟨fun hc5 => ?_, fun hc5 => ?_⟩
              · skip
                exfalso; omega
              · skip
                refine ⟨fun hc6 => ?_, fun hc6 => ?_⟩
                · skip
                  exfalso; omega
                · skip
                  refine ⟨by omega, ?_⟩
                  refine ⟨fun hc7 => ?_, fun hc7 => ?_⟩
                  · skip
                    exact ih.2.2.2 _ hI (by omega)
                  · skip
                    exact ih.2.1 _ _ _ hI (by omega) (by omega) (by omega)
    · intro x1 x2 m hI h1 h2 hμ
      refine v_X2_sum_43_37 ?_
      refine v_X2_kind_43 ?_
      refine ⟨fun hc1 => ?_, fun hc1 => ?_⟩
      · skip
        refine v_X2_kind_43_32 ?_
        have f2 := ti_24
        refine ⟨fun hc3 => ?_, fun hc3 => ?_⟩
        · skip
          refine Wp.deep (s_X2_step_43 hG hI (fun R4 M4 I4 hr4 => ?_)) (Nat.le_of_ble_eq_true rfl)
          refine ⟨fun hc5 => ?_, fun hc5 => ?_⟩
          · skip
            exact ih.2.2.1 _ I4 (by omega)
          · skip
            refine Wp.deep (s_X2_product_43_L5 hG I4 (by omega) (fun R6 M6 I6 hr6 => ?_)) (Nat.le_of_ble_eq_true rfl)
            refine ⟨fun hc7 => ?_, fun hc7 => ?_⟩
            · skip
              have f8 := ti_1
              refine Wp.deep (s_X4_put_29 hG I6 (fun M9 I9 => ?_)) (Nat.le_of_ble_eq_true rfl)
              have f10 := dAddE (X := x2.toInt) (Y := 1) (x := x2) (y := (1 : Int32)) rfl (by decide) (by omega) (by omega)
              exact ih.1 _ _ _ I9 (by omega) (by omega) (by omega)
            · skip
              exact ih.2.2.1 _ I6 (by omega)
        · skip
          exfalso; omega
      · skip
        refine ⟨fun hc2 => ?_, fun hc2 => ?_⟩
        · skip
          refine v_X2_kind_43_32 ?_
          have f3 := ti_24
          refine ⟨fun hc4 => ?_, fun hc4 => ?_⟩
          · skip
            refine Wp.deep (s_X2_step_43 hG hI (fun R5 M5 I5 hr5 => ?_)) (Nat.le_of_ble_eq_true rfl)
            refine ⟨fun hc6 => ?_, fun hc6 => ?_⟩
            · skip
              exact ih.2.2.1 _ I5 (by omega)
            · skip
              refine Wp.deep (s_X2_product_43_L5 hG I5 (by omega) (fun R7 M7 I7 hr7 => ?_)) (Nat.le_of_ble_eq_true rfl)
              refine ⟨fun hc8 => ?_, fun hc8 => ?_⟩
              · skip
                have f9 := ti_1
                refine Wp.deep (s_X4_put_29 hG I7 (fun M10 I10 => ?_)) (Nat.le_of_ble_eq_true rfl)
                have f11 := dAddE (X := x2.toInt) (Y := 1) (x := x2) (y := (1 : Int32)) rfl (by decide) (by omega) (by omega)
                exact ih.1 _ _ _ I10 (by omega) (by omega) (by omega)
              · skip
                exact ih.2.2.1 _ I7 (by omega)
          · skip
            exfalso; omega
        · skip
          refine ⟨by omega, ?_⟩
          refine ⟨fun hc3 => ?_, fun hc3 => ?_⟩
          · skip
            refine Wp.deep (s_X2_step_43 hG hI (fun R4 M4 I4 hr4 => ?_)) (Nat.le_of_ble_eq_true rfl)
            refine ⟨fun hc5 => ?_, fun hc5 => ?_⟩
            · skip
              exact ih.2.2.1 _ I4 (by omega)
            · skip
              refine Wp.deep (s_X2_product_43_L5 hG I4 (by omega) (fun R6 M6 I6 hr6 => ?_)) (Nat.le_of_ble_eq_true rfl)
              refine ⟨fun hc7 => ?_, fun hc7 => ?_⟩
              · skip
                have f8 := ti_1
                refine Wp.deep (s_X4_put_29 hG I6 (fun M9 I9 => ?_)) (Nat.le_of_ble_eq_true rfl)
                have f10 := dAddE (X := x2.toInt) (Y := 1) (x := x2) (y := (1 : Int32)) rfl (by decide) (by omega) (by omega)
                exact ih.1 _ _ _ I9 (by omega) (by omega) (by omega)
              · skip
                exact ih.2.2.1 _ I6 (by omega)
          · skip
            refine Wp.deep (s_X2_step_43 hG hI (fun R4 M4 I4 hr4 => ?_)) (Nat.le_of_ble_eq_true rfl)
            refine ⟨fun hc5 => ?_, fun hc5 => ?_⟩
            · skip
              exact ih.2.2.1 _ I4 (by omega)
            · skip
              refine Wp.deep (s_X2_product_43_L5 hG I4 (by omega) (fun R6 M6 I6 hr6 => ?_)) (Nat.le_of_ble_eq_true rfl)
              refine ⟨fun hc7 => ?_, fun hc7 => ?_⟩
              · skip
                have f8 := ti_0
                refine Wp.deep (s_X4_put_29 hG I6 (fun M9 I9 => ?_)) (Nat.le_of_ble_eq_true rfl)
                have f10 := dAddE (X := x2.toInt) (Y := 1) (x := x2) (y := (1 : Int32)) rfl (by decide) (by omega) (by omega)
                exact ih.1 _ _ _ I9 (by omega) (by omega) (by omega)
              · skip
                exact ih.2.2.1 _ I6 (by omega)
    · intro m hI hμ
      refine v_X2_sum_43_67 ?_
      have f1 := ti_0
      exact hQ _ _ hI (by omega)
    · intro m hI hμ
      refine v_X2_sum_43_83 ?_
      have f1 := ti_1
      exact hQ _ _ hI (by omega)
theorem s_X2_sum_43_L5 {g : gM} {x1 : Int32} {m : dM} {Q : Int32 → dM → Prop} (hG : Gd g) (hI : Inv g m) (h1 : 5 ≤ x1.toInt ∧ x1.toInt ≤ 5) (hQ : ∀ (r : Int32) (m' : dM), Inv g m' → (0 ≤ r.toInt ∧ r.toInt ≤ 1) → Q r m') : c_X2_sum_43 11 x1 m Q := by
  refine v_X2_sum_43 ?_
  refine Wp.deep (s_X2_product_43_L5 hG hI (by omega) (fun R1 M1 I1 hr1 => ?_)) (Nat.le_of_ble_eq_true rfl)
  refine ⟨fun hc2 => ?_, fun hc2 => ?_⟩
  · skip
    have f3 := ti_0
    exact (s_X2_sum_43_L5_all hG hQ 807).1 _ _ _ I1 (by omega) (by omega) (by omega)
  · skip
    have f3 := ti_0
    exact hQ _ _ I1 (by omega)
theorem s_X2_unit_43_L4 {g : gM} {x1 : Int32} {m : dM} {Q : Int32 → dM → Prop} (hG : Gd g) (hI : Inv g m) (h1 : 4 ≤ x1.toInt ∧ x1.toInt ≤ 4) (hQ : ∀ (r : Int32) (m' : dM), Inv g m' → (0 ≤ r.toInt ∧ r.toInt ≤ 1) → Q r m') : c_X2_unit_43 12 x1 m Q := by
  refine v_X2_unit_43 ?_
  refine v_X2_kind_43 ?_
  refine ⟨fun hc1 => ?_, fun hc1 => ?_⟩
  · skip
    refine v_X2_kind_43_32 ?_
    have f2 := ti_24
    refine ⟨fun hc3 => ?_, fun hc3 => ?_⟩
    · skip
      refine ⟨fun hc4 => ?_, fun hc4 => ?_⟩
      · skip
        exfalso; omega
      · skip
        refine ⟨fun hc5 => ?_, fun hc5 => ?_⟩
        · skip
          refine v_X2_unit_43_67 ?_
          refine ⟨fun hc6 => ?_, fun hc6 => ?_⟩
          · skip
            exfalso; omega
          · skip
            have f7 := ti_1
            refine Wp.deep (s_X2_fail_43 hG hI (fun R8 M8 I8 hr8 => ?_)) (Nat.le_of_ble_eq_true rfl)
            refine ⟨dB01 (by omega), ?_⟩
            exact hQ _ _ I8 (by omega)
        · skip
          exfalso; omega
    · skip
      exfalso; omega
  · skip
    refine ⟨fun hc2 => ?_, fun hc2 => ?_⟩
    · skip
      refine v_X2_kind_43_32 ?_
      have f3 := ti_24
      refine ⟨fun hc4 => ?_, fun hc4 => ?_⟩
      · skip
        refine ⟨fun hc5 => ?_, fun hc5 => ?_⟩
        · skip
          exfalso; omega
        · skip
          refine ⟨fun hc6 => ?_, fun hc6 => ?_⟩
          · skip
            refine v_X2_unit_43_67 ?_
            refine ⟨fun hc7 => ?_, fun hc7 => ?_⟩
            · skip
              exfalso; omega
            · skip
              have f8 := ti_1
              refine Wp.deep (s_X2_fail_43 hG hI (fun R9 M9 I9 hr9 => ?_)) (Nat.le_of_ble_eq_true rfl)
              refine ⟨dB01 (by omega), ?_⟩
              exact hQ _ _ I9 (by omega)
          · skip
            exfalso; omega
      · skip
        exfalso; omega
    · skip
      refine ⟨by omega, ?_⟩
      refine ⟨fun hc3 => ?_, fun hc3 => ?_⟩
      · skip
        refine ⟨fun hc4 => ?_, fun hc4 => ?_⟩
        · skip
          refine v_X2_unit_43_67 ?_
          refine ⟨fun hc5 => ?_, fun hc5 => ?_⟩
          · skip
            exfalso; omega
          · skip
            have f6 := ti_1
            refine Wp.deep (s_X2_fail_43 hG hI (fun R7 M7 I7 hr7 => ?_)) (Nat.le_of_ble_eq_true rfl)
            refine ⟨dB01 (by omega), ?_⟩
            exact hQ _ _ I7 (by omega)
        · skip
          refine ⟨fun hc5 => ?_, fun hc5 => ?_⟩
          · skip
            refine v_X2_unit_43_67 ?_
            refine ⟨fun hc6 => ?_, fun hc6 => ?_⟩
            · skip
              refine ⟨fun hc7 => ?_, fun hc7 => ?_⟩
              · skip
                refine Wp.deep (s_X2_step_43 hG hI (fun R8 M8 I8 hr8 => ?_)) (Nat.le_of_ble_eq_true rfl)
                refine ⟨fun hc9 => ?_, fun hc9 => ?_⟩
                · skip
                  refine v_X2_unit_43_123 ?_
                  have f10 := ti_0
                  exact hQ _ _ I8 (by omega)
                · skip
                  have f10 := dAddE (X := x1.toInt) (Y := 1) (x := x1) (y := (1 : Int32)) rfl (by decide) (by omega) (by omega)
                  refine Wp.deep (s_X2_sum_43_L5 hG I8 (by omega) (fun R11 M11 I11 hr11 => ?_)) (Nat.le_of_ble_eq_true rfl)
                  refine ⟨fun hc12 => ?_, fun hc12 => ?_⟩
                  · skip
                    refine v_X2_unit_43_123 ?_
                    have f13 := ti_0
                    exact hQ _ _ I11 (by omega)
                  · skip
                    have f13 := ti_41
                    refine Wp.deep (s_X2_need_43 hG I11 (fun R14 M14 I14 hr14 => ?_)) (Nat.le_of_ble_eq_true rfl)
                    refine ⟨fun hc15 => ?_, fun hc15 => ?_⟩
                    · skip
                      refine v_X2_unit_43_123 ?_
                      have f16 := ti_0
                      exact hQ _ _ I14 (by omega)
                    · skip
                      have f16 := ti_1
                      exact hQ _ _ I14 (by omega)
              · skip
                exfalso; omega
            · skip
              have f7 := ti_1
              refine Wp.deep (s_X2_fail_43 hG hI (fun R8 M8 I8 hr8 => ?_)) (Nat.le_of_ble_eq_true rfl)
              refine ⟨dB01 (by omega), ?_⟩
              exact hQ _ _ I8 (by omega)
          · skip
            have f6 := dAddE (X := 4) (Y := (m.1 39 (m.1 43 2).toNatClampNeg).toInt) (x := (4 : Int32)) (y := (m.1 39 (m.1 43 2).toNatClampNeg)) (by decide) rfl (by omega) (by omega)
            have f7 := dSubE (X := ((4 : Int32) + (m.1 39 (m.1 43 2).toNatClampNeg)).toInt) (Y := 13) (x := ((4 : Int32) + (m.1 39 (m.1 43 2).toNatClampNeg))) (y := (13 : Int32)) rfl (by decide) (by omega) (by omega)
            refine Wp.deep (s_X4_put_29 hG hI (fun M8 I8 => ?_)) (Nat.le_of_ble_eq_true rfl)
            refine Wp.deep (s_X2_step_43 hG I8 (fun R9 M9 I9 hr9 => ?_)) (Nat.le_of_ble_eq_true rfl)
            refine ⟨dB01 (by omega), ?_⟩
            exact hQ _ _ I9 (by omega)
      · skip
        refine Wp.deep (s_X8_numberAt_38 hG hI (fun R4 => ?_)) (Nat.le_of_ble_eq_true rfl)
        refine Wp.deep (s_X4_put_29 hG hI (fun M5 I5 => ?_)) (Nat.le_of_ble_eq_true rfl)
        refine Wp.deep (s_X2_step_43 hG I5 (fun R6 M6 I6 hr6 => ?_)) (Nat.le_of_ble_eq_true rfl)
        refine ⟨dB01 (by omega), ?_⟩
        exact hQ _ _ I6 (by omega)
theorem s_X2_product_43_L4_all {g : gM} {Q : Int32 → dM → Prop} (hG : Gd g) (hQ : ∀ (r : Int32) (m' : dM), Inv g m' → (0 ≤ r.toInt ∧ r.toInt ≤ 1) → Q r m') : ∀ n : Nat, (∀ (x1 : Int32) (x2 : Int32) (m : dM), Inv g m → (4 ≤ x1.toInt ∧ x1.toInt ≤ 4) → (0 ≤ x2.toInt ∧ x2.toInt ≤ 401) → 805 - 2 * x2.toInt < (n : Int) → j_X2_product_43_12 13 x1 x2 m Q) ∧ (∀ (x1 : Int32) (x2 : Int32) (m : dM), Inv g m → (4 ≤ x1.toInt ∧ x1.toInt ≤ 4) → (0 ≤ x2.toInt ∧ x2.toInt ≤ 400) → 804 - 2 * x2.toInt < (n : Int) → j_X2_product_43_37 13 x1 x2 m Q) ∧ (∀ (m : dM), Inv g m → 1 < (n : Int) → j_X2_product_43_67 13 m Q) ∧ (∀ (m : dM), Inv g m → 0 < (n : Int) → j_X2_product_43_83 13 m Q) := by
  intro n
  induction n with
  | zero => exact ⟨fun x1 x2 m hI h1 h2 hμ => by exfalso; omega, fun x1 x2 m hI h1 h2 hμ => by exfalso; omega, fun m hI hμ => by exfalso; omega, fun m hI hμ => by exfalso; omega⟩
  | succ n ih =>
    refine ⟨?_, ?_, ?_, ?_⟩
    · intro x1 x2 m hI h1 h2 hμ
      refine v_X2_product_43_12 ?_
      refine ⟨fun hc1 => ?_, fun hc1 => ?_⟩
      · skip
        exact ih.2.2.2 _ hI (by omega)
      · skip
        refine v_X2_kind_43 ?_
        refine ⟨fun hc2 => ?_, fun hc2 => ?_⟩
        · skip
          refine v_X2_kind_43_32 ?_
          have f3 := ti_24
          refine ⟨fun hc4 => ?_, fun hc4 => ?_⟩
          · skip
            exfalso; omega
          · skip
            refine v_X2_kind_43 ?_
            refine ⟨fun hc5 => ?_, fun hc5 => ?_⟩
            · skip
              refine v_X2_kind_43_32 ?_
              refine ⟨fun hc6 => ?_, fun hc6 => ?_⟩
              · skip
                exact ih.2.2.2 _ hI (by omega)
              · skip
                exfalso; omega
            · skip
              exfalso; omega
        · skip
          refine ⟨fun hc3 => ?_, fun hc3 => ?_⟩
          · skip
            refine v_X2_kind_43_32 ?_
            have f4 := ti_24
            refine ⟨fun hc5 => ?_, fun hc5 => ?_⟩
            · skip
              exfalso; omega
            · skip
              refine v_X2_kind_43 ?_
              refine ⟨fun hc6 => ?_, fun hc6 => ?_⟩
              · skip
                exfalso; omega
              · skip
                refine ⟨fun hc7 => ?_, fun hc7 => ?_⟩
                · skip
                  refine v_X2_kind_43_32 ?_
                  refine ⟨fun hc8 => ?_, fun hc8 => ?_⟩
                  · skip
                    exact ih.2.2.2 _ hI (by omega)
                  · skip
                    exfalso; omega
                · skip
                  exfalso; omega
          · skip
            refine ⟨by omega, ?_⟩
            refine ⟨fun hc4 => ?_, fun hc4 => ?_⟩
            · skip
              exact ih.2.1 _ _ _ hI (by omega) (by omega) (by omega)
            · skip
              refine v_X2_kind_43 ?_
              refine ⟨fun hc5 => ?_, fun hc5 => ?_⟩
              · skip
                exfalso; omega
              · skip
                refine ⟨fun hc6 => ?_, fun hc6 => ?_⟩
                · skip
                  exfalso; omega
                · skip
                  refine ⟨by omega, ?_⟩
                  refine ⟨fun hc7 => ?_, fun hc7 => ?_⟩
                  · skip
                    exact ih.2.2.2 _ hI (by omega)
                  · skip
                    exact ih.2.1 _ _ _ hI (by omega) (by omega) (by omega)
    · intro x1 x2 m hI h1 h2 hμ
      refine v_X2_product_43_37 ?_
      refine v_X2_kind_43 ?_
      refine ⟨fun hc1 => ?_, fun hc1 => ?_⟩
      · skip
        refine v_X2_kind_43_32 ?_
        have f2 := ti_24
        refine ⟨fun hc3 => ?_, fun hc3 => ?_⟩
        · skip
          refine Wp.deep (s_X2_step_43 hG hI (fun R4 M4 I4 hr4 => ?_)) (Nat.le_of_ble_eq_true rfl)
          refine ⟨fun hc5 => ?_, fun hc5 => ?_⟩
          · skip
            exact ih.2.2.1 _ I4 (by omega)
          · skip
            refine Wp.deep (s_X2_unit_43_L4 hG I4 (by omega) (fun R6 M6 I6 hr6 => ?_)) (Nat.le_of_ble_eq_true rfl)
            refine ⟨fun hc7 => ?_, fun hc7 => ?_⟩
            · skip
              have f8 := ti_3
              refine Wp.deep (s_X4_put_29 hG I6 (fun M9 I9 => ?_)) (Nat.le_of_ble_eq_true rfl)
              have f10 := dAddE (X := x2.toInt) (Y := 1) (x := x2) (y := (1 : Int32)) rfl (by decide) (by omega) (by omega)
              exact ih.1 _ _ _ I9 (by omega) (by omega) (by omega)
            · skip
              exact ih.2.2.1 _ I6 (by omega)
        · skip
          exfalso; omega
      · skip
        refine ⟨fun hc2 => ?_, fun hc2 => ?_⟩
        · skip
          refine v_X2_kind_43_32 ?_
          have f3 := ti_24
          refine ⟨fun hc4 => ?_, fun hc4 => ?_⟩
          · skip
            refine Wp.deep (s_X2_step_43 hG hI (fun R5 M5 I5 hr5 => ?_)) (Nat.le_of_ble_eq_true rfl)
            refine ⟨fun hc6 => ?_, fun hc6 => ?_⟩
            · skip
              exact ih.2.2.1 _ I5 (by omega)
            · skip
              refine Wp.deep (s_X2_unit_43_L4 hG I5 (by omega) (fun R7 M7 I7 hr7 => ?_)) (Nat.le_of_ble_eq_true rfl)
              refine ⟨fun hc8 => ?_, fun hc8 => ?_⟩
              · skip
                have f9 := ti_3
                refine Wp.deep (s_X4_put_29 hG I7 (fun M10 I10 => ?_)) (Nat.le_of_ble_eq_true rfl)
                have f11 := dAddE (X := x2.toInt) (Y := 1) (x := x2) (y := (1 : Int32)) rfl (by decide) (by omega) (by omega)
                exact ih.1 _ _ _ I10 (by omega) (by omega) (by omega)
              · skip
                exact ih.2.2.1 _ I7 (by omega)
          · skip
            exfalso; omega
        · skip
          refine ⟨by omega, ?_⟩
          refine ⟨fun hc3 => ?_, fun hc3 => ?_⟩
          · skip
            refine Wp.deep (s_X2_step_43 hG hI (fun R4 M4 I4 hr4 => ?_)) (Nat.le_of_ble_eq_true rfl)
            refine ⟨fun hc5 => ?_, fun hc5 => ?_⟩
            · skip
              exact ih.2.2.1 _ I4 (by omega)
            · skip
              refine Wp.deep (s_X2_unit_43_L4 hG I4 (by omega) (fun R6 M6 I6 hr6 => ?_)) (Nat.le_of_ble_eq_true rfl)
              refine ⟨fun hc7 => ?_, fun hc7 => ?_⟩
              · skip
                have f8 := ti_3
                refine Wp.deep (s_X4_put_29 hG I6 (fun M9 I9 => ?_)) (Nat.le_of_ble_eq_true rfl)
                have f10 := dAddE (X := x2.toInt) (Y := 1) (x := x2) (y := (1 : Int32)) rfl (by decide) (by omega) (by omega)
                exact ih.1 _ _ _ I9 (by omega) (by omega) (by omega)
              · skip
                exact ih.2.2.1 _ I6 (by omega)
          · skip
            refine Wp.deep (s_X2_step_43 hG hI (fun R4 M4 I4 hr4 => ?_)) (Nat.le_of_ble_eq_true rfl)
            refine ⟨fun hc5 => ?_, fun hc5 => ?_⟩
            · skip
              exact ih.2.2.1 _ I4 (by omega)
            · skip
              refine Wp.deep (s_X2_unit_43_L4 hG I4 (by omega) (fun R6 M6 I6 hr6 => ?_)) (Nat.le_of_ble_eq_true rfl)
              refine ⟨fun hc7 => ?_, fun hc7 => ?_⟩
              · skip
                have f8 := ti_2
                refine Wp.deep (s_X4_put_29 hG I6 (fun M9 I9 => ?_)) (Nat.le_of_ble_eq_true rfl)
                have f10 := dAddE (X := x2.toInt) (Y := 1) (x := x2) (y := (1 : Int32)) rfl (by decide) (by omega) (by omega)
                exact ih.1 _ _ _ I9 (by omega) (by omega) (by omega)
              · skip
                exact ih.2.2.1 _ I6 (by omega)
    · intro m hI hμ
      refine v_X2_product_43_67 ?_
      have f1 := ti_0
      exact hQ _ _ hI (by omega)
    · intro m hI hμ
      refine v_X2_product_43_83 ?_
      have f1 := ti_1
      exact hQ _ _ hI (by omega)
theorem s_X2_product_43_L4 {g : gM} {x1 : Int32} {m : dM} {Q : Int32 → dM → Prop} (hG : Gd g) (hI : Inv g m) (h1 : 4 ≤ x1.toInt ∧ x1.toInt ≤ 4) (hQ : ∀ (r : Int32) (m' : dM), Inv g m' → (0 ≤ r.toInt ∧ r.toInt ≤ 1) → Q r m') : c_X2_product_43 13 x1 m Q := by
  refine v_X2_product_43 ?_
  refine Wp.deep (s_X2_unit_43_L4 hG hI (by omega) (fun R1 M1 I1 hr1 => ?_)) (Nat.le_of_ble_eq_true rfl)
  refine ⟨fun hc2 => ?_, fun hc2 => ?_⟩
  · skip
    have f3 := ti_0
    exact (s_X2_product_43_L4_all hG hQ 807).1 _ _ _ I1 (by omega) (by omega) (by omega)
  · skip
    have f3 := ti_0
    exact hQ _ _ I1 (by omega)
theorem s_X2_sum_43_L4_all {g : gM} {Q : Int32 → dM → Prop} (hG : Gd g) (hQ : ∀ (r : Int32) (m' : dM), Inv g m' → (0 ≤ r.toInt ∧ r.toInt ≤ 1) → Q r m') : ∀ n : Nat, (∀ (x1 : Int32) (x2 : Int32) (m : dM), Inv g m → (4 ≤ x1.toInt ∧ x1.toInt ≤ 4) → (0 ≤ x2.toInt ∧ x2.toInt ≤ 401) → 805 - 2 * x2.toInt < (n : Int) → j_X2_sum_43_12 14 x1 x2 m Q) ∧ (∀ (x1 : Int32) (x2 : Int32) (m : dM), Inv g m → (4 ≤ x1.toInt ∧ x1.toInt ≤ 4) → (0 ≤ x2.toInt ∧ x2.toInt ≤ 400) → 804 - 2 * x2.toInt < (n : Int) → j_X2_sum_43_37 14 x1 x2 m Q) ∧ (∀ (m : dM), Inv g m → 1 < (n : Int) → j_X2_sum_43_67 14 m Q) ∧ (∀ (m : dM), Inv g m → 0 < (n : Int) → j_X2_sum_43_83 14 m Q) := by
  intro n
  induction n with
  | zero => exact ⟨fun x1 x2 m hI h1 h2 hμ => by exfalso; omega, fun x1 x2 m hI h1 h2 hμ => by exfalso; omega, fun m hI hμ => by exfalso; omega, fun m hI hμ => by exfalso; omega⟩
  | succ n ih =>
    refine ⟨?_, ?_, ?_, ?_⟩
    · intro x1 x2 m hI h1 h2 hμ
      refine v_X2_sum_43_12 ?_
      refine ⟨fun hc1 => ?_, fun hc1 => ?_⟩
      · skip
        exact ih.2.2.2 _ hI (by omega)
      · skip
        refine v_X2_kind_43 ?_
        refine ⟨fun hc2 => ?_, fun hc2 => ?_⟩
        · skip
          refine v_X2_kind_43_32 ?_
          have f3 := ti_24
          refine ⟨fun hc4 => ?_, fun hc4 => ?_⟩
          · skip
            exfalso; omega
          · skip
            refine v_X2_kind_43 ?_
            refine ⟨fun hc5 => ?_, fun hc5 => ?_⟩
            · skip
              refine v_X2_kind_43_32 ?_
              refine ⟨fun hc6 => ?_, fun hc6 => ?_⟩
              · skip
                exact ih.2.2.2 _ hI (by omega)
              · skip
                exfalso; omega
            · skip
              exfalso; omega
        · skip
          refine ⟨fun hc3 => ?_, fun hc3 => ?_⟩
          · skip
            refine v_X2_kind_43_32 ?_
            have f4 := ti_24
            refine ⟨fun hc5 => ?_, fun hc5 => ?_⟩
            · skip
              exfalso; omega
            · skip
              refine v_X2_kind_43 ?_
              refine ⟨fun hc6 => ?_, fun hc6 => ?_⟩
              · skip
                exfalso; omega
              · skip
                refine ⟨fun hc7 => ?_, fun hc7 => ?_⟩
                · skip
                  refine v_X2_kind_43_32 ?_
                  refine ⟨fun hc8 => ?_, fun hc8 => ?_⟩
                  · skip
                    exact ih.2.2.2 _ hI (by omega)
                  · skip
                    exfalso; omega
                · skip
                  exfalso; omega
          · skip
            refine ⟨by omega, ?_⟩
            refine ⟨fun hc4 => ?_, fun hc4 => ?_⟩
            · skip
              exact ih.2.1 _ _ _ hI (by omega) (by omega) (by omega)
            · skip
              refine v_X2_kind_43 ?_
              refine ⟨fun hc5 => ?_, fun hc5 => ?_⟩
              · skip
                exfalso; omega
              · skip
                refine ⟨fun hc6 => ?_, fun hc6 => ?_⟩
                · skip
                  exfalso; omega
                · skip
                  refine ⟨by omega, ?_⟩
                  refine ⟨fun hc7 => ?_, fun hc7 => ?_⟩
                  · skip
                    exact ih.2.2.2 _ hI (by omega)
                  · skip
                    exact ih.2.1 _ _ _ hI (by omega) (by omega) (by omega)
    · intro x1 x2 m hI h1 h2 hμ
      refine v_X2_sum_43_37 ?_
      refine v_X2_kind_43 ?_
      refine ⟨fun hc1 => ?_, fun hc1 => ?_⟩
      · skip
        refine v_X2_kind_43_32 ?_
        have f2 := ti_24
        refine ⟨fun hc3 => ?_, fun hc3 => ?_⟩
        · skip
          refine Wp.deep (s_X2_step_43 hG hI (fun R4 M4 I4 hr4 => ?_)) (Nat.le_of_ble_eq_true rfl)
          refine ⟨fun hc5 => ?_, fun hc5 => ?_⟩
          · skip
            exact ih.2.2.1 _ I4 (by omega)
          · skip
            refine Wp.deep (s_X2_product_43_L4 hG I4 (by omega) (fun R6 M6 I6 hr6 => ?_)) (Nat.le_of_ble_eq_true rfl)
            refine ⟨fun hc7 => ?_, fun hc7 => ?_⟩
            · skip
              have f8 := ti_1
              refine Wp.deep (s_X4_put_29 hG I6 (fun M9 I9 => ?_)) (Nat.le_of_ble_eq_true rfl)
              have f10 := dAddE (X := x2.toInt) (Y := 1) (x := x2) (y := (1 : Int32)) rfl (by decide) (by omega) (by omega)
              exact ih.1 _ _ _ I9 (by omega) (by omega) (by omega)
            · skip
              exact ih.2.2.1 _ I6 (by omega)
        · skip
          exfalso; omega
      · skip
        refine ⟨fun hc2 => ?_, fun hc2 => ?_⟩
        · skip
          refine v_X2_kind_43_32 ?_
          have f3 := ti_24
          refine ⟨fun hc4 => ?_, fun hc4 => ?_⟩
          · skip
            refine Wp.deep (s_X2_step_43 hG hI (fun R5 M5 I5 hr5 => ?_)) (Nat.le_of_ble_eq_true rfl)
            refine ⟨fun hc6 => ?_, fun hc6 => ?_⟩
            · skip
              exact ih.2.2.1 _ I5 (by omega)
            · skip
              refine Wp.deep (s_X2_product_43_L4 hG I5 (by omega) (fun R7 M7 I7 hr7 => ?_)) (Nat.le_of_ble_eq_true rfl)
              refine ⟨fun hc8 => ?_, fun hc8 => ?_⟩
              · skip
                have f9 := ti_1
                refine Wp.deep (s_X4_put_29 hG I7 (fun M10 I10 => ?_)) (Nat.le_of_ble_eq_true rfl)
                have f11 := dAddE (X := x2.toInt) (Y := 1) (x := x2) (y := (1 : Int32)) rfl (by decide) (by omega) (by omega)
                exact ih.1 _ _ _ I10 (by omega) (by omega) (by omega)
              · skip
                exact ih.2.2.1 _ I7 (by omega)
          · skip
            exfalso; omega
        · skip
          refine ⟨by omega, ?_⟩
          refine ⟨fun hc3 => ?_, fun hc3 => ?_⟩
          · skip
            refine Wp.deep (s_X2_step_43 hG hI (fun R4 M4 I4 hr4 => ?_)) (Nat.le_of_ble_eq_true rfl)
            refine ⟨fun hc5 => ?_, fun hc5 => ?_⟩
            · skip
              exact ih.2.2.1 _ I4 (by omega)
            · skip
              refine Wp.deep (s_X2_product_43_L4 hG I4 (by omega) (fun R6 M6 I6 hr6 => ?_)) (Nat.le_of_ble_eq_true rfl)
              refine ⟨fun hc7 => ?_, fun hc7 => ?_⟩
              · skip
                have f8 := ti_1
                refine Wp.deep (s_X4_put_29 hG I6 (fun M9 I9 => ?_)) (Nat.le_of_ble_eq_true rfl)
                have f10 := dAddE (X := x2.toInt) (Y := 1) (x := x2) (y := (1 : Int32)) rfl (by decide) (by omega) (by omega)
                exact ih.1 _ _ _ I9 (by omega) (by omega) (by omega)
              · skip
                exact ih.2.2.1 _ I6 (by omega)
          · skip
            refine Wp.deep (s_X2_step_43 hG hI (fun R4 M4 I4 hr4 => ?_)) (Nat.le_of_ble_eq_true rfl)
            refine ⟨fun hc5 => ?_, fun hc5 => ?_⟩
            · skip
              exact ih.2.2.1 _ I4 (by omega)
            · skip
              refine Wp.deep (s_X2_product_43_L4 hG I4 (by omega) (fun R6 M6 I6 hr6 => ?_)) (Nat.le_of_ble_eq_true rfl)
              refine ⟨fun hc7 => ?_, fun hc7 => ?_⟩
              · skip
                have f8 := ti_0
                refine Wp.deep (s_X4_put_29 hG I6 (fun M9 I9 => ?_)) (Nat.le_of_ble_eq_true rfl)
                have f10 := dAddE (X := x2.toInt) (Y := 1) (x := x2) (y := (1 : Int32)) rfl (by decide) (by omega) (by omega)
                exact ih.1 _ _ _ I9 (by omega) (by omega) (by omega)
              · skip
                exact ih.2.2.1 _ I6 (by omega)
    · intro m hI hμ
      refine v_X2_sum_43_67 ?_
      have f1 := ti_0
      exact hQ _ _ hI (by omega)
    · intro m hI hμ
      refine v_X2_sum_43_83 ?_
      have f1 := ti_1
      exact hQ _ _ hI (by omega)
theorem s_X2_sum_43_L4 {g : gM} {x1 : Int32} {m : dM} {Q : Int32 → dM → Prop} (hG : Gd g) (hI : Inv g m) (h1 : 4 ≤ x1.toInt ∧ x1.toInt ≤ 4) (hQ : ∀ (r : Int32) (m' : dM), Inv g m' → (0 ≤ r.toInt ∧ r.toInt ≤ 1) → Q r m') : c_X2_sum_43 14 x1 m Q := by
  refine v_X2_sum_43 ?_
  refine Wp.deep (s_X2_product_43_L4 hG hI (by omega) (fun R1 M1 I1 hr1 => ?_)) (Nat.le_of_ble_eq_true rfl)
  refine ⟨fun hc2 => ?_, fun hc2 => ?_⟩
  · skip
    have f3 := ti_0
    exact (s_X2_sum_43_L4_all hG hQ 807).1 _ _ _ I1 (by omega) (by omega) (by omega)
  · skip
    have f3 := ti_0
    exact hQ _ _ I1 (by omega)
theorem s_X2_unit_43_L3 {g : gM} {x1 : Int32} {m : dM} {Q : Int32 → dM → Prop} (hG : Gd g) (hI : Inv g m) (h1 : 3 ≤ x1.toInt ∧ x1.toInt ≤ 3) (hQ : ∀ (r : Int32) (m' : dM), Inv g m' → (0 ≤ r.toInt ∧ r.toInt ≤ 1) → Q r m') : c_X2_unit_43 15 x1 m Q := by
  refine v_X2_unit_43 ?_
  refine v_X2_kind_43 ?_
  refine ⟨fun hc1 => ?_, fun hc1 => ?_⟩
  · skip
    refine v_X2_kind_43_32 ?_
    have f2 := ti_24
    refine ⟨fun hc3 => ?_, fun hc3 => ?_⟩
    · skip
      refine ⟨fun hc4 => ?_, fun hc4 => ?_⟩
      · skip
        exfalso; omega
      · skip
        refine ⟨fun hc5 => ?_, fun hc5 => ?_⟩
        · skip
          refine v_X2_unit_43_67 ?_
          refine ⟨fun hc6 => ?_, fun hc6 => ?_⟩
          · skip
            exfalso; omega
          · skip
            have f7 := ti_1
            refine Wp.deep (s_X2_fail_43 hG hI (fun R8 M8 I8 hr8 => ?_)) (Nat.le_of_ble_eq_true rfl)
            refine ⟨dB01 (by omega), ?_⟩
            exact hQ _ _ I8 (by omega)
        · skip
          exfalso; omega
    · skip
      exfalso; omega
  · skip
    refine ⟨fun hc2 => ?_, fun hc2 => ?_⟩
    · skip
      refine v_X2_kind_43_32 ?_
      have f3 := ti_24
      refine ⟨fun hc4 => ?_, fun hc4 => ?_⟩
      · skip
        refine ⟨fun hc5 => ?_, fun hc5 => ?_⟩
        · skip
          exfalso; omega
        · skip
          refine ⟨fun hc6 => ?_, fun hc6 => ?_⟩
          · skip
            refine v_X2_unit_43_67 ?_
            refine ⟨fun hc7 => ?_, fun hc7 => ?_⟩
            · skip
              exfalso; omega
            · skip
              have f8 := ti_1
              refine Wp.deep (s_X2_fail_43 hG hI (fun R9 M9 I9 hr9 => ?_)) (Nat.le_of_ble_eq_true rfl)
              refine ⟨dB01 (by omega), ?_⟩
              exact hQ _ _ I9 (by omega)
          · skip
            exfalso; omega
      · skip
        exfalso; omega
    · skip
      refine ⟨by omega, ?_⟩
      refine ⟨fun hc3 => ?_, fun hc3 => ?_⟩
      · skip
        refine ⟨fun hc4 => ?_, fun hc4 => ?_⟩
        · skip
          refine v_X2_unit_43_67 ?_
          refine ⟨fun hc5 => ?_, fun hc5 => ?_⟩
          · skip
            exfalso; omega
          · skip
            have f6 := ti_1
            refine Wp.deep (s_X2_fail_43 hG hI (fun R7 M7 I7 hr7 => ?_)) (Nat.le_of_ble_eq_true rfl)
            refine ⟨dB01 (by omega), ?_⟩
            exact hQ _ _ I7 (by omega)
        · skip
          refine ⟨fun hc5 => ?_, fun hc5 => ?_⟩
          · skip
            refine v_X2_unit_43_67 ?_
            refine ⟨fun hc6 => ?_, fun hc6 => ?_⟩
            · skip
              refine ⟨fun hc7 => ?_, fun hc7 => ?_⟩
              · skip
                refine Wp.deep (s_X2_step_43 hG hI (fun R8 M8 I8 hr8 => ?_)) (Nat.le_of_ble_eq_true rfl)
                refine ⟨fun hc9 => ?_, fun hc9 => ?_⟩
                · skip
                  refine v_X2_unit_43_123 ?_
                  have f10 := ti_0
                  exact hQ _ _ I8 (by omega)
                · skip
                  have f10 := dAddE (X := x1.toInt) (Y := 1) (x := x1) (y := (1 : Int32)) rfl (by decide) (by omega) (by omega)
                  refine Wp.deep (s_X2_sum_43_L4 hG I8 (by omega) (fun R11 M11 I11 hr11 => ?_)) (Nat.le_of_ble_eq_true rfl)
                  refine ⟨fun hc12 => ?_, fun hc12 => ?_⟩
                  · skip
                    refine v_X2_unit_43_123 ?_
                    have f13 := ti_0
                    exact hQ _ _ I11 (by omega)
                  · skip
                    have f13 := ti_41
                    refine Wp.deep (s_X2_need_43 hG I11 (fun R14 M14 I14 hr14 => ?_)) (Nat.le_of_ble_eq_true rfl)
                    refine ⟨fun hc15 => ?_, fun hc15 => ?_⟩
                    · skip
                      refine v_X2_unit_43_123 ?_
                      have f16 := ti_0
                      exact hQ _ _ I14 (by omega)
                    · skip
                      have f16 := ti_1
                      exact hQ _ _ I14 (by omega)
              · skip
                exfalso; omega
            · skip
              have f7 := ti_1
              refine Wp.deep (s_X2_fail_43 hG hI (fun R8 M8 I8 hr8 => ?_)) (Nat.le_of_ble_eq_true rfl)
              refine ⟨dB01 (by omega), ?_⟩
              exact hQ _ _ I8 (by omega)
          · skip
            have f6 := dAddE (X := 4) (Y := (m.1 39 (m.1 43 2).toNatClampNeg).toInt) (x := (4 : Int32)) (y := (m.1 39 (m.1 43 2).toNatClampNeg)) (by decide) rfl (by omega) (by omega)
            have f7 := dSubE (X := ((4 : Int32) + (m.1 39 (m.1 43 2).toNatClampNeg)).toInt) (Y := 13) (x := ((4 : Int32) + (m.1 39 (m.1 43 2).toNatClampNeg))) (y := (13 : Int32)) rfl (by decide) (by omega) (by omega)
            refine Wp.deep (s_X4_put_29 hG hI (fun M8 I8 => ?_)) (Nat.le_of_ble_eq_true rfl)
            refine Wp.deep (s_X2_step_43 hG I8 (fun R9 M9 I9 hr9 => ?_)) (Nat.le_of_ble_eq_true rfl)
            refine ⟨dB01 (by omega), ?_⟩
            exact hQ _ _ I9 (by omega)
      · skip
        refine Wp.deep (s_X8_numberAt_38 hG hI (fun R4 => ?_)) (Nat.le_of_ble_eq_true rfl)
        refine Wp.deep (s_X4_put_29 hG hI (fun M5 I5 => ?_)) (Nat.le_of_ble_eq_true rfl)
        refine Wp.deep (s_X2_step_43 hG I5 (fun R6 M6 I6 hr6 => ?_)) (Nat.le_of_ble_eq_true rfl)
        refine ⟨dB01 (by omega), ?_⟩
        exact hQ _ _ I6 (by omega)
theorem s_X2_product_43_L3_all {g : gM} {Q : Int32 → dM → Prop} (hG : Gd g) (hQ : ∀ (r : Int32) (m' : dM), Inv g m' → (0 ≤ r.toInt ∧ r.toInt ≤ 1) → Q r m') : ∀ n : Nat, (∀ (x1 : Int32) (x2 : Int32) (m : dM), Inv g m → (3 ≤ x1.toInt ∧ x1.toInt ≤ 3) → (0 ≤ x2.toInt ∧ x2.toInt ≤ 401) → 805 - 2 * x2.toInt < (n : Int) → j_X2_product_43_12 16 x1 x2 m Q) ∧ (∀ (x1 : Int32) (x2 : Int32) (m : dM), Inv g m → (3 ≤ x1.toInt ∧ x1.toInt ≤ 3) → (0 ≤ x2.toInt ∧ x2.toInt ≤ 400) → 804 - 2 * x2.toInt < (n : Int) → j_X2_product_43_37 16 x1 x2 m Q) ∧ (∀ (m : dM), Inv g m → 1 < (n : Int) → j_X2_product_43_67 16 m Q) ∧ (∀ (m : dM), Inv g m → 0 < (n : Int) → j_X2_product_43_83 16 m Q) := by
  intro n
  induction n with
  | zero => exact ⟨fun x1 x2 m hI h1 h2 hμ => by exfalso; omega, fun x1 x2 m hI h1 h2 hμ => by exfalso; omega, fun m hI hμ => by exfalso; omega, fun m hI hμ => by exfalso; omega⟩
  | succ n ih =>
    refine ⟨?_, ?_, ?_, ?_⟩
    · intro x1 x2 m hI h1 h2 hμ
      refine v_X2_product_43_12 ?_
      refine ⟨fun hc1 => ?_, fun hc1 => ?_⟩
      · skip
        exact ih.2.2.2 _ hI (by omega)
      · skip
        refine v_X2_kind_43 ?_
        refine ⟨fun hc2 => ?_, fun hc2 => ?_⟩
        · skip
          refine v_X2_kind_43_32 ?_
          have f3 := ti_24
          refine ⟨fun hc4 => ?_, fun hc4 => ?_⟩
          · skip
            exfalso; omega
          · skip
            refine v_X2_kind_43 ?_
            refine ⟨fun hc5 => ?_, fun hc5 => ?_⟩
            · skip
              refine v_X2_kind_43_32 ?_
              refine ⟨fun hc6 => ?_, fun hc6 => ?_⟩
              · skip
                exact ih.2.2.2 _ hI (by omega)
              · skip
                exfalso; omega
            · skip
              exfalso; omega
        · skip
          refine ⟨fun hc3 => ?_, fun hc3 => ?_⟩
          · skip
            refine v_X2_kind_43_32 ?_
            have f4 := ti_24
            refine ⟨fun hc5 => ?_, fun hc5 => ?_⟩
            · skip
              exfalso; omega
            · skip
              refine v_X2_kind_43 ?_
              refine ⟨fun hc6 => ?_, fun hc6 => ?_⟩
              · skip
                exfalso; omega
              · skip
                refine ⟨fun hc7 => ?_, fun hc7 => ?_⟩
                · skip
                  refine v_X2_kind_43_32 ?_
                  refine ⟨fun hc8 => ?_, fun hc8 => ?_⟩
                  · skip
                    exact ih.2.2.2 _ hI (by omega)
                  · skip
                    exfalso; omega
                · skip
                  exfalso; omega
          · skip
            refine ⟨by omega, ?_⟩
            refine ⟨fun hc4 => ?_, fun hc4 => ?_⟩
            · skip
              exact ih.2.1 _ _ _ hI (by omega) (by omega) (by omega)
            · skip
              refine v_X2_kind_43 ?_
              refine ⟨fun hc5 => ?_, fun hc5 => ?_⟩
              · skip
                exfalso; omega
              · skip
                refine ⟨fun hc6 => ?_, fun hc6 => ?_⟩
                · skip
                  exfalso; omega
                · skip
                  refine ⟨by omega, ?_⟩
                  refine ⟨fun hc7 => ?_, fun hc7 => ?_⟩
                  · skip
                    exact ih.2.2.2 _ hI (by omega)
                  · skip
                    exact ih.2.1 _ _ _ hI (by omega) (by omega) (by omega)
    · intro x1 x2 m hI h1 h2 hμ
      refine v_X2_product_43_37 ?_
      refine v_X2_kind_43 ?_
      refine ⟨fun hc1 => ?_, fun hc1 => ?_⟩
      · skip
        refine v_X2_kind_43_32 ?_
        have f2 := ti_24
        refine ⟨fun hc3 => ?_, fun hc3 => ?_⟩
        · skip
          refine Wp.deep (s_X2_step_43 hG hI (fun R4 M4 I4 hr4 => ?_)) (Nat.le_of_ble_eq_true rfl)
          refine ⟨fun hc5 => ?_, fun hc5 => ?_⟩
          · skip
            exact ih.2.2.1 _ I4 (by omega)
          · skip
            refine Wp.deep (s_X2_unit_43_L3 hG I4 (by omega) (fun R6 M6 I6 hr6 => ?_)) (Nat.le_of_ble_eq_true rfl)
            refine ⟨fun hc7 => ?_, fun hc7 => ?_⟩
            · skip
              have f8 := ti_3
              refine Wp.deep (s_X4_put_29 hG I6 (fun M9 I9 => ?_)) (Nat.le_of_ble_eq_true rfl)
              have f10 := dAddE (X := x2.toInt) (Y := 1) (x := x2) (y := (1 : Int32)) rfl (by decide) (by omega) (by omega)
              exact ih.1 _ _ _ I9 (by omega) (by omega) (by omega)
            · skip
              exact ih.2.2.1 _ I6 (by omega)
        · skip
          exfalso; omega
      · skip
        refine ⟨fun hc2 => ?_, fun hc2 => ?_⟩
        · skip
          refine v_X2_kind_43_32 ?_
          have f3 := ti_24
          refine ⟨fun hc4 => ?_, fun hc4 => ?_⟩
          · skip
            refine Wp.deep (s_X2_step_43 hG hI (fun R5 M5 I5 hr5 => ?_)) (Nat.le_of_ble_eq_true rfl)
            refine ⟨fun hc6 => ?_, fun hc6 => ?_⟩
            · skip
              exact ih.2.2.1 _ I5 (by omega)
            · skip
              refine Wp.deep (s_X2_unit_43_L3 hG I5 (by omega) (fun R7 M7 I7 hr7 => ?_)) (Nat.le_of_ble_eq_true rfl)
              refine ⟨fun hc8 => ?_, fun hc8 => ?_⟩
              · skip
                have f9 := ti_3
                refine Wp.deep (s_X4_put_29 hG I7 (fun M10 I10 => ?_)) (Nat.le_of_ble_eq_true rfl)
                have f11 := dAddE (X := x2.toInt) (Y := 1) (x := x2) (y := (1 : Int32)) rfl (by decide) (by omega) (by omega)
                exact ih.1 _ _ _ I10 (by omega) (by omega) (by omega)
              · skip
                exact ih.2.2.1 _ I7 (by omega)
          · skip
            exfalso; omega
        · skip
          refine ⟨by omega, ?_⟩
          refine ⟨fun hc3 => ?_, fun hc3 => ?_⟩
          · skip
            refine Wp.deep (s_X2_step_43 hG hI (fun R4 M4 I4 hr4 => ?_)) (Nat.le_of_ble_eq_true rfl)
            refine ⟨fun hc5 => ?_, fun hc5 => ?_⟩
            · skip
              exact ih.2.2.1 _ I4 (by omega)
            · skip
              refine Wp.deep (s_X2_unit_43_L3 hG I4 (by omega) (fun R6 M6 I6 hr6 => ?_)) (Nat.le_of_ble_eq_true rfl)
              refine ⟨fun hc7 => ?_, fun hc7 => ?_⟩
              · skip
                have f8 := ti_3
                refine Wp.deep (s_X4_put_29 hG I6 (fun M9 I9 => ?_)) (Nat.le_of_ble_eq_true rfl)
                have f10 := dAddE (X := x2.toInt) (Y := 1) (x := x2) (y := (1 : Int32)) rfl (by decide) (by omega) (by omega)
                exact ih.1 _ _ _ I9 (by omega) (by omega) (by omega)
              · skip
                exact ih.2.2.1 _ I6 (by omega)
          · skip
            refine Wp.deep (s_X2_step_43 hG hI (fun R4 M4 I4 hr4 => ?_)) (Nat.le_of_ble_eq_true rfl)
            refine ⟨fun hc5 => ?_, fun hc5 => ?_⟩
            · skip
              exact ih.2.2.1 _ I4 (by omega)
            · skip
              refine Wp.deep (s_X2_unit_43_L3 hG I4 (by omega) (fun R6 M6 I6 hr6 => ?_)) (Nat.le_of_ble_eq_true rfl)
              refine ⟨fun hc7 => ?_, fun hc7 => ?_⟩
              · skip
                have f8 := ti_2
                refine Wp.deep (s_X4_put_29 hG I6 (fun M9 I9 => ?_)) (Nat.le_of_ble_eq_true rfl)
                have f10 := dAddE (X := x2.toInt) (Y := 1) (x := x2) (y := (1 : Int32)) rfl (by decide) (by omega) (by omega)
                exact ih.1 _ _ _ I9 (by omega) (by omega) (by omega)
              · skip
                exact ih.2.2.1 _ I6 (by omega)
    · intro m hI hμ
      refine v_X2_product_43_67 ?_
      have f1 := ti_0
      exact hQ _ _ hI (by omega)
    · intro m hI hμ
      refine v_X2_product_43_83 ?_
      have f1 := ti_1
      exact hQ _ _ hI (by omega)
theorem s_X2_product_43_L3 {g : gM} {x1 : Int32} {m : dM} {Q : Int32 → dM → Prop} (hG : Gd g) (hI : Inv g m) (h1 : 3 ≤ x1.toInt ∧ x1.toInt ≤ 3) (hQ : ∀ (r : Int32) (m' : dM), Inv g m' → (0 ≤ r.toInt ∧ r.toInt ≤ 1) → Q r m') : c_X2_product_43 16 x1 m Q := by
  refine v_X2_product_43 ?_
  refine Wp.deep (s_X2_unit_43_L3 hG hI (by omega) (fun R1 M1 I1 hr1 => ?_)) (Nat.le_of_ble_eq_true rfl)
  refine ⟨fun hc2 => ?_, fun hc2 => ?_⟩
  · skip
    have f3 := ti_0
    exact (s_X2_product_43_L3_all hG hQ 807).1 _ _ _ I1 (by omega) (by omega) (by omega)
  · skip
    have f3 := ti_0
    exact hQ _ _ I1 (by omega)
theorem s_X2_sum_43_L3_all {g : gM} {Q : Int32 → dM → Prop} (hG : Gd g) (hQ : ∀ (r : Int32) (m' : dM), Inv g m' → (0 ≤ r.toInt ∧ r.toInt ≤ 1) → Q r m') : ∀ n : Nat, (∀ (x1 : Int32) (x2 : Int32) (m : dM), Inv g m → (3 ≤ x1.toInt ∧ x1.toInt ≤ 3) → (0 ≤ x2.toInt ∧ x2.toInt ≤ 401) → 805 - 2 * x2.toInt < (n : Int) → j_X2_sum_43_12 17 x1 x2 m Q) ∧ (∀ (x1 : Int32) (x2 : Int32) (m : dM), Inv g m → (3 ≤ x1.toInt ∧ x1.toInt ≤ 3) → (0 ≤ x2.toInt ∧ x2.toInt ≤ 400) → 804 - 2 * x2.toInt < (n : Int) → j_X2_sum_43_37 17 x1 x2 m Q) ∧ (∀ (m : dM), Inv g m → 1 < (n : Int) → j_X2_sum_43_67 17 m Q) ∧ (∀ (m : dM), Inv g m → 0 < (n : Int) → j_X2_sum_43_83 17 m Q) := by
  intro n
  induction n with
  | zero => exact ⟨fun x1 x2 m hI h1 h2 hμ => by exfalso; omega, fun x1 x2 m hI h1 h2 hμ => by exfalso; omega, fun m hI hμ => by exfalso; omega, fun m hI hμ => by exfalso; omega⟩
  | succ n ih =>
    refine ⟨?_, ?_, ?_, ?_⟩
    · intro x1 x2 m hI h1 h2 hμ
      refine v_X2_sum_43_12 ?_
      refine ⟨fun hc1 => ?_, fun hc1 => ?_⟩
      · skip
        exact ih.2.2.2 _ hI (by omega)
      · skip
        refine v_X2_kind_43 ?_
        refine ⟨fun hc2 => ?_, fun hc2 => ?_⟩
        · skip
          refine v_X2_kind_43_32 ?_
          have f3 := ti_24
          refine ⟨fun hc4 => ?_, fun hc4 => ?_⟩
          · skip
            exfalso; omega
          · skip
            refine v_X2_kind_43 ?_
            refine ⟨fun hc5 => ?_, fun hc5 => ?_⟩
            · skip
              refine v_X2_kind_43_32 ?_
              refine ⟨fun hc6 => ?_, fun hc6 => ?_⟩
              · skip
                exact ih.2.2.2 _ hI (by omega)
              · skip
                exfalso; omega
            · skip
              exfalso; omega
        · skip
          refine ⟨fun hc3 => ?_, fun hc3 => ?_⟩
          · skip
            refine v_X2_kind_43_32 ?_
            have f4 := ti_24
            refine ⟨fun hc5 => ?_, fun hc5 => ?_⟩
            · skip
              exfalso; omega
            · skip
              refine v_X2_kind_43 ?_
              refine ⟨fun hc6 => ?_, fun hc6 => ?_⟩
              · skip
                exfalso; omega
              · skip
                refine ⟨fun hc7 => ?_, fun hc7 => ?_⟩
                · skip
                  refine v_X2_kind_43_32 ?_
                  refine ⟨fun hc8 => ?_, fun hc8 => ?_⟩
                  · skip
                    exact ih.2.2.2 _ hI (by omega)
                  · skip
                    exfalso; omega
                · skip
                  exfalso; omega
          · skip
            refine ⟨by omega, ?_⟩
            refine ⟨fun hc4 => ?_, fun hc4 => ?_⟩
            · skip
              exact ih.2.1 _ _ _ hI (by omega) (by omega) (by omega)
            · skip
              refine v_X2_kind_43 ?_
              refine ⟨fun hc5 => ?_, fun hc5 => ?_⟩
              · skip
                exfalso; omega
              · skip
                refine ⟨fun hc6 => ?_, fun hc6 => ?_⟩
                · skip
                  exfalso; omega
                · skip
                  refine ⟨by omega, ?_⟩
                  refine ⟨fun hc7 => ?_, fun hc7 => ?_⟩
                  · skip
                    exact ih.2.2.2 _ hI (by omega)
                  · skip
                    exact ih.2.1 _ _ _ hI (by omega) (by omega) (by omega)
    · intro x1 x2 m hI h1 h2 hμ
      refine v_X2_sum_43_37 ?_
      refine v_X2_kind_43 ?_
      refine ⟨fun hc1 => ?_, fun hc1 => ?_⟩
      · skip
        refine v_X2_kind_43_32 ?_
        have f2 := ti_24
        refine ⟨fun hc3 => ?_, fun hc3 => ?_⟩
        · skip
          refine Wp.deep (s_X2_step_43 hG hI (fun R4 M4 I4 hr4 => ?_)) (Nat.le_of_ble_eq_true rfl)
          refine ⟨fun hc5 => ?_, fun hc5 => ?_⟩
          · skip
            exact ih.2.2.1 _ I4 (by omega)
          · skip
            refine Wp.deep (s_X2_product_43_L3 hG I4 (by omega) (fun R6 M6 I6 hr6 => ?_)) (Nat.le_of_ble_eq_true rfl)
            refine ⟨fun hc7 => ?_, fun hc7 => ?_⟩
            · skip
              have f8 := ti_1
              refine Wp.deep (s_X4_put_29 hG I6 (fun M9 I9 => ?_)) (Nat.le_of_ble_eq_true rfl)
              have f10 := dAddE (X := x2.toInt) (Y := 1) (x := x2) (y := (1 : Int32)) rfl (by decide) (by omega) (by omega)
              exact ih.1 _ _ _ I9 (by omega) (by omega) (by omega)
            · skip
              exact ih.2.2.1 _ I6 (by omega)
        · skip
          exfalso; omega
      · skip
        refine ⟨fun hc2 => ?_, fun hc2 => ?_⟩
        · skip
          refine v_X2_kind_43_32 ?_
          have f3 := ti_24
          refine ⟨fun hc4 => ?_, fun hc4 => ?_⟩
          · skip
            refine Wp.deep (s_X2_step_43 hG hI (fun R5 M5 I5 hr5 => ?_)) (Nat.le_of_ble_eq_true rfl)
            refine ⟨fun hc6 => ?_, fun hc6 => ?_⟩
            · skip
              exact ih.2.2.1 _ I5 (by omega)
            · skip
              refine Wp.deep (s_X2_product_43_L3 hG I5 (by omega) (fun R7 M7 I7 hr7 => ?_)) (Nat.le_of_ble_eq_true rfl)
              refine ⟨fun hc8 => ?_, fun hc8 => ?_⟩
              · skip
                have f9 := ti_1
                refine Wp.deep (s_X4_put_29 hG I7 (fun M10 I10 => ?_)) (Nat.le_of_ble_eq_true rfl)
                have f11 := dAddE (X := x2.toInt) (Y := 1) (x := x2) (y := (1 : Int32)) rfl (by decide) (by omega) (by omega)
                exact ih.1 _ _ _ I10 (by omega) (by omega) (by omega)
              · skip
                exact ih.2.2.1 _ I7 (by omega)
          · skip
            exfalso; omega
        · skip
          refine ⟨by omega, ?_⟩
          refine ⟨fun hc3 => ?_, fun hc3 => ?_⟩
          · skip
            refine Wp.deep (s_X2_step_43 hG hI (fun R4 M4 I4 hr4 => ?_)) (Nat.le_of_ble_eq_true rfl)
            refine ⟨fun hc5 => ?_, fun hc5 => ?_⟩
            · skip
              exact ih.2.2.1 _ I4 (by omega)
            · skip
              refine Wp.deep (s_X2_product_43_L3 hG I4 (by omega) (fun R6 M6 I6 hr6 => ?_)) (Nat.le_of_ble_eq_true rfl)
              refine ⟨fun hc7 => ?_, fun hc7 => ?_⟩
              · skip
                have f8 := ti_1
                refine Wp.deep (s_X4_put_29 hG I6 (fun M9 I9 => ?_)) (Nat.le_of_ble_eq_true rfl)
                have f10 := dAddE (X := x2.toInt) (Y := 1) (x := x2) (y := (1 : Int32)) rfl (by decide) (by omega) (by omega)
                exact ih.1 _ _ _ I9 (by omega) (by omega) (by omega)
              · skip
                exact ih.2.2.1 _ I6 (by omega)
          · skip
            refine Wp.deep (s_X2_step_43 hG hI (fun R4 M4 I4 hr4 => ?_)) (Nat.le_of_ble_eq_true rfl)
            refine ⟨fun hc5 => ?_, fun hc5 => ?_⟩
            · skip
              exact ih.2.2.1 _ I4 (by omega)
            · skip
              refine Wp.deep (s_X2_product_43_L3 hG I4 (by omega) (fun R6 M6 I6 hr6 => ?_)) (Nat.le_of_ble_eq_true rfl)
              refine ⟨fun hc7 => ?_, fun hc7 => ?_⟩
              · skip
                have f8 := ti_0
                refine Wp.deep (s_X4_put_29 hG I6 (fun M9 I9 => ?_)) (Nat.le_of_ble_eq_true rfl)
                have f10 := dAddE (X := x2.toInt) (Y := 1) (x := x2) (y := (1 : Int32)) rfl (by decide) (by omega) (by omega)
                exact ih.1 _ _ _ I9 (by omega) (by omega) (by omega)
              · skip
                exact ih.2.2.1 _ I6 (by omega)
    · intro m hI hμ
      refine v_X2_sum_43_67 ?_
      have f1 := ti_0
      exact hQ _ _ hI (by omega)
    · intro m hI hμ
      refine v_X2_sum_43_83 ?_
      have f1 := ti_1
      exact hQ _ _ hI (by omega)
theorem s_X2_sum_43_L3 {g : gM} {x1 : Int32} {m : dM} {Q : Int32 → dM → Prop} (hG : Gd g) (hI : Inv g m) (h1 : 3 ≤ x1.toInt ∧ x1.toInt ≤ 3) (hQ : ∀ (r : Int32) (m' : dM), Inv g m' → (0 ≤ r.toInt ∧ r.toInt ≤ 1) → Q r m') : c_X2_sum_43 17 x1 m Q := by
  refine v_X2_sum_43 ?_
  refine Wp.deep (s_X2_product_43_L3 hG hI (by omega) (fun R1 M1 I1 hr1 => ?_)) (Nat.le_of_ble_eq_true rfl)
  refine ⟨fun hc2 => ?_, fun hc2 => ?_⟩
  · skip
    have f3 := ti_0
    exact (s_X2_sum_43_L3_all hG hQ 807).1 _ _ _ I1 (by omega) (by omega) (by omega)
  · skip
    have f3 := ti_0
    exact hQ _ _ I1 (by omega)
theorem s_X2_unit_43_L2 {g : gM} {x1 : Int32} {m : dM} {Q : Int32 → dM → Prop} (hG : Gd g) (hI : Inv g m) (h1 : 2 ≤ x1.toInt ∧ x1.toInt ≤ 2) (hQ : ∀ (r : Int32) (m' : dM), Inv g m' → (0 ≤ r.toInt ∧ r.toInt ≤ 1) → Q r m') : c_X2_unit_43 18 x1 m Q := by
  refine v_X2_unit_43 ?_
  refine v_X2_kind_43 ?_
  refine ⟨fun hc1 => ?_, fun hc1 => ?_⟩
  · skip
    refine v_X2_kind_43_32 ?_
    have f2 := ti_24
    refine ⟨fun hc3 => ?_, fun hc3 => ?_⟩
    · skip
      refine ⟨fun hc4 => ?_, fun hc4 => ?_⟩
      · skip
        exfalso; omega
      · skip
        refine ⟨fun hc5 => ?_, fun hc5 => ?_⟩
        · skip
          refine v_X2_unit_43_67 ?_
          refine ⟨fun hc6 => ?_, fun hc6 => ?_⟩
          · skip
            exfalso; omega
          · skip
            have f7 := ti_1
            refine Wp.deep (s_X2_fail_43 hG hI (fun R8 M8 I8 hr8 => ?_)) (Nat.le_of_ble_eq_true rfl)
            refine ⟨dB01 (by omega), ?_⟩
            exact hQ _ _ I8 (by omega)
        · skip
          exfalso; omega
    · skip
      exfalso; omega
  · skip
    refine ⟨fun hc2 => ?_, fun hc2 => ?_⟩
    · skip
      refine v_X2_kind_43_32 ?_
      have f3 := ti_24
      refine ⟨fun hc4 => ?_, fun hc4 => ?_⟩
      · skip
        refine ⟨fun hc5 => ?_, fun hc5 => ?_⟩
        · skip
          exfalso; omega
        · skip
          refine ⟨fun hc6 => ?_, fun hc6 => ?_⟩
          · skip
            refine v_X2_unit_43_67 ?_
            refine ⟨fun hc7 => ?_, fun hc7 => ?_⟩
            · skip
              exfalso; omega
            · skip
              have f8 := ti_1
              refine Wp.deep (s_X2_fail_43 hG hI (fun R9 M9 I9 hr9 => ?_)) (Nat.le_of_ble_eq_true rfl)
              refine ⟨dB01 (by omega), ?_⟩
              exact hQ _ _ I9 (by omega)
          · skip
            exfalso; omega
      · skip
        exfalso; omega
    · skip
      refine ⟨by omega, ?_⟩
      refine ⟨fun hc3 => ?_, fun hc3 => ?_⟩
      · skip
        refine ⟨fun hc4 => ?_, fun hc4 => ?_⟩
        · skip
          refine v_X2_unit_43_67 ?_
          refine ⟨fun hc5 => ?_, fun hc5 => ?_⟩
          · skip
            exfalso; omega
          · skip
            have f6 := ti_1
            refine Wp.deep (s_X2_fail_43 hG hI (fun R7 M7 I7 hr7 => ?_)) (Nat.le_of_ble_eq_true rfl)
            refine ⟨dB01 (by omega), ?_⟩
            exact hQ _ _ I7 (by omega)
        · skip
          refine ⟨fun hc5 => ?_, fun hc5 => ?_⟩
          · skip
            refine v_X2_unit_43_67 ?_
            refine ⟨fun hc6 => ?_, fun hc6 => ?_⟩
            · skip
              refine ⟨fun hc7 => ?_, fun hc7 => ?_⟩
              · skip
                refine Wp.deep (s_X2_step_43 hG hI (fun R8 M8 I8 hr8 => ?_)) (Nat.le_of_ble_eq_true rfl)
                refine ⟨fun hc9 => ?_, fun hc9 => ?_⟩
                · skip
                  refine v_X2_unit_43_123 ?_
                  have f10 := ti_0
                  exact hQ _ _ I8 (by omega)
                · skip
                  have f10 := dAddE (X := x1.toInt) (Y := 1) (x := x1) (y := (1 : Int32)) rfl (by decide) (by omega) (by omega)
                  refine Wp.deep (s_X2_sum_43_L3 hG I8 (by omega) (fun R11 M11 I11 hr11 => ?_)) (Nat.le_of_ble_eq_true rfl)
                  refine ⟨fun hc12 => ?_, fun hc12 => ?_⟩
                  · skip
                    refine v_X2_unit_43_123 ?_
                    have f13 := ti_0
                    exact hQ _ _ I11 (by omega)
                  · skip
                    have f13 := ti_41
                    refine Wp.deep (s_X2_need_43 hG I11 (fun R14 M14 I14 hr14 => ?_)) (Nat.le_of_ble_eq_true rfl)
                    refine ⟨fun hc15 => ?_, fun hc15 => ?_⟩
                    · skip
                      refine v_X2_unit_43_123 ?_
                      have f16 := ti_0
                      exact hQ _ _ I14 (by omega)
                    · skip
                      have f16 := ti_1
                      exact hQ _ _ I14 (by omega)
              · skip
                exfalso; omega
            · skip
              have f7 := ti_1
              refine Wp.deep (s_X2_fail_43 hG hI (fun R8 M8 I8 hr8 => ?_)) (Nat.le_of_ble_eq_true rfl)
              refine ⟨dB01 (by omega), ?_⟩
              exact hQ _ _ I8 (by omega)
          · skip
            have f6 := dAddE (X := 4) (Y := (m.1 39 (m.1 43 2).toNatClampNeg).toInt) (x := (4 : Int32)) (y := (m.1 39 (m.1 43 2).toNatClampNeg)) (by decide) rfl (by omega) (by omega)
            have f7 := dSubE (X := ((4 : Int32) + (m.1 39 (m.1 43 2).toNatClampNeg)).toInt) (Y := 13) (x := ((4 : Int32) + (m.1 39 (m.1 43 2).toNatClampNeg))) (y := (13 : Int32)) rfl (by decide) (by omega) (by omega)
            refine Wp.deep (s_X4_put_29 hG hI (fun M8 I8 => ?_)) (Nat.le_of_ble_eq_true rfl)
            refine Wp.deep (s_X2_step_43 hG I8 (fun R9 M9 I9 hr9 => ?_)) (Nat.le_of_ble_eq_true rfl)
            refine ⟨dB01 (by omega), ?_⟩
            exact hQ _ _ I9 (by omega)
      · skip
        refine Wp.deep (s_X8_numberAt_38 hG hI (fun R4 => ?_)) (Nat.le_of_ble_eq_true rfl)
        refine Wp.deep (s_X4_put_29 hG hI (fun M5 I5 => ?_)) (Nat.le_of_ble_eq_true rfl)
        refine Wp.deep (s_X2_step_43 hG I5 (fun R6 M6 I6 hr6 => ?_)) (Nat.le_of_ble_eq_true rfl)
        refine ⟨dB01 (by omega), ?_⟩
        exact hQ _ _ I6 (by omega)
theorem s_X2_product_43_L2_all {g : gM} {Q : Int32 → dM → Prop} (hG : Gd g) (hQ : ∀ (r : Int32) (m' : dM), Inv g m' → (0 ≤ r.toInt ∧ r.toInt ≤ 1) → Q r m') : ∀ n : Nat, (∀ (x1 : Int32) (x2 : Int32) (m : dM), Inv g m → (2 ≤ x1.toInt ∧ x1.toInt ≤ 2) → (0 ≤ x2.toInt ∧ x2.toInt ≤ 401) → 805 - 2 * x2.toInt < (n : Int) → j_X2_product_43_12 19 x1 x2 m Q) ∧ (∀ (x1 : Int32) (x2 : Int32) (m : dM), Inv g m → (2 ≤ x1.toInt ∧ x1.toInt ≤ 2) → (0 ≤ x2.toInt ∧ x2.toInt ≤ 400) → 804 - 2 * x2.toInt < (n : Int) → j_X2_product_43_37 19 x1 x2 m Q) ∧ (∀ (m : dM), Inv g m → 1 < (n : Int) → j_X2_product_43_67 19 m Q) ∧ (∀ (m : dM), Inv g m → 0 < (n : Int) → j_X2_product_43_83 19 m Q) := by
  intro n
  induction n with
  | zero => exact ⟨fun x1 x2 m hI h1 h2 hμ => by exfalso; omega, fun x1 x2 m hI h1 h2 hμ => by exfalso; omega, fun m hI hμ => by exfalso; omega, fun m hI hμ => by exfalso; omega⟩
  | succ n ih =>
    refine ⟨?_, ?_, ?_, ?_⟩
    · intro x1 x2 m hI h1 h2 hμ
      refine v_X2_product_43_12 ?_
      refine ⟨fun hc1 => ?_, fun hc1 => ?_⟩
      · skip
        exact ih.2.2.2 _ hI (by omega)
      · skip
        refine v_X2_kind_43 ?_
        refine ⟨fun hc2 => ?_, fun hc2 => ?_⟩
        · skip
          refine v_X2_kind_43_32 ?_
          have f3 := ti_24
          refine ⟨fun hc4 => ?_, fun hc4 => ?_⟩
          · skip
            exfalso; omega
          · skip
            refine v_X2_kind_43 ?_
            refine ⟨fun hc5 => ?_, fun hc5 => ?_⟩
            · skip
              refine v_X2_kind_43_32 ?_
              refine ⟨fun hc6 => ?_, fun hc6 => ?_⟩
              · skip
                exact ih.2.2.2 _ hI (by omega)
              · skip
                exfalso; omega
            · skip
              exfalso; omega
        · skip
          refine ⟨fun hc3 => ?_, fun hc3 => ?_⟩
          · skip
            refine v_X2_kind_43_32 ?_
            have f4 := ti_24
            refine ⟨fun hc5 => ?_, fun hc5 => ?_⟩
            · skip
              exfalso; omega
            · skip
              refine v_X2_kind_43 ?_
              refine ⟨fun hc6 => ?_, fun hc6 => ?_⟩
              · skip
                exfalso; omega
              · skip
                refine ⟨fun hc7 => ?_, fun hc7 => ?_⟩
                · skip
                  refine v_X2_kind_43_32 ?_
                  refine ⟨fun hc8 => ?_, fun hc8 => ?_⟩
                  · skip
                    exact ih.2.2.2 _ hI (by omega)
                  · skip
                    exfalso; omega
                · skip
                  exfalso; omega
          · skip
            refine ⟨by omega, ?_⟩
            refine ⟨fun hc4 => ?_, fun hc4 => ?_⟩
            · skip
              exact ih.2.1 _ _ _ hI (by omega) (by omega) (by omega)
            · skip
              refine v_X2_kind_43 ?_
              refine ⟨fun hc5 => ?_, fun hc5 => ?_⟩
              · skip
                exfalso; omega
              · skip
                refine ⟨fun hc6 => ?_, fun hc6 => ?_⟩
                · skip
                  exfalso; omega
                · skip
                  refine ⟨by omega, ?_⟩
                  refine ⟨fun hc7 => ?_, fun hc7 => ?_⟩
                  · skip
                    exact ih.2.2.2 _ hI (by omega)
                  · skip
                    exact ih.2.1 _ _ _ hI (by omega) (by omega) (by omega)
    · intro x1 x2 m hI h1 h2 hμ
      refine v_X2_product_43_37 ?_
      refine v_X2_kind_43 ?_
      refine ⟨fun hc1 => ?_, fun hc1 => ?_⟩
      · skip
        refine v_X2_kind_43_32 ?_
        have f2 := ti_24
        refine ⟨fun hc3 => ?_, fun hc3 => ?_⟩
        · skip
          refine Wp.deep (s_X2_step_43 hG hI (fun R4 M4 I4 hr4 => ?_)) (Nat.le_of_ble_eq_true rfl)
          refine ⟨fun hc5 => ?_, fun hc5 => ?_⟩
          · skip
            exact ih.2.2.1 _ I4 (by omega)
          · skip
            refine Wp.deep (s_X2_unit_43_L2 hG I4 (by omega) (fun R6 M6 I6 hr6 => ?_)) (Nat.le_of_ble_eq_true rfl)
            refine ⟨fun hc7 => ?_, fun hc7 => ?_⟩
            · skip
              have f8 := ti_3
              refine Wp.deep (s_X4_put_29 hG I6 (fun M9 I9 => ?_)) (Nat.le_of_ble_eq_true rfl)
              have f10 := dAddE (X := x2.toInt) (Y := 1) (x := x2) (y := (1 : Int32)) rfl (by decide) (by omega) (by omega)
              exact ih.1 _ _ _ I9 (by omega) (by omega) (by omega)
            · skip
              exact ih.2.2.1 _ I6 (by omega)
        · skip
          exfalso; omega
      · skip
        refine ⟨fun hc2 => ?_, fun hc2 => ?_⟩
        · skip
          refine v_X2_kind_43_32 ?_
          have f3 := ti_24
          refine ⟨fun hc4 => ?_, fun hc4 => ?_⟩
          · skip
            refine Wp.deep (s_X2_step_43 hG hI (fun R5 M5 I5 hr5 => ?_)) (Nat.le_of_ble_eq_true rfl)
            refine ⟨fun hc6 => ?_, fun hc6 => ?_⟩
            · skip
              exact ih.2.2.1 _ I5 (by omega)
            · skip
              refine Wp.deep (s_X2_unit_43_L2 hG I5 (by omega) (fun R7 M7 I7 hr7 => ?_)) (Nat.le_of_ble_eq_true rfl)
              refine ⟨fun hc8 => ?_, fun hc8 => ?_⟩
              · skip
                have f9 := ti_3
                refine Wp.deep (s_X4_put_29 hG I7 (fun M10 I10 => ?_)) (Nat.le_of_ble_eq_true rfl)
                have f11 := dAddE (X := x2.toInt) (Y := 1) (x := x2) (y := (1 : Int32)) rfl (by decide) (by omega) (by omega)
                exact ih.1 _ _ _ I10 (by omega) (by omega) (by omega)
              · skip
                exact ih.2.2.1 _ I7 (by omega)
          · skip
            exfalso; omega
        · skip
          refine ⟨by omega, ?_⟩
          refine ⟨fun hc3 => ?_, fun hc3 => ?_⟩
          · skip
            refine Wp.deep (s_X2_step_43 hG hI (fun R4 M4 I4 hr4 => ?_)) (Nat.le_of_ble_eq_true rfl)
            refine ⟨fun hc5 => ?_, fun hc5 => ?_⟩
            · skip
              exact ih.2.2.1 _ I4 (by omega)
            · skip
              refine Wp.deep (s_X2_unit_43_L2 hG I4 (by omega) (fun R6 M6 I6 hr6 => ?_)) (Nat.le_of_ble_eq_true rfl)
              refine ⟨fun hc7 => ?_, fun hc7 => ?_⟩
              · skip
                have f8 := ti_3
                refine Wp.deep (s_X4_put_29 hG I6 (fun M9 I9 => ?_)) (Nat.le_of_ble_eq_true rfl)
                have f10 := dAddE (X := x2.toInt) (Y := 1) (x := x2) (y := (1 : Int32)) rfl (by decide) (by omega) (by omega)
                exact ih.1 _ _ _ I9 (by omega) (by omega) (by omega)
              · skip
                exact ih.2.2.1 _ I6 (by omega)
          · skip
            refine Wp.deep (s_X2_step_43 hG hI (fun R4 M4 I4 hr4 => ?_)) (Nat.le_of_ble_eq_true rfl)
            refine ⟨fun hc5 => ?_, fun hc5 => ?_⟩
            · skip
              exact ih.2.2.1 _ I4 (by omega)
            · skip
              refine Wp.deep (s_X2_unit_43_L2 hG I4 (by omega) (fun R6 M6 I6 hr6 => ?_)) (Nat.le_of_ble_eq_true rfl)
              refine ⟨fun hc7 => ?_, fun hc7 => ?_⟩
              · skip
                have f8 := ti_2
                refine Wp.deep (s_X4_put_29 hG I6 (fun M9 I9 => ?_)) (Nat.le_of_ble_eq_true rfl)
                have f10 := dAddE (X := x2.toInt) (Y := 1) (x := x2) (y := (1 : Int32)) rfl (by decide) (by omega) (by omega)
                exact ih.1 _ _ _ I9 (by omega) (by omega) (by omega)
              · skip
                exact ih.2.2.1 _ I6 (by omega)
    · intro m hI hμ
      refine v_X2_product_43_67 ?_
      have f1 := ti_0
      exact hQ _ _ hI (by omega)
    · intro m hI hμ
      refine v_X2_product_43_83 ?_
      have f1 := ti_1
      exact hQ _ _ hI (by omega)
theorem s_X2_product_43_L2 {g : gM} {x1 : Int32} {m : dM} {Q : Int32 → dM → Prop} (hG : Gd g) (hI : Inv g m) (h1 : 2 ≤ x1.toInt ∧ x1.toInt ≤ 2) (hQ : ∀ (r : Int32) (m' : dM), Inv g m' → (0 ≤ r.toInt ∧ r.toInt ≤ 1) → Q r m') : c_X2_product_43 19 x1 m Q := by
  refine v_X2_product_43 ?_
  refine Wp.deep (s_X2_unit_43_L2 hG hI (by omega) (fun R1 M1 I1 hr1 => ?_)) (Nat.le_of_ble_eq_true rfl)
  refine ⟨fun hc2 => ?_, fun hc2 => ?_⟩
  · skip
    have f3 := ti_0
    exact (s_X2_product_43_L2_all hG hQ 807).1 _ _ _ I1 (by omega) (by omega) (by omega)
  · skip
    have f3 := ti_0
    exact hQ _ _ I1 (by omega)
theorem s_X2_sum_43_L2_all {g : gM} {Q : Int32 → dM → Prop} (hG : Gd g) (hQ : ∀ (r : Int32) (m' : dM), Inv g m' → (0 ≤ r.toInt ∧ r.toInt ≤ 1) → Q r m') : ∀ n : Nat, (∀ (x1 : Int32) (x2 : Int32) (m : dM), Inv g m → (2 ≤ x1.toInt ∧ x1.toInt ≤ 2) → (0 ≤ x2.toInt ∧ x2.toInt ≤ 401) → 805 - 2 * x2.toInt < (n : Int) → j_X2_sum_43_12 20 x1 x2 m Q) ∧ (∀ (x1 : Int32) (x2 : Int32) (m : dM), Inv g m → (2 ≤ x1.toInt ∧ x1.toInt ≤ 2) → (0 ≤ x2.toInt ∧ x2.toInt ≤ 400) → 804 - 2 * x2.toInt < (n : Int) → j_X2_sum_43_37 20 x1 x2 m Q) ∧ (∀ (m : dM), Inv g m → 1 < (n : Int) → j_X2_sum_43_67 20 m Q) ∧ (∀ (m : dM), Inv g m → 0 < (n : Int) → j_X2_sum_43_83 20 m Q) := by
  intro n
  induction n with
  | zero => exact ⟨fun x1 x2 m hI h1 h2 hμ => by exfalso; omega, fun x1 x2 m hI h1 h2 hμ => by exfalso; omega, fun m hI hμ => by exfalso; omega, fun m hI hμ => by exfalso; omega⟩
  | succ n ih =>
    refine ⟨?_, ?_, ?_, ?_⟩
    · intro x1 x2 m hI h1 h2 hμ
      refine v_X2_sum_43_12 ?_
      refine ⟨fun hc1 => ?_, fun hc1 => ?_⟩
      · skip
        exact ih.2.2.2 _ hI (by omega)
      · skip
        refine v_X2_kind_43 ?_
        refine ⟨fun hc2 => ?_, fun hc2 => ?_⟩
        · skip
          refine v_X2_kind_43_32 ?_
          have f3 := ti_24
          refine ⟨fun hc4 => ?_, fun hc4 => ?_⟩
          · skip
            exfalso; omega
          · skip
            refine v_X2_kind_43 ?_
            refine ⟨fun hc5 => ?_, fun hc5 => ?_⟩
            · skip
              refine v_X2_kind_43_32 ?_
              refine ⟨fun hc6 => ?_, fun hc6 => ?_⟩
              · skip
                exact ih.2.2.2 _ hI (by omega)
              · skip
                exfalso; omega
            · skip
              exfalso; omega
        · skip
          refine ⟨fun hc3 => ?_, fun hc3 => ?_⟩
          · skip
            refine v_X2_kind_43_32 ?_
            have f4 := ti_24
            refine ⟨fun hc5 => ?_, fun hc5 => ?_⟩
            · skip
              exfalso; omega
            · skip
              refine v_X2_kind_43 ?_
              refine ⟨fun hc6 => ?_, fun hc6 => ?_⟩
              · skip
                exfalso; omega
              · skip
                refine ⟨fun hc7 => ?_, fun hc7 => ?_⟩
                · skip
                  refine v_X2_kind_43_32 ?_
                  refine ⟨fun hc8 => ?_, fun hc8 => ?_⟩
                  · skip
                    exact ih.2.2.2 _ hI (by omega)
                  · skip
                    exfalso; omega
                · skip
                  exfalso; omega
          · skip
            refine ⟨by omega, ?_⟩
            refine ⟨fun hc4 => ?_, fun hc4 => ?_⟩
            · skip
              exact ih.2.1 _ _ _ hI (by omega) (by omega) (by omega)
            · skip
              refine v_X2_kind_43 ?_
              refine ⟨fun hc5 => ?_, fun hc5 => ?_⟩
              · skip
                exfalso; omega
              · skip
                refine ⟨fun hc6 => ?_, fun hc6 => ?_⟩
                · skip
                  exfalso; omega
                · skip
                  refine ⟨by omega, ?_⟩
                  refine ⟨fun hc7 => ?_, fun hc7 => ?_⟩
                  · skip
                    exact ih.2.2.2 _ hI (by omega)
                  · skip
                    exact ih.2.1 _ _ _ hI (by omega) (by omega) (by omega)
    · intro x1 x2 m hI h1 h2 hμ
      refine v_X2_sum_43_37 ?_
      refine v_X2_kind_43 ?_
      refine ⟨fun hc1 => ?_, fun hc1 => ?_⟩
      · skip
        refine v_X2_kind_43_32 ?_
        have f2 := ti_24
        refine ⟨fun hc3 => ?_, fun hc3 => ?_⟩
        · skip
          refine Wp.deep (s_X2_step_43 hG hI (fun R4 M4 I4 hr4 => ?_)) (Nat.le_of_ble_eq_true rfl)
          refine ⟨fun hc5 => ?_, fun hc5 => ?_⟩
          · skip
            exact ih.2.2.1 _ I4 (by omega)
          · skip
            refine Wp.deep (s_X2_product_43_L2 hG I4 (by omega) (fun R6 M6 I6 hr6 => ?_)) (Nat.le_of_ble_eq_true rfl)
            refine ⟨fun hc7 => ?_, fun hc7 => ?_⟩
            · skip
              have f8 := ti_1
              refine Wp.deep (s_X4_put_29 hG I6 (fun M9 I9 => ?_)) (Nat.le_of_ble_eq_true rfl)
              have f10 := dAddE (X := x2.toInt) (Y := 1) (x := x2) (y := (1 : Int32)) rfl (by decide) (by omega) (by omega)
              exact ih.1 _ _ _ I9 (by omega) (by omega) (by omega)
            · skip
              exact ih.2.2.1 _ I6 (by omega)
        · skip
          exfalso; omega
      · skip
        refine ⟨fun hc2 => ?_, fun hc2 => ?_⟩
        · skip
          refine v_X2_kind_43_32 ?_
          have f3 := ti_24
          refine ⟨fun hc4 => ?_, fun hc4 => ?_⟩
          · skip
            refine Wp.deep (s_X2_step_43 hG hI (fun R5 M5 I5 hr5 => ?_)) (Nat.le_of_ble_eq_true rfl)
            refine ⟨fun hc6 => ?_, fun hc6 => ?_⟩
            · skip
              exact ih.2.2.1 _ I5 (by omega)
            · skip
              refine Wp.deep (s_X2_product_43_L2 hG I5 (by omega) (fun R7 M7 I7 hr7 => ?_)) (Nat.le_of_ble_eq_true rfl)
              refine ⟨fun hc8 => ?_, fun hc8 => ?_⟩
              · skip
                have f9 := ti_1
                refine Wp.deep (s_X4_put_29 hG I7 (fun M10 I10 => ?_)) (Nat.le_of_ble_eq_true rfl)
                have f11 := dAddE (X := x2.toInt) (Y := 1) (x := x2) (y := (1 : Int32)) rfl (by decide) (by omega) (by omega)
                exact ih.1 _ _ _ I10 (by omega) (by omega) (by omega)
              · skip
                exact ih.2.2.1 _ I7 (by omega)
          · skip
            exfalso; omega
        · skip
          refine ⟨by omega, ?_⟩
          refine ⟨fun hc3 => ?_, fun hc3 => ?_⟩
          · skip
            refine Wp.deep (s_X2_step_43 hG hI (fun R4 M4 I4 hr4 => ?_)) (Nat.le_of_ble_eq_true rfl)
            refine ⟨fun hc5 => ?_, fun hc5 => ?_⟩
            · skip
              exact ih.2.2.1 _ I4 (by omega)
            · skip
              refine Wp.deep (s_X2_product_43_L2 hG I4 (by omega) (fun R6 M6 I6 hr6 => ?_)) (Nat.le_of_ble_eq_true rfl)
              refine ⟨fun hc7 => ?_, fun hc7 => ?_⟩
              · skip
                have f8 := ti_1
                refine Wp.deep (s_X4_put_29 hG I6 (fun M9 I9 => ?_)) (Nat.le_of_ble_eq_true rfl)
                have f10 := dAddE (X := x2.toInt) (Y := 1) (x := x2) (y := (1 : Int32)) rfl (by decide) (by omega) (by omega)
                exact ih.1 _ _ _ I9 (by omega) (by omega) (by omega)
              · skip
                exact ih.2.2.1 _ I6 (by omega)
          · skip
            refine Wp.deep (s_X2_step_43 hG hI (fun R4 M4 I4 hr4 => ?_)) (Nat.le_of_ble_eq_true rfl)
            refine ⟨fun hc5 => ?_, fun hc5 => ?_⟩
            · skip
              exact ih.2.2.1 _ I4 (by omega)
            · skip
              refine Wp.deep (s_X2_product_43_L2 hG I4 (by omega) (fun R6 M6 I6 hr6 => ?_)) (Nat.le_of_ble_eq_true rfl)
              refine ⟨fun hc7 => ?_, fun hc7 => ?_⟩
              · skip
                have f8 := ti_0
                refine Wp.deep (s_X4_put_29 hG I6 (fun M9 I9 => ?_)) (Nat.le_of_ble_eq_true rfl)
                have f10 := dAddE (X := x2.toInt) (Y := 1) (x := x2) (y := (1 : Int32)) rfl (by decide) (by omega) (by omega)
                exact ih.1 _ _ _ I9 (by omega) (by omega) (by omega)
              · skip
                exact ih.2.2.1 _ I6 (by omega)
    · intro m hI hμ
      refine v_X2_sum_43_67 ?_
      have f1 := ti_0
      exact hQ _ _ hI (by omega)
    · intro m hI hμ
      refine v_X2_sum_43_83 ?_
      have f1 := ti_1
      exact hQ _ _ hI (by omega)
theorem s_X2_sum_43_L2 {g : gM} {x1 : Int32} {m : dM} {Q : Int32 → dM → Prop} (hG : Gd g) (hI : Inv g m) (h1 : 2 ≤ x1.toInt ∧ x1.toInt ≤ 2) (hQ : ∀ (r : Int32) (m' : dM), Inv g m' → (0 ≤ r.toInt ∧ r.toInt ≤ 1) → Q r m') : c_X2_sum_43 20 x1 m Q := by
  refine v_X2_sum_43 ?_
  refine Wp.deep (s_X2_product_43_L2 hG hI (by omega) (fun R1 M1 I1 hr1 => ?_)) (Nat.le_of_ble_eq_true rfl)
  refine ⟨fun hc2 => ?_, fun hc2 => ?_⟩
  · skip
    have f3 := ti_0
    exact (s_X2_sum_43_L2_all hG hQ 807).1 _ _ _ I1 (by omega) (by omega) (by omega)
  · skip
    have f3 := ti_0
    exact hQ _ _ I1 (by omega)
theorem s_X2_unit_43_L1 {g : gM} {x1 : Int32} {m : dM} {Q : Int32 → dM → Prop} (hG : Gd g) (hI : Inv g m) (h1 : 1 ≤ x1.toInt ∧ x1.toInt ≤ 1) (hQ : ∀ (r : Int32) (m' : dM), Inv g m' → (0 ≤ r.toInt ∧ r.toInt ≤ 1) → Q r m') : c_X2_unit_43 21 x1 m Q := by
  refine v_X2_unit_43 ?_
  refine v_X2_kind_43 ?_
  refine ⟨fun hc1 => ?_, fun hc1 => ?_⟩
  · skip
    refine v_X2_kind_43_32 ?_
    have f2 := ti_24
    refine ⟨fun hc3 => ?_, fun hc3 => ?_⟩
    · skip
      refine ⟨fun hc4 => ?_, fun hc4 => ?_⟩
      · skip
        exfalso; omega
      · skip
        refine ⟨fun hc5 => ?_, fun hc5 => ?_⟩
        · skip
          refine v_X2_unit_43_67 ?_
          refine ⟨fun hc6 => ?_, fun hc6 => ?_⟩
          · skip
            exfalso; omega
          · skip
            have f7 := ti_1
            refine Wp.deep (s_X2_fail_43 hG hI (fun R8 M8 I8 hr8 => ?_)) (Nat.le_of_ble_eq_true rfl)
            refine ⟨dB01 (by omega), ?_⟩
            exact hQ _ _ I8 (by omega)
        · skip
          exfalso; omega
    · skip
      exfalso; omega
  · skip
    refine ⟨fun hc2 => ?_, fun hc2 => ?_⟩
    · skip
      refine v_X2_kind_43_32 ?_
      have f3 := ti_24
      refine ⟨fun hc4 => ?_, fun hc4 => ?_⟩
      · skip
        refine ⟨fun hc5 => ?_, fun hc5 => ?_⟩
        · skip
          exfalso; omega
        · skip
          refine ⟨fun hc6 => ?_, fun hc6 => ?_⟩
          · skip
            refine v_X2_unit_43_67 ?_
            refine ⟨fun hc7 => ?_, fun hc7 => ?_⟩
            · skip
              exfalso; omega
            · skip
              have f8 := ti_1
              refine Wp.deep (s_X2_fail_43 hG hI (fun R9 M9 I9 hr9 => ?_)) (Nat.le_of_ble_eq_true rfl)
              refine ⟨dB01 (by omega), ?_⟩
              exact hQ _ _ I9 (by omega)
          · skip
            exfalso; omega
      · skip
        exfalso; omega
    · skip
      refine ⟨by omega, ?_⟩
      refine ⟨fun hc3 => ?_, fun hc3 => ?_⟩
      · skip
        refine ⟨fun hc4 => ?_, fun hc4 => ?_⟩
        · skip
          refine v_X2_unit_43_67 ?_
          refine ⟨fun hc5 => ?_, fun hc5 => ?_⟩
          · skip
            exfalso; omega
          · skip
            have f6 := ti_1
            refine Wp.deep (s_X2_fail_43 hG hI (fun R7 M7 I7 hr7 => ?_)) (Nat.le_of_ble_eq_true rfl)
            refine ⟨dB01 (by omega), ?_⟩
            exact hQ _ _ I7 (by omega)
        · skip
          refine ⟨fun hc5 => ?_, fun hc5 => ?_⟩
          · skip
            refine v_X2_unit_43_67 ?_
            refine ⟨fun hc6 => ?_, fun hc6 => ?_⟩
            · skip
              refine ⟨fun hc7 => ?_, fun hc7 => ?_⟩
              · skip
                refine Wp.deep (s_X2_step_43 hG hI (fun R8 M8 I8 hr8 => ?_)) (Nat.le_of_ble_eq_true rfl)
                refine ⟨fun hc9 => ?_, fun hc9 => ?_⟩
                · skip
                  refine v_X2_unit_43_123 ?_
                  have f10 := ti_0
                  exact hQ _ _ I8 (by omega)
                · skip
                  have f10 := dAddE (X := x1.toInt) (Y := 1) (x := x1) (y := (1 : Int32)) rfl (by decide) (by omega) (by omega)
                  refine Wp.deep (s_X2_sum_43_L2 hG I8 (by omega) (fun R11 M11 I11 hr11 => ?_)) (Nat.le_of_ble_eq_true rfl)
                  refine ⟨fun hc12 => ?_, fun hc12 => ?_⟩
                  · skip
                    refine v_X2_unit_43_123 ?_
                    have f13 := ti_0
                    exact hQ _ _ I11 (by omega)
                  · skip
                    have f13 := ti_41
                    refine Wp.deep (s_X2_need_43 hG I11 (fun R14 M14 I14 hr14 => ?_)) (Nat.le_of_ble_eq_true rfl)
                    refine ⟨fun hc15 => ?_, fun hc15 => ?_⟩
                    · skip
                      refine v_X2_unit_43_123 ?_
                      have f16 := ti_0
                      exact hQ _ _ I14 (by omega)
                    · skip
                      have f16 := ti_1
                      exact hQ _ _ I14 (by omega)
              · skip
                exfalso; omega
            · skip
              have f7 := ti_1
              refine Wp.deep (s_X2_fail_43 hG hI (fun R8 M8 I8 hr8 => ?_)) (Nat.le_of_ble_eq_true rfl)
              refine ⟨dB01 (by omega), ?_⟩
              exact hQ _ _ I8 (by omega)
          · skip
            have f6 := dAddE (X := 4) (Y := (m.1 39 (m.1 43 2).toNatClampNeg).toInt) (x := (4 : Int32)) (y := (m.1 39 (m.1 43 2).toNatClampNeg)) (by decide) rfl (by omega) (by omega)
            have f7 := dSubE (X := ((4 : Int32) + (m.1 39 (m.1 43 2).toNatClampNeg)).toInt) (Y := 13) (x := ((4 : Int32) + (m.1 39 (m.1 43 2).toNatClampNeg))) (y := (13 : Int32)) rfl (by decide) (by omega) (by omega)
            refine Wp.deep (s_X4_put_29 hG hI (fun M8 I8 => ?_)) (Nat.le_of_ble_eq_true rfl)
            refine Wp.deep (s_X2_step_43 hG I8 (fun R9 M9 I9 hr9 => ?_)) (Nat.le_of_ble_eq_true rfl)
            refine ⟨dB01 (by omega), ?_⟩
            exact hQ _ _ I9 (by omega)
      · skip
        refine Wp.deep (s_X8_numberAt_38 hG hI (fun R4 => ?_)) (Nat.le_of_ble_eq_true rfl)
        refine Wp.deep (s_X4_put_29 hG hI (fun M5 I5 => ?_)) (Nat.le_of_ble_eq_true rfl)
        refine Wp.deep (s_X2_step_43 hG I5 (fun R6 M6 I6 hr6 => ?_)) (Nat.le_of_ble_eq_true rfl)
        refine ⟨dB01 (by omega), ?_⟩
        exact hQ _ _ I6 (by omega)
theorem s_X2_product_43_L1_all {g : gM} {Q : Int32 → dM → Prop} (hG : Gd g) (hQ : ∀ (r : Int32) (m' : dM), Inv g m' → (0 ≤ r.toInt ∧ r.toInt ≤ 1) → Q r m') : ∀ n : Nat, (∀ (x1 : Int32) (x2 : Int32) (m : dM), Inv g m → (1 ≤ x1.toInt ∧ x1.toInt ≤ 1) → (0 ≤ x2.toInt ∧ x2.toInt ≤ 401) → 805 - 2 * x2.toInt < (n : Int) → j_X2_product_43_12 22 x1 x2 m Q) ∧ (∀ (x1 : Int32) (x2 : Int32) (m : dM), Inv g m → (1 ≤ x1.toInt ∧ x1.toInt ≤ 1) → (0 ≤ x2.toInt ∧ x2.toInt ≤ 400) → 804 - 2 * x2.toInt < (n : Int) → j_X2_product_43_37 22 x1 x2 m Q) ∧ (∀ (m : dM), Inv g m → 1 < (n : Int) → j_X2_product_43_67 22 m Q) ∧ (∀ (m : dM), Inv g m → 0 < (n : Int) → j_X2_product_43_83 22 m Q) := by
  intro n
  induction n with
  | zero => exact ⟨fun x1 x2 m hI h1 h2 hμ => by exfalso; omega, fun x1 x2 m hI h1 h2 hμ => by exfalso; omega, fun m hI hμ => by exfalso; omega, fun m hI hμ => by exfalso; omega⟩
  | succ n ih =>
    refine ⟨?_, ?_, ?_, ?_⟩
    · intro x1 x2 m hI h1 h2 hμ
      refine v_X2_product_43_12 ?_
      refine ⟨fun hc1 => ?_, fun hc1 => ?_⟩
      · skip
        exact ih.2.2.2 _ hI (by omega)
      · skip
        refine v_X2_kind_43 ?_
        refine ⟨fun hc2 => ?_, fun hc2 => ?_⟩
        · skip
          refine v_X2_kind_43_32 ?_
          have f3 := ti_24
          refine ⟨fun hc4 => ?_, fun hc4 => ?_⟩
          · skip
            exfalso; omega
          · skip
            refine v_X2_kind_43 ?_
            refine ⟨fun hc5 => ?_, fun hc5 => ?_⟩
            · skip
              refine v_X2_kind_43_32 ?_
              refine ⟨fun hc6 => ?_, fun hc6 => ?_⟩
              · skip
                exact ih.2.2.2 _ hI (by omega)
              · skip
                exfalso; omega
            · skip
              exfalso; omega
        · skip
          refine ⟨fun hc3 => ?_, fun hc3 => ?_⟩
          · skip
            refine v_X2_kind_43_32 ?_
            have f4 := ti_24
            refine ⟨fun hc5 => ?_, fun hc5 => ?_⟩
            · skip
              exfalso; omega
            · skip
              refine v_X2_kind_43 ?_
              refine ⟨fun hc6 => ?_, fun hc6 => ?_⟩
              · skip
                exfalso; omega
              · skip
                refine ⟨fun hc7 => ?_, fun hc7 => ?_⟩
                · skip
                  refine v_X2_kind_43_32 ?_
                  refine ⟨fun hc8 => ?_, fun hc8 => ?_⟩
                  · skip
                    exact ih.2.2.2 _ hI (by omega)
                  · skip
                    exfalso; omega
                · skip
                  exfalso; omega
          · skip
            refine ⟨by omega, ?_⟩
            refine ⟨fun hc4 => ?_, fun hc4 => ?_⟩
            · skip
              exact ih.2.1 _ _ _ hI (by omega) (by omega) (by omega)
            · skip
              refine v_X2_kind_43 ?_
              refine ⟨fun hc5 => ?_, fun hc5 => ?_⟩
              · skip
                exfalso; omega
              · skip
                refine ⟨fun hc6 => ?_, fun hc6 => ?_⟩
                · skip
                  exfalso; omega
                · skip
                  refine ⟨by omega, ?_⟩
                  refine ⟨fun hc7 => ?_, fun hc7 => ?_⟩
                  · skip
                    exact ih.2.2.2 _ hI (by omega)
                  · skip
                    exact ih.2.1 _ _ _ hI (by omega) (by omega) (by omega)
    · intro x1 x2 m hI h1 h2 hμ
      refine v_X2_product_43_37 ?_
      refine v_X2_kind_43 ?_
      refine ⟨fun hc1 => ?_, fun hc1 => ?_⟩
      · skip
        refine v_X2_kind_43_32 ?_
        have f2 := ti_24
        refine ⟨fun hc3 => ?_, fun hc3 => ?_⟩
        · skip
          refine Wp.deep (s_X2_step_43 hG hI (fun R4 M4 I4 hr4 => ?_)) (Nat.le_of_ble_eq_true rfl)
          refine ⟨fun hc5 => ?_, fun hc5 => ?_⟩
          · skip
            exact ih.2.2.1 _ I4 (by omega)
          · skip
            refine Wp.deep (s_X2_unit_43_L1 hG I4 (by omega) (fun R6 M6 I6 hr6 => ?_)) (Nat.le_of_ble_eq_true rfl)
            refine ⟨fun hc7 => ?_, fun hc7 => ?_⟩
            · skip
              have f8 := ti_3
              refine Wp.deep (s_X4_put_29 hG I6 (fun M9 I9 => ?_)) (Nat.le_of_ble_eq_true rfl)
              have f10 := dAddE (X := x2.toInt) (Y := 1) (x := x2) (y := (1 : Int32)) rfl (by decide) (by omega) (by omega)
              exact ih.1 _ _ _ I9 (by omega) (by omega) (by omega)
            · skip
              exact ih.2.2.1 _ I6 (by omega)
        · skip
          exfalso; omega
      · skip
        refine ⟨fun hc2 => ?_, fun hc2 => ?_⟩
        · skip
          refine v_X2_kind_43_32 ?_
          have f3 := ti_24
          refine ⟨fun hc4 => ?_, fun hc4 => ?_⟩
          · skip
            refine Wp.deep (s_X2_step_43 hG hI (fun R5 M5 I5 hr5 => ?_)) (Nat.le_of_ble_eq_true rfl)
            refine ⟨fun hc6 => ?_, fun hc6 => ?_⟩
            · skip
              exact ih.2.2.1 _ I5 (by omega)
            · skip
              refine Wp.deep (s_X2_unit_43_L1 hG I5 (by omega) (fun R7 M7 I7 hr7 => ?_)) (Nat.le_of_ble_eq_true rfl)
              refine ⟨fun hc8 => ?_, fun hc8 => ?_⟩
              · skip
                have f9 := ti_3
                refine Wp.deep (s_X4_put_29 hG I7 (fun M10 I10 => ?_)) (Nat.le_of_ble_eq_true rfl)
                have f11 := dAddE (X := x2.toInt) (Y := 1) (x := x2) (y := (1 : Int32)) rfl (by decide) (by omega) (by omega)
                exact ih.1 _ _ _ I10 (by omega) (by omega) (by omega)
              · skip
                exact ih.2.2.1 _ I7 (by omega)
          · skip
            exfalso; omega
        · skip
          refine ⟨by omega, ?_⟩
          refine ⟨fun hc3 => ?_, fun hc3 => ?_⟩
          · skip
            refine Wp.deep (s_X2_step_43 hG hI (fun R4 M4 I4 hr4 => ?_)) (Nat.le_of_ble_eq_true rfl)
            refine ⟨fun hc5 => ?_, fun hc5 => ?_⟩
            · skip
              exact ih.2.2.1 _ I4 (by omega)
            · skip
              refine Wp.deep (s_X2_unit_43_L1 hG I4 (by omega) (fun R6 M6 I6 hr6 => ?_)) (Nat.le_of_ble_eq_true rfl)
              refine ⟨fun hc7 => ?_, fun hc7 => ?_⟩
              · skip
                have f8 := ti_3
                refine Wp.deep (s_X4_put_29 hG I6 (fun M9 I9 => ?_)) (Nat.le_of_ble_eq_true rfl)
                have f10 := dAddE (X := x2.toInt) (Y := 1) (x := x2) (y := (1 : Int32)) rfl (by decide) (by omega) (by omega)
                exact ih.1 _ _ _ I9 (by omega) (by omega) (by omega)
              · skip
                exact ih.2.2.1 _ I6 (by omega)
          · skip
            refine Wp.deep (s_X2_step_43 hG hI (fun R4 M4 I4 hr4 => ?_)) (Nat.le_of_ble_eq_true rfl)
            refine ⟨fun hc5 => ?_, fun hc5 => ?_⟩
            · skip
              exact ih.2.2.1 _ I4 (by omega)
            · skip
              refine Wp.deep (s_X2_unit_43_L1 hG I4 (by omega) (fun R6 M6 I6 hr6 => ?_)) (Nat.le_of_ble_eq_true rfl)
              refine ⟨fun hc7 => ?_, fun hc7 => ?_⟩
              · skip
                have f8 := ti_2
                refine Wp.deep (s_X4_put_29 hG I6 (fun M9 I9 => ?_)) (Nat.le_of_ble_eq_true rfl)
                have f10 := dAddE (X := x2.toInt) (Y := 1) (x := x2) (y := (1 : Int32)) rfl (by decide) (by omega) (by omega)
                exact ih.1 _ _ _ I9 (by omega) (by omega) (by omega)
              · skip
                exact ih.2.2.1 _ I6 (by omega)
    · intro m hI hμ
      refine v_X2_product_43_67 ?_
      have f1 := ti_0
      exact hQ _ _ hI (by omega)
    · intro m hI hμ
      refine v_X2_product_43_83 ?_
      have f1 := ti_1
      exact hQ _ _ hI (by omega)
theorem s_X2_product_43_L1 {g : gM} {x1 : Int32} {m : dM} {Q : Int32 → dM → Prop} (hG : Gd g) (hI : Inv g m) (h1 : 1 ≤ x1.toInt ∧ x1.toInt ≤ 1) (hQ : ∀ (r : Int32) (m' : dM), Inv g m' → (0 ≤ r.toInt ∧ r.toInt ≤ 1) → Q r m') : c_X2_product_43 22 x1 m Q := by
  refine v_X2_product_43 ?_
  refine Wp.deep (s_X2_unit_43_L1 hG hI (by omega) (fun R1 M1 I1 hr1 => ?_)) (Nat.le_of_ble_eq_true rfl)
  refine ⟨fun hc2 => ?_, fun hc2 => ?_⟩
  · skip
    have f3 := ti_0
    exact (s_X2_product_43_L1_all hG hQ 807).1 _ _ _ I1 (by omega) (by omega) (by omega)
  · skip
    have f3 := ti_0
    exact hQ _ _ I1 (by omega)
theorem s_X2_sum_43_L1_all {g : gM} {Q : Int32 → dM → Prop} (hG : Gd g) (hQ : ∀ (r : Int32) (m' : dM), Inv g m' → (0 ≤ r.toInt ∧ r.toInt ≤ 1) → Q r m') : ∀ n : Nat, (∀ (x1 : Int32) (x2 : Int32) (m : dM), Inv g m → (1 ≤ x1.toInt ∧ x1.toInt ≤ 1) → (0 ≤ x2.toInt ∧ x2.toInt ≤ 401) → 805 - 2 * x2.toInt < (n : Int) → j_X2_sum_43_12 23 x1 x2 m Q) ∧ (∀ (x1 : Int32) (x2 : Int32) (m : dM), Inv g m → (1 ≤ x1.toInt ∧ x1.toInt ≤ 1) → (0 ≤ x2.toInt ∧ x2.toInt ≤ 400) → 804 - 2 * x2.toInt < (n : Int) → j_X2_sum_43_37 23 x1 x2 m Q) ∧ (∀ (m : dM), Inv g m → 1 < (n : Int) → j_X2_sum_43_67 23 m Q) ∧ (∀ (m : dM), Inv g m → 0 < (n : Int) → j_X2_sum_43_83 23 m Q) := by
  intro n
  induction n with
  | zero => exact ⟨fun x1 x2 m hI h1 h2 hμ => by exfalso; omega, fun x1 x2 m hI h1 h2 hμ => by exfalso; omega, fun m hI hμ => by exfalso; omega, fun m hI hμ => by exfalso; omega⟩
  | succ n ih =>
    refine ⟨?_, ?_, ?_, ?_⟩
    · intro x1 x2 m hI h1 h2 hμ
      refine v_X2_sum_43_12 ?_
      refine ⟨fun hc1 => ?_, fun hc1 => ?_⟩
      · skip
        exact ih.2.2.2 _ hI (by omega)
      · skip
        refine v_X2_kind_43 ?_
        refine ⟨fun hc2 => ?_, fun hc2 => ?_⟩
        · skip
          refine v_X2_kind_43_32 ?_
          have f3 := ti_24
          refine ⟨fun hc4 => ?_, fun hc4 => ?_⟩
          · skip
            exfalso; omega
          · skip
            refine v_X2_kind_43 ?_
            refine ⟨fun hc5 => ?_, fun hc5 => ?_⟩
            · skip
              refine v_X2_kind_43_32 ?_
              refine ⟨fun hc6 => ?_, fun hc6 => ?_⟩
              · skip
                exact ih.2.2.2 _ hI (by omega)
              · skip
                exfalso; omega
            · skip
              exfalso; omega
        · skip
          refine ⟨fun hc3 => ?_, fun hc3 => ?_⟩
          · skip
            refine v_X2_kind_43_32 ?_
            have f4 := ti_24
            refine ⟨fun hc5 => ?_, fun hc5 => ?_⟩
            · skip
              exfalso; omega
            · skip
              refine v_X2_kind_43 ?_
              refine ⟨fun hc6 => ?_, fun hc6 => ?_⟩
              · skip
                exfalso; omega
              · skip
                refine ⟨fun hc7 => ?_, fun hc7 => ?_⟩
                · skip
                  refine v_X2_kind_43_32 ?_
                  refine ⟨fun hc8 => ?_, fun hc8 => ?_⟩
                  · skip
                    exact ih.2.2.2 _ hI (by omega)
                  · skip
                    exfalso; omega
                · skip
                  exfalso; omega
          · skip
            refine ⟨by omega, ?_⟩
            refine ⟨fun hc4 => ?_, fun hc4 => ?_⟩
            · skip
              exact ih.2.1 _ _ _ hI (by omega) (by omega) (by omega)
            · skip
              refine v_X2_kind_43 ?_
              refine ⟨fun hc5 => ?_, fun hc5 => ?_⟩
              · skip
                exfalso; omega
              · skip
                refine ⟨fun hc6 => ?_, fun hc6 => ?_⟩
                · skip
                  exfalso; omega
                · skip
                  refine ⟨by omega, ?_⟩
                  refine ⟨fun hc7 => ?_, fun hc7 => ?_⟩
                  · skip
                    exact ih.2.2.2 _ hI (by omega)
                  · skip
                    exact ih.2.1 _ _ _ hI (by omega) (by omega) (by omega)
    · intro x1 x2 m hI h1 h2 hμ
      refine v_X2_sum_43_37 ?_
      refine v_X2_kind_43 ?_
      refine ⟨fun hc1 => ?_, fun hc1 => ?_⟩
      · skip
        refine v_X2_kind_43_32 ?_
        have f2 := ti_24
        refine ⟨fun hc3 => ?_, fun hc3 => ?_⟩
        · skip
          refine Wp.deep (s_X2_step_43 hG hI (fun R4 M4 I4 hr4 => ?_)) (Nat.le_of_ble_eq_true rfl)
          refine ⟨fun hc5 => ?_, fun hc5 => ?_⟩
          · skip
            exact ih.2.2.1 _ I4 (by omega)
          · skip
            refine Wp.deep (s_X2_product_43_L1 hG I4 (by omega) (fun R6 M6 I6 hr6 => ?_)) (Nat.le_of_ble_eq_true rfl)
            refine ⟨fun hc7 => ?_, fun hc7 => ?_⟩
            · skip
              have f8 := ti_1
              refine Wp.deep (s_X4_put_29 hG I6 (fun M9 I9 => ?_)) (Nat.le_of_ble_eq_true rfl)
              have f10 := dAddE (X := x2.toInt) (Y := 1) (x := x2) (y := (1 : Int32)) rfl (by decide) (by omega) (by omega)
              exact ih.1 _ _ _ I9 (by omega) (by omega) (by omega)
            · skip
              exact ih.2.2.1 _ I6 (by omega)
        · skip
          exfalso; omega
      · skip
        refine ⟨fun hc2 => ?_, fun hc2 => ?_⟩
        · skip
          refine v_X2_kind_43_32 ?_
          have f3 := ti_24
          refine ⟨fun hc4 => ?_, fun hc4 => ?_⟩
          · skip
            refine Wp.deep (s_X2_step_43 hG hI (fun R5 M5 I5 hr5 => ?_)) (Nat.le_of_ble_eq_true rfl)
            refine ⟨fun hc6 => ?_, fun hc6 => ?_⟩
            · skip
              exact ih.2.2.1 _ I5 (by omega)
            · skip
              refine Wp.deep (s_X2_product_43_L1 hG I5 (by omega) (fun R7 M7 I7 hr7 => ?_)) (Nat.le_of_ble_eq_true rfl)
              refine ⟨fun hc8 => ?_, fun hc8 => ?_⟩
              · skip
                have f9 := ti_1
                refine Wp.deep (s_X4_put_29 hG I7 (fun M10 I10 => ?_)) (Nat.le_of_ble_eq_true rfl)
                have f11 := dAddE (X := x2.toInt) (Y := 1) (x := x2) (y := (1 : Int32)) rfl (by decide) (by omega) (by omega)
                exact ih.1 _ _ _ I10 (by omega) (by omega) (by omega)
              · skip
                exact ih.2.2.1 _ I7 (by omega)
          · skip
            exfalso; omega
        · skip
          refine ⟨by omega, ?_⟩
          refine ⟨fun hc3 => ?_, fun hc3 => ?_⟩
          · skip
            refine Wp.deep (s_X2_step_43 hG hI (fun R4 M4 I4 hr4 => ?_)) (Nat.le_of_ble_eq_true rfl)
            refine ⟨fun hc5 => ?_, fun hc5 => ?_⟩
            · skip
              exact ih.2.2.1 _ I4 (by omega)
            · skip
              refine Wp.deep (s_X2_product_43_L1 hG I4 (by omega) (fun R6 M6 I6 hr6 => ?_)) (Nat.le_of_ble_eq_true rfl)
              refine ⟨fun hc7 => ?_, fun hc7 => ?_⟩
              · skip
                have f8 := ti_1
                refine Wp.deep (s_X4_put_29 hG I6 (fun M9 I9 => ?_)) (Nat.le_of_ble_eq_true rfl)
                have f10 := dAddE (X := x2.toInt) (Y := 1) (x := x2) (y := (1 : Int32)) rfl (by decide) (by omega) (by omega)
                exact ih.1 _ _ _ I9 (by omega) (by omega) (by omega)
              · skip
                exact ih.2.2.1 _ I6 (by omega)
          · skip
            refine Wp.deep (s_X2_step_43 hG hI (fun R4 M4 I4 hr4 => ?_)) (Nat.le_of_ble_eq_true rfl)
            refine ⟨fun hc5 => ?_, fun hc5 => ?_⟩
            · skip
              exact ih.2.2.1 _ I4 (by omega)
            · skip
              refine Wp.deep (s_X2_product_43_L1 hG I4 (by omega) (fun R6 M6 I6 hr6 => ?_)) (Nat.le_of_ble_eq_true rfl)
              refine ⟨fun hc7 => ?_, fun hc7 => ?_⟩
              · skip
                have f8 := ti_0
                refine Wp.deep (s_X4_put_29 hG I6 (fun M9 I9 => ?_)) (Nat.le_of_ble_eq_true rfl)
                have f10 := dAddE (X := x2.toInt) (Y := 1) (x := x2) (y := (1 : Int32)) rfl (by decide) (by omega) (by omega)
                exact ih.1 _ _ _ I9 (by omega) (by omega) (by omega)
              · skip
                exact ih.2.2.1 _ I6 (by omega)
    · intro m hI hμ
      refine v_X2_sum_43_67 ?_
      have f1 := ti_0
      exact hQ _ _ hI (by omega)
    · intro m hI hμ
      refine v_X2_sum_43_83 ?_
      have f1 := ti_1
      exact hQ _ _ hI (by omega)
theorem s_X2_sum_43_L1 {g : gM} {x1 : Int32} {m : dM} {Q : Int32 → dM → Prop} (hG : Gd g) (hI : Inv g m) (h1 : 1 ≤ x1.toInt ∧ x1.toInt ≤ 1) (hQ : ∀ (r : Int32) (m' : dM), Inv g m' → (0 ≤ r.toInt ∧ r.toInt ≤ 1) → Q r m') : c_X2_sum_43 23 x1 m Q := by
  refine v_X2_sum_43 ?_
  refine Wp.deep (s_X2_product_43_L1 hG hI (by omega) (fun R1 M1 I1 hr1 => ?_)) (Nat.le_of_ble_eq_true rfl)
  refine ⟨fun hc2 => ?_, fun hc2 => ?_⟩
  · skip
    have f3 := ti_0
    exact (s_X2_sum_43_L1_all hG hQ 807).1 _ _ _ I1 (by omega) (by omega) (by omega)
  · skip
    have f3 := ti_0
    exact hQ _ _ I1 (by omega)
theorem s_X2_unit_43_L0 {g : gM} {x1 : Int32} {m : dM} {Q : Int32 → dM → Prop} (hG : Gd g) (hI : Inv g m) (h1 : 0 ≤ x1.toInt ∧ x1.toInt ≤ 0) (hQ : ∀ (r : Int32) (m' : dM), Inv g m' → (0 ≤ r.toInt ∧ r.toInt ≤ 1) → Q r m') : c_X2_unit_43 24 x1 m Q := by
  refine v_X2_unit_43 ?_
  refine v_X2_kind_43 ?_
  refine ⟨fun hc1 => ?_, fun hc1 => ?_⟩
  · skip
    refine v_X2_kind_43_32 ?_
    have f2 := ti_24
    refine ⟨fun hc3 => ?_, fun hc3 => ?_⟩
    · skip
      refine ⟨fun hc4 => ?_, fun hc4 => ?_⟩
      · skip
        exfalso; omega
      · skip
        refine ⟨fun hc5 => ?_, fun hc5 => ?_⟩
        · skip
          refine v_X2_unit_43_67 ?_
          refine ⟨fun hc6 => ?_, fun hc6 => ?_⟩
          · skip
            exfalso; omega
          · skip
            have f7 := ti_1
            refine Wp.deep (s_X2_fail_43 hG hI (fun R8 M8 I8 hr8 => ?_)) (Nat.le_of_ble_eq_true rfl)
            refine ⟨dB01 (by omega), ?_⟩
            exact hQ _ _ I8 (by omega)
        · skip
          exfalso; omega
    · skip
      exfalso; omega
  · skip
    refine ⟨fun hc2 => ?_, fun hc2 => ?_⟩
    · skip
      refine v_X2_kind_43_32 ?_
      have f3 := ti_24
      refine ⟨fun hc4 => ?_, fun hc4 => ?_⟩
      · skip
        refine ⟨fun hc5 => ?_, fun hc5 => ?_⟩
        · skip
          exfalso; omega
        · skip
          refine ⟨fun hc6 => ?_, fun hc6 => ?_⟩
          · skip
            refine v_X2_unit_43_67 ?_
            refine ⟨fun hc7 => ?_, fun hc7 => ?_⟩
            · skip
              exfalso; omega
            · skip
              have f8 := ti_1
              refine Wp.deep (s_X2_fail_43 hG hI (fun R9 M9 I9 hr9 => ?_)) (Nat.le_of_ble_eq_true rfl)
              refine ⟨dB01 (by omega), ?_⟩
              exact hQ _ _ I9 (by omega)
          · skip
            exfalso; omega
      · skip
        exfalso; omega
    · skip
      refine ⟨by omega, ?_⟩
      refine ⟨fun hc3 => ?_, fun hc3 => ?_⟩
      · skip
        refine ⟨fun hc4 => ?_, fun hc4 => ?_⟩
        · skip
          refine v_X2_unit_43_67 ?_
          refine ⟨fun hc5 => ?_, fun hc5 => ?_⟩
          · skip
            exfalso; omega
          · skip
            have f6 := ti_1
            refine Wp.deep (s_X2_fail_43 hG hI (fun R7 M7 I7 hr7 => ?_)) (Nat.le_of_ble_eq_true rfl)
            refine ⟨dB01 (by omega), ?_⟩
            exact hQ _ _ I7 (by omega)
        · skip
          refine ⟨fun hc5 => ?_, fun hc5 => ?_⟩
          · skip
            refine v_X2_unit_43_67 ?_
            refine ⟨fun hc6 => ?_, fun hc6 => ?_⟩
            · skip
              refine ⟨fun hc7 => ?_, fun hc7 => ?_⟩
              · skip
                refine Wp.deep (s_X2_step_43 hG hI (fun R8 M8 I8 hr8 => ?_)) (Nat.le_of_ble_eq_true rfl)
                refine ⟨fun hc9 => ?_, fun hc9 => ?_⟩
                · skip
                  refine v_X2_unit_43_123 ?_
                  have f10 := ti_0
                  exact hQ _ _ I8 (by omega)
                · skip
                  have f10 := dAddE (X := x1.toInt) (Y := 1) (x := x1) (y := (1 : Int32)) rfl (by decide) (by omega) (by omega)
                  refine Wp.deep (s_X2_sum_43_L1 hG I8 (by omega) (fun R11 M11 I11 hr11 => ?_)) (Nat.le_of_ble_eq_true rfl)
                  refine ⟨fun hc12 => ?_, fun hc12 => ?_⟩
                  · skip
                    refine v_X2_unit_43_123 ?_
                    have f13 := ti_0
                    exact hQ _ _ I11 (by omega)
                  · skip
                    have f13 := ti_41
                    refine Wp.deep (s_X2_need_43 hG I11 (fun R14 M14 I14 hr14 => ?_)) (Nat.le_of_ble_eq_true rfl)
                    refine ⟨fun hc15 => ?_, fun hc15 => ?_⟩
                    · skip
                      refine v_X2_unit_43_123 ?_
                      have f16 := ti_0
                      exact hQ _ _ I14 (by omega)
                    · skip
                      have f16 := ti_1
                      exact hQ _ _ I14 (by omega)
              · skip
                exfalso; omega
            · skip
              have f7 := ti_1
              refine Wp.deep (s_X2_fail_43 hG hI (fun R8 M8 I8 hr8 => ?_)) (Nat.le_of_ble_eq_true rfl)
              refine ⟨dB01 (by omega), ?_⟩
              exact hQ _ _ I8 (by omega)
          · skip
            have f6 := dAddE (X := 4) (Y := (m.1 39 (m.1 43 2).toNatClampNeg).toInt) (x := (4 : Int32)) (y := (m.1 39 (m.1 43 2).toNatClampNeg)) (by decide) rfl (by omega) (by omega)
            have f7 := dSubE (X := ((4 : Int32) + (m.1 39 (m.1 43 2).toNatClampNeg)).toInt) (Y := 13) (x := ((4 : Int32) + (m.1 39 (m.1 43 2).toNatClampNeg))) (y := (13 : Int32)) rfl (by decide) (by omega) (by omega)
            refine Wp.deep (s_X4_put_29 hG hI (fun M8 I8 => ?_)) (Nat.le_of_ble_eq_true rfl)
            refine Wp.deep (s_X2_step_43 hG I8 (fun R9 M9 I9 hr9 => ?_)) (Nat.le_of_ble_eq_true rfl)
            refine ⟨dB01 (by omega), ?_⟩
            exact hQ _ _ I9 (by omega)
      · skip
        refine Wp.deep (s_X8_numberAt_38 hG hI (fun R4 => ?_)) (Nat.le_of_ble_eq_true rfl)
        refine Wp.deep (s_X4_put_29 hG hI (fun M5 I5 => ?_)) (Nat.le_of_ble_eq_true rfl)
        refine Wp.deep (s_X2_step_43 hG I5 (fun R6 M6 I6 hr6 => ?_)) (Nat.le_of_ble_eq_true rfl)
        refine ⟨dB01 (by omega), ?_⟩
        exact hQ _ _ I6 (by omega)
theorem s_X2_product_43_L0_all {g : gM} {Q : Int32 → dM → Prop} (hG : Gd g) (hQ : ∀ (r : Int32) (m' : dM), Inv g m' → (0 ≤ r.toInt ∧ r.toInt ≤ 1) → Q r m') : ∀ n : Nat, (∀ (x1 : Int32) (x2 : Int32) (m : dM), Inv g m → (0 ≤ x1.toInt ∧ x1.toInt ≤ 0) → (0 ≤ x2.toInt ∧ x2.toInt ≤ 401) → 805 - 2 * x2.toInt < (n : Int) → j_X2_product_43_12 25 x1 x2 m Q) ∧ (∀ (x1 : Int32) (x2 : Int32) (m : dM), Inv g m → (0 ≤ x1.toInt ∧ x1.toInt ≤ 0) → (0 ≤ x2.toInt ∧ x2.toInt ≤ 400) → 804 - 2 * x2.toInt < (n : Int) → j_X2_product_43_37 25 x1 x2 m Q) ∧ (∀ (m : dM), Inv g m → 1 < (n : Int) → j_X2_product_43_67 25 m Q) ∧ (∀ (m : dM), Inv g m → 0 < (n : Int) → j_X2_product_43_83 25 m Q) := by
  intro n
  induction n with
  | zero => exact ⟨fun x1 x2 m hI h1 h2 hμ => by exfalso; omega, fun x1 x2 m hI h1 h2 hμ => by exfalso; omega, fun m hI hμ => by exfalso; omega, fun m hI hμ => by exfalso; omega⟩
  | succ n ih =>
    refine ⟨?_, ?_, ?_, ?_⟩
    · intro x1 x2 m hI h1 h2 hμ
      refine v_X2_product_43_12 ?_
      refine ⟨fun hc1 => ?_, fun hc1 => ?_⟩
      · skip
        exact ih.2.2.2 _ hI (by omega)
      · skip
        refine v_X2_kind_43 ?_
        refine ⟨fun hc2 => ?_, fun hc2 => ?_⟩
        · skip
          refine v_X2_kind_43_32 ?_
          have f3 := ti_24
          refine ⟨fun hc4 => ?_, fun hc4 => ?_⟩
          · skip
            exfalso; omega
          · skip
            refine v_X2_kind_43 ?_
            refine ⟨fun hc5 => ?_, fun hc5 => ?_⟩
            · skip
              refine v_X2_kind_43_32 ?_
              refine ⟨fun hc6 => ?_, fun hc6 => ?_⟩
              · skip
                exact ih.2.2.2 _ hI (by omega)
              · skip
                exfalso; omega
            · skip
              exfalso; omega
        · skip
          refine ⟨fun hc3 => ?_, fun hc3 => ?_⟩
          · skip
            refine v_X2_kind_43_32 ?_
            have f4 := ti_24
            refine ⟨fun hc5 => ?_, fun hc5 => ?_⟩
            · skip
              exfalso; omega
            · skip
              refine v_X2_kind_43 ?_
              refine ⟨fun hc6 => ?_, fun hc6 => ?_⟩
              · skip
                exfalso; omega
              · skip
                refine ⟨fun hc7 => ?_, fun hc7 => ?_⟩
                · skip
                  refine v_X2_kind_43_32 ?_
                  refine ⟨fun hc8 => ?_, fun hc8 => ?_⟩
                  · skip
                    exact ih.2.2.2 _ hI (by omega)
                  · skip
                    exfalso; omega
                · skip
                  exfalso; omega
          · skip
            refine ⟨by omega, ?_⟩
            refine ⟨fun hc4 => ?_, fun hc4 => ?_⟩
            · skip
              exact ih.2.1 _ _ _ hI (by omega) (by omega) (by omega)
            · skip
              refine v_X2_kind_43 ?_
              refine ⟨fun hc5 => ?_, fun hc5 => ?_⟩
              · skip
                exfalso; omega
              · skip
                refine ⟨fun hc6 => ?_, fun hc6 => ?_⟩
                · skip
                  exfalso; omega
                · skip
                  refine ⟨by omega, ?_⟩
                  refine ⟨fun hc7 => ?_, fun hc7 => ?_⟩
                  · skip
                    exact ih.2.2.2 _ hI (by omega)
                  · skip
                    exact ih.2.1 _ _ _ hI (by omega) (by omega) (by omega)
    · intro x1 x2 m hI h1 h2 hμ
      refine v_X2_product_43_37 ?_
      refine v_X2_kind_43 ?_
      refine ⟨fun hc1 => ?_, fun hc1 => ?_⟩
      · skip
        refine v_X2_kind_43_32 ?_
        have f2 := ti_24
        refine ⟨fun hc3 => ?_, fun hc3 => ?_⟩
        · skip
          refine Wp.deep (s_X2_step_43 hG hI (fun R4 M4 I4 hr4 => ?_)) (Nat.le_of_ble_eq_true rfl)
          refine ⟨fun hc5 => ?_, fun hc5 => ?_⟩
          · skip
            exact ih.2.2.1 _ I4 (by omega)
          · skip
            refine Wp.deep (s_X2_unit_43_L0 hG I4 (by omega) (fun R6 M6 I6 hr6 => ?_)) (Nat.le_of_ble_eq_true rfl)
            refine ⟨fun hc7 => ?_, fun hc7 => ?_⟩
            · skip
              have f8 := ti_3
              refine Wp.deep (s_X4_put_29 hG I6 (fun M9 I9 => ?_)) (Nat.le_of_ble_eq_true rfl)
              have f10 := dAddE (X := x2.toInt) (Y := 1) (x := x2) (y := (1 : Int32)) rfl (by decide) (by omega) (by omega)
              exact ih.1 _ _ _ I9 (by omega) (by omega) (by omega)
            · skip
              exact ih.2.2.1 _ I6 (by omega)
        · skip
          exfalso; omega
      · skip
        refine ⟨fun hc2 => ?_, fun hc2 => ?_⟩
        · skip
          refine v_X2_kind_43_32 ?_
          have f3 := ti_24
          refine ⟨fun hc4 => ?_, fun hc4 => ?_⟩
          · skip
            refine Wp.deep (s_X2_step_43 hG hI (fun R5 M5 I5 hr5 => ?_)) (Nat.le_of_ble_eq_true rfl)
            refine ⟨fun hc6 => ?_, fun hc6 => ?_⟩
            · skip
              exact ih.2.2.1 _ I5 (by omega)
            · skip
              refine Wp.deep (s_X2_unit_43_L0 hG I5 (by omega) (fun R7 M7 I7 hr7 => ?_)) (Nat.le_of_ble_eq_true rfl)
              refine ⟨fun hc8 => ?_, fun hc8 => ?_⟩
              · skip
                have f9 := ti_3
                refine Wp.deep (s_X4_put_29 hG I7 (fun M10 I10 => ?_)) (Nat.le_of_ble_eq_true rfl)
                have f11 := dAddE (X := x2.toInt) (Y := 1) (x := x2) (y := (1 : Int32)) rfl (by decide) (by omega) (by omega)
                exact ih.1 _ _ _ I10 (by omega) (by omega) (by omega)
              · skip
                exact ih.2.2.1 _ I7 (by omega)
          · skip
            exfalso; omega
        · skip
          refine ⟨by omega, ?_⟩
          refine ⟨fun hc3 => ?_, fun hc3 => ?_⟩
          · skip
            refine Wp.deep (s_X2_step_43 hG hI (fun R4 M4 I4 hr4 => ?_)) (Nat.le_of_ble_eq_true rfl)
            refine ⟨fun hc5 => ?_, fun hc5 => ?_⟩
            · skip
              exact ih.2.2.1 _ I4 (by omega)
            · skip
              refine Wp.deep (s_X2_unit_43_L0 hG I4 (by omega) (fun R6 M6 I6 hr6 => ?_)) (Nat.le_of_ble_eq_true rfl)
              refine ⟨fun hc7 => ?_, fun hc7 => ?_⟩
              · skip
                have f8 := ti_3
                refine Wp.deep (s_X4_put_29 hG I6 (fun M9 I9 => ?_)) (Nat.le_of_ble_eq_true rfl)
                have f10 := dAddE (X := x2.toInt) (Y := 1) (x := x2) (y := (1 : Int32)) rfl (by decide) (by omega) (by omega)
                exact ih.1 _ _ _ I9 (by omega) (by omega) (by omega)
              · skip
                exact ih.2.2.1 _ I6 (by omega)
          · skip
            refine Wp.deep (s_X2_step_43 hG hI (fun R4 M4 I4 hr4 => ?_)) (Nat.le_of_ble_eq_true rfl)
            refine ⟨fun hc5 => ?_, fun hc5 => ?_⟩
            · skip
              exact ih.2.2.1 _ I4 (by omega)
            · skip
              refine Wp.deep (s_X2_unit_43_L0 hG I4 (by omega) (fun R6 M6 I6 hr6 => ?_)) (Nat.le_of_ble_eq_true rfl)
              refine ⟨fun hc7 => ?_, fun hc7 => ?_⟩
              · skip
                have f8 := ti_2
                refine Wp.deep (s_X4_put_29 hG I6 (fun M9 I9 => ?_)) (Nat.le_of_ble_eq_true rfl)
                have f10 := dAddE (X := x2.toInt) (Y := 1) (x := x2) (y := (1 : Int32)) rfl (by decide) (by omega) (by omega)
                exact ih.1 _ _ _ I9 (by omega) (by omega) (by omega)
              · skip
                exact ih.2.2.1 _ I6 (by omega)
    · intro m hI hμ
      refine v_X2_product_43_67 ?_
      have f1 := ti_0
      exact hQ _ _ hI (by omega)
    · intro m hI hμ
      refine v_X2_product_43_83 ?_
      have f1 := ti_1
      exact hQ _ _ hI (by omega)
theorem s_X2_product_43_L0 {g : gM} {x1 : Int32} {m : dM} {Q : Int32 → dM → Prop} (hG : Gd g) (hI : Inv g m) (h1 : 0 ≤ x1.toInt ∧ x1.toInt ≤ 0) (hQ : ∀ (r : Int32) (m' : dM), Inv g m' → (0 ≤ r.toInt ∧ r.toInt ≤ 1) → Q r m') : c_X2_product_43 25 x1 m Q := by
  refine v_X2_product_43 ?_
  refine Wp.deep (s_X2_unit_43_L0 hG hI (by omega) (fun R1 M1 I1 hr1 => ?_)) (Nat.le_of_ble_eq_true rfl)
  refine ⟨fun hc2 => ?_, fun hc2 => ?_⟩
  · skip
    have f3 := ti_0
    exact (s_X2_product_43_L0_all hG hQ 807).1 _ _ _ I1 (by omega) (by omega) (by omega)
  · skip
    have f3 := ti_0
    exact hQ _ _ I1 (by omega)
theorem s_X2_sum_43_L0_all {g : gM} {Q : Int32 → dM → Prop} (hG : Gd g) (hQ : ∀ (r : Int32) (m' : dM), Inv g m' → (0 ≤ r.toInt ∧ r.toInt ≤ 1) → Q r m') : ∀ n : Nat, (∀ (x1 : Int32) (x2 : Int32) (m : dM), Inv g m → (0 ≤ x1.toInt ∧ x1.toInt ≤ 0) → (0 ≤ x2.toInt ∧ x2.toInt ≤ 401) → 805 - 2 * x2.toInt < (n : Int) → j_X2_sum_43_12 26 x1 x2 m Q) ∧ (∀ (x1 : Int32) (x2 : Int32) (m : dM), Inv g m → (0 ≤ x1.toInt ∧ x1.toInt ≤ 0) → (0 ≤ x2.toInt ∧ x2.toInt ≤ 400) → 804 - 2 * x2.toInt < (n : Int) → j_X2_sum_43_37 26 x1 x2 m Q) ∧ (∀ (m : dM), Inv g m → 1 < (n : Int) → j_X2_sum_43_67 26 m Q) ∧ (∀ (m : dM), Inv g m → 0 < (n : Int) → j_X2_sum_43_83 26 m Q) := by
  intro n
  induction n with
  | zero => exact ⟨fun x1 x2 m hI h1 h2 hμ => by exfalso; omega, fun x1 x2 m hI h1 h2 hμ => by exfalso; omega, fun m hI hμ => by exfalso; omega, fun m hI hμ => by exfalso; omega⟩
  | succ n ih =>
    refine ⟨?_, ?_, ?_, ?_⟩
    · intro x1 x2 m hI h1 h2 hμ
      refine v_X2_sum_43_12 ?_
      refine ⟨fun hc1 => ?_, fun hc1 => ?_⟩
      · skip
        exact ih.2.2.2 _ hI (by omega)
      · skip
        refine v_X2_kind_43 ?_
        refine ⟨fun hc2 => ?_, fun hc2 => ?_⟩
        · skip
          refine v_X2_kind_43_32 ?_
          have f3 := ti_24
          refine ⟨fun hc4 => ?_, fun hc4 => ?_⟩
          · skip
            exfalso; omega
          · skip
            refine v_X2_kind_43 ?_
            refine ⟨fun hc5 => ?_, fun hc5 => ?_⟩
            · skip
              refine v_X2_kind_43_32 ?_
              refine ⟨fun hc6 => ?_, fun hc6 => ?_⟩
              · skip
                exact ih.2.2.2 _ hI (by omega)
              · skip
                exfalso; omega
            · skip
              exfalso; omega
        · skip
          refine ⟨fun hc3 => ?_, fun hc3 => ?_⟩
          · skip
            refine v_X2_kind_43_32 ?_
            have f4 := ti_24
            refine ⟨fun hc5 => ?_, fun hc5 => ?_⟩
            · skip
              exfalso; omega
            · skip
              refine v_X2_kind_43 ?_
              refine ⟨fun hc6 => ?_, fun hc6 => ?_⟩
              · skip
                exfalso; omega
              · skip
                refine ⟨fun hc7 => ?_, fun hc7 => ?_⟩
                · skip
                  refine v_X2_kind_43_32 ?_
                  refine ⟨fun hc8 => ?_, fun hc8 => ?_⟩
                  · skip
                    exact ih.2.2.2 _ hI (by omega)
                  · skip
                    exfalso; omega
                · skip
                  exfalso; omega
          · skip
            refine ⟨by omega, ?_⟩
            refine ⟨fun hc4 => ?_, fun hc4 => ?_⟩
            · skip
              exact ih.2.1 _ _ _ hI (by omega) (by omega) (by omega)
            · skip
              refine v_X2_kind_43 ?_
              refine ⟨fun hc5 => ?_, fun hc5 => ?_⟩
              · skip
                exfalso; omega
              · skip
                refine ⟨fun hc6 => ?_, fun hc6 => ?_⟩
                · skip
                  exfalso; omega
                · skip
                  refine ⟨by omega, ?_⟩
                  refine ⟨fun hc7 => ?_, fun hc7 => ?_⟩
                  · skip
                    exact ih.2.2.2 _ hI (by omega)
                  · skip
                    exact ih.2.1 _ _ _ hI (by omega) (by omega) (by omega)
    · intro x1 x2 m hI h1 h2 hμ
      refine v_X2_sum_43_37 ?_
      refine v_X2_kind_43 ?_
      refine ⟨fun hc1 => ?_, fun hc1 => ?_⟩
      · skip
        refine v_X2_kind_43_32 ?_
        have f2 := ti_24
        refine ⟨fun hc3 => ?_, fun hc3 => ?_⟩
        · skip
          refine Wp.deep (s_X2_step_43 hG hI (fun R4 M4 I4 hr4 => ?_)) (Nat.le_of_ble_eq_true rfl)
          refine ⟨fun hc5 => ?_, fun hc5 => ?_⟩
          · skip
            exact ih.2.2.1 _ I4 (by omega)
          · skip
            refine Wp.deep (s_X2_product_43_L0 hG I4 (by omega) (fun R6 M6 I6 hr6 => ?_)) (Nat.le_of_ble_eq_true rfl)
            refine ⟨fun hc7 => ?_, fun hc7 => ?_⟩
            · skip
              have f8 := ti_1
              refine Wp.deep (s_X4_put_29 hG I6 (fun M9 I9 => ?_)) (Nat.le_of_ble_eq_true rfl)
              have f10 := dAddE (X := x2.toInt) (Y := 1) (x := x2) (y := (1 : Int32)) rfl (by decide) (by omega) (by omega)
              exact ih.1 _ _ _ I9 (by omega) (by omega) (by omega)
            · skip
              exact ih.2.2.1 _ I6 (by omega)
        · skip
          exfalso; omega
      · skip
        refine ⟨fun hc2 => ?_, fun hc2 => ?_⟩
        · skip
          refine v_X2_kind_43_32 ?_
          have f3 := ti_24
          refine ⟨fun hc4 => ?_, fun hc4 => ?_⟩
          · skip
            refine Wp.deep (s_X2_step_43 hG hI (fun R5 M5 I5 hr5 => ?_)) (Nat.le_of_ble_eq_true rfl)
            refine ⟨fun hc6 => ?_, fun hc6 => ?_⟩
            · skip
              exact ih.2.2.1 _ I5 (by omega)
            · skip
              refine Wp.deep (s_X2_product_43_L0 hG I5 (by omega) (fun R7 M7 I7 hr7 => ?_)) (Nat.le_of_ble_eq_true rfl)
              refine ⟨fun hc8 => ?_, fun hc8 => ?_⟩
              · skip
                have f9 := ti_1
                refine Wp.deep (s_X4_put_29 hG I7 (fun M10 I10 => ?_)) (Nat.le_of_ble_eq_true rfl)
                have f11 := dAddE (X := x2.toInt) (Y := 1) (x := x2) (y := (1 : Int32)) rfl (by decide) (by omega) (by omega)
                exact ih.1 _ _ _ I10 (by omega) (by omega) (by omega)
              · skip
                exact ih.2.2.1 _ I7 (by omega)
          · skip
            exfalso; omega
        · skip
          refine ⟨by omega, ?_⟩
          refine ⟨fun hc3 => ?_, fun hc3 => ?_⟩
          · skip
            refine Wp.deep (s_X2_step_43 hG hI (fun R4 M4 I4 hr4 => ?_)) (Nat.le_of_ble_eq_true rfl)
            refine ⟨fun hc5 => ?_, fun hc5 => ?_⟩
            · skip
              exact ih.2.2.1 _ I4 (by omega)
            · skip
              refine Wp.deep (s_X2_product_43_L0 hG I4 (by omega) (fun R6 M6 I6 hr6 => ?_)) (Nat.le_of_ble_eq_true rfl)
              refine ⟨fun hc7 => ?_, fun hc7 => ?_⟩
              · skip
                have f8 := ti_1
                refine Wp.deep (s_X4_put_29 hG I6 (fun M9 I9 => ?_)) (Nat.le_of_ble_eq_true rfl)
                have f10 := dAddE (X := x2.toInt) (Y := 1) (x := x2) (y := (1 : Int32)) rfl (by decide) (by omega) (by omega)
                exact ih.1 _ _ _ I9 (by omega) (by omega) (by omega)
              · skip
                exact ih.2.2.1 _ I6 (by omega)
          · skip
            refine Wp.deep (s_X2_step_43 hG hI (fun R4 M4 I4 hr4 => ?_)) (Nat.le_of_ble_eq_true rfl)
            refine ⟨fun hc5 => ?_, fun hc5 => ?_⟩
            · skip
              exact ih.2.2.1 _ I4 (by omega)
            · skip
              refine Wp.deep (s_X2_product_43_L0 hG I4 (by omega) (fun R6 M6 I6 hr6 => ?_)) (Nat.le_of_ble_eq_true rfl)
              refine ⟨fun hc7 => ?_, fun hc7 => ?_⟩
              · skip
                have f8 := ti_0
                refine Wp.deep (s_X4_put_29 hG I6 (fun M9 I9 => ?_)) (Nat.le_of_ble_eq_true rfl)
                have f10 := dAddE (X := x2.toInt) (Y := 1) (x := x2) (y := (1 : Int32)) rfl (by decide) (by omega) (by omega)
                exact ih.1 _ _ _ I9 (by omega) (by omega) (by omega)
              · skip
                exact ih.2.2.1 _ I6 (by omega)
    · intro m hI hμ
      refine v_X2_sum_43_67 ?_
      have f1 := ti_0
      exact hQ _ _ hI (by omega)
    · intro m hI hμ
      refine v_X2_sum_43_83 ?_
      have f1 := ti_1
      exact hQ _ _ hI (by omega)
theorem s_X2_sum_43_L0 {g : gM} {x1 : Int32} {m : dM} {Q : Int32 → dM → Prop} (hG : Gd g) (hI : Inv g m) (h1 : 0 ≤ x1.toInt ∧ x1.toInt ≤ 0) (hQ : ∀ (r : Int32) (m' : dM), Inv g m' → (0 ≤ r.toInt ∧ r.toInt ≤ 1) → Q r m') : c_X2_sum_43 26 x1 m Q := by
  refine v_X2_sum_43 ?_
  refine Wp.deep (s_X2_product_43_L0 hG hI (by omega) (fun R1 M1 I1 hr1 => ?_)) (Nat.le_of_ble_eq_true rfl)
  refine ⟨fun hc2 => ?_, fun hc2 => ?_⟩
  · skip
    have f3 := ti_0
    exact (s_X2_sum_43_L0_all hG hQ 807).1 _ _ _ I1 (by omega) (by omega) (by omega)
  · skip
    have f3 := ti_0
    exact hQ _ _ I1 (by omega)
end
section
theorem s_X1_cutBy_2 {g : gM} {x1 : Int32} {x2 : Int32} {x3 : Int32} {x4 : Int32} {m : dM} {Q : Int32 → dM → Prop} (hG : Gd g) (hI : Inv g m) (h1 : 0 ≤ x1.toInt ∧ x1.toInt ≤ 6) (h3 : 0 ≤ x3.toInt ∧ x3.toInt ≤ 11) (h4 : 0 ≤ x4.toInt ∧ x4.toInt ≤ 3) (hQ : ∀ r : Int32, Q r m) : c_X1_cutBy_2 20 x1 x2 x3 x4 m Q := by
  have hc : x4.toInt = 0 ∨ x4.toInt = 1 ∨ x4.toInt = 2 ∨ x4.toInt = 3 := by omega
  rcases hc with hc | hc | hc | hc
  · exact Wp.deep (s_X1_cutBy_2_L0 hG hI h1 h3 (by omega) hQ) (Nat.le_of_ble_eq_true rfl)
  · exact Wp.deep (s_X1_cutBy_2_L1 hG hI h1 h3 (by omega) hQ) (Nat.le_of_ble_eq_true rfl)
  · exact Wp.deep (s_X1_cutBy_2_L2 hG hI h1 h3 (by omega) hQ) (Nat.le_of_ble_eq_true rfl)
  · exact Wp.deep (s_X1_cutBy_2_L3 hG hI h1 h3 (by omega) hQ) (Nat.le_of_ble_eq_true rfl)
end
section
/-! THE REFERENCE: the ways of the flats (by hand) -/
def wN (m : dM) : Int := (m.1 82 (m.1 70 18).toNatClampNeg).toInt
def w1 (m : dM) (w : Int32) : Int32 := m.1 83 ((10 : Int32) * m.1 70 18 + w).toNatClampNeg
def w2 (m : dM) (w : Int32) : Int32 := m.1 84 ((10 : Int32) * m.1 70 18 + w).toNatClampNeg
def wO (m : dM) (w f : Int32) : Int32 := if (w1 m w).toInt = f.toInt then w2 m w else if (w2 m w).toInt = f.toInt then w1 m w else -1
def wH (m : dM) (w : Int32) : Prop := (m.1 108 ((10 : Int32) + w).toNatClampNeg).toInt = 0
def wS (m : dM) (f : Int32) : Int := (m.1 109 f.toNatClampNeg).toInt
def wG (m : dM) (f w : Int32) : Prop := wH m w ∧ 0 ≤ (wO m w f).toInt ∧ wS m (wO m w f) = wS m f - 1
def Pr (m : dM) (f : Int32) : Prop := ∃ w : Int32, (0 ≤ w.toInt ∧ w.toInt < wN m) ∧ wG m f w
def Bf (m : dM) : Prop := ∀ f : Int32, 0 ≤ f.toInt → f.toInt ≤ 6 → (wS m f = 99 ∨ wS m f = 0 ∨ (1 ≤ wS m f ∧ wS m f ≤ 6 ∧ Pr m f))
section BFS
variable {g : gM} {m : dM}
theorem b_ctx (hG : Gd g) (hI : Inv g m) : (0 ≤ (m.1 70 18).toInt ∧ (m.1 70 18).toInt ≤ 1) ∧ (0 ≤ wN m ∧ wN m ≤ 10) :=
  ⟨Inv.s hG hI (k := 70) (j := 18) rfl rfl, Inv.s hG hI (k := 82) (j := (m.1 70 18).toNatClampNeg) rfl rfl⟩
theorem b_ends {w : Int32} (hG : Gd g) (hI : Inv g m) (h1 : 0 ≤ w.toInt) (h2 : w.toInt < wN m) : (0 ≤ (w1 m w).toInt ∧ (w1 m w).toInt ≤ 6) ∧ (0 ≤ (w2 m w).toInt ∧ (w2 m w).toInt ≤ 6) :=
  ⟨Inv.one hG hI h1 h2, Inv.two hG hI h1 h2⟩
theorem b_wO6 {w f : Int32} (hG : Gd g) (hI : Inv g m) (h1 : 0 ≤ w.toInt) (h2 : w.toInt < wN m) : (wO m w f).toInt ≤ 6 := by
  have b := b_ends hG hI h1 h2
  unfold wO
  split
  · omega
  · split
    · omega
    · have := ti_m1; omega
theorem b_isWhole {x1 : Int32} {Q : Int32 → dM → Prop} (hG : Gd g) (hI : Inv g m) (h1 : 0 ≤ x1.toInt) (h2 : x1.toInt < wN m) (hq1 : wH m x1 → Q 1 m) (hq0 : ¬ wH m x1 → Q 0 m) : c_X12_isWhole_70 3 x1 m Q := by
  have c := b_ctx hG hI
  have e0 := ti_0
  have e1 := ti_1
  have c2 : (m.1 82 (m.1 70 18).toNatClampNeg).toInt = wN m := rfl
  have f := dSubE (X := wN m) (Y := 1) (x := m.1 82 (m.1 70 18).toNatClampNeg) (y := (1 : Int32)) rfl (by decide) (by omega) (by omega)
  have f2 := dAddE (X := 10) (Y := x1.toInt) (x := (10 : Int32)) (y := x1) (by decide) rfl (by omega) (by omega)
  refine v_X12_isWhole_70 ?_
  refine v_X12_isWire_70 ⟨by omega, ?_⟩
  refine v_X12_in ?_
  refine ⟨fun h => by exfalso; omega, fun _ => ⟨fun h => by exfalso; omega, fun _ => ⟨by decide, fun h => by exfalso; omega, fun _ => ⟨by omega, fun h => ?_, fun h => hq1 h⟩⟩⟩⟩
  exact v_X12_isWhole_70_24 (hq0 h)
theorem b_otherEnd {w f : Int32} {Q : Int32 → dM → Prop} (hG : Gd g) (hI : Inv g m) (h1 : 0 ≤ w.toInt) (h2 : w.toInt < wN m) (hQ : Q (wO m w f) m) : c_X12_otherEnd_70 1 w f m Q := by
  have c := b_ctx hG hI
  have fm := dMulE (X := 10) (Y := (m.1 70 18).toInt) (x := (10 : Int32)) (y := m.1 70 18) (by decide) rfl (by omega) (by omega)
  have fa := dAddE (X := 10 * (m.1 70 18).toInt) (Y := w.toInt) (x := (10 : Int32) * m.1 70 18) (y := w) fm rfl (by omega) (by omega)
  refine v_X12_otherEnd_70 ⟨by omega, fun ha => ⟨by omega, fun hb => ?_, fun hb => ⟨by omega, ?_⟩⟩, fun ha => ⟨by omega, ?_⟩⟩
  · have e : wO m w f = -1 := by
      unfold wO
      rw [if_neg (show ¬ (w1 m w).toInt = f.toInt from ha), if_neg (show ¬ (w2 m w).toInt = f.toInt from hb)]
    rw [e] at hQ
    exact hQ
  · have e : wO m w f = w1 m w := by
      unfold wO
      rw [if_neg (show ¬ (w1 m w).toInt = f.toInt from ha), if_pos (show (w2 m w).toInt = f.toInt from hb)]
    rw [e] at hQ
    exact hQ
  · have e : wO m w f = w2 m w := by
      unfold wO
      rw [if_pos (show (w1 m w).toInt = f.toInt from ha)]
    rw [e] at hQ
    exact hQ
theorem b_wireFrom_2 {f : Int32} {Q : Int32 → dM → Prop} (hG : Gd g) (hI : Inv g m) (hf : 0 ≤ f.toInt ∧ f.toInt ≤ 6) (hs : 0 ≤ wS m f ∧ wS m f ≤ 99) (hQ : ∀ w : Int32, 0 ≤ w.toInt → w.toInt < wN m → wG m f w → Q w m) : ∀ (n : Nat) (x2 : Int32), 0 ≤ x2.toInt → 10 - x2.toInt < n → (∃ w : Int32, (x2.toInt ≤ w.toInt ∧ w.toInt < wN m) ∧ wG m f w) → j_X12_wireFrom_70_2 4 f x2 m Q := by
  have c := b_ctx hG hI
  intro n
  induction n with
  | zero =>
    intro x2 h1 hn hex
    obtain ⟨w, hw, -⟩ := hex
    exfalso; omega
  | succ n ih =>
    intro x2 h1 hn hex
    refine v_X12_wireFrom_70_2 ⟨by omega, fun hc => ?_, fun hc => ?_⟩
    · obtain ⟨w, hw, -⟩ := hex
      have hc : wN m ≤ x2.toInt := hc
      exfalso; omega
    · have hc : x2.toInt < wN m := hc
      have nx : ¬ wG m f x2 → j_X12_wireFrom_70_56 4 f x2 m Q := fun hno => by
        refine v_X12_wireFrom_70_56 ?_
        have fa := dAddE (X := x2.toInt) (Y := 1) (x := x2) (y := (1 : Int32)) rfl (by decide) (by omega) (by omega)
        obtain ⟨w, hw, hg⟩ := hex
        have hne : w.toInt ≠ x2.toInt := fun e => hno (Int32.toInt_inj.mp e ▸ hg)
        exact ih _ (by omega) (by omega) ⟨w, ⟨by omega, hw.2⟩, hg⟩
      refine Wp.deep (b_isWhole hG hI h1 hc (fun hw => ⟨fun _ => ?_, fun h => absurd h (by decide)⟩) (fun hw => ⟨fun h => absurd rfl h, fun _ => nx (fun q => hw q.1)⟩)) (Nat.le_of_ble_eq_true rfl)
      refine Wp.deep (b_otherEnd hG hI h1 hc ?_) (Nat.le_of_ble_eq_true rfl)
      have b6 := b_wO6 (f := f) hG hI h1 hc
      refine ⟨fun h => nx (fun q => by have := q.2.1; omega), fun h => ⟨by omega, ⟨by omega, ?_⟩⟩⟩
      have es : (m.1 109 f.toNatClampNeg).toInt = wS m f := rfl
      have fs := dSubE (X := wS m f) (Y := 1) (x := m.1 109 f.toNatClampNeg) (y := (1 : Int32)) rfl (by decide) (by omega) (by omega)
      refine ⟨fun h3 => nx (fun q => h3 (by rw [fs]; exact q.2.2)), fun h3 => hQ x2 h1 hc ⟨hw, h, by rw [fs] at h3; exact h3⟩⟩
theorem b_wireFrom {f : Int32} {Q : Int32 → dM → Prop} (hG : Gd g) (hI : Inv g m) (hf : 0 ≤ f.toInt ∧ f.toInt ≤ 6) (hs : 0 ≤ wS m f ∧ wS m f ≤ 99) (hP : Pr m f) (hQ : ∀ w : Int32, 0 ≤ w.toInt → w.toInt < wN m → wG m f w → Q w m) : c_X12_wireFrom_70 4 f m Q := by
  refine v_X12_wireFrom_70 ?_
  obtain ⟨w, hw, hg⟩ := hP
  have e0 := ti_0
  exact b_wireFrom_2 hG hI hf hs hQ 11 _ (by decide) (by decide) ⟨w, ⟨by omega, hw.2⟩, hg⟩
theorem Bf.st (hB : Bf m) {f : Int32} (h1 : 0 ≤ f.toInt) (h2 : f.toInt ≤ 6) : 0 ≤ wS m f ∧ wS m f ≤ 99 := by
  rcases hB f h1 h2 with h | h | h <;> omega
/-- phase 3: the ways as bits -/
theorem b_ph3 {Q : dM → Prop} (hG : Gd g) (hQ : ∀ m', Inv g m' → Bf m' → Q m') : ∀ n : Nat,
    (∀ (x1 : Int32) (m : dM), Inv g m → Bf m → 1 ≤ x1.toInt ∧ x1.toInt ≤ 7 → (7 - x1.toInt) * 20 + 19 < (n : Int) → j_X12_fillsWays_70_191 6 x1 m Q) ∧
    (∀ (x1 x2 : Int32) (m : dM), Inv g m → Bf m → 1 ≤ x1.toInt ∧ x1.toInt ≤ 6 → 0 ≤ x2.toInt ∧ x2.toInt ≤ 7 → (7 - x1.toInt) * 20 + 2 * (7 - x2.toInt) + 1 < (n : Int) → j_X12_fillsWays_70_199 6 x1 x2 m Q) ∧
    (∀ (x1 x2 : Int32) (m : dM), Inv g m → Bf m → 1 ≤ x1.toInt ∧ x1.toInt ≤ 6 → 0 ≤ x2.toInt ∧ x2.toInt ≤ 6 → (7 - x1.toInt) * 20 + 2 * (7 - x2.toInt) < (n : Int) → j_X12_fillsWays_70_245 6 x1 x2 m Q) := by
  intro n
  induction n with
  | zero => exact ⟨fun x1 m hI hB h1 hμ => by exfalso; omega, fun x1 x2 m hI hB h1 h2 hμ => by exfalso; omega, fun x1 x2 m hI hB h1 h2 hμ => by exfalso; omega⟩
  | succ n ih =>
    have e0 := ti_0
    refine ⟨fun x1 m hI hB h1 hμ => ?_, fun x1 x2 m hI hB h1 h2 hμ => ?_, fun x1 x2 m hI hB h1 h2 hμ => ?_⟩
    · refine v_X12_fillsWays_70_191 ⟨fun _ => hQ _ hI hB, fun hc => ?_⟩
      exact ih.2.1 _ _ _ hI hB (by omega) (by omega) (by omega)
    · have f1 := dAddE (X := x1.toInt) (Y := 1) (x := x1) (y := (1 : Int32)) rfl (by decide) (by omega) (by omega)
      refine v_X12_fillsWays_70_199 ⟨fun _ => ih.1 _ _ hI hB (by omega) (by omega), fun hc => ⟨by omega, fun hs => ?_, fun _ => ih.2.2 _ _ _ hI hB h1 (by omega) (by omega)⟩⟩
      have hs : wS m x2 = x1.toInt := hs
      have hst := hB.st h2.1 (by omega)
      have hP : Pr m x2 := by
        rcases hB x2 h2.1 (by omega) with h | h | h
        · exfalso; omega
        · exfalso; omega
        · exact h.2.2
      refine Wp.deep (b_wireFrom hG hI (by omega) hst hP (fun w hw1 hw2 hg => ?_)) (Nat.le_of_ble_eq_true rfl)
      have b6 := b_wO6 (f := x2) hG hI hw1 hw2
      have b0 := hg.2.1
      refine Wp.deep (b_otherEnd hG hI hw1 hw2 ⟨by omega, ⟨by omega, ?_⟩⟩) (Nat.le_of_ble_eq_true rfl)
      exact ih.2.2 _ _ _ (Inv.setA hI rfl) (show Bf m from hB) h1 (by omega) (by omega)
    · have f2 := dAddE (X := x2.toInt) (Y := 1) (x := x2) (y := (1 : Int32)) rfl (by decide) (by omega) (by omega)
      refine v_X12_fillsWays_70_245 ?_
      exact ih.2.1 _ _ _ hI hB h1 (by omega) (by omega)
theorem b_nat {x y : Int32} (hx : 0 ≤ x.toInt) (hy : 0 ≤ y.toInt) (h : x.toNatClampNeg = y.toNatClampNeg) : x = y := by
  have := d_cl hx
  have := d_cl hy
  exact Int32.toInt_inj.mp (by omega)
theorem wS_set {b f v : Int32} (hb : 0 ≤ b.toInt) (hf : 0 ≤ f.toInt) : wS (dSet m 109 b.toNatClampNeg v) f = if f = b then v.toInt else wS m f := by
  unfold wS
  rw [dSet_e]
  by_cases h : f = b
  · subst h
    rw [if_pos ⟨rfl, rfl⟩, if_pos rfl]
  · rw [if_neg (fun q => h (b_nat hf hb q.2)), if_neg h]
theorem Bf.put {b n w : Int32} (hB : Bf m) (hb : 0 ≤ b.toInt ∧ b.toInt ≤ 6) (h99 : wS m b = 99) (hn : 1 ≤ n.toInt ∧ n.toInt ≤ 6) (hw : 0 ≤ w.toInt ∧ w.toInt < wN m) (hH : wH m w) (hO : 0 ≤ (wO m w b).toInt) (hs : wS m (wO m w b) = n.toInt - 1) : Bf (dSet m 109 b.toNatClampNeg n) := by
  intro f h1 h2
  rw [wS_set hb.1 h1]
  by_cases hf : f = b
  · subst hf
    rw [if_pos rfl]
    refine Or.inr (Or.inr ⟨hn.1, hn.2, w, hw, hH, hO, ?_⟩)
    show wS (dSet m 109 f.toNatClampNeg n) (wO m w f) = wS (dSet m 109 f.toNatClampNeg n) f - 1
    rw [wS_set hb.1 hO, wS_set hb.1 hb.1, if_pos rfl, if_neg (fun e => by rw [e] at hs; omega)]
    exact hs
  · rw [if_neg hf]
    rcases hB f h1 h2 with h | h | ⟨h3, h4, w', hw', hH', hO', hs'⟩
    · exact Or.inl h
    · exact Or.inr (Or.inl h)
    · refine Or.inr (Or.inr ⟨h3, h4, w', hw', hH', hO', ?_⟩)
      show wS (dSet m 109 b.toNatClampNeg n) (wO m w' f) = wS (dSet m 109 b.toNatClampNeg n) f - 1
      rw [wS_set hb.1 hO', wS_set hb.1 h1, if_neg hf, if_neg (fun e => by rw [e] at hs'; omega)]
      exact hs'
/-- phase 2: step by step -/
theorem b_ph2 {Q : dM → Prop} (hG : Gd g) (hQ : ∀ m', Inv g m' → Bf m' → Q m') : ∀ n : Nat,
    (∀ (x1 : Int32) (m : dM), Inv g m → Bf m → 1 ≤ x1.toInt ∧ x1.toInt ≤ 7 → (7 - x1.toInt) * 50 + 49 < (n : Int) → j_X12_fillsWays_70_51 6 x1 m Q) ∧
    (∀ (x1 x2 : Int32) (m : dM), Inv g m → Bf m → 1 ≤ x1.toInt ∧ x1.toInt ≤ 6 → 0 ≤ x2.toInt ∧ x2.toInt ≤ 10 → (7 - x1.toInt) * 50 + 3 * (10 - x2.toInt) + 2 < (n : Int) → j_X12_fillsWays_70_59 6 x1 x2 m Q) ∧
    (∀ (x1 x2 : Int32) (m : dM), Inv g m → Bf m → 1 ≤ x1.toInt ∧ x1.toInt ≤ 6 → 0 ≤ x2.toInt → x2.toInt < wN m → wH m x2 → (7 - x1.toInt) * 50 + 3 * (10 - x2.toInt) + 1 < (n : Int) → j_X12_fillsWays_70_146 6 x1 x2 (w1 m x2) (w2 m x2) m Q) ∧
    (∀ (x1 x2 : Int32) (m : dM), Inv g m → Bf m → 1 ≤ x1.toInt ∧ x1.toInt ≤ 6 → 0 ≤ x2.toInt ∧ x2.toInt ≤ 9 → (7 - x1.toInt) * 50 + 3 * (10 - x2.toInt) < (n : Int) → j_X12_fillsWays_70_177 6 x1 x2 m Q) := by
  intro n
  induction n with
  | zero => exact ⟨fun x1 m hI hB h1 hμ => by exfalso; omega, fun x1 x2 m hI hB h1 h2 hμ => by exfalso; omega, fun x1 x2 m hI hB h1 h2 h3 hw hμ => by have c := b_ctx hG hI; exfalso; omega, fun x1 x2 m hI hB h1 h2 hμ => by exfalso; omega⟩
  | succ n ih =>
    have e0 := ti_0
    have e1 := ti_1
    refine ⟨fun x1 m hI hB h1 hμ => ?_, fun x1 x2 m hI hB h1 h2 hμ => ?_, fun x1 x2 m hI hB h1 h2 h3 hw hμ => ?_, fun x1 x2 m hI hB h1 h2 hμ => ?_⟩
    · refine v_X12_fillsWays_70_51 ⟨fun _ => (b_ph3 hG hQ 1000).1 _ _ hI hB (by decide) (by decide), fun hc => ?_⟩
      exact ih.2.1 _ _ _ hI hB (by omega) (by omega) (by omega)
    · have c := b_ctx hG hI
      have f1 := dAddE (X := x1.toInt) (Y := 1) (x := x1) (y := (1 : Int32)) rfl (by decide) (by omega) (by omega)
      refine v_X12_fillsWays_70_59 ⟨by omega, fun _ => ih.1 _ _ hI hB (by omega) (by omega), fun hc => ?_⟩
      have hc : x2.toInt < wN m := hc
      refine Wp.deep (b_isWhole hG hI h2.1 hc (fun hw => ⟨fun _ => ?_, fun h => absurd h (by decide)⟩) (fun hw => ⟨fun h => absurd rfl h, fun _ => ih.2.2.2 _ _ _ hI hB h1 (by omega) (by omega)⟩)) (Nat.le_of_ble_eq_true rfl)
      have fm := dMulE (X := 10) (Y := (m.1 70 18).toInt) (x := (10 : Int32)) (y := m.1 70 18) (by decide) rfl (by omega) (by omega)
      have fa := dAddE (X := 10 * (m.1 70 18).toInt) (Y := x2.toInt) (x := (10 : Int32) * m.1 70 18) (y := x2) fm rfl (by omega) (by omega)
      have b := b_ends hG hI h2.1 hc
      have ea : (m.1 83 ((10 : Int32) * m.1 70 18 + x2).toNatClampNeg) = w1 m x2 := rfl
      have eb : (m.1 84 ((10 : Int32) * m.1 70 18 + x2).toNatClampNeg) = w2 m x2 := rfl
      have go := ih.2.2.1 x1 x2 m hI hB h1 h2.1 hc hw (by omega)
      have fs := dSubE (X := x1.toInt) (Y := 1) (x := x1) (y := (1 : Int32)) rfl (by decide) (by omega) (by omega)
      refine ⟨by omega, ⟨by omega, ⟨by rw [ea]; omega, fun _ => go, fun h5 => ⟨by rw [eb]; omega, fun _ => go, fun h6 => ⟨by rw [eb]; omega, ?_⟩⟩⟩⟩⟩
      have h5 : wS m (w1 m x2) = x1.toInt - 1 := by rw [fs] at h5; exact h5
      have h6 : wS m (w2 m x2) = 99 := h6
      have ne : ¬ (w1 m x2).toInt = (w2 m x2).toInt := fun e => by
        rw [Int32.toInt_inj.mp e] at h5
        omega
      have eO : wO m x2 (w2 m x2) = w1 m x2 := by
        unfold wO
        rw [if_neg ne, if_pos rfl]
      have hB' : Bf (dSet m 109 (w2 m x2).toNatClampNeg x1) := hB.put b.2 h6 h1 ⟨h2.1, hc⟩ hw (by rw [eO]; exact b.1.1) (by rw [eO]; exact h5)
      exact ih.2.2.1 x1 x2 (dSet m 109 (w2 m x2).toNatClampNeg x1) (Inv.setA hI rfl) hB' h1 h2.1 hc hw (by omega)
    · have c := b_ctx hG hI
      have b := b_ends hG hI h2 h3
      have fs := dSubE (X := x1.toInt) (Y := 1) (x := x1) (y := (1 : Int32)) rfl (by decide) (by omega) (by omega)
      have go := ih.2.2.2 x1 x2 m hI hB h1 (by omega) (by omega)
      refine v_X12_fillsWays_70_146 ⟨by omega, fun _ => go, fun h5 => ⟨by omega, fun _ => go, fun h6 => ⟨by omega, ?_⟩⟩⟩
      have h5 : wS m (w2 m x2) = x1.toInt - 1 := by rw [fs] at h5; exact h5
      have h6 : wS m (w1 m x2) = 99 := h6
      have eO : wO m x2 (w1 m x2) = w2 m x2 := by
        unfold wO
        rw [if_pos rfl]
      have hB' : Bf (dSet m 109 (w1 m x2).toNatClampNeg x1) := hB.put b.1 h6 h1 ⟨h2, h3⟩ hw (by rw [eO]; exact b.2.1) (by rw [eO]; exact h5)
      exact ih.2.2.2 x1 x2 _ (Inv.setA hI rfl) hB' h1 (by omega) (by omega)
    · have f2 := dAddE (X := x2.toInt) (Y := 1) (x := x2) (y := (1 : Int32)) rfl (by decide) (by omega) (by omega)
      refine v_X12_fillsWays_70_177 ?_
      exact ih.2.1 _ _ _ hI hB h1 (by omega) (by omega)
/-- phase 1: all away but the first -/
theorem b_ph1 {Q : dM → Prop} (hG : Gd g) (hQ : ∀ m', Inv g m' → Bf m' → Q m') : ∀ n : Nat, ∀ (x1 : Int32) (m : dM), Inv g m → 0 ≤ x1.toInt ∧ x1.toInt ≤ 7 → (∀ f : Int32, 0 ≤ f.toInt → f.toInt < x1.toInt → wS m f = 99 ∨ wS m f = 0) → 7 - x1.toInt < (n : Int) → j_X12_fillsWays_70_2 6 x1 m Q := by
  intro n
  induction n with
  | zero => intro x1 m hI h1 hp hμ; exfalso; omega
  | succ n ih =>
    intro x1 m hI h1 hp hμ
    have c := b_ctx hG hI
    refine v_X12_fillsWays_70_2 ⟨fun hc => ?_, fun hc => ?_⟩
    · refine (b_ph2 hG hQ 1000).1 _ _ hI (fun f hf1 hf2 => ?_) (by decide) (by decide)
      rcases hp f hf1 (by omega) with h | h
      · exact Or.inl h
      · exact Or.inr (Or.inl h)
    · have f1 := dAddE (X := x1.toInt) (Y := 1) (x := x1) (y := (1 : Int32)) rfl (by decide) (by omega) (by omega)
      have go : ∀ v : Int32, v.toInt = 99 ∨ v.toInt = 0 → j_X12_fillsWays_70_2 6 (x1 + 1) (dSet (dSet m 109 x1.toNatClampNeg v) 110 x1.toNatClampNeg (0 : Int32)) Q := fun v hv => by
        refine ih _ _ (Inv.setA (Inv.setA hI rfl) rfl) (by omega) (fun f hf1 hf2 => ?_) (by omega)
        show wS (dSet m 109 x1.toNatClampNeg v) f = 99 ∨ wS (dSet m 109 x1.toNatClampNeg v) f = 0
        rw [wS_set h1.1 hf1]
        by_cases h : f = x1
        · rw [if_pos h]; exact hv
        · rw [if_neg h]
          have : f.toInt ≠ x1.toInt := fun e => h (Int32.toInt_inj.mp e)
          exact hp f hf1 (by omega)
      refine ⟨fun _ => ⟨by omega, ⟨by omega, go _ (by decide)⟩⟩, fun _ => ⟨by omega, fun _ => ⟨by omega, ⟨by omega, go _ (by decide)⟩⟩, fun _ => ⟨by omega, ⟨by omega, go _ (by decide)⟩⟩⟩⟩
theorem b_fillsWays {Q : dM → Prop} (hG : Gd g) (hI : Inv g m) (hQ : ∀ m', Inv g m' → Bf m' → Q m') : c_X12_fillsWays_70 6 m Q := by
  refine v_X12_fillsWays_70 ?_
  have e0 := ti_0
  exact b_ph1 hG hQ 9 _ _ hI (by decide) (fun f h1 h2 => by exfalso; omega) (by decide)
theorem s_X12_fillsWays_70 {Q : dM → Prop} (hG : Gd g) (hI : Inv g m) (hQ : ∀ m' : dM, Inv g m' → Q m') : c_X12_fillsWays_70 20 m Q := Wp.deep (b_fillsWays hG hI (fun m' a _ => hQ m' a)) (Nat.le_of_ble_eq_true rfl)
theorem b_copies_2 {Q : dM → Prop} (hG : Gd g) (hQ : ∀ m', Inv g m' → Bf m' → Q m') : ∀ n : Nat, ∀ (x1 : Int32) (m : dM), Inv g m → 0 ≤ x1.toInt ∧ x1.toInt ≤ 58 → 58 - x1.toInt < (n : Int) → j_X12_copies_70_2 7 x1 m Q := by
  intro n
  induction n with
  | zero => intro x1 m hI h1 hμ; exfalso; omega
  | succ n ih =>
    intro x1 m hI h1 hμ
    have c := b_ctx hG hI
    refine v_X12_copies_70_2 ⟨fun hc => ⟨by omega, ?_⟩, fun hc => ⟨by omega, ⟨by omega, ?_⟩⟩⟩
    · exact b_fillsWays hG (Inv.setA (Inv.setA hI rfl) rfl) hQ
    · have f1 := dAddE (X := x1.toInt) (Y := 1) (x := x1) (y := (1 : Int32)) rfl (by decide) (by omega) (by omega)
      exact ih _ _ (Inv.setA hI rfl) (by omega) (by omega)
theorem b_copies {Q : dM → Prop} (hG : Gd g) (hI : Inv g m) (hQ : ∀ m', Inv g m' → Bf m' → Q m') : c_X12_copies_70 7 m Q := by
  refine v_X12_copies_70 ?_
  exact b_copies_2 hG hQ 60 _ _ hI (by decide) (by decide)
theorem b_way_46 {x2 : Int32} {Q : Int32 → dM → Prop} (hG : Gd g) (hI : Inv g m) (hB : Bf m) (hQ : ∀ r : Int32, Q r m) : ∀ n : Nat, ∀ x3 x4 : Int32, 0 ≤ x3.toInt ∧ x3.toInt ≤ 6 → 0 ≤ x4.toInt → x4.toInt ≤ x2.toInt → (x2.toInt < x4.toInt + wS m x3 ∧ wS m x3 ≤ 6) → x2.toInt - x4.toInt < (n : Int) → j_X12_way_70_46 8 x2 x3 x4 m Q := by
  intro n
  induction n with
  | zero => intro x3 x4 h3 h4 h5 h6 hμ; exfalso; omega
  | succ n ih =>
    intro x3 x4 h3 h4 h5 h6 hμ
    have hst := hB.st h3.1 h3.2
    have hP : Pr m x3 := by
      rcases hB x3 h3.1 h3.2 with h | h | h
      · exfalso; omega
      · exfalso; omega
      · exact h.2.2
    refine v_X12_way_70_46 ⟨fun hc => ?_, fun hc => ?_⟩
    · exact Wp.deep (b_wireFrom hG hI h3 hst hP (fun w _ _ _ => hQ w)) (Nat.le_of_ble_eq_true rfl)
    · refine Wp.deep (b_wireFrom hG hI h3 hst hP (fun w hw1 hw2 hg => ?_)) (Nat.le_of_ble_eq_true rfl)
      have b6 := b_wO6 (f := x3) hG hI hw1 hw2
      have b0 := hg.2.1
      have bs := hg.2.2
      have hx2 := e_hi x2
      have f4 := dAddE (X := x4.toInt) (Y := 1) (x := x4) (y := (1 : Int32)) rfl (by decide) (by omega) (by omega)
      refine Wp.deep (b_otherEnd hG hI hw1 hw2 ?_) (Nat.le_of_ble_eq_true rfl)
      exact ih _ _ ⟨b0, b6⟩ (by omega) (by omega) (by omega) (by omega)
theorem s_X12_way_70 {x1 x2 : Int32} {Q : Int32 → dM → Prop} (hG : Gd g) (hI : Inv g m) (hQ : ∀ (r : Int32) (m' : dM), Inv g m' → Q r m') : c_X12_way_70 20 x1 x2 m Q := by
  have c := b_ctx hG hI
  have e0 := ti_0
  have e1 := ti_1
  refine v_X12_way_70 ?_
  refine v_X12_isFlat_70 ⟨by omega, ?_⟩
  have fin : j_X12_way_70_12 20 m Q := v_X12_way_70_12 (hQ _ _ hI)
  have b80 := Inv.s hG hI (k := 80) (j := (m.1 70 18).toNatClampNeg) rfl rfl
  have f := dSubE (X := (m.1 80 (m.1 70 18).toNatClampNeg).toInt) (Y := 1) (x := m.1 80 (m.1 70 18).toNatClampNeg) (y := (1 : Int32)) rfl (by decide) (by omega) (by omega)
  refine v_X12_in ?_
  refine ⟨fun h => v_X12_in_14 ⟨by decide, fun _ => fin, fun h => absurd rfl h⟩, fun h0 => ⟨fun h => v_X12_in_14 ⟨by decide, fun _ => fin, fun h => absurd rfl h⟩, fun h1 => ⟨by decide, fun h => by exfalso; omega, fun _ => ⟨fun h2 => ?_, fun _ => fin⟩⟩⟩⟩
  refine Wp.deep (b_copies hG hI (fun m2 I2 B2 => ?_)) (Nat.le_of_ble_eq_true rfl)
  refine v_X12_isLit_70 ⟨by omega, fun h3 => ⟨fun h => absurd rfl h, fun _ => hQ _ _ I2⟩, fun h3 => ⟨fun _ => ⟨by omega, fun h4 => ?_, fun h4 => hQ _ _ I2⟩, fun h => by exfalso; omega⟩⟩
  have h3 : wS m2 x1 < 99 := h3
  have h4 : x2.toInt < wS m2 x1 := h4
  have h6 : wS m2 x1 ≤ 6 := by
    rcases B2 x1 (by omega) (by omega) with h | h | h <;> omega
  exact Wp.deep (b_way_46 hG I2 B2 (fun r => hQ r _ I2) 3000000000 _ _ (by omega) (by decide) (by omega) (by omega) (by omega)) (Nat.le_of_ble_eq_true rfl)
end BFS
end
section
/-! THE REFERENCE: what a law tells (by hand) -/
section LAWT
variable {g : gM}
theorem l_term {Q : Int32 → dM → Prop} (hG : Gd g) (hQ : ∀ (r : Int32) (m' : dM), Inv g m' → Q r m') : ∀ n : Nat,
    (∀ (x2 x3 x4 : Int32) (m : dM), Inv g m → 0 ≤ x4.toInt → x4.toInt ≤ x2.toInt → x2.toInt ≤ 840 → 0 ≤ x3.toInt → x3.toInt + (x2.toInt - x4.toInt) ≤ 400 → gSeg g (x2.toInt - x4.toInt).toNat x4.toInt.toNat x3.toInt.toNat → 3 * (x2.toInt - x4.toInt) < (n : Int) → j_X12_termOf_70_5 1 x2 x3 x4 m Q) ∧
    (∀ (x2 x3 x4 x5 x6 x7 : Int32) (m : dM), Inv g m → 0 ≤ x4.toInt → x4.toInt < x2.toInt → x2.toInt ≤ 840 → 1 ≤ x3.toInt → x3.toInt + (x2.toInt - x4.toInt - 1) ≤ 400 → gSeg g (x2.toInt - x4.toInt - 1).toNat (x4.toInt.toNat + 1) x3.toInt.toNat → 2 ≤ x5.toInt ∧ x5.toInt ≤ 5 → (x5.toInt = 5 → x7.toInt ≠ 0) → 3 * (x2.toInt - x4.toInt) - 1 < (n : Int) → j_X12_termOf_70_104 1 x2 x3 x4 x5 x6 x7 m Q) ∧
    (∀ (x2 x3 x4 : Int32) (m : dM), Inv g m → 0 ≤ x4.toInt → x4.toInt < x2.toInt → x2.toInt ≤ 840 → 0 ≤ x3.toInt → x3.toInt + (x2.toInt - x4.toInt - 1) ≤ 400 → gSeg g (x2.toInt - x4.toInt - 1).toNat (x4.toInt.toNat + 1) x3.toInt.toNat → 3 * (x2.toInt - x4.toInt) - 2 < (n : Int) → j_X12_termOf_70_159 1 x2 x3 x4 m Q) := by
  intro n
  induction n with
  | zero => exact ⟨fun x2 x3 x4 m hI h1 h2 h3 h4 h5 h6 hμ => by exfalso; omega, fun x2 x3 x4 x5 x6 x7 m hI h1 h2 h3 h4 h5 h6 h7 h8 hμ => by exfalso; omega, fun x2 x3 x4 m hI h1 h2 h3 h4 h5 h6 hμ => by exfalso; omega⟩
  | succ n ih =>
    refine ⟨fun x2 x3 x4 m hI h1 h2 h3 h4 h5 h6 hμ => ?_, fun x2 x3 x4 x5 x6 x7 m hI h1 h2 h3 h4 h5 h6 h7 h8 hμ => ?_, fun x2 x3 x4 m hI h1 h2 h3 h4 h5 h6 hμ => ?_⟩
    · refine v_X12_termOf_70_5 ⟨fun _ => hQ _ _ hI, fun hc => ⟨by omega, ?_⟩⟩
      have ec : m.1 102 x4.toNatClampNeg = g 102 x4.toInt.toNat := hI.2 102 _ rfl
      have ei : m.1 103 x4.toNatClampNeg = g 103 x4.toInt.toNat := hI.2 103 _ rfl
      have e1 : (x2.toInt - x4.toInt).toNat = (x2.toInt - x4.toInt - 1).toNat + 1 := by omega
      rw [e1] at h6
      have fm := dAddE (X := x3.toInt) (Y := -1) (x := x3) (y := (-1 : Int32)) rfl (by decide) (by omega) (by omega)
      have fp := dAddE (X := x3.toInt) (Y := 1) (x := x3) (y := (1 : Int32)) rfl (by decide) (by omega) (by omega)
      have fs := dSubE (X := x3.toInt + -1) (Y := 1) (x := x3 + (-1 : Int32)) (y := (1 : Int32)) fm (by decide) (by omega) (by omega)
      have e3 : ∀ y : Int32, y.toInt = x3.toInt + -1 → y.toInt.toNat = x3.toInt.toNat - 1 := fun y h => by omega
      have e4 : ∀ y : Int32, y.toInt = x3.toInt + 1 → y.toInt.toNat = x3.toInt.toNat + 1 := fun y h => by omega
      rcases h6 with ⟨k1, k2, k3⟩ | ⟨k1, k2, k3⟩
      · rw [ec, ei]
        refine ⟨fun h => by exfalso; omega, fun _ => ⟨fun hz => ⟨by omega, ⟨by have := k2 hz; omega, ⟨by omega, ?_⟩⟩⟩, fun hz => ⟨by omega, ⟨by omega, ?_⟩⟩⟩⟩
        · exact ih.2.2 _ _ _ _ (Inv.setA hI rfl) h1 hc h3 (by omega) (by omega) (by rw [e4 _ fp]; exact k3) (by omega)
        · exact ih.2.2 _ _ _ _ (Inv.setA hI rfl) h1 hc h3 (by omega) (by omega) (by rw [e4 _ fp]; exact k3) (by omega)
      · rw [ec]
        have k3' : gSeg g (x2.toInt - x4.toInt - 1).toNat (x4.toInt.toNat + 1) (x3 + (-1 : Int32)).toInt.toNat := by rw [e3 _ fm]; exact k3
        refine ⟨fun _ => ⟨by omega, ⟨by omega, fun hz => ?_, fun hz => ⟨fun hy => ?_, fun hy => hQ _ _ (Inv.setA hI rfl)⟩⟩⟩, fun h => by exfalso; omega⟩
        · exact ih.2.1 _ _ _ _ _ _ _ hI h1 hc h3 (by omega) (by omega) k3' k1 (fun q => absurd q hz) (by omega)
        · exact ih.2.1 _ _ _ _ _ _ _ hI h1 hc h3 (by omega) (by omega) k3' k1 (fun _ => hy) (by omega)
    · have fs := dSubE (X := x3.toInt) (Y := 1) (x := x3) (y := (1 : Int32)) rfl (by decide) (by omega) (by omega)
      have go : ∀ v : Int32, j_X12_termOf_70_159 1 x2 x3 x4 (dSet m 106 (x3 - (1 : Int32)).toNatClampNeg v) Q := fun v => ih.2.2 _ _ _ _ (Inv.setA hI rfl) h1 h2 h3 (by omega) h5 h6 (by omega)
      refine v_X12_termOf_70_104 ⟨fun a1 => ⟨fun a2 => ⟨fun a3 => ⟨fun hz => ?_, ⟨by omega, go _⟩⟩, fun _ => ⟨by omega, go _⟩⟩, fun _ => ⟨by omega, go _⟩⟩, fun _ => ⟨by omega, go _⟩⟩
      have := h8 (by omega)
      rw [hz] at this
      exact this rfl
    · have fp := dAddE (X := x4.toInt) (Y := 1) (x := x4) (y := (1 : Int32)) rfl (by decide) (by omega) (by omega)
      refine v_X12_termOf_70_159 ?_
      refine ih.1 _ _ _ _ hI (by omega) (by omega) h3 h4 (by omega) ?_ (by omega)
      have e4 : ∀ y : Int32, y.toInt = x4.toInt + 1 → y.toInt.toNat = x4.toInt.toNat + 1 ∧ (x2.toInt - y.toInt).toNat = (x2.toInt - x4.toInt - 1).toNat := fun y h => ⟨by omega, by omega⟩
      rw [(e4 _ fp).1, (e4 _ fp).2]
      exact h6
theorem l_termOf {L : Nat} {x1 x2 : Int32} {m : dM} {Q : Int32 → dM → Prop} (hG : Gd g) (hI : Inv g m) (hL : L ≤ 1) (hp : gPc g L x1.toInt x2.toInt) (hQ : ∀ (r : Int32) (m' : dM), Inv g m' → Q r m') : c_X12_termOf_70 1 x1 x2 m Q := by
  refine v_X12_termOf_70 ?_
  obtain ⟨p1, p2, p3, p4, p5⟩ := hp
  have e0 := ti_0
  exact (l_term hG hQ 3000).1 _ _ _ _ hI (by omega) p2 (by omega) (by decide) (by omega) p5 (by omega)
theorem l_law {L : Nat} {x3 : Int32} {Q : Int32 → dM → Prop} (hG : Gd g) (hL1 : L ≤ 1) (h3 : 0 ≤ x3.toInt ∧ x3.toInt ≤ 7) (hb : (g 96 x3.toNatClampNeg).toInt ≤ 260) (hL : ∀ j : Nat, (g 95 x3.toNatClampNeg).toInt ≤ j → (j : Int) < (g 96 x3.toNatClampNeg).toInt → gBr g L j) (hQ : ∀ (r : Int32) (m' : dM), Inv g m' → Q r m') : ∀ n : Nat,
    (∀ (x4 : Int32) (m : dM), Inv g m → 0 ≤ x4.toInt → (g 95 x3.toNatClampNeg).toInt ≤ x4.toInt → x4.toInt ≤ (g 96 x3.toNatClampNeg).toInt → 2 * ((g 96 x3.toNatClampNeg).toInt - x4.toInt) + 1 < (n : Int) → j_X12_lawTells_70_39 2 x3 x4 m Q) ∧
    (∀ (x4 : Int32) (m : dM), Inv g m → 0 ≤ x4.toInt → (g 95 x3.toNatClampNeg).toInt ≤ x4.toInt → x4.toInt < (g 96 x3.toNatClampNeg).toInt → 2 * ((g 96 x3.toNatClampNeg).toInt - x4.toInt) < (n : Int) → j_X12_lawTells_70_119 2 x4 m Q) := by
  intro n
  induction n with
  | zero => exact ⟨fun x4 m hI h1 h2 h4 hμ => by exfalso; omega, fun x4 m hI h1 h2 h4 hμ => by exfalso; omega⟩
  | succ n ih =>
    refine ⟨fun x4 m hI h1 h2 h4 hμ => ?_, fun x4 m hI h1 h2 h4 hμ => ?_⟩
    · have e96 : m.1 96 x3.toNatClampNeg = g 96 x3.toNatClampNeg := hI.2 96 _ rfl
      have c4 := d_cl h1
      refine v_X12_lawTells_70_39 ⟨by omega, ?_⟩
      rw [e96]
      refine ⟨fun _ => hQ _ _ hI, fun hc => ⟨by omega, fun _ => ih.2 _ _ hI h1 h2 hc (by omega), fun ht => ⟨by omega, ⟨by omega, ?_⟩⟩⟩⟩
      have br := hL x4.toNatClampNeg (by omega) (by omega)
      rw [hI.2 97 _ rfl] at ht
      have br1 := br.1 ht
      refine l_termOf hG hI hL1 (by rw [hI.2 98 _ rfl, hI.2 99 _ rfl]; exact br1.1) (fun r1 m1 I1 => ⟨by omega, ⟨by omega, ?_⟩⟩)
      refine l_termOf hG I1 hL1 (by rw [I1.2 99 _ rfl, I1.2 100 _ rfl]; exact br1.2) (fun r2 m2 I2 => ⟨fun _ => ⟨fun _ => ih.2 _ _ I2 h1 h2 hc (by omega), fun _ => ?_⟩, fun _ => hQ _ _ I2⟩)
      have fp := dAddE (X := x4.toInt) (Y := 1) (x := x4) (y := (1 : Int32)) rfl (by decide) (by omega) (by omega)
      exact ih.1 _ _ I2 (by omega) (by omega) (by omega) (by omega)
    · have c4 := d_cl h1
      have br := hL x4.toNatClampNeg (by omega) (by omega)
      refine v_X12_lawTells_70_119 ⟨by omega, ⟨by omega, ?_⟩⟩
      exact l_termOf hG hI hL1 (by rw [hI.2 100 _ rfl, hI.2 101 _ rfl]; exact br.2) (fun r1 m1 I1 => ⟨fun _ => hQ _ _ I1, fun _ => hQ _ _ I1⟩)
theorem s_X12_lawTells_70 {x1 : Int32} {x2 : Int32} {m : dM} {Q : Int32 → dM → Prop} (hG : Gd g) (hI : Inv g m) (h1 : 0 ≤ x1.toInt ∧ x1.toInt ≤ 3) (hQ : ∀ (r : Int32) (m' : dM), Inv g m' → Q r m') : c_X12_lawTells_70 20 x1 x2 m Q := by
  obtain ⟨l1, l2, l3, l4, l5⟩ := Inv.live hG hI
  have hl : (m.1 70 18).toInt ≤ 1 := by rw [l1]; exact l3
  have hl0 : 0 ≤ (m.1 70 18).toInt := by rw [l1]; exact l2
  have fm := dMulE (X := 4) (Y := (m.1 70 18).toInt) (x := (4 : Int32)) (y := m.1 70 18) (by decide) rfl (by omega) (by omega)
  have fa := dAddE (X := 4 * (m.1 70 18).toInt) (Y := x1.toInt) (x := (4 : Int32) * m.1 70 18) (y := x1) fm rfl (by omega) (by omega)
  have ix := d_idx (c := 4) (C := 4) (L := gL g) (l := m.1 70 18) (u := x1) (by decide) (by decide) l5 hl h1.1 (by omega)
  have lw := hG.2.2.2.2 x1.toInt.toNat (by omega)
  have ix' : ((4 : Int32) * m.1 70 18 + x1).toNatClampNeg = 4 * gL g + x1.toInt.toNat := ix
  rw [← ix'] at lw
  refine v_X12_lawTells_70 ⟨by omega, ⟨by omega, fun hne => ⟨by omega, ?_⟩, fun _ => hQ _ _ hI⟩⟩
  rw [hI.2 95 _ rfl, hI.2 96 _ rfl] at hne
  rcases lw with lw | ⟨a1, a2, a3, a4⟩
  · exact absurd lw hne
  · rw [hI.2 95 _ rfl]
    have hb := (l_law (L := gL g) (x3 := (4 : Int32) * m.1 70 18 + x1) (Q := Q) hG (by omega) (by omega) (by omega) a4 hQ 1000).1 (g 95 ((4 : Int32) * m.1 70 18 + x1).toNatClampNeg) (dSet m 70 53 (0 : Int32)) (Inv.setA hI rfl) (by omega) (Int.le_refl _) a2 (by omega)
    exact Wp.deep hb (Nat.le_of_ble_eq_true rfl)
end LAWT
end
section
theorem s_X2_checkLaw_43_all {g : gM} {Q : Int32 → dM → Prop} (hG : Gd g) (hQ : ∀ (r : Int32) (m' : dM), Inv g m' → (0 ≤ r.toInt ∧ r.toInt ≤ 1) → Q r m') : ∀ n : Nat, (∀ (m : dM), Inv g m → 0 < (n : Int) → j_X2_checkLaw_43_24 61 m Q) ∧ (∀ (x1 : Int32) (x2 : Int32) (m : dM), Inv g m → (0 ≤ x1.toInt ∧ x1.toInt ≤ 3) → (0 ≤ x2.toInt ∧ x2.toInt ≤ 4) → 8 - 1 * x2.toInt < (n : Int) → j_X2_checkLaw_43_28 61 x1 x2 m Q) ∧ (∀ (m : dM), Inv g m → 3 < (n : Int) → j_X2_checkLaw_43_114 61 m Q) ∧ (∀ (x1 : Int32) (m : dM), Inv g m → (0 ≤ x1.toInt ∧ x1.toInt ≤ 3) → 2 < (n : Int) → j_X2_checkLaw_43_122 61 x1 m Q) ∧ (∀ (m : dM), Inv g m → 1 < (n : Int) → j_X2_checkLaw_43_144 61 m Q) := by
  intro n
  induction n with
  | zero => exact ⟨fun m hI hμ => by exfalso; omega, fun x1 x2 m hI h1 h2 hμ => by exfalso; omega, fun m hI hμ => by exfalso; omega, fun x1 m hI h1 hμ => by exfalso; omega, fun m hI hμ => by exfalso; omega⟩
  | succ n ih =>
    refine ⟨?_, ?_, ?_, ?_, ?_⟩
    · intro m hI hμ
      refine v_X2_checkLaw_43_24 ?_
      have f1 := ti_0
      exact hQ _ _ hI (by omega)
    · intro x1 x2 m hI h1 h2 hμ
      refine v_X2_checkLaw_43_28 ?_
      refine ⟨fun hc1 => ?_, fun hc1 => ?_⟩
      · skip
        exfalso; omega
      · skip
        refine v_X2_kind_43 ?_
        refine ⟨fun hc2 => ?_, fun hc2 => ?_⟩
        · skip
          refine v_X2_kind_43_32 ?_
          have f3 := ti_24
          refine ⟨fun hc4 => ?_, fun hc4 => ?_⟩
          · skip
            exact ih.2.2.2.1 _ _ hI (by omega) (by omega)
          · skip
            exfalso; omega
        · skip
          refine ⟨fun hc3 => ?_, fun hc3 => ?_⟩
          · skip
            refine v_X2_kind_43_32 ?_
            have f4 := ti_24
            refine ⟨fun hc5 => ?_, fun hc5 => ?_⟩
            · skip
              exact ih.2.2.2.1 _ _ hI (by omega) (by omega)
            · skip
              exfalso; omega
          · skip
            refine ⟨by omega, ?_⟩
            refine ⟨fun hc4 => ?_, fun hc4 => ?_⟩
            · skip
              exact ih.2.2.2.1 _ _ hI (by omega) (by omega)
            · skip
              refine ⟨fun hc5 => ?_, fun hc5 => ?_⟩
              · skip
                refine Wp.deep (s_X2_step_43 hG hI (fun R6 M6 I6 hr6 => ?_)) (Nat.le_of_ble_eq_true rfl)
                refine ⟨fun hc7 => ?_, fun hc7 => ?_⟩
                · skip
                  exact ih.2.2.1 _ I6 (by omega)
                · skip
                  have f8 := ti_0
                  refine Wp.deep (s_X2_sum_43_L0 hG I6 (by omega) (fun R9 M9 I9 hr9 => ?_)) (Nat.le_of_ble_eq_true rfl)
                  refine ⟨fun hc10 => ?_, fun hc10 => ?_⟩
                  · skip
                    exact ih.2.2.1 _ I9 (by omega)
                  · skip
                    have f11 := ti_60
                    refine Wp.deep (s_X2_endPiece_43 hG I9 (by omega) (by omega) (fun R12 M12 I12 hr12 => ?_)) (Nat.le_of_ble_eq_true rfl)
                    refine ⟨fun hc13 => ?_, fun hc13 => ?_⟩
                    · skip
                      exact ih.2.2.1 _ I12 (by omega)
                    · skip
                      refine Wp.deep (s_X2_sum_43_L0 hG I12 (by omega) (fun R14 M14 I14 hr14 => ?_)) (Nat.le_of_ble_eq_true rfl)
                      refine ⟨fun hc15 => ?_, fun hc15 => ?_⟩
                      · skip
                        exact ih.2.2.1 _ I14 (by omega)
                      · skip
                        have f16 := ti_11
                        refine Wp.deep (s_X2_endPiece_43 hG I14 (by omega) (by omega) (fun R17 M17 I17 hr17 => ?_)) (Nat.le_of_ble_eq_true rfl)
                        refine ⟨fun hc18 => ?_, fun hc18 => ?_⟩
                        · skip
                          exact ih.2.2.1 _ I17 (by omega)
                        · skip
                          refine Wp.deep (s_X2_sum_43_L0 hG I17 (by omega) (fun R19 M19 I19 hr19 => ?_)) (Nat.le_of_ble_eq_true rfl)
                          refine ⟨fun hc20 => ?_, fun hc20 => ?_⟩
                          · skip
                            exact ih.2.2.1 _ I19 (by omega)
                          · skip
                            have f21 := ti_12
                            refine Wp.deep (s_X2_endPiece_43 hG I19 (by omega) (by omega) (fun R22 M22 I22 hr22 => ?_)) (Nat.le_of_ble_eq_true rfl)
                            refine ⟨fun hc23 => ?_, fun hc23 => ?_⟩
                            · skip
                              have f24 := dAddE (X := x2.toInt) (Y := 1) (x := x2) (y := (1 : Int32)) rfl (by decide) (by omega) (by omega)
                              exact ih.2.1 _ _ _ I22 (by omega) (by omega) (by omega)
                            · skip
                              exact ih.2.2.1 _ I22 (by omega)
              · skip
                have f6 := ti_2
                refine Wp.deep (s_X2_fail_43 hG hI (fun R7 M7 I7 hr7 => ?_)) (Nat.le_of_ble_eq_true rfl)
                refine ⟨dB01 (by omega), ?_⟩
                exact hQ _ _ I7 (by omega)
    · intro m hI hμ
      refine v_X2_checkLaw_43_114 ?_
      have f1 := ti_0
      exact hQ _ _ hI (by omega)
    · intro x1 m hI h1 hμ
      refine v_X2_checkLaw_43_122 ?_
      have f1 := ti_0
      refine Wp.deep (s_X2_sum_43_L0 hG hI (by omega) (fun R2 M2 I2 hr2 => ?_)) (Nat.le_of_ble_eq_true rfl)
      refine ⟨fun hc3 => ?_, fun hc3 => ?_⟩
      · skip
        exact ih.2.2.2.2 _ I2 (by omega)
      · skip
        have f4 := ti_59
        refine Wp.deep (s_X2_endPiece_43 hG I2 (by omega) (by omega) (fun R5 M5 I5 hr5 => ?_)) (Nat.le_of_ble_eq_true rfl)
        refine ⟨fun hc6 => ?_, fun hc6 => ?_⟩
        · skip
          exact ih.2.2.2.2 _ I5 (by omega)
        · skip
          have f7 := ti_1
          exact hQ _ _ I5 (by omega)
    · intro m hI hμ
      refine v_X2_checkLaw_43_144 ?_
      have f1 := ti_0
      exact hQ _ _ hI (by omega)
theorem s_X2_checkLaw_43 {g : gM} {x1 : Int32} {m : dM} {Q : Int32 → dM → Prop} (hG : Gd g) (hI : Inv g m) (h1 : 0 ≤ x1.toInt ∧ x1.toInt ≤ 3) (hQ : ∀ (r : Int32) (m' : dM), Inv g m' → (0 ≤ r.toInt ∧ r.toInt ≤ 1) → Q r m') : c_X2_checkLaw_43 61 x1 m Q := by
  refine v_X2_checkLaw_43 ?_
  refine Wp.deep (s_X4_begin_29 hG hI (by omega) (fun M1 I1 => ?_)) (Nat.le_of_ble_eq_true rfl)
  refine Wp.deep (s_X2_step_43 hG I1 (fun R2 M2 I2 hr2 => ?_)) (Nat.le_of_ble_eq_true rfl)
  refine ⟨fun hc3 => ?_, fun hc3 => ?_⟩
  · skip
    exact (s_X2_checkLaw_43_all hG hQ 10).1 _ I2 (by omega)
  · skip
    have f4 := ti_61
    refine Wp.deep (s_X2_need_43 hG I2 (fun R5 M5 I5 hr5 => ?_)) (Nat.le_of_ble_eq_true rfl)
    refine ⟨fun hc6 => ?_, fun hc6 => ?_⟩
    · skip
      have f7 := ti_0
      exact (s_X2_checkLaw_43_all hG hQ 10).2.1 _ _ _ I5 (by omega) (by omega) (by omega)
    · skip
      exact (s_X2_checkLaw_43_all hG hQ 10).1 _ I5 (by omega)
theorem s_X2_checkTold_43 {g : gM} {x1 : Int32} {m : dM} {Q : dM → Prop} (hG : Gd g) (hI : Inv g m) (hQ : ∀ m' : dM, Inv g m' → Q m') : c_X2_checkTold_43 62 x1 m Q := by
  refine v_X2_checkTold_43 ?_
  refine ⟨fun hc1 => ?_, fun hc1 => ?_, fun hc1 => ?_, fun hc1 => ?_, fun hc1 => ?_, fun hc1 => ?_, fun hc1 => ?_, fun hc1 => ?_, fun hc1 => ?_, fun hc1 => ?_, fun hc1 => ?_⟩
  · skip
    have f2 := ti_7
    have f3 := ti_1
    have I4 : Inv g (dSet m 43 4 ((m.1 43 4) + (1 : Int32))) := (Inv.setA hI rfl)
    refine Wp.deep (s_X2_checkCounted_43 hG I4 (by omega) (by omega) (by omega) (fun M5 I5 => ?_)) (Nat.le_of_ble_eq_true rfl)
    refine v_X2_checkTold_43_165 ?_
    exact hQ _ I5
  · skip
    have f2 := ti_10
    have f3 := ti_2
    have f4 := ti_1
    have I5 : Inv g (dSet m 43 5 ((m.1 43 5) + (1 : Int32))) := (Inv.setA hI rfl)
    refine Wp.deep (s_X2_checkCounted_43 hG I5 (by omega) (by omega) (by omega) (fun M6 I6 => ?_)) (Nat.le_of_ble_eq_true rfl)
    refine v_X2_checkTold_43_165 ?_
    exact hQ _ I6
  · skip
    have f2 := ti_8
    have f3 := ti_2
    have f4 := ti_3
    have I5 : Inv g (dSet m 43 6 ((m.1 43 6) + (1 : Int32))) := (Inv.setA hI rfl)
    refine Wp.deep (s_X2_checkCounted_43 hG I5 (by omega) (by omega) (by omega) (fun M6 I6 => ?_)) (Nat.le_of_ble_eq_true rfl)
    refine v_X2_checkTold_43_165 ?_
    exact hQ _ I6
  · skip
    have f2 := dSubE (X := x1.toInt) (Y := 3) (x := x1) (y := (3 : Int32)) rfl (by decide) (by omega) (by omega)
    refine Wp.deep (s_X2_checkLaw_43 hG hI (by omega) (fun R3 M3 I3 hr3 => ?_)) (Nat.le_of_ble_eq_true rfl)
    refine v_X2_checkTold_43_165 ?_
    exact hQ _ I3
  · skip
    have f2 := dSubE (X := x1.toInt) (Y := 3) (x := x1) (y := (3 : Int32)) rfl (by decide) (by omega) (by omega)
    refine Wp.deep (s_X2_checkLaw_43 hG hI (by omega) (fun R3 M3 I3 hr3 => ?_)) (Nat.le_of_ble_eq_true rfl)
    refine v_X2_checkTold_43_165 ?_
    exact hQ _ I3
  · skip
    have f2 := dSubE (X := x1.toInt) (Y := 3) (x := x1) (y := (3 : Int32)) rfl (by decide) (by omega) (by omega)
    refine Wp.deep (s_X2_checkLaw_43 hG hI (by omega) (fun R3 M3 I3 hr3 => ?_)) (Nat.le_of_ble_eq_true rfl)
    refine v_X2_checkTold_43_165 ?_
    exact hQ _ I3
  · skip
    have f2 := dSubE (X := x1.toInt) (Y := 3) (x := x1) (y := (3 : Int32)) rfl (by decide) (by omega) (by omega)
    refine Wp.deep (s_X2_checkLaw_43 hG hI (by omega) (fun R3 M3 I3 hr3 => ?_)) (Nat.le_of_ble_eq_true rfl)
    refine v_X2_checkTold_43_165 ?_
    exact hQ _ I3
  · skip
    have f2 := ti_0
    have f3 := ti_2
    refine Wp.deep (s_X2_checkRow_43 hG hI (by omega) (by omega) (fun M4 I4 => ?_)) (Nat.le_of_ble_eq_true rfl)
    refine v_X2_checkTold_43_165 ?_
    exact hQ _ I4
  · skip
    have f2 := ti_0
    have f3 := ti_1
    refine Wp.deep (s_X2_checkRow_43 hG hI (by omega) (by omega) (fun M4 I4 => ?_)) (Nat.le_of_ble_eq_true rfl)
    refine v_X2_checkTold_43_165 ?_
    exact hQ _ I4
  · skip
    have f2 := ti_0
    have f3 := ti_1
    refine Wp.deep (s_X2_checkRow_43 hG hI (by omega) (by omega) (fun M4 I4 => ?_)) (Nat.le_of_ble_eq_true rfl)
    refine v_X2_checkTold_43_165 ?_
    exact hQ _ I4
  · skip
    refine v_X2_checkTold_43_165 ?_
    have I2 : Inv g (dSet m 43 3 (1 : Int32)) := (Inv.setA hI rfl)
    exact hQ _ I2
theorem s_X2_check_43_all {g : gM} {Q : Int32 → dM → Prop} (hG : Gd g) (hQ : ∀ (r : Int32) (m' : dM), Inv g m' → Q r m') : ∀ n : Nat, (∀ (x1 : Int32) (m : dM), Inv g m → (0 ≤ x1.toInt ∧ x1.toInt ≤ 401) → 402 - 1 * x1.toInt < (n : Int) → j_X2_check_43_27 63 x1 m Q) ∧ (∀ (m : dM), Inv g m → 0 < (n : Int) → j_X2_check_43_64 63 m Q) := by
  intro n
  induction n with
  | zero => exact ⟨fun x1 m hI h1 hμ => by exfalso; omega, fun m hI hμ => by exfalso; omega⟩
  | succ n ih =>
    refine ⟨?_, ?_⟩
    · intro x1 m hI h1 hμ
      refine v_X2_check_43_27 ?_
      refine ⟨fun hc1 => ?_, fun hc1 => ?_⟩
      · skip
        exact ih.2 _ hI (by omega)
      · skip
        refine ⟨fun hc2 => ?_, fun hc2 => ?_⟩
        · skip
          exact ih.2 _ hI (by omega)
        · skip
          refine v_X2_kind_43 ?_
          refine ⟨fun hc3 => ?_, fun hc3 => ?_⟩
          · skip
            refine v_X2_kind_43_32 ?_
            have f4 := ti_24
            refine ⟨fun hc5 => ?_, fun hc5 => ?_⟩
            · skip
              exact ih.2 _ hI (by omega)
            · skip
              exfalso; omega
          · skip
            refine ⟨fun hc4 => ?_, fun hc4 => ?_⟩
            · skip
              refine v_X2_kind_43_32 ?_
              have f5 := ti_24
              refine ⟨fun hc6 => ?_, fun hc6 => ?_⟩
              · skip
                exact ih.2 _ hI (by omega)
              · skip
                exfalso; omega
            · skip
              refine ⟨by omega, ?_⟩
              refine ⟨fun hc5 => ?_, fun hc5 => ?_⟩
              · skip
                exact ih.2 _ hI (by omega)
              · skip
                refine v_X2_kind_43 ?_
                refine ⟨fun hc6 => ?_, fun hc6 => ?_⟩
                · skip
                  exfalso; omega
                · skip
                  refine ⟨fun hc7 => ?_, fun hc7 => ?_⟩
                  · skip
                    exfalso; omega
                  · skip
                    refine ⟨by omega, ?_⟩
                    refine Wp.deep (s_X2_checkTold_43 hG hI (fun M8 I8 => ?_)) (Nat.le_of_ble_eq_true rfl)
                    have f9 := dAddE (X := x1.toInt) (Y := 1) (x := x1) (y := (1 : Int32)) rfl (by decide) (by omega) (by omega)
                    exact ih.1 _ _ I8 (by omega) (by omega)
    · intro m hI hμ
      refine v_X2_check_43_64 ?_
      exact hQ _ _ hI
theorem s_X2_check_43 {g : gM} {m : dM} {Q : Int32 → dM → Prop} (hG : Gd g) (hI : Inv g m) (hQ : ∀ (r : Int32) (m' : dM), Inv g m' → Q r m') : c_X2_check_43 63 m Q := by
  refine v_X2_check_43 ?_
  have f1 := ti_0
  have I2 : Inv g (dSet m 43 2 (0 : Int32)) := (Inv.setA hI rfl)
  have I3 : Inv g (dSet (dSet m 43 2 (0 : Int32)) 43 3 (0 : Int32)) := (Inv.setA I2 rfl)
  have I4 : Inv g (dSet (dSet (dSet m 43 2 (0 : Int32)) 43 3 (0 : Int32)) 43 4 (0 : Int32)) := (Inv.setA I3 rfl)
  have I5 : Inv g (dSet (dSet (dSet (dSet m 43 2 (0 : Int32)) 43 3 (0 : Int32)) 43 4 (0 : Int32)) 43 5 (0 : Int32)) := (Inv.setA I4 rfl)
  have I6 : Inv g (dSet (dSet (dSet (dSet (dSet m 43 2 (0 : Int32)) 43 3 (0 : Int32)) 43 4 (0 : Int32)) 43 5 (0 : Int32)) 43 6 (0 : Int32)) := (Inv.setA I5 rfl)
  exact (s_X2_check_43_all hG hQ 404).1 _ _ I6 (by omega) (by omega)
theorem s_X12_copies_70_all {g : gM} {Q : dM → Prop} (hG : Gd g) (hQ : ∀ m' : dM, Inv g m' → Q m') : ∀ n : Nat, (∀ (x1 : Int32) (m : dM), Inv g m → (0 ≤ x1.toInt ∧ x1.toInt ≤ 58) → 58 - 1 * x1.toInt < (n : Int) → j_X12_copies_70_2 21 x1 m Q) := by
  intro n
  induction n with
  | zero => exact fun x1 m hI h1 hμ => by exfalso; omega
  | succ n ih =>
    · intro x1 m hI h1 hμ
      refine v_X12_copies_70_2 ?_
      refine ⟨fun hc1 => ?_, fun hc1 => ?_⟩
      · skip
        have f2 := congrArg Int32.toInt (hI.2 70 18 rfl)
        have f3 := Inv.s hG hI (k := 70) (j := 18) rfl rfl
        refine ⟨by omega, ?_⟩
        have I4 : Inv g (dSet m 70 56 (m.1 94 (m.1 70 18).toNatClampNeg)) := (Inv.setA hI rfl)
        have I5 : Inv g (dSet (dSet m 70 56 (m.1 94 (m.1 70 18).toNatClampNeg)) 70 57 (0 : Int32)) := (Inv.setA I4 rfl)
        refine Wp.deep (s_X12_fillsWays_70 hG I5 (fun M6 I6 => ?_)) (Nat.le_of_ble_eq_true rfl)
        exact hQ _ I6
      · skip
        refine ⟨by omega, ?_⟩
        refine ⟨by omega, ?_⟩
        have f2 := dAddE (X := x1.toInt) (Y := 1) (x := x1) (y := (1 : Int32)) rfl (by decide) (by omega) (by omega)
        have I3 : Inv g (dSet m 108 x1.toNatClampNeg (m.1 107 x1.toNatClampNeg)) := (Inv.setA hI rfl)
        exact ih _ _ I3 (by omega) (by omega)
theorem s_X12_copies_70 {g : gM} {m : dM} {Q : dM → Prop} (hG : Gd g) (hI : Inv g m) (hQ : ∀ m' : dM, Inv g m' → Q m') : c_X12_copies_70 21 m Q := by
  refine v_X12_copies_70 ?_
  have f1 := ti_0
  exact (s_X12_copies_70_all hG hQ 60) _ _ hI (by omega) (by omega)
theorem s_X12_quarrelOf_70 {g : gM} {x1 : Int32} {m : dM} {Q : Int32 → dM → Prop} (hG : Gd g) (hI : Inv g m) (h1 : 0 ≤ x1.toInt ∧ x1.toInt ≤ 6) (hQ : ∀ (r : Int32) (m' : dM), Inv g m' → (0 ≤ r.toInt ∧ r.toInt ≤ 99) → Q r m') : c_X12_quarrelOf_70 21 x1 m Q := by
  refine v_X12_quarrelOf_70 ?_
  have f1 := dRemE (x := (m.1 108 55)) (y := (24 : Int32)) (Y := 24) (by decide) (by decide)
  refine Wp.deep (s_X12_looks_70 hG hI (by omega) (by omega) (fun M2 I2 => ?_)) (Nat.le_of_ble_eq_true rfl)
  have f3 := congrArg Int32.toInt (I2.2 70 18 rfl)
  have f4 := Inv.s hG I2 (k := 70) (j := 18) rfl rfl
  have f5 := dMulE (X := 7) (Y := (M2.1 70 18).toInt) (x := (7 : Int32)) (y := (M2.1 70 18)) (by decide) rfl (by omega) (by omega)
  have f6 := dAddE (X := ((7 : Int32) * (M2.1 70 18)).toInt) (Y := x1.toInt) (x := ((7 : Int32) * (M2.1 70 18))) (y := x1) rfl rfl (by omega) (by omega)
  refine ⟨by omega, ?_⟩
  have f7 := dAddE (X := 40) (Y := x1.toInt) (x := (40 : Int32)) (y := x1) (by decide) rfl (by omega) (by omega)
  refine ⟨by omega, ?_⟩
  have f8 := ti_1
  have f9 := ti_0
  have I10 : Inv g (dSet M2 105 6 (M2.1 81 (((7 : Int32) * (M2.1 70 18)) + x1).toNatClampNeg)) := (Inv.setA I2 rfl)
  have I11 : Inv g (dSet (dSet M2 105 6 (M2.1 81 (((7 : Int32) * (M2.1 70 18)) + x1).toNatClampNeg)) 105 7 (M2.1 108 ((40 : Int32) + x1).toNatClampNeg)) := (Inv.setA I10 rfl)
  refine Wp.deep (s_X12_lawTells_70 hG I11 (by omega) (fun R12 M12 I12 => ?_)) (Nat.le_of_ble_eq_true rfl)
  refine v_X12_within ?_
  refine ⟨fun hc13 => ?_, fun hc13 => ?_⟩
  · skip
    have f14 := ti_99
    refine ⟨fun hc15 => ?_, fun hc15 => ?_⟩
    · skip
      exact hQ _ _ I12 (by omega)
    · skip
      exact hQ _ _ I12 (by omega)
  · skip
    exact hQ _ _ I12 (by omega)
theorem s_X12_flat_70 {g : gM} {x1 : Int32} {x2 : Int32} {m : dM} {Q : Int32 → dM → Prop} (hG : Gd g) (hI : Inv g m) (hQ : ∀ (r : Int32) (m' : dM), Inv g m' → Q r m') : c_X12_flat_70 22 x1 x2 m Q := by
  refine v_X12_flat_70 ?_
  refine v_X12_isFlat_70 ?_
  have f1 := congrArg Int32.toInt (hI.2 70 18 rfl)
  have f2 := Inv.s hG hI (k := 70) (j := 18) rfl rfl
  refine ⟨by omega, ?_⟩
  refine v_X12_in ?_
  have f3 := ti_0
  refine ⟨fun hc4 => ?_, fun hc4 => ?_⟩
  · skip
    refine v_X12_in_14 ?_
    refine ⟨by decide, ?_⟩
    refine ⟨fun hc5 => ?_, fun hc5 => ?_⟩
    · skip
      exfalso; omega
    · skip
      have f6 := ti_m1
      exact hQ _ _ hI
  · skip
    have f5 := Inv.cnt80 hG hI
    have f6 := Inv.s hG hI (k := 80) (j := (m.1 70 18).toNatClampNeg) rfl rfl
    have f7 := dSubE (X := (m.1 80 (m.1 70 18).toNatClampNeg).toInt) (Y := 1) (x := (m.1 80 (m.1 70 18).toNatClampNeg)) (y := (1 : Int32)) rfl (by decide) (by omega) (by omega)
    refine ⟨fun hc8 => ?_, fun hc8 => ?_⟩
    · skip
      refine v_X12_in_14 ?_
      refine ⟨by decide, ?_⟩
      refine ⟨fun hc9 => ?_, fun hc9 => ?_⟩
      · skip
        exfalso; omega
      · skip
        have f10 := ti_m1
        exact hQ _ _ hI
    · skip
      have f9 := ti_1
      refine ⟨by decide, ?_⟩
      refine ⟨fun hc10 => ?_, fun hc10 => ?_⟩
      · skip
        refine Wp.deep (s_X12_copies_70 hG hI (fun M11 I11 => ?_)) (Nat.le_of_ble_eq_true rfl)
        refine ⟨fun hc12 => ?_, fun hc12 => ?_, fun hc12 => ?_, fun hc12 => ?_, fun hc12 => ?_, fun hc12 => ?_, fun hc12 => ?_⟩
        · skip
          have f13 := congrArg Int32.toInt (I11.2 70 18 rfl)
          have f14 := Inv.s hG I11 (k := 70) (j := 18) rfl rfl
          have f15 := dMulE (X := 7) (Y := (M11.1 70 18).toInt) (x := (7 : Int32)) (y := (M11.1 70 18)) (by decide) rfl (by omega) (by omega)
          have f16 := dAddE (X := ((7 : Int32) * (M11.1 70 18)).toInt) (Y := x1.toInt) (x := ((7 : Int32) * (M11.1 70 18))) (y := x1) rfl rfl (by omega) (by omega)
          refine ⟨by omega, ?_⟩
          exact hQ _ _ I11
        · skip
          refine v_X12_isLit_70 ?_
          refine ⟨by omega, ?_⟩
          refine ⟨fun hc13 => ?_, fun hc13 => ?_⟩
          · skip
            refine ⟨fun hc14 => ?_, fun hc14 => ?_⟩
            · skip
              exact hQ _ _ I11
            · skip
              exfalso; omega
          · skip
            refine ⟨fun hc14 => ?_, fun hc14 => ?_⟩
            · skip
              exfalso; omega
            · skip
              exact hQ _ _ I11
        · skip
          have f13 := dAddE (X := 40) (Y := x1.toInt) (x := (40 : Int32)) (y := x1) (by decide) rfl (by omega) (by omega)
          refine ⟨by omega, ?_⟩
          exact hQ _ _ I11
        · skip
          refine v_X12_isLit_70 ?_
          refine ⟨by omega, ?_⟩
          refine ⟨fun hc13 => ?_, fun hc13 => ?_⟩
          · skip
            refine ⟨fun hc14 => ?_, fun hc14 => ?_⟩
            · skip
              have f15 := ti_m2
              exact hQ _ _ I11
            · skip
              exfalso; omega
          · skip
            refine ⟨fun hc14 => ?_, fun hc14 => ?_⟩
            · skip
              exfalso; omega
            · skip
              refine ⟨by omega, ?_⟩
              exact hQ _ _ I11
        · skip
          refine Wp.deep (s_X12_quarrelOf_70 hG I11 (by omega) (fun R13 M13 I13 hr13 => ?_)) (Nat.le_of_ble_eq_true rfl)
          exact hQ _ _ I13
        · skip
          refine Wp.deep (s_X12_ampsOn_70 hG I11 (by omega) (fun R13 => ?_)) (Nat.le_of_ble_eq_true rfl)
          exact hQ _ _ I11
        · skip
          have f13 := ti_m1
          exact hQ _ _ I11
      · skip
        exfalso; omega
theorem s_X12_costsOf_70 {g : gM} {x1 : Int32} {m : dM} {Q : Int32 → dM → Prop} (hG : Gd g) (hI : Inv g m) (h1 : 0 ≤ x1.toInt ∧ x1.toInt ≤ 9) (hQ : ∀ (r : Int32) (m' : dM), Inv g m' → (0 ≤ r.toInt ∧ r.toInt ≤ 99) → Q r m') : c_X12_costsOf_70 21 x1 m Q := by
  refine v_X12_costsOf_70 ?_
  have f1 := dRemE (x := (m.1 108 55)) (y := (24 : Int32)) (Y := 24) (by decide) (by decide)
  refine Wp.deep (s_X12_looks_70 hG hI (by omega) (by omega) (fun M2 I2 => ?_)) (Nat.le_of_ble_eq_true rfl)
  refine ⟨by omega, ?_⟩
  have f3 := dAddE (X := 20) (Y := x1.toInt) (x := (20 : Int32)) (y := x1) (by decide) rfl (by omega) (by omega)
  refine ⟨by omega, ?_⟩
  have f4 := ti_2
  have I5 : Inv g (dSet M2 105 1 (M2.1 108 x1.toNatClampNeg)) := (Inv.setA I2 rfl)
  have I6 : Inv g (dSet (dSet M2 105 1 (M2.1 108 x1.toNatClampNeg)) 105 2 (M2.1 108 ((20 : Int32) + x1).toNatClampNeg)) := (Inv.setA I5 rfl)
  refine Wp.deep (s_X12_lawTells_70 hG I6 (by omega) (fun R7 M7 I7 => ?_)) (Nat.le_of_ble_eq_true rfl)
  refine v_X12_within ?_
  have f8 := ti_0
  refine ⟨fun hc9 => ?_, fun hc9 => ?_⟩
  · skip
    have f10 := ti_99
    refine ⟨fun hc11 => ?_, fun hc11 => ?_⟩
    · skip
      exact hQ _ _ I7 (by omega)
    · skip
      exact hQ _ _ I7 (by omega)
  · skip
    exact hQ _ _ I7 (by omega)
theorem s_X12_doesGo_70 {g : gM} {x1 : Int32} {x2 : Int32} {x3 : Int32} {x4 : Int32} {m : dM} {Q : Int32 → dM → Prop} (hG : Gd g) (hI : Inv g m) (h1 : 0 ≤ x1.toInt ∧ x1.toInt ≤ 9) (h3 : -23 ≤ x3.toInt ∧ x3.toInt ≤ 20046) (hQ : ∀ (r : Int32) (m' : dM), Inv g m' → (0 ≤ r.toInt ∧ r.toInt ≤ 1) → Q r m') : c_X12_doesGo_70 21 x1 x2 x3 x4 m Q := by
  refine v_X12_doesGo_70 ?_
  refine v_X12_isWhole_70 ?_
  refine v_X12_isWire_70 ?_
  have f1 := congrArg Int32.toInt (hI.2 70 18 rfl)
  have f2 := Inv.s hG hI (k := 70) (j := 18) rfl rfl
  refine ⟨by omega, ?_⟩
  refine v_X12_in ?_
  have f3 := ti_0
  refine ⟨fun hc4 => ?_, fun hc4 => ?_⟩
  · skip
    exfalso; omega
  · skip
    have f5 := Inv.cnt82 hG hI
    have f6 := Inv.s hG hI (k := 82) (j := (m.1 70 18).toNatClampNeg) rfl rfl
    have f7 := dSubE (X := (m.1 82 (m.1 70 18).toNatClampNeg).toInt) (Y := 1) (x := (m.1 82 (m.1 70 18).toNatClampNeg)) (y := (1 : Int32)) rfl (by decide) (by omega) (by omega)
    refine ⟨fun hc8 => ?_, fun hc8 => ?_⟩
    · skip
      refine v_X12_in_14 ?_
      refine ⟨by decide, ?_⟩
      refine ⟨fun hc9 => ?_, fun hc9 => ?_⟩
      · skip
        refine v_X12_isWhole_70_24 ?_
        refine ⟨fun hc10 => ?_, fun hc10 => ?_⟩
        · skip
          refine v_X12_doesGo_70_21 ?_
          exact hQ _ _ hI (by omega)
        · skip
          exfalso; omega
      · skip
        exfalso; omega
    · skip
      have f9 := ti_1
      refine ⟨by decide, ?_⟩
      refine ⟨fun hc10 => ?_, fun hc10 => ?_⟩
      · skip
        exfalso; omega
      · skip
        have f11 := dAddE (X := 10) (Y := x1.toInt) (x := (10 : Int32)) (y := x1) (by decide) rfl (by omega) (by omega)
        refine ⟨by omega, ?_⟩
        refine ⟨fun hc12 => ?_, fun hc12 => ?_⟩
        · skip
          refine v_X12_isWhole_70_24 ?_
          refine ⟨fun hc13 => ?_, fun hc13 => ?_⟩
          · skip
            refine v_X12_doesGo_70_21 ?_
            exact hQ _ _ hI (by omega)
          · skip
            exfalso; omega
        · skip
          refine ⟨fun hc13 => ?_, fun hc13 => ?_⟩
          · skip
            exfalso; omega
          · skip
            have f14 := dAddE (X := 30) (Y := x1.toInt) (x := (30 : Int32)) (y := x1) (by decide) rfl (by omega) (by omega)
            refine ⟨by omega, ?_⟩
            refine ⟨fun hc15 => ?_, fun hc15 => ?_⟩
            · skip
              refine Wp.deep (s_X12_loadBy_70 hG hI (by omega) (fun R16 => ?_)) (Nat.le_of_ble_eq_true rfl)
              refine ⟨fun hc17 => ?_, fun hc17 => ?_⟩
              · skip
                refine Wp.deep (s_X12_looks_70 hG hI (by omega) (by omega) (fun M18 I18 => ?_)) (Nat.le_of_ble_eq_true rfl)
                refine ⟨by omega, ?_⟩
                have f19 := dAddE (X := 20) (Y := x1.toInt) (x := (20 : Int32)) (y := x1) (by decide) rfl (by omega) (by omega)
                refine ⟨by omega, ?_⟩
                have I20 : Inv g (dSet M18 105 0 (R16 + x4)) := (Inv.setA I18 rfl)
                have I21 : Inv g (dSet (dSet M18 105 0 (R16 + x4)) 105 1 (M18.1 108 x1.toNatClampNeg)) := (Inv.setA I20 rfl)
                have I22 : Inv g (dSet (dSet (dSet M18 105 0 (R16 + x4)) 105 1 (M18.1 108 x1.toNatClampNeg)) 105 2 (M18.1 108 ((20 : Int32) + x1).toNatClampNeg)) := (Inv.setA I21 rfl)
                refine Wp.deep (s_X12_lawTells_70 hG I22 (by omega) (fun R23 M23 I23 => ?_)) (Nat.le_of_ble_eq_true rfl)
                refine ⟨fun hc24 => ?_, fun hc24 => ?_⟩
                · skip
                  exact hQ _ _ I23 (by omega)
                · skip
                  exact hQ _ _ I23 (by omega)
              · skip
                exact hQ _ _ hI (by omega)
            · skip
              refine v_X12_doesGo_70_21 ?_
              exact hQ _ _ hI (by omega)
theorem s_X12_wire_70 {g : gM} {x1 : Int32} {x2 : Int32} {m : dM} {Q : Int32 → dM → Prop} (hG : Gd g) (hI : Inv g m) (hQ : ∀ (r : Int32) (m' : dM), Inv g m' → Q r m') : c_X12_wire_70 22 x1 x2 m Q := by
  refine v_X12_wire_70 ?_
  refine v_X12_isWire_70 ?_
  have f1 := congrArg Int32.toInt (hI.2 70 18 rfl)
  have f2 := Inv.s hG hI (k := 70) (j := 18) rfl rfl
  refine ⟨by omega, ?_⟩
  refine v_X12_in ?_
  have f3 := ti_0
  refine ⟨fun hc4 => ?_, fun hc4 => ?_⟩
  · skip
    refine v_X12_in_14 ?_
    refine ⟨by decide, ?_⟩
    refine ⟨fun hc5 => ?_, fun hc5 => ?_⟩
    · skip
      exfalso; omega
    · skip
      have f6 := ti_m1
      exact hQ _ _ hI
  · skip
    have f5 := Inv.cnt82 hG hI
    have f6 := Inv.s hG hI (k := 82) (j := (m.1 70 18).toNatClampNeg) rfl rfl
    have f7 := dSubE (X := (m.1 82 (m.1 70 18).toNatClampNeg).toInt) (Y := 1) (x := (m.1 82 (m.1 70 18).toNatClampNeg)) (y := (1 : Int32)) rfl (by decide) (by omega) (by omega)
    refine ⟨fun hc8 => ?_, fun hc8 => ?_⟩
    · skip
      refine v_X12_in_14 ?_
      refine ⟨by decide, ?_⟩
      refine ⟨fun hc9 => ?_, fun hc9 => ?_⟩
      · skip
        exfalso; omega
      · skip
        have f10 := ti_m1
        exact hQ _ _ hI
    · skip
      have f9 := ti_1
      refine ⟨by decide, ?_⟩
      refine ⟨fun hc10 => ?_, fun hc10 => ?_⟩
      · skip
        refine Wp.deep (s_X12_copies_70 hG hI (fun M11 I11 => ?_)) (Nat.le_of_ble_eq_true rfl)
        refine ⟨fun hc12 => ?_, fun hc12 => ?_, fun hc12 => ?_, fun hc12 => ?_, fun hc12 => ?_, fun hc12 => ?_, fun hc12 => ?_, fun hc12 => ?_, fun hc12 => ?_, fun hc12 => ?_⟩
        · skip
          have f13 := congrArg Int32.toInt (I11.2 70 18 rfl)
          have f14 := Inv.s hG I11 (k := 70) (j := 18) rfl rfl
          have f15 := dMulE (X := 10) (Y := (M11.1 70 18).toInt) (x := (10 : Int32)) (y := (M11.1 70 18)) (by decide) rfl (by omega) (by omega)
          have f16 := dAddE (X := ((10 : Int32) * (M11.1 70 18)).toInt) (Y := x1.toInt) (x := ((10 : Int32) * (M11.1 70 18))) (y := x1) rfl rfl (by omega) (by omega)
          refine ⟨by omega, ?_⟩
          have f17 := Inv.cnt82 hG I11
          have f18 := Inv.s hG I11 (k := 82) (j := (M11.1 70 18).toNatClampNeg) rfl rfl
          have f19 := Inv.one hG I11 (u := x1) (by omega) (by omega)
          exact hQ _ _ I11
        · skip
          have f13 := congrArg Int32.toInt (I11.2 70 18 rfl)
          have f14 := Inv.s hG I11 (k := 70) (j := 18) rfl rfl
          have f15 := dMulE (X := 10) (Y := (M11.1 70 18).toInt) (x := (10 : Int32)) (y := (M11.1 70 18)) (by decide) rfl (by omega) (by omega)
          have f16 := dAddE (X := ((10 : Int32) * (M11.1 70 18)).toInt) (Y := x1.toInt) (x := ((10 : Int32) * (M11.1 70 18))) (y := x1) rfl rfl (by omega) (by omega)
          refine ⟨by omega, ?_⟩
          have f17 := Inv.cnt82 hG I11
          have f18 := Inv.s hG I11 (k := 82) (j := (M11.1 70 18).toNatClampNeg) rfl rfl
          have f19 := Inv.two hG I11 (u := x1) (by omega) (by omega)
          exact hQ _ _ I11
        · skip
          refine ⟨by omega, ?_⟩
          exact hQ _ _ I11
        · skip
          have f13 := dAddE (X := 10) (Y := x1.toInt) (x := (10 : Int32)) (y := x1) (by decide) rfl (by omega) (by omega)
          refine ⟨by omega, ?_⟩
          exact hQ _ _ I11
        · skip
          have f13 := dAddE (X := 20) (Y := x1.toInt) (x := (20 : Int32)) (y := x1) (by decide) rfl (by omega) (by omega)
          refine ⟨by omega, ?_⟩
          exact hQ _ _ I11
        · skip
          have f13 := dAddE (X := 30) (Y := x1.toInt) (x := (30 : Int32)) (y := x1) (by decide) rfl (by omega) (by omega)
          refine ⟨by omega, ?_⟩
          exact hQ _ _ I11
        · skip
          refine Wp.deep (s_X12_onNow_70 hG I11 (fun R13 => ?_)) (Nat.le_of_ble_eq_true rfl)
          refine Wp.deep (s_X12_loadBy_70 hG I11 (by omega) (fun R14 => ?_)) (Nat.le_of_ble_eq_true rfl)
          exact hQ _ _ I11
        · skip
          refine Wp.deep (s_X12_costsOf_70 hG I11 (by omega) (fun R13 M13 I13 hr13 => ?_)) (Nat.le_of_ble_eq_true rfl)
          exact hQ _ _ I13
        · skip
          refine Wp.deep (s_X12_onNow_70 hG I11 (fun R13 => ?_)) (Nat.le_of_ble_eq_true rfl)
          have f14 := dRemE (x := (M11.1 108 55)) (y := (24 : Int32)) (Y := 24) (by decide) (by decide)
          refine Wp.deep (s_X12_doesGo_70 hG I11 (by omega) (by omega) (fun R15 M15 I15 hr15 => ?_)) (Nat.le_of_ble_eq_true rfl)
          refine ⟨fun hc16 => ?_, fun hc16 => ?_⟩
          · skip
            exact hQ _ _ I15
          · skip
            exact hQ _ _ I15
        · skip
          have f13 := ti_m1
          exact hQ _ _ I11
      · skip
        exfalso; omega
theorem s_X12_paysOf_70 {g : gM} {x1 : Int32} {m : dM} {Q : Int32 → dM → Prop} (hG : Gd g) (hI : Inv g m) (h1 : 0 ≤ x1.toInt ∧ x1.toInt ≤ 7) (hQ : ∀ (r : Int32) (m' : dM), Inv g m' → (0 ≤ r.toInt ∧ r.toInt ≤ 99) → Q r m') : c_X12_paysOf_70 21 x1 m Q := by
  refine v_X12_paysOf_70 ?_
  have f1 := dRemE (x := (m.1 108 55)) (y := (24 : Int32)) (Y := 24) (by decide) (by decide)
  refine Wp.deep (s_X12_looks_70 hG hI (by omega) (by omega) (fun M2 I2 => ?_)) (Nat.le_of_ble_eq_true rfl)
  refine v_X12_ampsAt_70 ?_
  have f3 := congrArg Int32.toInt (I2.2 70 18 rfl)
  have f4 := Inv.s hG I2 (k := 70) (j := 18) rfl rfl
  have f5 := dMulE (X := 8) (Y := (M2.1 70 18).toInt) (x := (8 : Int32)) (y := (M2.1 70 18)) (by decide) rfl (by omega) (by omega)
  have f6 := dAddE (X := ((8 : Int32) * (M2.1 70 18)).toInt) (Y := x1.toInt) (x := ((8 : Int32) * (M2.1 70 18))) (y := x1) rfl rfl (by omega) (by omega)
  refine ⟨by omega, ?_⟩
  have f7 := ti_3
  have I8 : Inv g (dSet M2 105 5 (M2.1 88 (((8 : Int32) * (M2.1 70 18)) + x1).toNatClampNeg)) := (Inv.setA I2 rfl)
  refine Wp.deep (s_X12_lawTells_70 hG I8 (by omega) (fun R9 M9 I9 => ?_)) (Nat.le_of_ble_eq_true rfl)
  refine v_X12_within ?_
  have f10 := ti_0
  refine ⟨fun hc11 => ?_, fun hc11 => ?_⟩
  · skip
    have f12 := ti_99
    refine ⟨fun hc13 => ?_, fun hc13 => ?_⟩
    · skip
      exact hQ _ _ I9 (by omega)
    · skip
      exact hQ _ _ I9 (by omega)
  · skip
    exact hQ _ _ I9 (by omega)
theorem s_X12_use_70 {g : gM} {x1 : Int32} {x2 : Int32} {m : dM} {Q : Int32 → dM → Prop} (hG : Gd g) (hI : Inv g m) (hQ : ∀ (r : Int32) (m' : dM), Inv g m' → Q r m') : c_X12_use_70 22 x1 x2 m Q := by
  refine v_X12_use_70 ?_
  refine v_X12_isUse_70 ?_
  have f1 := congrArg Int32.toInt (hI.2 70 18 rfl)
  have f2 := Inv.s hG hI (k := 70) (j := 18) rfl rfl
  refine ⟨by omega, ?_⟩
  refine v_X12_in ?_
  have f3 := ti_0
  refine ⟨fun hc4 => ?_, fun hc4 => ?_⟩
  · skip
    refine v_X12_in_14 ?_
    refine ⟨by decide, ?_⟩
    refine ⟨fun hc5 => ?_, fun hc5 => ?_⟩
    · skip
      exfalso; omega
    · skip
      have f6 := ti_m1
      exact hQ _ _ hI
  · skip
    have f5 := Inv.cnt86 hG hI
    have f6 := Inv.s hG hI (k := 86) (j := (m.1 70 18).toNatClampNeg) rfl rfl
    have f7 := dSubE (X := (m.1 86 (m.1 70 18).toNatClampNeg).toInt) (Y := 1) (x := (m.1 86 (m.1 70 18).toNatClampNeg)) (y := (1 : Int32)) rfl (by decide) (by omega) (by omega)
    refine ⟨fun hc8 => ?_, fun hc8 => ?_⟩
    · skip
      refine v_X12_in_14 ?_
      refine ⟨by decide, ?_⟩
      refine ⟨fun hc9 => ?_, fun hc9 => ?_⟩
      · skip
        exfalso; omega
      · skip
        have f10 := ti_m1
        exact hQ _ _ hI
    · skip
      have f9 := ti_1
      refine ⟨by decide, ?_⟩
      refine ⟨fun hc10 => ?_, fun hc10 => ?_⟩
      · skip
        refine Wp.deep (s_X12_copies_70 hG hI (fun M11 I11 => ?_)) (Nat.le_of_ble_eq_true rfl)
        refine ⟨fun hc12 => ?_, fun hc12 => ?_, fun hc12 => ?_, fun hc12 => ?_, fun hc12 => ?_, fun hc12 => ?_, fun hc12 => ?_, fun hc12 => ?_⟩
        · skip
          refine v_X12_flatAt_70 ?_
          have f13 := congrArg Int32.toInt (I11.2 70 18 rfl)
          have f14 := Inv.s hG I11 (k := 70) (j := 18) rfl rfl
          have f15 := dMulE (X := 8) (Y := (M11.1 70 18).toInt) (x := (8 : Int32)) (y := (M11.1 70 18)) (by decide) rfl (by omega) (by omega)
          have f16 := dAddE (X := ((8 : Int32) * (M11.1 70 18)).toInt) (Y := x1.toInt) (x := ((8 : Int32) * (M11.1 70 18))) (y := x1) rfl rfl (by omega) (by omega)
          refine ⟨by omega, ?_⟩
          have f17 := Inv.cnt86 hG I11
          have f18 := Inv.s hG I11 (k := 86) (j := (M11.1 70 18).toNatClampNeg) rfl rfl
          have f19 := Inv.flat hG I11 (u := x1) (by omega) (by omega)
          exact hQ _ _ I11
        · skip
          refine v_X12_ampsAt_70 ?_
          have f13 := congrArg Int32.toInt (I11.2 70 18 rfl)
          have f14 := Inv.s hG I11 (k := 70) (j := 18) rfl rfl
          have f15 := dMulE (X := 8) (Y := (M11.1 70 18).toInt) (x := (8 : Int32)) (y := (M11.1 70 18)) (by decide) rfl (by omega) (by omega)
          have f16 := dAddE (X := ((8 : Int32) * (M11.1 70 18)).toInt) (Y := x1.toInt) (x := ((8 : Int32) * (M11.1 70 18))) (y := x1) rfl rfl (by omega) (by omega)
          refine ⟨by omega, ?_⟩
          exact hQ _ _ I11
        · skip
          have f13 := congrArg Int32.toInt (I11.2 70 18 rfl)
          have f14 := Inv.s hG I11 (k := 70) (j := 18) rfl rfl
          have f15 := dMulE (X := 8) (Y := (M11.1 70 18).toInt) (x := (8 : Int32)) (y := (M11.1 70 18)) (by decide) rfl (by omega) (by omega)
          have f16 := dAddE (X := ((8 : Int32) * (M11.1 70 18)).toInt) (Y := x1.toInt) (x := ((8 : Int32) * (M11.1 70 18))) (y := x1) rfl rfl (by omega) (by omega)
          refine ⟨by omega, ?_⟩
          have f17 := Inv.s hG I11 (k := 89) (j := (((8 : Int32) * (M11.1 70 18)) + x1).toNatClampNeg) rfl rfl
          exact hQ _ _ I11
        · skip
          have f13 := congrArg Int32.toInt (I11.2 70 18 rfl)
          have f14 := Inv.s hG I11 (k := 70) (j := 18) rfl rfl
          have f15 := dMulE (X := 8) (Y := (M11.1 70 18).toInt) (x := (8 : Int32)) (y := (M11.1 70 18)) (by decide) rfl (by omega) (by omega)
          have f16 := dAddE (X := ((8 : Int32) * (M11.1 70 18)).toInt) (Y := x1.toInt) (x := ((8 : Int32) * (M11.1 70 18))) (y := x1) rfl rfl (by omega) (by omega)
          refine ⟨by omega, ?_⟩
          have f17 := Inv.s hG I11 (k := 90) (j := (((8 : Int32) * (M11.1 70 18)) + x1).toNatClampNeg) rfl rfl
          exact hQ _ _ I11
        · skip
          have f13 := dAddE (X := 47) (Y := x1.toInt) (x := (47 : Int32)) (y := x1) (by decide) rfl (by omega) (by omega)
          refine ⟨by omega, ?_⟩
          exact hQ _ _ I11
        · skip
          refine Wp.deep (s_X12_onNow_70 hG I11 (fun R13 => ?_)) (Nat.le_of_ble_eq_true rfl)
          have f14 := dAndE (x := (R13 >>> (x1 &&& 31))) (y := (1 : Int32)) (by decide)
          exact hQ _ _ I11
        · skip
          refine Wp.deep (s_X12_paysOf_70 hG I11 (by omega) (fun R13 M13 I13 hr13 => ?_)) (Nat.le_of_ble_eq_true rfl)
          exact hQ _ _ I13
        · skip
          have f13 := ti_m1
          exact hQ _ _ I11
      · skip
        exfalso; omega
theorem s_X12_agree_70 {g : gM} {x1 : Int32} {x2 : Int32} {m : dM} {Q : Int32 → dM → Prop} (hG : Gd g) (hI : Inv g m) (h2 : 0 ≤ x2.toInt ∧ x2.toInt ≤ 1) (hQ : ∀ (r : Int32) (m' : dM), Inv g m' → (0 ≤ r.toInt ∧ r.toInt ≤ 1) → Q r m') : c_X12_agree_70 22 x1 x2 m Q := by
  refine v_X12_agree_70 ?_
  refine v_X12_isUse_70 ?_
  have f1 := congrArg Int32.toInt (hI.2 70 18 rfl)
  have f2 := Inv.s hG hI (k := 70) (j := 18) rfl rfl
  refine ⟨by omega, ?_⟩
  refine v_X12_in ?_
  have f3 := ti_0
  refine ⟨fun hc4 => ?_, fun hc4 => ?_⟩
  · skip
    refine v_X12_in_14 ?_
    refine ⟨by decide, ?_⟩
    refine ⟨fun hc5 => ?_, fun hc5 => ?_⟩
    · skip
      refine v_X12_agree_70_30 ?_
      exact hQ _ _ hI (by omega)
    · skip
      exfalso; omega
  · skip
    have f5 := Inv.cnt86 hG hI
    have f6 := Inv.s hG hI (k := 86) (j := (m.1 70 18).toNatClampNeg) rfl rfl
    have f7 := dSubE (X := (m.1 86 (m.1 70 18).toNatClampNeg).toInt) (Y := 1) (x := (m.1 86 (m.1 70 18).toNatClampNeg)) (y := (1 : Int32)) rfl (by decide) (by omega) (by omega)
    refine ⟨fun hc8 => ?_, fun hc8 => ?_⟩
    · skip
      refine v_X12_in_14 ?_
      refine ⟨by decide, ?_⟩
      refine ⟨fun hc9 => ?_, fun hc9 => ?_⟩
      · skip
        refine v_X12_agree_70_30 ?_
        exact hQ _ _ hI (by omega)
      · skip
        exfalso; omega
    · skip
      have f9 := ti_1
      refine ⟨by decide, ?_⟩
      refine ⟨fun hc10 => ?_, fun hc10 => ?_⟩
      · skip
        exfalso; omega
      · skip
        have f11 := dAddE (X := 47) (Y := x1.toInt) (x := (47 : Int32)) (y := x1) (by decide) rfl (by omega) (by omega)
        refine ⟨by omega, ?_⟩
        refine ⟨fun hc12 => ?_, fun hc12 => ?_⟩
        · skip
          refine ⟨fun hc13 => ?_, fun hc13 => ?_⟩
          · skip
            refine Wp.deep (s_X12_copies_70 hG hI (fun M14 I14 => ?_)) (Nat.le_of_ble_eq_true rfl)
            refine ⟨fun hc15 => ?_, fun hc15 => ?_⟩
            · skip
              exfalso; omega
            · skip
              refine ⟨by omega, ?_⟩
              have I16 : Inv g (dSet M14 108 ((47 : Int32) + x1).toNatClampNeg (1 : Int32)) := (Inv.setA I14 rfl)
              refine Wp.deep (s_X12_records_70 hG I16 (fun M17 I17 => ?_)) (Nat.le_of_ble_eq_true rfl)
              exact hQ _ _ I17 (by omega)
          · skip
            refine v_X12_agree_70_30 ?_
            exact hQ _ _ hI (by omega)
        · skip
          refine ⟨fun hc13 => ?_, fun hc13 => ?_⟩
          · skip
            refine Wp.deep (s_X12_copies_70 hG hI (fun M14 I14 => ?_)) (Nat.le_of_ble_eq_true rfl)
            refine ⟨fun hc15 => ?_, fun hc15 => ?_⟩
            · skip
              refine ⟨by omega, ?_⟩
              have I16 : Inv g (dSet M14 108 ((47 : Int32) + x1).toNatClampNeg (0 : Int32)) := (Inv.setA I14 rfl)
              refine Wp.deep (s_X12_records_70 hG I16 (fun M17 I17 => ?_)) (Nat.le_of_ble_eq_true rfl)
              exact hQ _ _ I17 (by omega)
            · skip
              exfalso; omega
          · skip
            refine v_X12_agree_70_30 ?_
            exact hQ _ _ hI (by omega)
theorem s_X12_mend_70 {g : gM} {x1 : Int32} {m : dM} {Q : Int32 → dM → Prop} (hG : Gd g) (hI : Inv g m) (hQ : ∀ (r : Int32) (m' : dM), Inv g m' → Q r m') : c_X12_mend_70 22 x1 m Q := by
  refine v_X12_mend_70 ?_
  refine v_X12_isWire_70 ?_
  have f1 := congrArg Int32.toInt (hI.2 70 18 rfl)
  have f2 := Inv.s hG hI (k := 70) (j := 18) rfl rfl
  refine ⟨by omega, ?_⟩
  refine v_X12_in ?_
  have f3 := ti_0
  refine ⟨fun hc4 => ?_, fun hc4 => ?_⟩
  · skip
    refine v_X12_in_14 ?_
    refine ⟨by decide, ?_⟩
    refine ⟨fun hc5 => ?_, fun hc5 => ?_⟩
    · skip
      exfalso; omega
    · skip
      have f6 := ti_m1
      exact hQ _ _ hI
  · skip
    have f5 := Inv.cnt82 hG hI
    have f6 := Inv.s hG hI (k := 82) (j := (m.1 70 18).toNatClampNeg) rfl rfl
    have f7 := dSubE (X := (m.1 82 (m.1 70 18).toNatClampNeg).toInt) (Y := 1) (x := (m.1 82 (m.1 70 18).toNatClampNeg)) (y := (1 : Int32)) rfl (by decide) (by omega) (by omega)
    refine ⟨fun hc8 => ?_, fun hc8 => ?_⟩
    · skip
      refine v_X12_in_14 ?_
      refine ⟨by decide, ?_⟩
      refine ⟨fun hc9 => ?_, fun hc9 => ?_⟩
      · skip
        exfalso; omega
      · skip
        have f10 := ti_m1
        exact hQ _ _ hI
    · skip
      have f9 := ti_1
      refine ⟨by decide, ?_⟩
      refine ⟨fun hc10 => ?_, fun hc10 => ?_⟩
      · skip
        refine Wp.deep (s_X12_copies_70 hG hI (fun M11 I11 => ?_)) (Nat.le_of_ble_eq_true rfl)
        have f12 := dAddE (X := 10) (Y := x1.toInt) (x := (10 : Int32)) (y := x1) (by decide) rfl (by omega) (by omega)
        refine ⟨by omega, ?_⟩
        refine ⟨fun hc13 => ?_, fun hc13 => ?_⟩
        · skip
          refine v_X12_mend_70_41 ?_
          have f14 := ti_m2
          exact hQ _ _ I11
        · skip
          refine Wp.deep (s_X12_costsOf_70 hG I11 (by omega) (fun R14 M14 I14 hr14 => ?_)) (Nat.le_of_ble_eq_true rfl)
          refine ⟨fun hc15 => ?_, fun hc15 => ?_⟩
          · skip
            refine Wp.deep (s_X12_costsOf_70 hG I14 (by omega) (fun R16 M16 I16 hr16 => ?_)) (Nat.le_of_ble_eq_true rfl)
            refine ⟨by omega, ?_⟩
            have f17 := dAddE (X := 20) (Y := x1.toInt) (x := (20 : Int32)) (y := x1) (by decide) rfl (by omega) (by omega)
            refine ⟨by omega, ?_⟩
            have f18 := dAddE (X := 30) (Y := x1.toInt) (x := (30 : Int32)) (y := x1) (by decide) rfl (by omega) (by omega)
            refine ⟨by omega, ?_⟩
            have I19 : Inv g (dSet M16 108 56 ((M14.1 108 56) - R16)) := (Inv.setA I16 rfl)
            have I20 : Inv g (dSet (dSet M16 108 56 ((M14.1 108 56) - R16)) 108 ((10 : Int32) + x1).toNatClampNeg (0 : Int32)) := (Inv.setA I19 rfl)
            have I21 : Inv g (dSet (dSet (dSet M16 108 56 ((M14.1 108 56) - R16)) 108 ((10 : Int32) + x1).toNatClampNeg (0 : Int32)) 108 ((20 : Int32) + x1).toNatClampNeg (0 : Int32)) := (Inv.setA I20 rfl)
            have I22 : Inv g (dSet (dSet (dSet (dSet M16 108 56 ((M14.1 108 56) - R16)) 108 ((10 : Int32) + x1).toNatClampNeg (0 : Int32)) 108 ((20 : Int32) + x1).toNatClampNeg (0 : Int32)) 108 ((30 : Int32) + x1).toNatClampNeg (0 : Int32)) := (Inv.setA I21 rfl)
            refine Wp.deep (s_X12_records_70 hG I22 (fun M23 I23 => ?_)) (Nat.le_of_ble_eq_true rfl)
            exact hQ _ _ I23
          · skip
            refine v_X12_mend_70_41 ?_
            have f16 := ti_m2
            exact hQ _ _ I14
      · skip
        exfalso; omega
theorem s_X12_thicken_70 {g : gM} {x1 : Int32} {m : dM} {Q : Int32 → dM → Prop} (hG : Gd g) (hI : Inv g m) (hQ : ∀ (r : Int32) (m' : dM), Inv g m' → Q r m') : c_X12_thicken_70 22 x1 m Q := by
  refine v_X12_thicken_70 ?_
  refine v_X12_isWire_70 ?_
  have f1 := congrArg Int32.toInt (hI.2 70 18 rfl)
  have f2 := Inv.s hG hI (k := 70) (j := 18) rfl rfl
  refine ⟨by omega, ?_⟩
  refine v_X12_in ?_
  have f3 := ti_0
  refine ⟨fun hc4 => ?_, fun hc4 => ?_⟩
  · skip
    refine v_X12_in_14 ?_
    refine ⟨by decide, ?_⟩
    refine ⟨fun hc5 => ?_, fun hc5 => ?_⟩
    · skip
      exfalso; omega
    · skip
      have f6 := ti_m1
      exact hQ _ _ hI
  · skip
    have f5 := Inv.cnt82 hG hI
    have f6 := Inv.s hG hI (k := 82) (j := (m.1 70 18).toNatClampNeg) rfl rfl
    have f7 := dSubE (X := (m.1 82 (m.1 70 18).toNatClampNeg).toInt) (Y := 1) (x := (m.1 82 (m.1 70 18).toNatClampNeg)) (y := (1 : Int32)) rfl (by decide) (by omega) (by omega)
    refine ⟨fun hc8 => ?_, fun hc8 => ?_⟩
    · skip
      refine v_X12_in_14 ?_
      refine ⟨by decide, ?_⟩
      refine ⟨fun hc9 => ?_, fun hc9 => ?_⟩
      · skip
        exfalso; omega
      · skip
        have f10 := ti_m1
        exact hQ _ _ hI
    · skip
      have f9 := ti_1
      refine ⟨by decide, ?_⟩
      refine ⟨fun hc10 => ?_, fun hc10 => ?_⟩
      · skip
        refine Wp.deep (s_X12_copies_70 hG hI (fun M11 I11 => ?_)) (Nat.le_of_ble_eq_true rfl)
        have f12 := dAddE (X := 10) (Y := x1.toInt) (x := (10 : Int32)) (y := x1) (by decide) rfl (by omega) (by omega)
        refine ⟨by omega, ?_⟩
        refine ⟨fun hc13 => ?_, fun hc13 => ?_⟩
        · skip
          refine v_X12_thicken_70_53 ?_
          have f14 := ti_m2
          exact hQ _ _ I11
        · skip
          refine ⟨by omega, ?_⟩
          refine ⟨fun hc14 => ?_, fun hc14 => ?_⟩
          · skip
            refine v_X12_thicken_70_53 ?_
            have f15 := ti_m2
            exact hQ _ _ I11
          · skip
            refine Wp.deep (s_X12_costsOf_70 hG I11 (by omega) (fun R15 M15 I15 hr15 => ?_)) (Nat.le_of_ble_eq_true rfl)
            refine ⟨fun hc16 => ?_, fun hc16 => ?_⟩
            · skip
              refine Wp.deep (s_X12_costsOf_70 hG I15 (by omega) (fun R17 M17 I17 hr17 => ?_)) (Nat.le_of_ble_eq_true rfl)
              refine ⟨by omega, ?_⟩
              refine ⟨by omega, ?_⟩
              have I18 : Inv g (dSet M17 108 56 ((M15.1 108 56) - R17)) := (Inv.setA I17 rfl)
              have I19 : Inv g (dSet (dSet M17 108 56 ((M15.1 108 56) - R17)) 108 x1.toNatClampNeg (((dSet M17 108 56 ((M15.1 108 56) - R17)).1 108 x1.toNatClampNeg) + (1 : Int32))) := (Inv.setA I18 rfl)
              refine Wp.deep (s_X12_records_70 hG I19 (fun M20 I20 => ?_)) (Nat.le_of_ble_eq_true rfl)
              exact hQ _ _ I20
            · skip
              refine v_X12_thicken_70_53 ?_
              have f17 := ti_m2
              exact hQ _ _ I15
      · skip
        exfalso; omega
end
section
theorem s_X12_pin_70 {g : gM} {x1 : Int32} {x2 : Int32} {m : dM} {Q : Int32 → dM → Prop} (hG : Gd g) (hI : Inv g m) (h2 : 0 ≤ x2.toInt ∧ x2.toInt ≤ 1) (hQ : ∀ (r : Int32) (m' : dM), Inv g m' → (0 ≤ r.toInt ∧ r.toInt ≤ 1) → Q r m') : c_X12_pin_70 22 x1 x2 m Q := by
  refine v_X12_pin_70 ?_
  refine v_X12_isWire_70 ?_
  have f1 := congrArg Int32.toInt (hI.2 70 18 rfl)
  have f2 := Inv.s hG hI (k := 70) (j := 18) rfl rfl
  refine ⟨by omega, ?_⟩
  refine v_X12_in ?_
  have f3 := ti_0
  refine ⟨fun hc4 => ?_, fun hc4 => ?_⟩
  · skip
    refine v_X12_in_14 ?_
    refine ⟨by decide, ?_⟩
    refine ⟨fun hc5 => ?_, fun hc5 => ?_⟩
    · skip
      refine v_X12_pin_70_43 ?_
      exact hQ _ _ hI (by omega)
    · skip
      exfalso; omega
  · skip
    have f5 := Inv.cnt82 hG hI
    have f6 := Inv.s hG hI (k := 82) (j := (m.1 70 18).toNatClampNeg) rfl rfl
    have f7 := dSubE (X := (m.1 82 (m.1 70 18).toNatClampNeg).toInt) (Y := 1) (x := (m.1 82 (m.1 70 18).toNatClampNeg)) (y := (1 : Int32)) rfl (by decide) (by omega) (by omega)
    refine ⟨fun hc8 => ?_, fun hc8 => ?_⟩
    · skip
      refine v_X12_in_14 ?_
      refine ⟨by decide, ?_⟩
      refine ⟨fun hc9 => ?_, fun hc9 => ?_⟩
      · skip
        refine v_X12_pin_70_43 ?_
        exact hQ _ _ hI (by omega)
      · skip
        exfalso; omega
    · skip
      have f9 := ti_1
      refine ⟨by decide, ?_⟩
      refine ⟨fun hc10 => ?_, fun hc10 => ?_⟩
      · skip
        exfalso; omega
      · skip
        have f11 := dAddE (X := 10) (Y := x1.toInt) (x := (10 : Int32)) (y := x1) (by decide) rfl (by omega) (by omega)
        refine ⟨by omega, ?_⟩
        refine ⟨fun hc12 => ?_, fun hc12 => ?_⟩
        · skip
          refine v_X12_pin_70_43 ?_
          exact hQ _ _ hI (by omega)
        · skip
          have f13 := dAddE (X := 30) (Y := x1.toInt) (x := (30 : Int32)) (y := x1) (by decide) rfl (by omega) (by omega)
          refine ⟨by omega, ?_⟩
          refine ⟨fun hc14 => ?_, fun hc14 => ?_⟩
          · skip
            refine ⟨fun hc15 => ?_, fun hc15 => ?_⟩
            · skip
              refine Wp.deep (s_X12_copies_70 hG hI (fun M16 I16 => ?_)) (Nat.le_of_ble_eq_true rfl)
              refine ⟨fun hc17 => ?_, fun hc17 => ?_⟩
              · skip
                exfalso; omega
              · skip
                refine ⟨by omega, ?_⟩
                have I18 : Inv g (dSet M16 108 ((30 : Int32) + x1).toNatClampNeg (1 : Int32)) := (Inv.setA I16 rfl)
                refine Wp.deep (s_X12_records_70 hG I18 (fun M19 I19 => ?_)) (Nat.le_of_ble_eq_true rfl)
                exact hQ _ _ I19 (by omega)
            · skip
              refine v_X12_pin_70_43 ?_
              exact hQ _ _ hI (by omega)
          · skip
            refine ⟨fun hc15 => ?_, fun hc15 => ?_⟩
            · skip
              refine Wp.deep (s_X12_copies_70 hG hI (fun M16 I16 => ?_)) (Nat.le_of_ble_eq_true rfl)
              refine ⟨fun hc17 => ?_, fun hc17 => ?_⟩
              · skip
                refine ⟨by omega, ?_⟩
                have I18 : Inv g (dSet M16 108 ((30 : Int32) + x1).toNatClampNeg (0 : Int32)) := (Inv.setA I16 rfl)
                refine Wp.deep (s_X12_records_70 hG I18 (fun M19 I19 => ?_)) (Nat.le_of_ble_eq_true rfl)
                exact hQ _ _ I19 (by omega)
              · skip
                exfalso; omega
            · skip
              refine v_X12_pin_70_43 ?_
              exact hQ _ _ hI (by omega)
theorem s_X12_goingBits_70_all {g : gM} {Q : Int32 → dM → Prop} (hG : Gd g) (hQ : ∀ (r : Int32) (m' : dM), Inv g m' → Q r m') : ∀ n : Nat, (∀ (x1 : Int32) (x2 : Int32) (x3 : Int32) (x4 : Int32) (x5 : Int32) (m : dM), Inv g m → (-23 ≤ x2.toInt ∧ x2.toInt ≤ 20046) → (0 ≤ x5.toInt ∧ x5.toInt ≤ 10) → 21 - 2 * x5.toInt < (n : Int) → j_X12_goingBits_70_6 22 x1 x2 x3 x4 x5 m Q) ∧ (∀ (x1 : Int32) (x2 : Int32) (x3 : Int32) (x4 : Int32) (x5 : Int32) (m : dM), Inv g m → (-23 ≤ x2.toInt ∧ x2.toInt ≤ 20046) → (0 ≤ x5.toInt ∧ x5.toInt ≤ 9) → 20 - 2 * x5.toInt < (n : Int) → j_X12_goingBits_70_41 22 x1 x2 x3 x4 x5 m Q) := by
  intro n
  induction n with
  | zero => exact ⟨fun x1 x2 x3 x4 x5 m hI h2 h5 hμ => by exfalso; omega, fun x1 x2 x3 x4 x5 m hI h2 h5 hμ => by exfalso; omega⟩
  | succ n ih =>
    refine ⟨?_, ?_⟩
    · intro x1 x2 x3 x4 x5 m hI h2 h5 hμ
      refine v_X12_goingBits_70_6 ?_
      have f1 := congrArg Int32.toInt (hI.2 70 18 rfl)
      have f2 := Inv.s hG hI (k := 70) (j := 18) rfl rfl
      refine ⟨by omega, ?_⟩
      have f3 := Inv.cnt82 hG hI
      have f4 := Inv.s hG hI (k := 82) (j := (m.1 70 18).toNatClampNeg) rfl rfl
      refine ⟨fun hc5 => ?_, fun hc5 => ?_⟩
      · skip
        exact hQ _ _ hI
      · skip
        refine Wp.deep (s_X12_doesGo_70 hG hI (by omega) (by omega) (fun R6 M6 I6 hr6 => ?_)) (Nat.le_of_ble_eq_true rfl)
        refine ⟨fun hc7 => ?_, fun hc7 => ?_⟩
        · skip
          exact ih.2 _ _ _ _ _ _ I6 (by omega) (by omega) (by omega)
        · skip
          have f8 := dShl10 (x := x5) (by omega) (by omega)
          exact ih.2 _ _ _ _ _ _ I6 (by omega) (by omega) (by omega)
    · intro x1 x2 x3 x4 x5 m hI h2 h5 hμ
      refine v_X12_goingBits_70_41 ?_
      have f1 := dAddE (X := x5.toInt) (Y := 1) (x := x5) (y := (1 : Int32)) rfl (by decide) (by omega) (by omega)
      exact ih.1 _ _ _ _ _ _ hI (by omega) (by omega) (by omega)
theorem s_X12_goingBits_70 {g : gM} {x1 : Int32} {x2 : Int32} {x3 : Int32} {m : dM} {Q : Int32 → dM → Prop} (hG : Gd g) (hI : Inv g m) (h2 : -23 ≤ x2.toInt ∧ x2.toInt ≤ 20046) (hQ : ∀ (r : Int32) (m' : dM), Inv g m' → Q r m') : c_X12_goingBits_70 22 x1 x2 x3 m Q := by
  refine v_X12_goingBits_70 ?_
  have f1 := ti_0
  exact (s_X12_goingBits_70_all hG hQ 23).1 _ _ _ _ _ _ hI (by omega) (by omega) (by omega)
theorem s_X12_paysAll_70_all {g : gM} {Q : Int32 → dM → Prop} (hG : Gd g) (hQ : ∀ (r : Int32) (m' : dM), Inv g m' → Q r m') : ∀ n : Nat, (∀ (x1 : Int32) (x2 : Int32) (x3 : Int32) (m : dM), Inv g m → (0 ≤ x3.toInt ∧ x3.toInt ≤ 8) → 17 - 2 * x3.toInt < (n : Int) → j_X12_paysAll_70_4 22 x1 x2 x3 m Q) ∧ (∀ (x1 : Int32) (x2 : Int32) (x3 : Int32) (m : dM), Inv g m → (0 ≤ x3.toInt ∧ x3.toInt ≤ 7) → 16 - 2 * x3.toInt < (n : Int) → j_X12_paysAll_70_34 22 x1 x2 x3 m Q) := by
  intro n
  induction n with
  | zero => exact ⟨fun x1 x2 x3 m hI h3 hμ => by exfalso; omega, fun x1 x2 x3 m hI h3 hμ => by exfalso; omega⟩
  | succ n ih =>
    refine ⟨?_, ?_⟩
    · intro x1 x2 x3 m hI h3 hμ
      refine v_X12_paysAll_70_4 ?_
      have f1 := congrArg Int32.toInt (hI.2 70 18 rfl)
      have f2 := Inv.s hG hI (k := 70) (j := 18) rfl rfl
      refine ⟨by omega, ?_⟩
      have f3 := Inv.cnt86 hG hI
      have f4 := Inv.s hG hI (k := 86) (j := (m.1 70 18).toNatClampNeg) rfl rfl
      refine ⟨fun hc5 => ?_, fun hc5 => ?_⟩
      · skip
        exact hQ _ _ hI
      · skip
        have f6 := ti_1
        have f7 := dAndE (x := (x1 >>> (x3 &&& 31))) (y := (1 : Int32)) (by decide)
        refine ⟨fun hc8 => ?_, fun hc8 => ?_⟩
        · skip
          exact ih.2 _ _ _ _ hI (by omega) (by omega)
        · skip
          refine Wp.deep (s_X12_paysOf_70 hG hI (by omega) (fun R9 M9 I9 hr9 => ?_)) (Nat.le_of_ble_eq_true rfl)
          exact ih.2 _ _ _ _ I9 (by omega) (by omega)
    · intro x1 x2 x3 m hI h3 hμ
      refine v_X12_paysAll_70_34 ?_
      have f1 := dAddE (X := x3.toInt) (Y := 1) (x := x3) (y := (1 : Int32)) rfl (by decide) (by omega) (by omega)
      exact ih.1 _ _ _ _ hI (by omega) (by omega)
theorem s_X12_paysAll_70 {g : gM} {x1 : Int32} {m : dM} {Q : Int32 → dM → Prop} (hG : Gd g) (hI : Inv g m) (hQ : ∀ (r : Int32) (m' : dM), Inv g m' → Q r m') : c_X12_paysAll_70 22 x1 m Q := by
  refine v_X12_paysAll_70 ?_
  have f1 := ti_0
  exact (s_X12_paysAll_70_all hG hQ 19).1 _ _ _ _ hI (by omega) (by omega)
theorem s_X12_quarrelsAll_70_all {g : gM} {Q : Int32 → dM → Prop} (hG : Gd g) (hQ : ∀ (r : Int32) (m' : dM), Inv g m' → Q r m') : ∀ n : Nat, (∀ (x1 : Int32) (x2 : Int32) (m : dM), Inv g m → (0 ≤ x2.toInt ∧ x2.toInt ≤ 7) → 15 - 2 * x2.toInt < (n : Int) → j_X12_quarrelsAll_70_4 22 x1 x2 m Q) ∧ (∀ (x1 : Int32) (x2 : Int32) (m : dM), Inv g m → (0 ≤ x2.toInt ∧ x2.toInt ≤ 6) → 14 - 2 * x2.toInt < (n : Int) → j_X12_quarrelsAll_70_33 22 x1 x2 m Q) := by
  intro n
  induction n with
  | zero => exact ⟨fun x1 x2 m hI h2 hμ => by exfalso; omega, fun x1 x2 m hI h2 hμ => by exfalso; omega⟩
  | succ n ih =>
    refine ⟨?_, ?_⟩
    · intro x1 x2 m hI h2 hμ
      refine v_X12_quarrelsAll_70_4 ?_
      have f1 := congrArg Int32.toInt (hI.2 70 18 rfl)
      have f2 := Inv.s hG hI (k := 70) (j := 18) rfl rfl
      refine ⟨by omega, ?_⟩
      have f3 := Inv.cnt80 hG hI
      have f4 := Inv.s hG hI (k := 80) (j := (m.1 70 18).toNatClampNeg) rfl rfl
      refine ⟨fun hc5 => ?_, fun hc5 => ?_⟩
      · skip
        exact hQ _ _ hI
      · skip
        refine v_X12_isLit_70 ?_
        refine ⟨by omega, ?_⟩
        refine ⟨fun hc6 => ?_, fun hc6 => ?_⟩
        · skip
          have f7 := ti_0
          refine ⟨fun hc8 => ?_, fun hc8 => ?_⟩
          · skip
            exfalso; omega
          · skip
            refine Wp.deep (s_X12_quarrelOf_70 hG hI (by omega) (fun R9 M9 I9 hr9 => ?_)) (Nat.le_of_ble_eq_true rfl)
            exact ih.2 _ _ _ I9 (by omega) (by omega)
        · skip
          have f7 := ti_1
          refine ⟨fun hc8 => ?_, fun hc8 => ?_⟩
          · skip
            exact ih.2 _ _ _ hI (by omega) (by omega)
          · skip
            exfalso; omega
    · intro x1 x2 m hI h2 hμ
      refine v_X12_quarrelsAll_70_33 ?_
      have f1 := dAddE (X := x2.toInt) (Y := 1) (x := x2) (y := (1 : Int32)) rfl (by decide) (by omega) (by omega)
      exact ih.1 _ _ _ hI (by omega) (by omega)
theorem s_X12_quarrelsAll_70 {g : gM} {m : dM} {Q : Int32 → dM → Prop} (hG : Gd g) (hI : Inv g m) (hQ : ∀ (r : Int32) (m' : dM), Inv g m' → Q r m') : c_X12_quarrelsAll_70 22 m Q := by
  refine v_X12_quarrelsAll_70 ?_
  have f1 := ti_0
  exact (s_X12_quarrelsAll_70_all hG hQ 17).1 _ _ _ hI (by omega) (by omega)
theorem s_X12_hourGoes_70_all {g : gM} {Q : dM → Prop} (hG : Gd g) (hQ : ∀ m' : dM, Inv g m' → Q m') : ∀ n : Nat, (∀ (x4 : Int32) (m : dM), Inv g m → (0 ≤ x4.toInt ∧ x4.toInt ≤ 7) → 30 - 1 * x4.toInt < (n : Int) → j_X12_hourGoes_70_111 23 x4 m Q) ∧ (∀ (x4 : Int32) (m : dM), Inv g m → (0 ≤ x4.toInt ∧ x4.toInt ≤ 10) → 22 - 2 * x4.toInt < (n : Int) → j_X12_hourGoes_70_169 23 x4 m Q) ∧ (∀ (x4 : Int32) (m : dM), Inv g m → (0 ≤ x4.toInt ∧ x4.toInt ≤ 9) → 21 - 2 * x4.toInt < (n : Int) → j_X12_hourGoes_70_256 23 x4 m Q) ∧ (∀ (m : dM), Inv g m → 0 < (n : Int) → j_X12_hourGoes_70_284 23 m Q) := by
  intro n
  induction n with
  | zero => exact ⟨fun x4 m hI h4 hμ => by exfalso; omega, fun x4 m hI h4 hμ => by exfalso; omega, fun x4 m hI h4 hμ => by exfalso; omega, fun m hI hμ => by exfalso; omega⟩
  | succ n ih =>
    refine ⟨?_, ?_, ?_, ?_⟩
    · intro x4 m hI h4 hμ
      refine v_X12_hourGoes_70_111 ?_
      have f1 := congrArg Int32.toInt (hI.2 70 18 rfl)
      have f2 := Inv.s hG hI (k := 70) (j := 18) rfl rfl
      refine ⟨by omega, ?_⟩
      have f3 := Inv.cnt80 hG hI
      have f4 := Inv.s hG hI (k := 80) (j := (m.1 70 18).toNatClampNeg) rfl rfl
      refine ⟨fun hc5 => ?_, fun hc5 => ?_⟩
      · skip
        have f6 := ti_0
        exact ih.2.1 _ _ hI (by omega) (by omega)
      · skip
        refine v_X12_isLit_70 ?_
        refine ⟨by omega, ?_⟩
        refine ⟨fun hc6 => ?_, fun hc6 => ?_⟩
        · skip
          have f7 := ti_0
          refine ⟨fun hc8 => ?_, fun hc8 => ?_⟩
          · skip
            have f9 := dAddE (X := 40) (Y := x4.toInt) (x := (40 : Int32)) (y := x4) (by decide) rfl (by omega) (by omega)
            refine ⟨by omega, ?_⟩
            refine ⟨by omega, ?_⟩
            have f10 := dAddE (X := x4.toInt) (Y := 1) (x := x4) (y := (1 : Int32)) rfl (by decide) (by omega) (by omega)
            have I11 : Inv g (dSet m 108 ((40 : Int32) + x4).toNatClampNeg ((m.1 108 ((40 : Int32) + x4).toNatClampNeg) + (1 : Int32))) := (Inv.setA hI rfl)
            exact ih.1 _ _ I11 (by omega) (by omega)
          · skip
            exfalso; omega
        · skip
          have f7 := ti_1
          refine ⟨fun hc8 => ?_, fun hc8 => ?_⟩
          · skip
            exfalso; omega
          · skip
            have f9 := dAddE (X := 40) (Y := x4.toInt) (x := (40 : Int32)) (y := x4) (by decide) rfl (by omega) (by omega)
            refine ⟨by omega, ?_⟩
            have f10 := dAddE (X := x4.toInt) (Y := 1) (x := x4) (y := (1 : Int32)) rfl (by decide) (by omega) (by omega)
            have I11 : Inv g (dSet m 108 ((40 : Int32) + x4).toNatClampNeg (0 : Int32)) := (Inv.setA hI rfl)
            exact ih.1 _ _ I11 (by omega) (by omega)
    · intro x4 m hI h4 hμ
      refine v_X12_hourGoes_70_169 ?_
      have f1 := congrArg Int32.toInt (hI.2 70 18 rfl)
      have f2 := Inv.s hG hI (k := 70) (j := 18) rfl rfl
      refine ⟨by omega, ?_⟩
      have f3 := Inv.cnt82 hG hI
      have f4 := Inv.s hG hI (k := 82) (j := (m.1 70 18).toNatClampNeg) rfl rfl
      refine ⟨fun hc5 => ?_, fun hc5 => ?_⟩
      · skip
        refine ⟨fun hc6 => ?_, fun hc6 => ?_⟩
        · skip
          have I7 : Inv g (dSet m 108 55 ((m.1 108 55) + (1 : Int32))) := (Inv.setA hI rfl)
          exact ih.2.2.2 _ I7 (by omega)
        · skip
          have I7 : Inv g (dSet m 108 55 ((m.1 108 55) + (1 : Int32))) := (Inv.setA hI rfl)
          refine Wp.deep (s_X12_fillsWays_70 hG I7 (fun M8 I8 => ?_)) (Nat.le_of_ble_eq_true rfl)
          exact ih.2.2.2 _ I8 (by omega)
      · skip
        have f6 := dAddE (X := 10) (Y := x4.toInt) (x := (10 : Int32)) (y := x4) (by decide) rfl (by omega) (by omega)
        refine ⟨by omega, ?_⟩
        refine ⟨fun hc7 => ?_, fun hc7 => ?_⟩
        · skip
          have f8 := ti_1
          have f9 := dAndE (x := ((m.1 70 60) >>> (x4 &&& 31))) (y := (1 : Int32)) (by decide)
          refine ⟨fun hc10 => ?_, fun hc10 => ?_⟩
          · skip
            have f11 := dAddE (X := 20) (Y := x4.toInt) (x := (20 : Int32)) (y := x4) (by decide) rfl (by omega) (by omega)
            refine ⟨by omega, ?_⟩
            refine v_X12_within ?_
            have f12 := ti_0
            refine ⟨fun hc13 => ?_, fun hc13 => ?_⟩
            · skip
              have f14 := ti_999
              refine ⟨fun hc15 => ?_, fun hc15 => ?_⟩
              · skip
                refine ⟨by omega, ?_⟩
                have I16 : Inv g (dSet m 108 ((20 : Int32) + x4).toNatClampNeg ((m.1 108 ((20 : Int32) + x4).toNatClampNeg) + (1 : Int32))) := (Inv.setA hI rfl)
                exact ih.2.2.1 _ _ I16 (by omega) (by omega)
              · skip
                refine ⟨by omega, ?_⟩
                have I16 : Inv g (dSet m 108 ((20 : Int32) + x4).toNatClampNeg (999 : Int32)) := (Inv.setA hI rfl)
                exact ih.2.2.1 _ _ I16 (by omega) (by omega)
            · skip
              refine ⟨by omega, ?_⟩
              have I14 : Inv g (dSet m 108 ((20 : Int32) + x4).toNatClampNeg (0 : Int32)) := (Inv.setA hI rfl)
              exact ih.2.2.1 _ _ I14 (by omega) (by omega)
          · skip
            refine ⟨by omega, ?_⟩
            have I11 : Inv g (dSet m 108 ((10 : Int32) + x4).toNatClampNeg (1 : Int32)) := (Inv.setA hI rfl)
            exact ih.2.2.1 _ _ I11 (by omega) (by omega)
        · skip
          exact ih.2.2.1 _ _ hI (by omega) (by omega)
    · intro x4 m hI h4 hμ
      refine v_X12_hourGoes_70_256 ?_
      have f1 := dAddE (X := x4.toInt) (Y := 1) (x := x4) (y := (1 : Int32)) rfl (by decide) (by omega) (by omega)
      exact ih.2.1 _ _ hI (by omega) (by omega)
    · intro m hI hμ
      refine v_X12_hourGoes_70_284 ?_
      exact hQ _ hI
theorem s_X12_hourGoes_70 {g : gM} {m : dM} {Q : dM → Prop} (hG : Gd g) (hI : Inv g m) (hQ : ∀ m' : dM, Inv g m' → Q m') : c_X12_hourGoes_70 23 m Q := by
  refine v_X12_hourGoes_70 ?_
  refine Wp.deep (s_X12_onNow_70 hG hI (fun R1 => ?_)) (Nat.le_of_ble_eq_true rfl)
  refine ⟨fun hc2 => ?_, fun hc2 => ?_⟩
  · skip
    have f3 := dRemE (x := (m.1 108 55)) (y := (24 : Int32)) (Y := 24) (by decide) (by decide)
    have f4 := ti_0
    refine Wp.deep (s_X12_goingBits_70 hG hI (by omega) (fun R5 M5 I5 => ?_)) (Nat.le_of_ble_eq_true rfl)
    have I6 : Inv g (dSet M5 70 60 R5) := (Inv.setA I5 rfl)
    refine Wp.deep (s_X12_paysAll_70 hG I6 (fun R7 M7 I7 => ?_)) (Nat.le_of_ble_eq_true rfl)
    refine Wp.deep (s_X12_quarrelsAll_70 hG I7 (fun R8 M8 I8 => ?_)) (Nat.le_of_ble_eq_true rfl)
    refine v_X12_within ?_
    refine ⟨fun hc9 => ?_, fun hc9 => ?_⟩
    · skip
      have f10 := ti_99999
      refine ⟨fun hc11 => ?_, fun hc11 => ?_⟩
      · skip
        refine v_X12_within ?_
        refine ⟨fun hc12 => ?_, fun hc12 => ?_⟩
        · skip
          have f13 := ti_999999
          refine ⟨fun hc14 => ?_, fun hc14 => ?_⟩
          · skip
            have I15 : Inv g (dSet M8 108 56 ((M8.1 108 56) + R7)) := (Inv.setA I8 rfl)
            have I16 : Inv g (dSet (dSet M8 108 56 ((M8.1 108 56) + R7)) 108 57 ((M8.1 108 57) + R8)) := (Inv.setA I15 rfl)
            exact (s_X12_hourGoes_70_all hG hQ 32).1 _ _ I16 (by omega) (by omega)
          · skip
            have I15 : Inv g (dSet M8 108 56 ((M8.1 108 56) + R7)) := (Inv.setA I8 rfl)
            have I16 : Inv g (dSet (dSet M8 108 56 ((M8.1 108 56) + R7)) 108 57 (999999 : Int32)) := (Inv.setA I15 rfl)
            exact (s_X12_hourGoes_70_all hG hQ 32).1 _ _ I16 (by omega) (by omega)
        · skip
          have I13 : Inv g (dSet M8 108 56 ((M8.1 108 56) + R7)) := (Inv.setA I8 rfl)
          have I14 : Inv g (dSet (dSet M8 108 56 ((M8.1 108 56) + R7)) 108 57 (0 : Int32)) := (Inv.setA I13 rfl)
          exact (s_X12_hourGoes_70_all hG hQ 32).1 _ _ I14 (by omega) (by omega)
      · skip
        refine v_X12_within ?_
        refine ⟨fun hc12 => ?_, fun hc12 => ?_⟩
        · skip
          have f13 := ti_999999
          refine ⟨fun hc14 => ?_, fun hc14 => ?_⟩
          · skip
            have I15 : Inv g (dSet M8 108 56 (99999 : Int32)) := (Inv.setA I8 rfl)
            have I16 : Inv g (dSet (dSet M8 108 56 (99999 : Int32)) 108 57 ((M8.1 108 57) + R8)) := (Inv.setA I15 rfl)
            exact (s_X12_hourGoes_70_all hG hQ 32).1 _ _ I16 (by omega) (by omega)
          · skip
            have I15 : Inv g (dSet M8 108 56 (99999 : Int32)) := (Inv.setA I8 rfl)
            have I16 : Inv g (dSet (dSet M8 108 56 (99999 : Int32)) 108 57 (999999 : Int32)) := (Inv.setA I15 rfl)
            exact (s_X12_hourGoes_70_all hG hQ 32).1 _ _ I16 (by omega) (by omega)
        · skip
          have I13 : Inv g (dSet M8 108 56 (99999 : Int32)) := (Inv.setA I8 rfl)
          have I14 : Inv g (dSet (dSet M8 108 56 (99999 : Int32)) 108 57 (0 : Int32)) := (Inv.setA I13 rfl)
          exact (s_X12_hourGoes_70_all hG hQ 32).1 _ _ I14 (by omega) (by omega)
    · skip
      refine v_X12_within ?_
      refine ⟨fun hc10 => ?_, fun hc10 => ?_⟩
      · skip
        have f11 := ti_999999
        refine ⟨fun hc12 => ?_, fun hc12 => ?_⟩
        · skip
          have I13 : Inv g (dSet M8 108 56 (0 : Int32)) := (Inv.setA I8 rfl)
          have I14 : Inv g (dSet (dSet M8 108 56 (0 : Int32)) 108 57 ((M8.1 108 57) + R8)) := (Inv.setA I13 rfl)
          exact (s_X12_hourGoes_70_all hG hQ 32).1 _ _ I14 (by omega) (by omega)
        · skip
          have I13 : Inv g (dSet M8 108 56 (0 : Int32)) := (Inv.setA I8 rfl)
          have I14 : Inv g (dSet (dSet M8 108 56 (0 : Int32)) 108 57 (999999 : Int32)) := (Inv.setA I13 rfl)
          exact (s_X12_hourGoes_70_all hG hQ 32).1 _ _ I14 (by omega) (by omega)
      · skip
        have I11 : Inv g (dSet M8 108 56 (0 : Int32)) := (Inv.setA I8 rfl)
        have I12 : Inv g (dSet (dSet M8 108 56 (0 : Int32)) 108 57 (0 : Int32)) := (Inv.setA I11 rfl)
        exact (s_X12_hourGoes_70_all hG hQ 32).1 _ _ I12 (by omega) (by omega)
  · skip
    refine Wp.deep (s_X12_isSurge_70 hG hI (fun R3 hr3 => ?_)) (Nat.le_of_ble_eq_true rfl)
    refine ⟨fun hc4 => ?_, fun hc4 => ?_⟩
    · skip
      have f5 := dRemE (x := (m.1 108 55)) (y := (24 : Int32)) (Y := 24) (by decide) (by decide)
      have f6 := ti_0
      refine Wp.deep (s_X12_goingBits_70 hG hI (by omega) (fun R7 M7 I7 => ?_)) (Nat.le_of_ble_eq_true rfl)
      have I8 : Inv g (dSet M7 70 60 R7) := (Inv.setA I7 rfl)
      refine Wp.deep (s_X12_paysAll_70 hG I8 (fun R9 M9 I9 => ?_)) (Nat.le_of_ble_eq_true rfl)
      refine Wp.deep (s_X12_quarrelsAll_70 hG I9 (fun R10 M10 I10 => ?_)) (Nat.le_of_ble_eq_true rfl)
      refine v_X12_within ?_
      refine ⟨fun hc11 => ?_, fun hc11 => ?_⟩
      · skip
        have f12 := ti_99999
        refine ⟨fun hc13 => ?_, fun hc13 => ?_⟩
        · skip
          refine v_X12_within ?_
          refine ⟨fun hc14 => ?_, fun hc14 => ?_⟩
          · skip
            have f15 := ti_999999
            refine ⟨fun hc16 => ?_, fun hc16 => ?_⟩
            · skip
              have I17 : Inv g (dSet M10 108 56 ((M10.1 108 56) + R9)) := (Inv.setA I10 rfl)
              have I18 : Inv g (dSet (dSet M10 108 56 ((M10.1 108 56) + R9)) 108 57 ((M10.1 108 57) + R10)) := (Inv.setA I17 rfl)
              exact (s_X12_hourGoes_70_all hG hQ 32).1 _ _ I18 (by omega) (by omega)
            · skip
              have I17 : Inv g (dSet M10 108 56 ((M10.1 108 56) + R9)) := (Inv.setA I10 rfl)
              have I18 : Inv g (dSet (dSet M10 108 56 ((M10.1 108 56) + R9)) 108 57 (999999 : Int32)) := (Inv.setA I17 rfl)
              exact (s_X12_hourGoes_70_all hG hQ 32).1 _ _ I18 (by omega) (by omega)
          · skip
            have I15 : Inv g (dSet M10 108 56 ((M10.1 108 56) + R9)) := (Inv.setA I10 rfl)
            have I16 : Inv g (dSet (dSet M10 108 56 ((M10.1 108 56) + R9)) 108 57 (0 : Int32)) := (Inv.setA I15 rfl)
            exact (s_X12_hourGoes_70_all hG hQ 32).1 _ _ I16 (by omega) (by omega)
        · skip
          refine v_X12_within ?_
          refine ⟨fun hc14 => ?_, fun hc14 => ?_⟩
          · skip
            have f15 := ti_999999
            refine ⟨fun hc16 => ?_, fun hc16 => ?_⟩
            · skip
              have I17 : Inv g (dSet M10 108 56 (99999 : Int32)) := (Inv.setA I10 rfl)
              have I18 : Inv g (dSet (dSet M10 108 56 (99999 : Int32)) 108 57 ((M10.1 108 57) + R10)) := (Inv.setA I17 rfl)
              exact (s_X12_hourGoes_70_all hG hQ 32).1 _ _ I18 (by omega) (by omega)
            · skip
              have I17 : Inv g (dSet M10 108 56 (99999 : Int32)) := (Inv.setA I10 rfl)
              have I18 : Inv g (dSet (dSet M10 108 56 (99999 : Int32)) 108 57 (999999 : Int32)) := (Inv.setA I17 rfl)
              exact (s_X12_hourGoes_70_all hG hQ 32).1 _ _ I18 (by omega) (by omega)
          · skip
            have I15 : Inv g (dSet M10 108 56 (99999 : Int32)) := (Inv.setA I10 rfl)
            have I16 : Inv g (dSet (dSet M10 108 56 (99999 : Int32)) 108 57 (0 : Int32)) := (Inv.setA I15 rfl)
            exact (s_X12_hourGoes_70_all hG hQ 32).1 _ _ I16 (by omega) (by omega)
      · skip
        refine v_X12_within ?_
        refine ⟨fun hc12 => ?_, fun hc12 => ?_⟩
        · skip
          have f13 := ti_999999
          refine ⟨fun hc14 => ?_, fun hc14 => ?_⟩
          · skip
            have I15 : Inv g (dSet M10 108 56 (0 : Int32)) := (Inv.setA I10 rfl)
            have I16 : Inv g (dSet (dSet M10 108 56 (0 : Int32)) 108 57 ((M10.1 108 57) + R10)) := (Inv.setA I15 rfl)
            exact (s_X12_hourGoes_70_all hG hQ 32).1 _ _ I16 (by omega) (by omega)
          · skip
            have I15 : Inv g (dSet M10 108 56 (0 : Int32)) := (Inv.setA I10 rfl)
            have I16 : Inv g (dSet (dSet M10 108 56 (0 : Int32)) 108 57 (999999 : Int32)) := (Inv.setA I15 rfl)
            exact (s_X12_hourGoes_70_all hG hQ 32).1 _ _ I16 (by omega) (by omega)
        · skip
          have I13 : Inv g (dSet M10 108 56 (0 : Int32)) := (Inv.setA I10 rfl)
          have I14 : Inv g (dSet (dSet M10 108 56 (0 : Int32)) 108 57 (0 : Int32)) := (Inv.setA I13 rfl)
          exact (s_X12_hourGoes_70_all hG hQ 32).1 _ _ I14 (by omega) (by omega)
    · skip
      have f5 := congrArg Int32.toInt (hI.2 70 18 rfl)
      have f6 := Inv.s hG hI (k := 70) (j := 18) rfl rfl
      refine ⟨by omega, ?_⟩
      have f7 := dRemE (x := (m.1 108 55)) (y := (24 : Int32)) (Y := 24) (by decide) (by decide)
      refine Wp.deep (s_X12_goingBits_70 hG hI (by omega) (fun R8 M8 I8 => ?_)) (Nat.le_of_ble_eq_true rfl)
      have I9 : Inv g (dSet M8 70 60 R8) := (Inv.setA I8 rfl)
      refine Wp.deep (s_X12_paysAll_70 hG I9 (fun R10 M10 I10 => ?_)) (Nat.le_of_ble_eq_true rfl)
      refine Wp.deep (s_X12_quarrelsAll_70 hG I10 (fun R11 M11 I11 => ?_)) (Nat.le_of_ble_eq_true rfl)
      refine v_X12_within ?_
      have f12 := ti_0
      refine ⟨fun hc13 => ?_, fun hc13 => ?_⟩
      · skip
        have f14 := ti_99999
        refine ⟨fun hc15 => ?_, fun hc15 => ?_⟩
        · skip
          refine v_X12_within ?_
          refine ⟨fun hc16 => ?_, fun hc16 => ?_⟩
          · skip
            have f17 := ti_999999
            refine ⟨fun hc18 => ?_, fun hc18 => ?_⟩
            · skip
              have I19 : Inv g (dSet M11 108 56 ((M11.1 108 56) + R10)) := (Inv.setA I11 rfl)
              have I20 : Inv g (dSet (dSet M11 108 56 ((M11.1 108 56) + R10)) 108 57 ((M11.1 108 57) + R11)) := (Inv.setA I19 rfl)
              exact (s_X12_hourGoes_70_all hG hQ 32).1 _ _ I20 (by omega) (by omega)
            · skip
              have I19 : Inv g (dSet M11 108 56 ((M11.1 108 56) + R10)) := (Inv.setA I11 rfl)
              have I20 : Inv g (dSet (dSet M11 108 56 ((M11.1 108 56) + R10)) 108 57 (999999 : Int32)) := (Inv.setA I19 rfl)
              exact (s_X12_hourGoes_70_all hG hQ 32).1 _ _ I20 (by omega) (by omega)
          · skip
            have I17 : Inv g (dSet M11 108 56 ((M11.1 108 56) + R10)) := (Inv.setA I11 rfl)
            have I18 : Inv g (dSet (dSet M11 108 56 ((M11.1 108 56) + R10)) 108 57 (0 : Int32)) := (Inv.setA I17 rfl)
            exact (s_X12_hourGoes_70_all hG hQ 32).1 _ _ I18 (by omega) (by omega)
        · skip
          refine v_X12_within ?_
          refine ⟨fun hc16 => ?_, fun hc16 => ?_⟩
          · skip
            have f17 := ti_999999
            refine ⟨fun hc18 => ?_, fun hc18 => ?_⟩
            · skip
              have I19 : Inv g (dSet M11 108 56 (99999 : Int32)) := (Inv.setA I11 rfl)
              have I20 : Inv g (dSet (dSet M11 108 56 (99999 : Int32)) 108 57 ((M11.1 108 57) + R11)) := (Inv.setA I19 rfl)
              exact (s_X12_hourGoes_70_all hG hQ 32).1 _ _ I20 (by omega) (by omega)
            · skip
              have I19 : Inv g (dSet M11 108 56 (99999 : Int32)) := (Inv.setA I11 rfl)
              have I20 : Inv g (dSet (dSet M11 108 56 (99999 : Int32)) 108 57 (999999 : Int32)) := (Inv.setA I19 rfl)
              exact (s_X12_hourGoes_70_all hG hQ 32).1 _ _ I20 (by omega) (by omega)
          · skip
            have I17 : Inv g (dSet M11 108 56 (99999 : Int32)) := (Inv.setA I11 rfl)
            have I18 : Inv g (dSet (dSet M11 108 56 (99999 : Int32)) 108 57 (0 : Int32)) := (Inv.setA I17 rfl)
            exact (s_X12_hourGoes_70_all hG hQ 32).1 _ _ I18 (by omega) (by omega)
      · skip
        refine v_X12_within ?_
        refine ⟨fun hc14 => ?_, fun hc14 => ?_⟩
        · skip
          have f15 := ti_999999
          refine ⟨fun hc16 => ?_, fun hc16 => ?_⟩
          · skip
            have I17 : Inv g (dSet M11 108 56 (0 : Int32)) := (Inv.setA I11 rfl)
            have I18 : Inv g (dSet (dSet M11 108 56 (0 : Int32)) 108 57 ((M11.1 108 57) + R11)) := (Inv.setA I17 rfl)
            exact (s_X12_hourGoes_70_all hG hQ 32).1 _ _ I18 (by omega) (by omega)
          · skip
            have I17 : Inv g (dSet M11 108 56 (0 : Int32)) := (Inv.setA I11 rfl)
            have I18 : Inv g (dSet (dSet M11 108 56 (0 : Int32)) 108 57 (999999 : Int32)) := (Inv.setA I17 rfl)
            exact (s_X12_hourGoes_70_all hG hQ 32).1 _ _ I18 (by omega) (by omega)
        · skip
          have I15 : Inv g (dSet M11 108 56 (0 : Int32)) := (Inv.setA I11 rfl)
          have I16 : Inv g (dSet (dSet M11 108 56 (0 : Int32)) 108 57 (0 : Int32)) := (Inv.setA I15 rfl)
          exact (s_X12_hourGoes_70_all hG hQ 32).1 _ _ I16 (by omega) (by omega)
theorem s_X12_goes_70_all {g : gM} {Q : dM → Prop} (hG : Gd g) (hQ : ∀ m' : dM, Inv g m' → Q m') : ∀ n : Nat, (∀ (x1 : Int32) (x2 : Int32) (m : dM), Inv g m → (0 ≤ x1.toInt ∧ x1.toInt ≤ 72) → (0 ≤ x2.toInt ∧ x2.toInt ≤ 72) → 72 - 1 * x2.toInt < (n : Int) → j_X12_goes_70_2 24 x1 x2 m Q) := by
  intro n
  induction n with
  | zero => exact fun x1 x2 m hI h1 h2 hμ => by exfalso; omega
  | succ n ih =>
    · intro x1 x2 m hI h1 h2 hμ
      refine v_X12_goes_70_2 ?_
      refine ⟨fun hc1 => ?_, fun hc1 => ?_⟩
      · skip
        exact hQ _ hI
      · skip
        refine Wp.deep (s_X12_hourGoes_70 hG hI (fun M2 I2 => ?_)) (Nat.le_of_ble_eq_true rfl)
        have f3 := dAddE (X := x2.toInt) (Y := 1) (x := x2) (y := (1 : Int32)) rfl (by decide) (by omega) (by omega)
        exact ih _ _ _ I2 (by omega) (by omega) (by omega)
theorem s_X12_goes_70 {g : gM} {x1 : Int32} {m : dM} {Q : dM → Prop} (hG : Gd g) (hI : Inv g m) (h1 : 0 ≤ x1.toInt ∧ x1.toInt ≤ 72) (hQ : ∀ m' : dM, Inv g m' → Q m') : c_X12_goes_70 24 x1 m Q := by
  refine v_X12_goes_70 ?_
  have f1 := ti_0
  exact (s_X12_goes_70_all hG hQ 74) _ _ _ hI (by omega) (by omega) (by omega)
theorem s_X12_hours_70 {g : gM} {x1 : Int32} {m : dM} {Q : Int32 → dM → Prop} (hG : Gd g) (hI : Inv g m) (hQ : ∀ (r : Int32) (m' : dM), Inv g m' → Q r m') : c_X12_hours_70 25 x1 m Q := by
  refine v_X12_hours_70 ?_
  refine v_X12_isLong ?_
  refine v_X12_in ?_
  have f1 := ti_0
  refine ⟨fun hc2 => ?_, fun hc2 => ?_⟩
  · skip
    refine v_X12_in_14 ?_
    refine ⟨by decide, ?_⟩
    refine ⟨fun hc3 => ?_, fun hc3 => ?_⟩
    · skip
      exfalso; omega
    · skip
      have f4 := ti_m1
      exact hQ _ _ hI
  · skip
    have f3 := ti_72
    refine ⟨fun hc4 => ?_, fun hc4 => ?_⟩
    · skip
      refine v_X12_in_14 ?_
      refine ⟨by decide, ?_⟩
      refine ⟨fun hc5 => ?_, fun hc5 => ?_⟩
      · skip
        exfalso; omega
      · skip
        have f6 := ti_m1
        exact hQ _ _ hI
    · skip
      have f5 := ti_1
      refine ⟨by decide, ?_⟩
      refine ⟨fun hc6 => ?_, fun hc6 => ?_⟩
      · skip
        refine ⟨fun hc7 => ?_, fun hc7 => ?_⟩
        · skip
          refine Wp.deep (s_X12_copies_70 hG hI (fun M8 I8 => ?_)) (Nat.le_of_ble_eq_true rfl)
          refine Wp.deep (s_X12_goes_70 hG I8 (by omega) (fun M9 I9 => ?_)) (Nat.le_of_ble_eq_true rfl)
          refine Wp.deep (s_X12_records_70 hG I9 (fun M10 I10 => ?_)) (Nat.le_of_ble_eq_true rfl)
          exact hQ _ _ I10
        · skip
          exact hQ _ _ hI
      · skip
        exfalso; omega
theorem s_X12_copiesStill_70 {g : gM} {m : dM} {Q : dM → Prop} (hG : Gd g) (hI : Inv g m) (hQ : ∀ m' : dM, Inv g m' → Q m') : c_X12_copiesStill_70 22 m Q := by
  refine v_X12_copiesStill_70 ?_
  refine Wp.deep (s_X12_copies_70 hG hI (fun M1 I1 => ?_)) (Nat.le_of_ble_eq_true rfl)
  have I2 : Inv g (dSet M1 70 57 (1 : Int32)) := (Inv.setA I1 rfl)
  exact hQ _ I2
theorem s_X12_peak_70_all {g : gM} {Q : Int32 → dM → Prop} (hG : Gd g) (hQ : ∀ (r : Int32) (m' : dM), Inv g m' → (-1 ≤ r.toInt) → Q r m') : ∀ n : Nat, (∀ (m : dM), Inv g m → 0 < (n : Int) → j_X12_peak_70_27 24 m Q) ∧ (∀ (x1 : Int32) (x2 : Int32) (x3 : Int32) (x4 : Int32) (x5 : Int32) (x6 : Int32) (m : dM), Inv g m → (0 ≤ x1.toInt ∧ x1.toInt ≤ 9) → (1 ≤ x2.toInt ∧ x2.toInt ≤ 48) → (0 ≤ x3.toInt ∧ x3.toInt ≤ 1) → (0 ≤ x4.toInt ∧ x4.toInt ≤ 47) → (-1 ≤ x5.toInt) → (0 ≤ x6.toInt ∧ x6.toInt ≤ 48) → 98 - 2 * x6.toInt < (n : Int) → j_X12_peak_70_42 24 x1 x2 x3 x4 x5 x6 m Q) ∧ (∀ (x1 : Int32) (x2 : Int32) (x3 : Int32) (x4 : Int32) (x5 : Int32) (x6 : Int32) (m : dM), Inv g m → (0 ≤ x1.toInt ∧ x1.toInt ≤ 9) → (1 ≤ x2.toInt ∧ x2.toInt ≤ 48) → (0 ≤ x3.toInt ∧ x3.toInt ≤ 1) → (0 ≤ x4.toInt ∧ x4.toInt ≤ 47) → (-1 ≤ x5.toInt) → (0 ≤ x6.toInt ∧ x6.toInt ≤ 47) → 97 - 2 * x6.toInt < (n : Int) → j_X12_peak_70_86 24 x1 x2 x3 x4 x5 x6 m Q) := by
  intro n
  induction n with
  | zero => exact ⟨fun m hI hμ => by exfalso; omega, fun x1 x2 x3 x4 x5 x6 m hI h1 h2 h3 h4 h5 h6 hμ => by exfalso; omega, fun x1 x2 x3 x4 x5 x6 m hI h1 h2 h3 h4 h5 h6 hμ => by exfalso; omega⟩
  | succ n ih =>
    refine ⟨?_, ?_, ?_⟩
    · intro m hI hμ
      refine v_X12_peak_70_27 ?_
      have f1 := ti_m1
      exact hQ _ _ hI (by omega)
    · intro x1 x2 x3 x4 x5 x6 m hI h1 h2 h3 h4 h5 h6 hμ
      refine v_X12_peak_70_42 ?_
      refine ⟨fun hc1 => ?_, fun hc1 => ?_⟩
      · skip
        refine ⟨fun hc2 => ?_, fun hc2 => ?_⟩
        · skip
          exact hQ _ _ hI (by omega)
        · skip
          exact hQ _ _ hI (by omega)
      · skip
        refine v_X12_isWhole_70 ?_
        refine v_X12_isWire_70 ?_
        have f2 := congrArg Int32.toInt (hI.2 70 18 rfl)
        have f3 := Inv.s hG hI (k := 70) (j := 18) rfl rfl
        refine ⟨by omega, ?_⟩
        refine v_X12_in ?_
        have f4 := ti_0
        refine ⟨fun hc5 => ?_, fun hc5 => ?_⟩
        · skip
          exfalso; omega
        · skip
          have f6 := Inv.cnt82 hG hI
          have f7 := Inv.s hG hI (k := 82) (j := (m.1 70 18).toNatClampNeg) rfl rfl
          have f8 := dSubE (X := (m.1 82 (m.1 70 18).toNatClampNeg).toInt) (Y := 1) (x := (m.1 82 (m.1 70 18).toNatClampNeg)) (y := (1 : Int32)) rfl (by decide) (by omega) (by omega)
          refine ⟨fun hc9 => ?_, fun hc9 => ?_⟩
          · skip
            refine v_X12_in_14 ?_
            refine ⟨by decide, ?_⟩
            refine ⟨fun hc10 => ?_, fun hc10 => ?_⟩
            · skip
              refine v_X12_isWhole_70_24 ?_
              refine ⟨fun hc11 => ?_, fun hc11 => ?_⟩
              · skip
                refine ⟨fun hc12 => ?_, fun hc12 => ?_⟩
                · skip
                  exact ih.2.2 _ _ _ _ _ _ _ hI (by omega) (by omega) (by omega) (by omega) (by omega) (by omega) (by omega)
                · skip
                  exact ih.2.2 _ _ _ _ _ _ _ hI (by omega) (by omega) (by omega) (by omega) (by omega) (by omega) (by omega)
              · skip
                exfalso; omega
            · skip
              exfalso; omega
          · skip
            have f10 := ti_1
            refine ⟨by decide, ?_⟩
            refine ⟨fun hc11 => ?_, fun hc11 => ?_⟩
            · skip
              exfalso; omega
            · skip
              have f12 := dAddE (X := 10) (Y := x1.toInt) (x := (10 : Int32)) (y := x1) (by decide) rfl (by omega) (by omega)
              refine ⟨by omega, ?_⟩
              refine ⟨fun hc13 => ?_, fun hc13 => ?_⟩
              · skip
                refine v_X12_isWhole_70_24 ?_
                refine ⟨fun hc14 => ?_, fun hc14 => ?_⟩
                · skip
                  refine ⟨fun hc15 => ?_, fun hc15 => ?_⟩
                  · skip
                    exact ih.2.2 _ _ _ _ _ _ _ hI (by omega) (by omega) (by omega) (by omega) (by omega) (by omega) (by omega)
                  · skip
                    exact ih.2.2 _ _ _ _ _ _ _ hI (by omega) (by omega) (by omega) (by omega) (by omega) (by omega) (by omega)
                · skip
                  exfalso; omega
              · skip
                refine ⟨fun hc14 => ?_, fun hc14 => ?_⟩
                · skip
                  exfalso; omega
                · skip
                  refine Wp.deep (s_X12_onNow_70 hG hI (fun R15 => ?_)) (Nat.le_of_ble_eq_true rfl)
                  refine Wp.deep (s_X12_loadBy_70 hG hI (by omega) (fun R16 => ?_)) (Nat.le_of_ble_eq_true rfl)
                  refine ⟨fun hc17 => ?_, fun hc17 => ?_⟩
                  · skip
                    exact ih.2.2 _ _ _ _ _ _ _ hI (by omega) (by omega) (by omega) (by omega) (by omega) (by omega) (by omega)
                  · skip
                    exact ih.2.2 _ _ _ _ _ _ _ hI (by omega) (by omega) (by omega) (by omega) (by omega) (by omega) (by omega)
    · intro x1 x2 x3 x4 x5 x6 m hI h1 h2 h3 h4 h5 h6 hμ
      refine v_X12_peak_70_86 ?_
      refine Wp.deep (s_X12_hourGoes_70 hG hI (fun M1 I1 => ?_)) (Nat.le_of_ble_eq_true rfl)
      have f2 := dAddE (X := x6.toInt) (Y := 1) (x := x6) (y := (1 : Int32)) rfl (by decide) (by omega) (by omega)
      exact ih.2.1 _ _ _ _ _ _ _ I1 (by omega) (by omega) (by omega) (by omega) (by omega) (by omega) (by omega)
theorem s_X12_peak_70 {g : gM} {x1 : Int32} {x2 : Int32} {x3 : Int32} {m : dM} {Q : Int32 → dM → Prop} (hG : Gd g) (hI : Inv g m) (hQ : ∀ (r : Int32) (m' : dM), Inv g m' → (-1 ≤ r.toInt) → Q r m') : c_X12_peak_70 24 x1 x2 x3 m Q := by
  refine v_X12_peak_70 ?_
  refine v_X12_isWire_70 ?_
  have f1 := congrArg Int32.toInt (hI.2 70 18 rfl)
  have f2 := Inv.s hG hI (k := 70) (j := 18) rfl rfl
  refine ⟨by omega, ?_⟩
  refine v_X12_in ?_
  have f3 := ti_0
  refine ⟨fun hc4 => ?_, fun hc4 => ?_⟩
  · skip
    refine v_X12_in_14 ?_
    refine ⟨by decide, ?_⟩
    refine ⟨fun hc5 => ?_, fun hc5 => ?_⟩
    · skip
      exact (s_X12_peak_70_all hG hQ 100).1 _ hI (by omega)
    · skip
      exfalso; omega
  · skip
    have f5 := Inv.cnt82 hG hI
    have f6 := Inv.s hG hI (k := 82) (j := (m.1 70 18).toNatClampNeg) rfl rfl
    have f7 := dSubE (X := (m.1 82 (m.1 70 18).toNatClampNeg).toInt) (Y := 1) (x := (m.1 82 (m.1 70 18).toNatClampNeg)) (y := (1 : Int32)) rfl (by decide) (by omega) (by omega)
    refine ⟨fun hc8 => ?_, fun hc8 => ?_⟩
    · skip
      refine v_X12_in_14 ?_
      refine ⟨by decide, ?_⟩
      refine ⟨fun hc9 => ?_, fun hc9 => ?_⟩
      · skip
        exact (s_X12_peak_70_all hG hQ 100).1 _ hI (by omega)
      · skip
        exfalso; omega
    · skip
      have f9 := ti_1
      refine ⟨by decide, ?_⟩
      refine ⟨fun hc10 => ?_, fun hc10 => ?_⟩
      · skip
        exfalso; omega
      · skip
        refine v_X12_in ?_
        refine ⟨fun hc11 => ?_, fun hc11 => ?_⟩
        · skip
          refine v_X12_in_14 ?_
          refine ⟨fun hc12 => ?_, fun hc12 => ?_⟩
          · skip
            exact (s_X12_peak_70_all hG hQ 100).1 _ hI (by omega)
          · skip
            exfalso; omega
        · skip
          have f12 := ti_48
          refine ⟨fun hc13 => ?_, fun hc13 => ?_⟩
          · skip
            refine v_X12_in_14 ?_
            refine ⟨fun hc14 => ?_, fun hc14 => ?_⟩
            · skip
              exact (s_X12_peak_70_all hG hQ 100).1 _ hI (by omega)
            · skip
              exfalso; omega
          · skip
            refine ⟨fun hc14 => ?_, fun hc14 => ?_⟩
            · skip
              exfalso; omega
            · skip
              refine v_X12_in ?_
              refine ⟨fun hc15 => ?_, fun hc15 => ?_⟩
              · skip
                refine v_X12_in_14 ?_
                refine ⟨fun hc16 => ?_, fun hc16 => ?_⟩
                · skip
                  exfalso; omega
                · skip
                  exact (s_X12_peak_70_all hG hQ 100).1 _ hI (by omega)
              · skip
                refine ⟨fun hc16 => ?_, fun hc16 => ?_⟩
                · skip
                  refine v_X12_in_14 ?_
                  refine ⟨fun hc17 => ?_, fun hc17 => ?_⟩
                  · skip
                    exfalso; omega
                  · skip
                    exact (s_X12_peak_70_all hG hQ 100).1 _ hI (by omega)
                · skip
                  refine ⟨fun hc17 => ?_, fun hc17 => ?_⟩
                  · skip
                    refine Wp.deep (s_X12_copiesStill_70 hG hI (fun M18 I18 => ?_)) (Nat.le_of_ble_eq_true rfl)
                    have f19 := ti_m1
                    exact (s_X12_peak_70_all hG hQ 100).2.1 _ _ _ _ _ _ _ I18 (by omega) (by omega) (by omega) (by omega) (by omega) (by omega) (by omega)
                  · skip
                    exfalso; omega
theorem s_X12_firstGoing_70_all {g : gM} {Q : Int32 → dM → Prop} (hG : Gd g) (hQ : ∀ (r : Int32) (m' : dM), Inv g m' → (1 ≤ r.toInt ∧ r.toInt ≤ 201) → Q r m') : ∀ n : Nat, (∀ (x1 : Int32) (m : dM), Inv g m → (1 ≤ x1.toInt ∧ x1.toInt ≤ 201) → 201 - 1 * x1.toInt < (n : Int) → j_X12_firstGoing_70_2 24 x1 m Q) := by
  intro n
  induction n with
  | zero => exact fun x1 m hI h1 hμ => by exfalso; omega
  | succ n ih =>
    · intro x1 m hI h1 hμ
      refine v_X12_firstGoing_70_2 ?_
      refine ⟨fun hc1 => ?_, fun hc1 => ?_⟩
      · skip
        have f2 := ti_201
        exact hQ _ _ hI (by omega)
      · skip
        refine Wp.deep (s_X12_hourGoes_70 hG hI (fun M2 I2 => ?_)) (Nat.le_of_ble_eq_true rfl)
        refine ⟨fun hc3 => ?_, fun hc3 => ?_⟩
        · skip
          have f4 := dAddE (X := x1.toInt) (Y := 1) (x := x1) (y := (1 : Int32)) rfl (by decide) (by omega) (by omega)
          exact ih _ _ I2 (by omega) (by omega)
        · skip
          exact hQ _ _ I2 (by omega)
theorem s_X12_firstGoing_70 {g : gM} {m : dM} {Q : Int32 → dM → Prop} (hG : Gd g) (hI : Inv g m) (hQ : ∀ (r : Int32) (m' : dM), Inv g m' → (1 ≤ r.toInt ∧ r.toInt ≤ 201) → Q r m') : c_X12_firstGoing_70 24 m Q := by
  refine v_X12_firstGoing_70 ?_
  have f1 := ti_1
  exact (s_X12_firstGoing_70_all hG hQ 202) _ _ hI (by omega) (by omega)
theorem s_X12_first_70 {g : gM} {x1 : Int32} {m : dM} {Q : Int32 → dM → Prop} (hG : Gd g) (hI : Inv g m) (hQ : ∀ (r : Int32) (m' : dM), Inv g m' → (-2 ≤ r.toInt ∧ r.toInt ≤ 200) → Q r m') : c_X12_first_70 25 x1 m Q := by
  refine v_X12_first_70 ?_
  refine v_X12_in ?_
  have f1 := ti_0
  refine ⟨fun hc2 => ?_, fun hc2 => ?_⟩
  · skip
    refine v_X12_in_14 ?_
    refine ⟨fun hc3 => ?_, fun hc3 => ?_⟩
    · skip
      exfalso; omega
    · skip
      have f4 := ti_m1
      exact hQ _ _ hI (by omega)
  · skip
    have f3 := ti_1
    refine ⟨fun hc4 => ?_, fun hc4 => ?_⟩
    · skip
      refine v_X12_in_14 ?_
      refine ⟨fun hc5 => ?_, fun hc5 => ?_⟩
      · skip
        exfalso; omega
      · skip
        have f6 := ti_m1
        exact hQ _ _ hI (by omega)
    · skip
      refine ⟨fun hc5 => ?_, fun hc5 => ?_⟩
      · skip
        refine Wp.deep (s_X12_copiesStill_70 hG hI (fun M6 I6 => ?_)) (Nat.le_of_ble_eq_true rfl)
        refine Wp.deep (s_X12_firstGoing_70 hG I6 (fun R7 M7 I7 hr7 => ?_)) (Nat.le_of_ble_eq_true rfl)
        refine ⟨fun hc8 => ?_, fun hc8 => ?_⟩
        · skip
          refine ⟨fun hc9 => ?_, fun hc9 => ?_⟩
          · skip
            refine Wp.deep (s_X12_lowestOf hG I7 (fun R10 hr10 => ?_)) (Nat.le_of_ble_eq_true rfl)
            exact hQ _ _ I7 (by omega)
          · skip
            exact hQ _ _ I7 (by omega)
        · skip
          have f9 := ti_m2
          exact hQ _ _ I7 (by omega)
      · skip
        exfalso; omega
theorem s_X12_together_70_all {g : gM} {Q : Int32 → dM → Prop} (hG : Gd g) (hQ : ∀ (r : Int32) (m' : dM), Inv g m' → (-1 ≤ r.toInt) → Q r m') : ∀ n : Nat, (∀ (x1 : Int32) (x2 : Int32) (x3 : Int32) (x4 : Int32) (x5 : Int32) (m : dM), Inv g m → (0 ≤ x1.toInt ∧ x1.toInt ≤ 1) → (0 ≤ x3.toInt ∧ x3.toInt ≤ 255) → (0 ≤ x4.toInt) → (1 ≤ x5.toInt ∧ x5.toInt ≤ 256) → 513 - 2 * x5.toInt < (n : Int) → j_X12_together_70_28 23 x1 x2 x3 x4 x5 m Q) ∧ (∀ (x1 : Int32) (x2 : Int32) (x3 : Int32) (x4 : Int32) (x5 : Int32) (m : dM), Inv g m → (0 ≤ x1.toInt ∧ x1.toInt ≤ 1) → (0 ≤ x3.toInt ∧ x3.toInt ≤ 255) → (0 ≤ x4.toInt) → (1 ≤ x5.toInt ∧ x5.toInt ≤ 255) → 512 - 2 * x5.toInt < (n : Int) → j_X12_together_70_101 23 x1 x2 x3 x4 x5 m Q) := by
  intro n
  induction n with
  | zero => exact ⟨fun x1 x2 x3 x4 x5 m hI h1 h3 h4 h5 hμ => by exfalso; omega, fun x1 x2 x3 x4 x5 m hI h1 h3 h4 h5 hμ => by exfalso; omega⟩
  | succ n ih =>
    refine ⟨?_, ?_⟩
    · intro x1 x2 x3 x4 x5 m hI h1 h3 h4 h5 hμ
      refine v_X12_together_70_28 ?_
      have f1 := congrArg Int32.toInt (hI.2 70 18 rfl)
      have f2 := Inv.s hG hI (k := 70) (j := 18) rfl rfl
      refine ⟨by omega, ?_⟩
      have f3 := Inv.cnt86 hG hI
      have f4 := Inv.s hG hI (k := 86) (j := (m.1 70 18).toNatClampNeg) rfl rfl
      have f5 := dShl8 (x := (m.1 86 (m.1 70 18).toNatClampNeg)) (by omega) (by omega)
      refine ⟨fun hc6 => ?_, fun hc6 => ?_⟩
      · skip
        refine ⟨fun hc7 => ?_, fun hc7 => ?_⟩
        · skip
          exact hQ _ _ hI (by omega)
        · skip
          exact hQ _ _ hI (by omega)
      · skip
        refine ⟨fun hc7 => ?_, fun hc7 => ?_⟩
        · skip
          refine Wp.deep (s_X12_paysAll_70 hG hI (fun R8 M8 I8 => ?_)) (Nat.le_of_ble_eq_true rfl)
          refine ⟨fun hc9 => ?_, fun hc9 => ?_⟩
          · skip
            exact ih.2 _ _ _ _ _ _ I8 (by omega) (by omega) (by omega) (by omega) (by omega)
          · skip
            have f10 := dRemE (x := (M8.1 108 55)) (y := (24 : Int32)) (Y := 24) (by decide) (by decide)
            have f11 := ti_0
            refine Wp.deep (s_X12_goingBits_70 hG I8 (by omega) (fun R12 M12 I12 => ?_)) (Nat.le_of_ble_eq_true rfl)
            refine ⟨fun hc13 => ?_, fun hc13 => ?_⟩
            · skip
              exact ih.2 _ _ _ _ _ _ I12 (by omega) (by omega) (by omega) (by omega) (by omega)
            · skip
              exact ih.2 _ _ _ _ _ _ I12 (by omega) (by omega) (by omega) (by omega) (by omega)
        · skip
          exact ih.2 _ _ _ _ _ _ hI (by omega) (by omega) (by omega) (by omega) (by omega)
    · intro x1 x2 x3 x4 x5 m hI h1 h3 h4 h5 hμ
      refine v_X12_together_70_101 ?_
      have f1 := dAddE (X := x5.toInt) (Y := 1) (x := x5) (y := (1 : Int32)) rfl (by decide) (by omega) (by omega)
      exact ih.1 _ _ _ _ _ _ hI (by omega) (by omega) (by omega) (by omega) (by omega)
theorem s_X12_together_70 {g : gM} {x1 : Int32} {m : dM} {Q : Int32 → dM → Prop} (hG : Gd g) (hI : Inv g m) (hQ : ∀ (r : Int32) (m' : dM), Inv g m' → (-1 ≤ r.toInt) → Q r m') : c_X12_together_70 23 x1 m Q := by
  refine v_X12_together_70 ?_
  refine v_X12_in ?_
  have f1 := ti_0
  refine ⟨fun hc2 => ?_, fun hc2 => ?_⟩
  · skip
    refine v_X12_in_14 ?_
    refine ⟨fun hc3 => ?_, fun hc3 => ?_⟩
    · skip
      exfalso; omega
    · skip
      have f4 := ti_m1
      exact hQ _ _ hI (by omega)
  · skip
    have f3 := ti_1
    refine ⟨fun hc4 => ?_, fun hc4 => ?_⟩
    · skip
      refine v_X12_in_14 ?_
      refine ⟨fun hc5 => ?_, fun hc5 => ?_⟩
      · skip
        exfalso; omega
      · skip
        have f6 := ti_m1
        exact hQ _ _ hI (by omega)
    · skip
      refine ⟨fun hc5 => ?_, fun hc5 => ?_⟩
      · skip
        refine Wp.deep (s_X12_copies_70 hG hI (fun M6 I6 => ?_)) (Nat.le_of_ble_eq_true rfl)
        refine Wp.deep (s_X12_usesLit_70 hG I6 (fun R7 => ?_)) (Nat.le_of_ble_eq_true rfl)
        exact (s_X12_together_70_all hG hQ 513).1 _ _ _ _ _ _ I6 (by omega) (by omega) (by omega) (by omega) (by omega)
      · skip
        exfalso; omega
theorem s_X12_canBegin_70_all {g : gM} {Q : Int32 → dM → Prop} (hG : Gd g) (hQ : ∀ (r : Int32) (m' : dM), Inv g m' → (0 ≤ r.toInt ∧ r.toInt ≤ 1) → Q r m') : ∀ n : Nat, (∀ (x1 : Int32) (x2 : Int32) (x3 : Int32) (x4 : Int32) (m : dM), Inv g m → (0 ≤ x1.toInt ∧ x1.toInt ≤ 7) → (0 ≤ x2.toInt ∧ x2.toInt ≤ 10022) → (-9999 ≤ x3.toInt ∧ x3.toInt ≤ 9999) → (0 ≤ x4.toInt ∧ x4.toInt ≤ 99999) → x1.toInt < (g 86 (gL g)).toInt → 199999 - 2 * x4.toInt < (n : Int) → j_X12_canBegin_70_33 23 x1 x2 x3 x4 m Q) ∧ (∀ (x1 : Int32) (x2 : Int32) (x3 : Int32) (x4 : Int32) (x5 : Int32) (m : dM), Inv g m → (0 ≤ x1.toInt ∧ x1.toInt ≤ 7) → (0 ≤ x2.toInt ∧ x2.toInt ≤ 10022) → (-9999 ≤ x3.toInt ∧ x3.toInt ≤ 9999) → (0 ≤ x4.toInt ∧ x4.toInt ≤ 20046) → x1.toInt < (g 86 (gL g)).toInt → 199998 - 2 * x4.toInt < (n : Int) → j_X12_canBegin_70_75 23 x1 x2 x3 x4 x5 m Q) := by
  intro n
  induction n with
  | zero => exact ⟨fun x1 x2 x3 x4 m hI h1 h2 h3 h4 hb1 hμ => by exfalso; omega, fun x1 x2 x3 x4 x5 m hI h1 h2 h3 h4 hb1 hμ => by exfalso; omega⟩
  | succ n ih =>
    refine ⟨?_, ?_⟩
    · intro x1 x2 x3 x4 m hI h1 h2 h3 h4 hb1 hμ
      refine v_X12_canBegin_70_33 ?_
      have f1 := dAddE (X := x2.toInt) (Y := x3.toInt) (x := x2) (y := x3) rfl rfl (by omega) (by omega)
      refine ⟨fun hc2 => ?_, fun hc2 => ?_⟩
      · skip
        have f3 := ti_1
        exact hQ _ _ hI (by omega)
      · skip
        refine Wp.deep (s_X12_onAt_70 hG hI (by omega) (fun R3 => ?_)) (Nat.le_of_ble_eq_true rfl)
        refine v_X12_flatAt_70 ?_
        have f4 := congrArg Int32.toInt (hI.2 70 18 rfl)
        have f5 := Inv.s hG hI (k := 70) (j := 18) rfl rfl
        have f6 := dMulE (X := 8) (Y := (m.1 70 18).toInt) (x := (8 : Int32)) (y := (m.1 70 18)) (by decide) rfl (by omega) (by omega)
        have f7 := dAddE (X := ((8 : Int32) * (m.1 70 18)).toInt) (Y := x1.toInt) (x := ((8 : Int32) * (m.1 70 18))) (y := x1) rfl rfl (by omega) (by omega)
        refine ⟨by omega, ?_⟩
        refine v_X12_isLit_70 ?_
        have f8 := Inv.cnt86 hG hI
        have f9 := Inv.s hG hI (k := 86) (j := (m.1 70 18).toNatClampNeg) rfl rfl
        have f10 := Inv.flat hG hI (u := x1) (by omega) (by omega)
        refine ⟨by omega, ?_⟩
        refine ⟨fun hc11 => ?_, fun hc11 => ?_⟩
        · skip
          have f12 := ti_0
          refine ⟨fun hc13 => ?_, fun hc13 => ?_⟩
          · skip
            have f14 := dShl8 (x := x1) (by omega) (by omega)
            exact ih.2 _ _ _ _ _ _ hI (by omega) (by omega) (by omega) (by omega) (by omega) (by omega)
          · skip
            exfalso; omega
        · skip
          have f12 := ti_1
          refine ⟨fun hc13 => ?_, fun hc13 => ?_⟩
          · skip
            exfalso; omega
          · skip
            have f14 := dShl8 (x := x1) (by omega) (by omega)
            exact ih.2 _ _ _ _ _ _ hI (by omega) (by omega) (by omega) (by omega) (by omega) (by omega)
    · intro x1 x2 x3 x4 x5 m hI h1 h2 h3 h4 hb1 hμ
      refine v_X12_canBegin_70_75 ?_
      have f1 := ti_0
      refine Wp.deep (s_X12_goingBits_70 hG hI (by omega) (fun R2 M2 I2 => ?_)) (Nat.le_of_ble_eq_true rfl)
      refine ⟨fun hc3 => ?_, fun hc3 => ?_⟩
      · skip
        have f4 := dAddE (X := x4.toInt) (Y := 1) (x := x4) (y := (1 : Int32)) rfl (by decide) (by omega) (by omega)
        exact ih.1 _ _ _ _ _ I2 (by omega) (by omega) (by omega) (by omega) (by omega) (by omega)
      · skip
        exact hQ _ _ I2 (by omega)
theorem s_X12_canBegin_70 {g : gM} {x1 : Int32} {x2 : Int32} {m : dM} {Q : Int32 → dM → Prop} (hG : Gd g) (hI : Inv g m) (h1 : 0 ≤ x1.toInt ∧ x1.toInt ≤ 7) (h2 : 0 ≤ x2.toInt ∧ x2.toInt ≤ 10022) (hb1 : x1.toInt < (g 86 (gL g)).toInt) (hQ : ∀ (r : Int32) (m' : dM), Inv g m' → (0 ≤ r.toInt ∧ r.toInt ≤ 1) → Q r m') : c_X12_canBegin_70 23 x1 x2 m Q := by
  refine v_X12_canBegin_70 ?_
  have f1 := congrArg Int32.toInt (hI.2 70 18 rfl)
  have f2 := Inv.s hG hI (k := 70) (j := 18) rfl rfl
  have f3 := dMulE (X := 8) (Y := (m.1 70 18).toInt) (x := (8 : Int32)) (y := (m.1 70 18)) (by decide) rfl (by omega) (by omega)
  have f4 := dAddE (X := ((8 : Int32) * (m.1 70 18)).toInt) (Y := x1.toInt) (x := ((8 : Int32) * (m.1 70 18))) (y := x1) rfl rfl (by omega) (by omega)
  refine ⟨by omega, ?_⟩
  refine ⟨by omega, ?_⟩
  have f5 := Inv.s hG hI (k := 90) (j := (((8 : Int32) * (m.1 70 18)) + x1).toNatClampNeg) rfl rfl
  have f6 := Inv.s hG hI (k := 89) (j := (((8 : Int32) * (m.1 70 18)) + x1).toNatClampNeg) rfl rfl
  have f7 := dSubE (X := (m.1 90 (((8 : Int32) * (m.1 70 18)) + x1).toNatClampNeg).toInt) (Y := (m.1 89 (((8 : Int32) * (m.1 70 18)) + x1).toNatClampNeg).toInt) (x := (m.1 90 (((8 : Int32) * (m.1 70 18)) + x1).toNatClampNeg)) (y := (m.1 89 (((8 : Int32) * (m.1 70 18)) + x1).toNatClampNeg)) rfl rfl (by omega) (by omega)
  exact (s_X12_canBegin_70_all hG hQ 200001).1 _ _ _ _ _ hI (by omega) (by omega) (by omega) (by omega) (by omega) (by omega)
end
section
theorem s_X12_when_70_all {g : gM} {Q : Int32 → dM → Prop} (hG : Gd g) (hQ : ∀ (r : Int32) (m' : dM), Inv g m' → (-2 ≤ r.toInt ∧ r.toInt ≤ 10022) → Q r m') : ∀ n : Nat, (∀ (x1 : Int32) (x2 : Int32) (x3 : Int32) (m : dM), Inv g m → (0 ≤ x1.toInt ∧ x1.toInt ≤ 7) → (-9999 ≤ x2.toInt ∧ x2.toInt ≤ 9999) → (0 ≤ x3.toInt ∧ x3.toInt ≤ 10023) → x1.toInt < (g 86 (gL g)).toInt → 10023 - 1 * x3.toInt < (n : Int) → j_X12_when_70_46 24 x1 x2 x3 m Q) := by
  intro n
  induction n with
  | zero => exact fun x1 x2 x3 m hI h1 h2 h3 hb1 hμ => by exfalso; omega
  | succ n ih =>
    · intro x1 x2 x3 m hI h1 h2 h3 hb1 hμ
      refine v_X12_when_70_46 ?_
      have f1 := dAddE (X := x3.toInt) (Y := x2.toInt) (x := x3) (y := x2) rfl rfl (by omega) (by omega)
      refine ⟨fun hc2 => ?_, fun hc2 => ?_⟩
      · skip
        have f3 := ti_m2
        exact hQ _ _ hI (by omega)
      · skip
        refine Wp.deep (s_X12_canBegin_70 hG hI (by omega) (by omega) (by omega) (fun R3 M3 I3 hr3 => ?_)) (Nat.le_of_ble_eq_true rfl)
        refine ⟨fun hc4 => ?_, fun hc4 => ?_⟩
        · skip
          have f5 := dAddE (X := x3.toInt) (Y := 1) (x := x3) (y := (1 : Int32)) rfl (by decide) (by omega) (by omega)
          exact ih _ _ _ _ I3 (by omega) (by omega) (by omega) (by omega) (by omega)
        · skip
          exact hQ _ _ I3 (by omega)
theorem s_X12_when_70 {g : gM} {x1 : Int32} {m : dM} {Q : Int32 → dM → Prop} (hG : Gd g) (hI : Inv g m) (hQ : ∀ (r : Int32) (m' : dM), Inv g m' → (-2 ≤ r.toInt ∧ r.toInt ≤ 10022) → Q r m') : c_X12_when_70 24 x1 m Q := by
  refine v_X12_when_70 ?_
  refine v_X12_isUse_70 ?_
  have f1 := congrArg Int32.toInt (hI.2 70 18 rfl)
  have f2 := Inv.s hG hI (k := 70) (j := 18) rfl rfl
  refine ⟨by omega, ?_⟩
  refine v_X12_in ?_
  have f3 := ti_0
  refine ⟨fun hc4 => ?_, fun hc4 => ?_⟩
  · skip
    refine v_X12_in_14 ?_
    refine ⟨by decide, ?_⟩
    refine ⟨fun hc5 => ?_, fun hc5 => ?_⟩
    · skip
      exfalso; omega
    · skip
      have f6 := ti_m1
      exact hQ _ _ hI (by omega)
  · skip
    have f5 := Inv.cnt86 hG hI
    have f6 := Inv.s hG hI (k := 86) (j := (m.1 70 18).toNatClampNeg) rfl rfl
    have f7 := dSubE (X := (m.1 86 (m.1 70 18).toNatClampNeg).toInt) (Y := 1) (x := (m.1 86 (m.1 70 18).toNatClampNeg)) (y := (1 : Int32)) rfl (by decide) (by omega) (by omega)
    refine ⟨fun hc8 => ?_, fun hc8 => ?_⟩
    · skip
      refine v_X12_in_14 ?_
      refine ⟨by decide, ?_⟩
      refine ⟨fun hc9 => ?_, fun hc9 => ?_⟩
      · skip
        exfalso; omega
      · skip
        have f10 := ti_m1
        exact hQ _ _ hI (by omega)
    · skip
      have f9 := ti_1
      refine ⟨by decide, ?_⟩
      refine ⟨fun hc10 => ?_, fun hc10 => ?_⟩
      · skip
        refine Wp.deep (s_X12_copies_70 hG hI (fun M11 I11 => ?_)) (Nat.le_of_ble_eq_true rfl)
        have f12 := congrArg Int32.toInt (I11.2 70 18 rfl)
        have f13 := Inv.s hG I11 (k := 70) (j := 18) rfl rfl
        have f14 := dMulE (X := 8) (Y := (M11.1 70 18).toInt) (x := (8 : Int32)) (y := (M11.1 70 18)) (by decide) rfl (by omega) (by omega)
        have f15 := dAddE (X := ((8 : Int32) * (M11.1 70 18)).toInt) (Y := x1.toInt) (x := ((8 : Int32) * (M11.1 70 18))) (y := x1) rfl rfl (by omega) (by omega)
        refine ⟨by omega, ?_⟩
        refine ⟨by omega, ?_⟩
        have f16 := Inv.s hG I11 (k := 90) (j := (((8 : Int32) * (M11.1 70 18)) + x1).toNatClampNeg) rfl rfl
        have f17 := Inv.s hG I11 (k := 89) (j := (((8 : Int32) * (M11.1 70 18)) + x1).toNatClampNeg) rfl rfl
        have f18 := dSubE (X := (M11.1 90 (((8 : Int32) * (M11.1 70 18)) + x1).toNatClampNeg).toInt) (Y := (M11.1 89 (((8 : Int32) * (M11.1 70 18)) + x1).toNatClampNeg).toInt) (x := (M11.1 90 (((8 : Int32) * (M11.1 70 18)) + x1).toNatClampNeg)) (y := (M11.1 89 (((8 : Int32) * (M11.1 70 18)) + x1).toNatClampNeg)) rfl rfl (by omega) (by omega)
        exact (s_X12_when_70_all hG hQ 10025) _ _ _ _ I11 (by omega) (by omega) (by omega) (by omega) (by omega)
      · skip
        exfalso; omega
theorem s_X12_thick_70_all {g : gM} {Q : Int32 → dM → Prop} (hG : Gd g) (hQ : ∀ (r : Int32) (m' : dM), Inv g m' → (-2 ≤ r.toInt ∧ r.toInt ≤ 9) → Q r m') : ∀ n : Nat, (∀ (x1 : Int32) (x2 : Int32) (x3 : Int32) (x4 : Int32) (m : dM), Inv g m → (1 ≤ x1.toInt ∧ x1.toInt ≤ 20) → (1 ≤ x2.toInt ∧ x2.toInt ≤ 201) → (-2 ≤ x3.toInt ∧ x3.toInt ≤ 9) → (0 ≤ x4.toInt ∧ x4.toInt ≤ 10) → 21 - 2 * x4.toInt < (n : Int) → j_X12_thick_70_27 25 x1 x2 x3 x4 m Q) ∧ (∀ (x1 : Int32) (x2 : Int32) (x3 : Int32) (x4 : Int32) (m : dM), Inv g m → (1 ≤ x1.toInt ∧ x1.toInt ≤ 20) → (1 ≤ x2.toInt ∧ x2.toInt ≤ 201) → (-2 ≤ x3.toInt ∧ x3.toInt ≤ 9) → (0 ≤ x4.toInt ∧ x4.toInt ≤ 9) → 20 - 2 * x4.toInt < (n : Int) → j_X12_thick_70_105 25 x1 x2 x3 x4 m Q) := by
  intro n
  induction n with
  | zero => exact ⟨fun x1 x2 x3 x4 m hI h1 h2 h3 h4 hμ => by exfalso; omega, fun x1 x2 x3 x4 m hI h1 h2 h3 h4 hμ => by exfalso; omega⟩
  | succ n ih =>
    refine ⟨?_, ?_⟩
    · intro x1 x2 x3 x4 m hI h1 h2 h3 h4 hμ
      refine v_X12_thick_70_27 ?_
      have f1 := congrArg Int32.toInt (hI.2 70 18 rfl)
      have f2 := Inv.s hG hI (k := 70) (j := 18) rfl rfl
      refine ⟨by omega, ?_⟩
      have f3 := Inv.cnt82 hG hI
      have f4 := Inv.s hG hI (k := 82) (j := (m.1 70 18).toNatClampNeg) rfl rfl
      refine ⟨fun hc5 => ?_, fun hc5 => ?_⟩
      · skip
        exact hQ _ _ hI (by omega)
      · skip
        have f6 := dAddE (X := 10) (Y := x4.toInt) (x := (10 : Int32)) (y := x4) (by decide) rfl (by omega) (by omega)
        refine ⟨by omega, ?_⟩
        refine ⟨fun hc7 => ?_, fun hc7 => ?_⟩
        · skip
          refine Wp.deep (s_X12_copiesStill_70 hG hI (fun M8 I8 => ?_)) (Nat.le_of_ble_eq_true rfl)
          refine ⟨by omega, ?_⟩
          refine v_X12_within ?_
          have f9 := ti_1
          refine ⟨fun hc10 => ?_, fun hc10 => ?_⟩
          · skip
            have f11 := ti_99
            refine ⟨fun hc12 => ?_, fun hc12 => ?_⟩
            · skip
              refine ⟨by omega, ?_⟩
              have I13 : Inv g (dSet M8 108 x4.toNatClampNeg ((M8.1 108 x4.toNatClampNeg) + x1)) := (Inv.setA I8 rfl)
              refine Wp.deep (s_X12_firstGoing_70 hG I13 (fun R14 M14 I14 hr14 => ?_)) (Nat.le_of_ble_eq_true rfl)
              refine ⟨fun hc15 => ?_, fun hc15 => ?_⟩
              · skip
                exact ih.2 _ _ _ _ _ I14 (by omega) (by omega) (by omega) (by omega) (by omega)
              · skip
                exact ih.2 _ _ _ _ _ I14 (by omega) (by omega) (by omega) (by omega) (by omega)
            · skip
              refine ⟨by omega, ?_⟩
              have I13 : Inv g (dSet M8 108 x4.toNatClampNeg (99 : Int32)) := (Inv.setA I8 rfl)
              refine Wp.deep (s_X12_firstGoing_70 hG I13 (fun R14 M14 I14 hr14 => ?_)) (Nat.le_of_ble_eq_true rfl)
              refine ⟨fun hc15 => ?_, fun hc15 => ?_⟩
              · skip
                exact ih.2 _ _ _ _ _ I14 (by omega) (by omega) (by omega) (by omega) (by omega)
              · skip
                exact ih.2 _ _ _ _ _ I14 (by omega) (by omega) (by omega) (by omega) (by omega)
          · skip
            refine ⟨by omega, ?_⟩
            have I11 : Inv g (dSet M8 108 x4.toNatClampNeg (1 : Int32)) := (Inv.setA I8 rfl)
            refine Wp.deep (s_X12_firstGoing_70 hG I11 (fun R12 M12 I12 hr12 => ?_)) (Nat.le_of_ble_eq_true rfl)
            refine ⟨fun hc13 => ?_, fun hc13 => ?_⟩
            · skip
              exact ih.2 _ _ _ _ _ I12 (by omega) (by omega) (by omega) (by omega) (by omega)
            · skip
              exact ih.2 _ _ _ _ _ I12 (by omega) (by omega) (by omega) (by omega) (by omega)
        · skip
          exact ih.2 _ _ _ _ _ hI (by omega) (by omega) (by omega) (by omega) (by omega)
    · intro x1 x2 x3 x4 m hI h1 h2 h3 h4 hμ
      refine v_X12_thick_70_105 ?_
      have f1 := dAddE (X := x4.toInt) (Y := 1) (x := x4) (y := (1 : Int32)) rfl (by decide) (by omega) (by omega)
      exact ih.1 _ _ _ _ _ hI (by omega) (by omega) (by omega) (by omega) (by omega)
theorem s_X12_thick_70 {g : gM} {x1 : Int32} {m : dM} {Q : Int32 → dM → Prop} (hG : Gd g) (hI : Inv g m) (hQ : ∀ (r : Int32) (m' : dM), Inv g m' → (-2 ≤ r.toInt ∧ r.toInt ≤ 9) → Q r m') : c_X12_thick_70 25 x1 m Q := by
  refine v_X12_thick_70 ?_
  refine v_X12_in ?_
  have f1 := ti_1
  refine ⟨fun hc2 => ?_, fun hc2 => ?_⟩
  · skip
    refine v_X12_in_14 ?_
    have f3 := ti_0
    refine ⟨fun hc4 => ?_, fun hc4 => ?_⟩
    · skip
      exfalso; omega
    · skip
      have f5 := ti_m1
      exact hQ _ _ hI (by omega)
  · skip
    have f3 := ti_20
    refine ⟨fun hc4 => ?_, fun hc4 => ?_⟩
    · skip
      refine v_X12_in_14 ?_
      have f5 := ti_0
      refine ⟨fun hc6 => ?_, fun hc6 => ?_⟩
      · skip
        exfalso; omega
      · skip
        have f7 := ti_m1
        exact hQ _ _ hI (by omega)
    · skip
      refine ⟨fun hc5 => ?_, fun hc5 => ?_⟩
      · skip
        refine Wp.deep (s_X12_copiesStill_70 hG hI (fun M6 I6 => ?_)) (Nat.le_of_ble_eq_true rfl)
        refine Wp.deep (s_X12_firstGoing_70 hG I6 (fun R7 M7 I7 hr7 => ?_)) (Nat.le_of_ble_eq_true rfl)
        have f8 := ti_m2
        have f9 := ti_0
        exact (s_X12_thick_70_all hG hQ 23).1 _ _ _ _ _ I7 (by omega) (by omega) (by omega) (by omega) (by omega)
      · skip
        exfalso; omega
theorem s_X1_leastCut_61_47_all {g : gM} {Q : Int32 → dM → Prop} {m : dM} (hG : Gd g) (hI : Inv g m) (hQ : ∀ r : Int32, Q r m) : ∀ n : Nat, (∀ (x2 : Int32) (x3 : Int32), (0 ≤ x2.toInt ∧ x2.toInt ≤ 6) → (0 ≤ x3.toInt ∧ x3.toInt ≤ 4) → 4 - 1 * x3.toInt < (n : Int) → j_X1_leastCut_61_47_2 21 x2 x3 m Q) := by
  intro n
  induction n with
  | zero => exact fun x2 x3 h2 h3 hμ => by exfalso; omega
  | succ n ih =>
    · intro x2 x3 h2 h3 hμ
      refine v_X1_leastCut_61_47_2 ?_
      refine ⟨fun hc1 => ?_, fun hc1 => ?_⟩
      · skip
        have f2 := ti_m1
        exact hQ _
      · skip
        have f2 := ti_0
        refine Wp.deep (s_X1_cutBy_2 hG hI (by omega) (by omega) (by omega) (fun R3 => ?_)) (Nat.le_of_ble_eq_true rfl)
        refine ⟨fun hc4 => ?_, fun hc4 => ?_⟩
        · skip
          have f5 := dAddE (X := x3.toInt) (Y := 1) (x := x3) (y := (1 : Int32)) rfl (by decide) (by omega) (by omega)
          exact ih _ _ (by omega) (by omega) (by omega)
        · skip
          exact hQ _
theorem s_X1_leastCut_61_47 {g : gM} {x2 : Int32} {m : dM} {Q : Int32 → dM → Prop} (hG : Gd g) (hI : Inv g m) (h2 : 0 ≤ x2.toInt ∧ x2.toInt ≤ 6) (hQ : ∀ r : Int32, Q r m) : c_X1_leastCut_61_47 21 x2 m Q := by
  refine v_X1_leastCut_61_47 ?_
  have f1 := ti_0
  exact (s_X1_leastCut_61_47_all hG hI hQ 6) _ _ (by omega) (by omega) (by omega)
theorem s_X11_cut_0 {g : gM} {x1 : Int32} {x2 : Int32} {m : dM} {Q : Int32 → dM → Prop} (hG : Gd g) (hI : Inv g m) (hQ : ∀ r : Int32, (-2 ≤ r.toInt ∧ r.toInt ≤ 63) → Q r m) : c_X11_cut_0 22 x1 x2 m Q := by
  refine v_X11_cut_0 ?_
  refine v_X11_isFlat_0 ?_
  refine ⟨fun hc1 => ?_, fun hc1 => ?_⟩
  · skip
    refine v_X11_isFlat_0_19 ?_
    have f2 := ti_0
    refine ⟨fun hc3 => ?_, fun hc3 => ?_⟩
    · skip
      refine v_X11_cut_0_18 ?_
      have f4 := ti_m1
      exact hQ _ (by omega)
    · skip
      exfalso; omega
  · skip
    have f2 := congrArg Int32.toInt (hI.2 2 0 rfl)
    have f3 := Inv.s hG hI (k := 2) (j := 0) rfl rfl
    refine ⟨fun hc4 => ?_, fun hc4 => ?_⟩
    · skip
      refine v_X11_isFlat_0_19 ?_
      have f5 := ti_0
      refine ⟨fun hc6 => ?_, fun hc6 => ?_⟩
      · skip
        refine v_X11_cut_0_18 ?_
        have f7 := ti_m1
        exact hQ _ (by omega)
      · skip
        exfalso; omega
    · skip
      have f5 := ti_1
      refine ⟨fun hc6 => ?_, fun hc6 => ?_⟩
      · skip
        exfalso; omega
      · skip
        refine ⟨fun hc7 => ?_, fun hc7 => ?_⟩
        · skip
          refine v_X11_cut_0_18 ?_
          have f8 := ti_m1
          exact hQ _ (by omega)
        · skip
          refine ⟨fun hc8 => ?_, fun hc8 => ?_⟩
          · skip
            refine Wp.deep (s_X1_leastCut_61_47 hG hI (by omega) (fun R9 => ?_)) (Nat.le_of_ble_eq_true rfl)
            refine ⟨fun hc10 => ?_, fun hc10 => ?_⟩
            · skip
              refine ⟨fun hc11 => ?_, fun hc11 => ?_⟩
              · skip
                refine Wp.deep (s_X11_bitAt hG hI (by omega) (fun R12 hr12 => ?_)) (Nat.le_of_ble_eq_true rfl)
                exact hQ _ (by omega)
              · skip
                refine Wp.deep (s_J6_bitCount hG hI (fun R12 hr12 => ?_)) (Nat.le_of_ble_eq_true rfl)
                exact hQ _ (by omega)
            · skip
              have f11 := ti_m2
              exact hQ _ (by omega)
          · skip
            refine v_X11_cut_0_18 ?_
            have f9 := ti_m1
            exact hQ _ (by omega)
theorem s_X12_loses_70_all {g : gM} {Q : dM → Prop} (hG : Gd g) (hQ : ∀ m' : dM, Inv g m' → Q m') : ∀ n : Nat, (∀ (x1 : Int32) (x2 : Int32) (m : dM), Inv g m → (0 ≤ x1.toInt ∧ x1.toInt ≤ 1024) → (0 ≤ x2.toInt ∧ x2.toInt ≤ 10) → 21 - 2 * x2.toInt < (n : Int) → j_X12_loses_70_6 22 x1 x2 m Q) ∧ (∀ (x1 : Int32) (x2 : Int32) (m : dM), Inv g m → (0 ≤ x1.toInt ∧ x1.toInt ≤ 1024) → (0 ≤ x2.toInt ∧ x2.toInt ≤ 9) → 20 - 2 * x2.toInt < (n : Int) → j_X12_loses_70_31 22 x1 x2 m Q) := by
  intro n
  induction n with
  | zero => exact ⟨fun x1 x2 m hI h1 h2 hμ => by exfalso; omega, fun x1 x2 m hI h1 h2 hμ => by exfalso; omega⟩
  | succ n ih =>
    refine ⟨?_, ?_⟩
    · intro x1 x2 m hI h1 h2 hμ
      refine v_X12_loses_70_6 ?_
      refine ⟨fun hc1 => ?_, fun hc1 => ?_⟩
      · skip
        refine Wp.deep (s_X12_fillsWays_70 hG hI (fun M2 I2 => ?_)) (Nat.le_of_ble_eq_true rfl)
        exact hQ _ I2
      · skip
        have f2 := ti_1
        have f3 := dAndE (x := (x1 >>> (x2 &&& 31))) (y := (1 : Int32)) (by decide)
        refine ⟨fun hc4 => ?_, fun hc4 => ?_⟩
        · skip
          exact ih.2 _ _ _ hI (by omega) (by omega) (by omega)
        · skip
          have f5 := dAddE (X := 10) (Y := x2.toInt) (x := (10 : Int32)) (y := x2) (by decide) rfl (by omega) (by omega)
          refine ⟨by omega, ?_⟩
          have I6 : Inv g (dSet m 108 ((10 : Int32) + x2).toNatClampNeg (1 : Int32)) := (Inv.setA hI rfl)
          exact ih.2 _ _ _ I6 (by omega) (by omega) (by omega)
    · intro x1 x2 m hI h1 h2 hμ
      refine v_X12_loses_70_31 ?_
      have f1 := dAddE (X := x2.toInt) (Y := 1) (x := x2) (y := (1 : Int32)) rfl (by decide) (by omega) (by omega)
      exact ih.1 _ _ _ hI (by omega) (by omega) (by omega)
theorem s_X12_loses_70 {g : gM} {x1 : Int32} {m : dM} {Q : dM → Prop} (hG : Gd g) (hI : Inv g m) (h1 : 0 ≤ x1.toInt ∧ x1.toInt ≤ 1024) (hQ : ∀ m' : dM, Inv g m' → Q m') : c_X12_loses_70 22 x1 m Q := by
  refine v_X12_loses_70 ?_
  refine Wp.deep (s_X12_copies_70 hG hI (fun M1 I1 => ?_)) (Nat.le_of_ble_eq_true rfl)
  have f2 := ti_0
  exact (s_X12_loses_70_all hG hQ 23).1 _ _ _ I1 (by omega) (by omega) (by omega)
theorem s_X12_cut_70_all {g : gM} {Q : Int32 → dM → Prop} (hG : Gd g) (hQ : ∀ (r : Int32) (m' : dM), Inv g m' → Q r m') : ∀ n : Nat, (∀ (m : dM), Inv g m → 0 < (n : Int) → j_X12_cut_70_17 23 m Q) ∧ (∀ (x1 : Int32) (x2 : Int32) (x3 : Int32) (x4 : Int32) (x5 : Int32) (m : dM), Inv g m → (0 ≤ x1.toInt ∧ x1.toInt ≤ 6) → (-1 ≤ x2.toInt ∧ x2.toInt ≤ 2) → (-1 ≤ x4.toInt ∧ x4.toInt ≤ 1023) → (0 ≤ x5.toInt ∧ x5.toInt ≤ 1024) → 3075 - 3 * x5.toInt < (n : Int) → j_X12_cut_70_30 23 x1 x2 x3 x4 x5 m Q) ∧ (∀ (x1 : Int32) (x2 : Int32) (x3 : Int32) (x4 : Int32) (x5 : Int32) (m : dM), Inv g m → (0 ≤ x1.toInt ∧ x1.toInt ≤ 6) → (-1 ≤ x2.toInt ∧ x2.toInt ≤ 2) → (-1 ≤ x4.toInt ∧ x4.toInt ≤ 1023) → (0 ≤ x5.toInt ∧ x5.toInt ≤ 1023) → 3074 - 3 * x5.toInt < (n : Int) → j_X12_cut_70_109 23 x1 x2 x3 x4 x5 m Q) ∧ (∀ (x1 : Int32) (x2 : Int32) (x3 : Int32) (x4 : Int32) (x5 : Int32) (m : dM), Inv g m → (0 ≤ x1.toInt ∧ x1.toInt ≤ 6) → (-1 ≤ x2.toInt ∧ x2.toInt ≤ 2) → (-1 ≤ x4.toInt ∧ x4.toInt ≤ 1023) → (0 ≤ x5.toInt ∧ x5.toInt ≤ 1023) → 3073 - 3 * x5.toInt < (n : Int) → j_X12_cut_70_127 23 x1 x2 x3 x4 x5 m Q) := by
  intro n
  induction n with
  | zero => exact ⟨fun m hI hμ => by exfalso; omega, fun x1 x2 x3 x4 x5 m hI h1 h2 h4 h5 hμ => by exfalso; omega, fun x1 x2 x3 x4 x5 m hI h1 h2 h4 h5 hμ => by exfalso; omega, fun x1 x2 x3 x4 x5 m hI h1 h2 h4 h5 hμ => by exfalso; omega⟩
  | succ n ih =>
    refine ⟨?_, ?_, ?_, ?_⟩
    · intro m hI hμ
      refine v_X12_cut_70_17 ?_
      have f1 := ti_m1
      exact hQ _ _ hI
    · intro x1 x2 x3 x4 x5 m hI h1 h2 h4 h5 hμ
      refine v_X12_cut_70_30 ?_
      have f1 := congrArg Int32.toInt (hI.2 70 18 rfl)
      have f2 := Inv.s hG hI (k := 70) (j := 18) rfl rfl
      refine ⟨by omega, ?_⟩
      have f3 := Inv.cnt82 hG hI
      have f4 := Inv.s hG hI (k := 82) (j := (m.1 70 18).toNatClampNeg) rfl rfl
      have f5 := dShl10 (x := (m.1 82 (m.1 70 18).toNatClampNeg)) (by omega) (by omega)
      refine ⟨fun hc6 => ?_, fun hc6 => ?_⟩
      · skip
        refine ⟨fun hc7 => ?_, fun hc7 => ?_⟩
        · skip
          refine ⟨fun hc8 => ?_, fun hc8 => ?_⟩
          · skip
            refine Wp.deep (s_X12_ithOf hG hI (by omega) (by omega) (fun R9 hr9 => ?_)) (Nat.le_of_ble_eq_true rfl)
            exact hQ _ _ hI
          · skip
            refine Wp.deep (s_X12_bits hG hI (fun R9 => ?_)) (Nat.le_of_ble_eq_true rfl)
            exact hQ _ _ hI
        · skip
          have f8 := ti_m2
          exact hQ _ _ hI
      · skip
        refine Wp.deep (s_X12_bits hG hI (fun R7 => ?_)) (Nat.le_of_ble_eq_true rfl)
        refine ⟨fun hc8 => ?_, fun hc8 => ?_⟩
        · skip
          exact ih.2.2.2 _ _ _ _ _ _ hI (by omega) (by omega) (by omega) (by omega) (by omega)
        · skip
          refine ⟨fun hc9 => ?_, fun hc9 => ?_⟩
          · skip
            refine ⟨fun hc10 => ?_, fun hc10 => ?_⟩
            · skip
              exact ih.2.2.1 _ _ _ _ _ _ hI (by omega) (by omega) (by omega) (by omega) (by omega)
            · skip
              refine Wp.deep (s_X12_bits hG hI (fun R11 => ?_)) (Nat.le_of_ble_eq_true rfl)
              refine Wp.deep (s_X12_bits hG hI (fun R12 => ?_)) (Nat.le_of_ble_eq_true rfl)
              refine ⟨fun hc13 => ?_, fun hc13 => ?_⟩
              · skip
                exact ih.2.2.2 _ _ _ _ _ _ hI (by omega) (by omega) (by omega) (by omega) (by omega)
              · skip
                refine Wp.deep (s_X12_bits hG hI (fun R14 => ?_)) (Nat.le_of_ble_eq_true rfl)
                refine Wp.deep (s_X12_bits hG hI (fun R15 => ?_)) (Nat.le_of_ble_eq_true rfl)
                refine ⟨fun hc16 => ?_, fun hc16 => ?_⟩
                · skip
                  exact ih.2.2.1 _ _ _ _ _ _ hI (by omega) (by omega) (by omega) (by omega) (by omega)
                · skip
                  refine Wp.deep (s_X12_isEarlier hG hI (by omega) (by omega) (fun R17 hr17 => ?_)) (Nat.le_of_ble_eq_true rfl)
                  refine ⟨fun hc18 => ?_, fun hc18 => ?_⟩
                  · skip
                    exact ih.2.2.1 _ _ _ _ _ _ hI (by omega) (by omega) (by omega) (by omega) (by omega)
                  · skip
                    exact ih.2.2.2 _ _ _ _ _ _ hI (by omega) (by omega) (by omega) (by omega) (by omega)
          · skip
            exact ih.2.2.2 _ _ _ _ _ _ hI (by omega) (by omega) (by omega) (by omega) (by omega)
    · intro x1 x2 x3 x4 x5 m hI h1 h2 h4 h5 hμ
      refine v_X12_cut_70_109 ?_
      refine Wp.deep (s_X12_loses_70 hG hI (by omega) (fun M1 I1 => ?_)) (Nat.le_of_ble_eq_true rfl)
      refine v_X12_isLit_70 ?_
      refine ⟨by omega, ?_⟩
      refine ⟨fun hc2 => ?_, fun hc2 => ?_⟩
      · skip
        have f3 := ti_0
        refine ⟨fun hc4 => ?_, fun hc4 => ?_⟩
        · skip
          exfalso; omega
        · skip
          exact ih.2.2.2 _ _ _ _ _ _ I1 (by omega) (by omega) (by omega) (by omega) (by omega)
      · skip
        have f3 := ti_1
        refine ⟨fun hc4 => ?_, fun hc4 => ?_⟩
        · skip
          exact ih.2.2.2 _ _ _ _ _ _ I1 (by omega) (by omega) (by omega) (by omega) (by omega)
        · skip
          exfalso; omega
    · intro x1 x2 x3 x4 x5 m hI h1 h2 h4 h5 hμ
      refine v_X12_cut_70_127 ?_
      have f1 := dAddE (X := x5.toInt) (Y := 1) (x := x5) (y := (1 : Int32)) rfl (by decide) (by omega) (by omega)
      exact ih.2.1 _ _ _ _ _ _ hI (by omega) (by omega) (by omega) (by omega) (by omega)
theorem s_X12_cut_70 {g : gM} {x1 : Int32} {x2 : Int32} {m : dM} {Q : Int32 → dM → Prop} (hG : Gd g) (hI : Inv g m) (hQ : ∀ (r : Int32) (m' : dM), Inv g m' → Q r m') : c_X12_cut_70 23 x1 x2 m Q := by
  refine v_X12_cut_70 ?_
  refine v_X12_isFlat_70 ?_
  have f1 := congrArg Int32.toInt (hI.2 70 18 rfl)
  have f2 := Inv.s hG hI (k := 70) (j := 18) rfl rfl
  refine ⟨by omega, ?_⟩
  refine v_X12_in ?_
  have f3 := ti_0
  refine ⟨fun hc4 => ?_, fun hc4 => ?_⟩
  · skip
    refine v_X12_in_14 ?_
    refine ⟨by decide, ?_⟩
    refine ⟨fun hc5 => ?_, fun hc5 => ?_⟩
    · skip
      exact (s_X12_cut_70_all hG hQ 3077).1 _ hI (by omega)
    · skip
      exfalso; omega
  · skip
    have f5 := Inv.cnt80 hG hI
    have f6 := Inv.s hG hI (k := 80) (j := (m.1 70 18).toNatClampNeg) rfl rfl
    have f7 := dSubE (X := (m.1 80 (m.1 70 18).toNatClampNeg).toInt) (Y := 1) (x := (m.1 80 (m.1 70 18).toNatClampNeg)) (y := (1 : Int32)) rfl (by decide) (by omega) (by omega)
    refine ⟨fun hc8 => ?_, fun hc8 => ?_⟩
    · skip
      refine v_X12_in_14 ?_
      refine ⟨by decide, ?_⟩
      refine ⟨fun hc9 => ?_, fun hc9 => ?_⟩
      · skip
        exact (s_X12_cut_70_all hG hQ 3077).1 _ hI (by omega)
      · skip
        exfalso; omega
    · skip
      have f9 := ti_1
      refine ⟨by decide, ?_⟩
      refine ⟨fun hc10 => ?_, fun hc10 => ?_⟩
      · skip
        exfalso; omega
      · skip
        refine v_X12_in ?_
        have f11 := ti_m1
        refine ⟨fun hc12 => ?_, fun hc12 => ?_⟩
        · skip
          refine v_X12_in_14 ?_
          refine ⟨fun hc13 => ?_, fun hc13 => ?_⟩
          · skip
            exfalso; omega
          · skip
            exact (s_X12_cut_70_all hG hQ 3077).1 _ hI (by omega)
        · skip
          have f13 := ti_2
          refine ⟨fun hc14 => ?_, fun hc14 => ?_⟩
          · skip
            refine v_X12_in_14 ?_
            refine ⟨fun hc15 => ?_, fun hc15 => ?_⟩
            · skip
              exfalso; omega
            · skip
              exact (s_X12_cut_70_all hG hQ 3077).1 _ hI (by omega)
          · skip
            refine ⟨fun hc15 => ?_, fun hc15 => ?_⟩
            · skip
              refine Wp.deep (s_X12_goneBits_70 hG hI (fun R16 => ?_)) (Nat.le_of_ble_eq_true rfl)
              exact (s_X12_cut_70_all hG hQ 3077).2.1 _ _ _ _ _ _ hI (by omega) (by omega) (by omega) (by omega) (by omega)
            · skip
              exfalso; omega
theorem s_X12_share_70 {g : gM} {x1 : Int32} {x2 : Int32} {m : dM} {Q : Int32 → dM → Prop} (hG : Gd g) (hI : Inv g m) (hQ : ∀ (r : Int32) (m' : dM), Inv g m' → Q r m') : c_X12_share_70 22 x1 x2 m Q := by
  refine v_X12_share_70 ?_
  refine v_X12_isFlat_70 ?_
  have f1 := congrArg Int32.toInt (hI.2 70 18 rfl)
  have f2 := Inv.s hG hI (k := 70) (j := 18) rfl rfl
  refine ⟨by omega, ?_⟩
  refine v_X12_in ?_
  have f3 := ti_0
  refine ⟨fun hc4 => ?_, fun hc4 => ?_⟩
  · skip
    refine v_X12_in_14 ?_
    refine ⟨by decide, ?_⟩
    refine ⟨fun hc5 => ?_, fun hc5 => ?_⟩
    · skip
      refine v_X12_share_70_16 ?_
      have f6 := ti_m1
      exact hQ _ _ hI
    · skip
      exfalso; omega
  · skip
    have f5 := Inv.cnt80 hG hI
    have f6 := Inv.s hG hI (k := 80) (j := (m.1 70 18).toNatClampNeg) rfl rfl
    have f7 := dSubE (X := (m.1 80 (m.1 70 18).toNatClampNeg).toInt) (Y := 1) (x := (m.1 80 (m.1 70 18).toNatClampNeg)) (y := (1 : Int32)) rfl (by decide) (by omega) (by omega)
    refine ⟨fun hc8 => ?_, fun hc8 => ?_⟩
    · skip
      refine v_X12_in_14 ?_
      refine ⟨by decide, ?_⟩
      refine ⟨fun hc9 => ?_, fun hc9 => ?_⟩
      · skip
        refine v_X12_share_70_16 ?_
        have f10 := ti_m1
        exact hQ _ _ hI
      · skip
        exfalso; omega
    · skip
      have f9 := ti_1
      refine ⟨by decide, ?_⟩
      refine ⟨fun hc10 => ?_, fun hc10 => ?_⟩
      · skip
        exfalso; omega
      · skip
        refine v_X12_isWire_70 ?_
        refine ⟨by omega, ?_⟩
        refine v_X12_in ?_
        refine ⟨fun hc11 => ?_, fun hc11 => ?_⟩
        · skip
          refine v_X12_in_14 ?_
          refine ⟨by decide, ?_⟩
          refine ⟨fun hc12 => ?_, fun hc12 => ?_⟩
          · skip
            exfalso; omega
          · skip
            refine v_X12_share_70_16 ?_
            have f13 := ti_m1
            exact hQ _ _ hI
        · skip
          have f12 := Inv.cnt82 hG hI
          have f13 := Inv.s hG hI (k := 82) (j := (m.1 70 18).toNatClampNeg) rfl rfl
          have f14 := dSubE (X := (m.1 82 (m.1 70 18).toNatClampNeg).toInt) (Y := 1) (x := (m.1 82 (m.1 70 18).toNatClampNeg)) (y := (1 : Int32)) rfl (by decide) (by omega) (by omega)
          refine ⟨fun hc15 => ?_, fun hc15 => ?_⟩
          · skip
            refine v_X12_in_14 ?_
            refine ⟨by decide, ?_⟩
            refine ⟨fun hc16 => ?_, fun hc16 => ?_⟩
            · skip
              exfalso; omega
            · skip
              refine v_X12_share_70_16 ?_
              have f17 := ti_m1
              exact hQ _ _ hI
          · skip
            refine ⟨by decide, ?_⟩
            refine ⟨fun hc16 => ?_, fun hc16 => ?_⟩
            · skip
              refine Wp.deep (s_X12_copies_70 hG hI (fun M17 I17 => ?_)) (Nat.le_of_ble_eq_true rfl)
              refine ⟨by omega, ?_⟩
              have f18 := dAndE (x := ((M17.1 110 x1.toNatClampNeg) >>> (x2 &&& 31))) (y := (1 : Int32)) (by decide)
              refine ⟨fun hc19 => ?_, fun hc19 => ?_⟩
              · skip
                exact hQ _ _ I17
              · skip
                refine Wp.deep (s_X12_ampsOn_70 hG I17 (by omega) (fun R20 => ?_)) (Nat.le_of_ble_eq_true rfl)
                exact hQ _ _ I17
            · skip
              exfalso; omega
theorem s_X12_without_70 {g : gM} {x1 : Int32} {m : dM} {Q : Int32 → dM → Prop} (hG : Gd g) (hI : Inv g m) (hQ : ∀ (r : Int32) (m' : dM), Inv g m' → Q r m') : c_X12_without_70 23 x1 m Q := by
  refine v_X12_without_70 ?_
  refine v_X12_isWire_70 ?_
  have f1 := congrArg Int32.toInt (hI.2 70 18 rfl)
  have f2 := Inv.s hG hI (k := 70) (j := 18) rfl rfl
  refine ⟨by omega, ?_⟩
  refine v_X12_in ?_
  have f3 := ti_0
  refine ⟨fun hc4 => ?_, fun hc4 => ?_⟩
  · skip
    refine v_X12_in_14 ?_
    refine ⟨by decide, ?_⟩
    refine ⟨fun hc5 => ?_, fun hc5 => ?_⟩
    · skip
      exfalso; omega
    · skip
      have f6 := ti_m1
      exact hQ _ _ hI
  · skip
    have f5 := Inv.cnt82 hG hI
    have f6 := Inv.s hG hI (k := 82) (j := (m.1 70 18).toNatClampNeg) rfl rfl
    have f7 := dSubE (X := (m.1 82 (m.1 70 18).toNatClampNeg).toInt) (Y := 1) (x := (m.1 82 (m.1 70 18).toNatClampNeg)) (y := (1 : Int32)) rfl (by decide) (by omega) (by omega)
    refine ⟨fun hc8 => ?_, fun hc8 => ?_⟩
    · skip
      refine v_X12_in_14 ?_
      refine ⟨by decide, ?_⟩
      refine ⟨fun hc9 => ?_, fun hc9 => ?_⟩
      · skip
        exfalso; omega
      · skip
        have f10 := ti_m1
        exact hQ _ _ hI
    · skip
      have f9 := ti_1
      refine ⟨by decide, ?_⟩
      refine ⟨fun hc10 => ?_, fun hc10 => ?_⟩
      · skip
        have f11 := dShl10 (x := x1) (by omega) (by omega)
        refine Wp.deep (s_X12_loses_70 hG hI (by omega) (fun M12 I12 => ?_)) (Nat.le_of_ble_eq_true rfl)
        refine Wp.deep (s_X12_darkBits_70 hG I12 (fun R13 => ?_)) (Nat.le_of_ble_eq_true rfl)
        exact hQ _ _ I12
      · skip
        exfalso; omega
theorem s_X12_needed_70_all {g : gM} {Q : Int32 → dM → Prop} (hG : Gd g) (hQ : ∀ (r : Int32) (m' : dM), Inv g m' → Q r m') : ∀ n : Nat, (∀ (x1 : Int32) (x2 : Int32) (x3 : Int32) (m : dM), Inv g m → (0 ≤ x3.toInt ∧ x3.toInt ≤ 10) → 21 - 2 * x3.toInt < (n : Int) → j_X12_needed_70_13 23 x1 x2 x3 m Q) ∧ (∀ (x1 : Int32) (x2 : Int32) (x3 : Int32) (m : dM), Inv g m → (0 ≤ x3.toInt ∧ x3.toInt ≤ 9) → 20 - 2 * x3.toInt < (n : Int) → j_X12_needed_70_63 23 x1 x2 x3 m Q) := by
  intro n
  induction n with
  | zero => exact ⟨fun x1 x2 x3 m hI h3 hμ => by exfalso; omega, fun x1 x2 x3 m hI h3 hμ => by exfalso; omega⟩
  | succ n ih =>
    refine ⟨?_, ?_⟩
    · intro x1 x2 x3 m hI h3 hμ
      refine v_X12_needed_70_13 ?_
      have f1 := congrArg Int32.toInt (hI.2 70 18 rfl)
      have f2 := Inv.s hG hI (k := 70) (j := 18) rfl rfl
      refine ⟨by omega, ?_⟩
      have f3 := Inv.cnt82 hG hI
      have f4 := Inv.s hG hI (k := 82) (j := (m.1 70 18).toNatClampNeg) rfl rfl
      refine ⟨fun hc5 => ?_, fun hc5 => ?_⟩
      · skip
        exact hQ _ _ hI
      · skip
        have f6 := dAddE (X := 10) (Y := x3.toInt) (x := (10 : Int32)) (y := x3) (by decide) rfl (by omega) (by omega)
        refine ⟨by omega, ?_⟩
        refine ⟨fun hc7 => ?_, fun hc7 => ?_⟩
        · skip
          have f8 := dShl10 (x := x3) (by omega) (by omega)
          refine Wp.deep (s_X12_loses_70 hG hI (by omega) (fun M9 I9 => ?_)) (Nat.le_of_ble_eq_true rfl)
          refine Wp.deep (s_X12_darkBits_70 hG I9 (fun R10 => ?_)) (Nat.le_of_ble_eq_true rfl)
          refine ⟨fun hc11 => ?_, fun hc11 => ?_⟩
          · skip
            exact ih.2 _ _ _ _ I9 (by omega) (by omega)
          · skip
            exact ih.2 _ _ _ _ I9 (by omega) (by omega)
        · skip
          exact ih.2 _ _ _ _ hI (by omega) (by omega)
    · intro x1 x2 x3 m hI h3 hμ
      refine v_X12_needed_70_63 ?_
      have f1 := dAddE (X := x3.toInt) (Y := 1) (x := x3) (y := (1 : Int32)) rfl (by decide) (by omega) (by omega)
      exact ih.1 _ _ _ _ hI (by omega) (by omega)
theorem s_X12_needed_70 {g : gM} {m : dM} {Q : Int32 → dM → Prop} (hG : Gd g) (hI : Inv g m) (hQ : ∀ (r : Int32) (m' : dM), Inv g m' → Q r m') : c_X12_needed_70 23 m Q := by
  refine v_X12_needed_70 ?_
  refine Wp.deep (s_X12_copies_70 hG hI (fun M1 I1 => ?_)) (Nat.le_of_ble_eq_true rfl)
  refine Wp.deep (s_X12_darkBits_70 hG I1 (fun R2 => ?_)) (Nat.le_of_ble_eq_true rfl)
  have f3 := ti_0
  exact (s_X12_needed_70_all hG hQ 23).1 _ _ _ _ I1 (by omega) (by omega)
theorem s_X12_hottest_70_all {g : gM} {Q : Int32 → dM → Prop} (hG : Gd g) (hQ : ∀ (r : Int32) (m' : dM), Inv g m' → Q r m') : ∀ n : Nat, (∀ (x1 : Int32) (x2 : Int32) (x3 : Int32) (x4 : Int32) (x5 : Int32) (m : dM), Inv g m → (0 ≤ x1.toInt ∧ x1.toInt ≤ 1) → (-2000 ≤ x3.toInt ∧ x3.toInt ≤ 9) → (0 ≤ x5.toInt ∧ x5.toInt ≤ 10) → 32 - 3 * x5.toInt < (n : Int) → j_X12_hottest_70_34 22 x1 x2 x3 x4 x5 m Q) ∧ (∀ (x1 : Int32) (x2 : Int32) (x5 : Int32) (x6 : Int32) (m : dM), Inv g m → (0 ≤ x1.toInt ∧ x1.toInt ≤ 1) → (0 ≤ x5.toInt ∧ x5.toInt ≤ 9) → 31 - 3 * x5.toInt < (n : Int) → j_X12_hottest_70_88 22 x1 x2 x5 x6 m Q) ∧ (∀ (x1 : Int32) (x2 : Int32) (x3 : Int32) (x4 : Int32) (x5 : Int32) (m : dM), Inv g m → (0 ≤ x1.toInt ∧ x1.toInt ≤ 1) → (-2000 ≤ x3.toInt ∧ x3.toInt ≤ 9) → (0 ≤ x5.toInt ∧ x5.toInt ≤ 9) → 30 - 3 * x5.toInt < (n : Int) → j_X12_hottest_70_95 22 x1 x2 x3 x4 x5 m Q) := by
  intro n
  induction n with
  | zero => exact ⟨fun x1 x2 x3 x4 x5 m hI h1 h3 h5 hμ => by exfalso; omega, fun x1 x2 x5 x6 m hI h1 h5 hμ => by exfalso; omega, fun x1 x2 x3 x4 x5 m hI h1 h3 h5 hμ => by exfalso; omega⟩
  | succ n ih =>
    refine ⟨?_, ?_, ?_⟩
    · intro x1 x2 x3 x4 x5 m hI h1 h3 h5 hμ
      refine v_X12_hottest_70_34 ?_
      have f1 := congrArg Int32.toInt (hI.2 70 18 rfl)
      have f2 := Inv.s hG hI (k := 70) (j := 18) rfl rfl
      refine ⟨by omega, ?_⟩
      have f3 := Inv.cnt82 hG hI
      have f4 := Inv.s hG hI (k := 82) (j := (m.1 70 18).toNatClampNeg) rfl rfl
      refine ⟨fun hc5 => ?_, fun hc5 => ?_⟩
      · skip
        refine ⟨fun hc6 => ?_, fun hc6 => ?_⟩
        · skip
          exact hQ _ _ hI
        · skip
          exact hQ _ _ hI
      · skip
        refine Wp.deep (s_X12_loadBy_70 hG hI (by omega) (fun R6 => ?_)) (Nat.le_of_ble_eq_true rfl)
        refine ⟨by omega, ?_⟩
        refine v_X12_isWhole_70 ?_
        refine v_X12_isWire_70 ?_
        refine ⟨by omega, ?_⟩
        refine v_X12_in ?_
        have f7 := ti_0
        refine ⟨fun hc8 => ?_, fun hc8 => ?_⟩
        · skip
          exfalso; omega
        · skip
          have f9 := dSubE (X := (m.1 82 (m.1 70 18).toNatClampNeg).toInt) (Y := 1) (x := (m.1 82 (m.1 70 18).toNatClampNeg)) (y := (1 : Int32)) rfl (by decide) (by omega) (by omega)
          refine ⟨fun hc10 => ?_, fun hc10 => ?_⟩
          · skip
            refine v_X12_in_14 ?_
            refine ⟨by decide, ?_⟩
            refine ⟨fun hc11 => ?_, fun hc11 => ?_⟩
            · skip
              refine v_X12_isWhole_70_24 ?_
              refine ⟨fun hc12 => ?_, fun hc12 => ?_⟩
              · skip
                exact ih.2.2 _ _ _ _ _ _ hI (by omega) (by omega) (by omega) (by omega)
              · skip
                exfalso; omega
            · skip
              exfalso; omega
          · skip
            have f11 := ti_1
            refine ⟨by decide, ?_⟩
            refine ⟨fun hc12 => ?_, fun hc12 => ?_⟩
            · skip
              exfalso; omega
            · skip
              have f13 := dAddE (X := 10) (Y := x5.toInt) (x := (10 : Int32)) (y := x5) (by decide) rfl (by omega) (by omega)
              refine ⟨by omega, ?_⟩
              refine ⟨fun hc14 => ?_, fun hc14 => ?_⟩
              · skip
                refine v_X12_isWhole_70_24 ?_
                refine ⟨fun hc15 => ?_, fun hc15 => ?_⟩
                · skip
                  exact ih.2.2 _ _ _ _ _ _ hI (by omega) (by omega) (by omega) (by omega)
                · skip
                  exfalso; omega
              · skip
                refine ⟨fun hc15 => ?_, fun hc15 => ?_⟩
                · skip
                  exfalso; omega
                · skip
                  refine ⟨fun hc16 => ?_, fun hc16 => ?_⟩
                  · skip
                    exact ih.2.1 _ _ _ _ _ hI (by omega) (by omega) (by omega)
                  · skip
                    refine ⟨fun hc17 => ?_, fun hc17 => ?_⟩
                    · skip
                      exact ih.2.1 _ _ _ _ _ hI (by omega) (by omega) (by omega)
                    · skip
                      exact ih.2.2 _ _ _ _ _ _ hI (by omega) (by omega) (by omega) (by omega)
    · intro x1 x2 x5 x6 m hI h1 h5 hμ
      refine v_X12_hottest_70_88 ?_
      exact ih.2.2 _ _ _ _ _ _ hI (by omega) (by omega) (by omega) (by omega)
    · intro x1 x2 x3 x4 x5 m hI h1 h3 h5 hμ
      refine v_X12_hottest_70_95 ?_
      have f1 := dAddE (X := x5.toInt) (Y := 1) (x := x5) (y := (1 : Int32)) rfl (by decide) (by omega) (by omega)
      exact ih.1 _ _ _ _ _ _ hI (by omega) (by omega) (by omega) (by omega)
theorem s_X12_hottest_70 {g : gM} {x1 : Int32} {m : dM} {Q : Int32 → dM → Prop} (hG : Gd g) (hI : Inv g m) (hQ : ∀ (r : Int32) (m' : dM), Inv g m' → Q r m') : c_X12_hottest_70 22 x1 m Q := by
  refine v_X12_hottest_70 ?_
  refine v_X12_in ?_
  have f1 := ti_0
  refine ⟨fun hc2 => ?_, fun hc2 => ?_⟩
  · skip
    refine v_X12_in_14 ?_
    refine ⟨fun hc3 => ?_, fun hc3 => ?_⟩
    · skip
      exfalso; omega
    · skip
      have f4 := ti_m1000
      exact hQ _ _ hI
  · skip
    have f3 := ti_1
    refine ⟨fun hc4 => ?_, fun hc4 => ?_⟩
    · skip
      refine v_X12_in_14 ?_
      refine ⟨fun hc5 => ?_, fun hc5 => ?_⟩
      · skip
        exfalso; omega
      · skip
        have f6 := ti_m1000
        exact hQ _ _ hI
    · skip
      refine ⟨fun hc5 => ?_, fun hc5 => ?_⟩
      · skip
        refine Wp.deep (s_X12_copies_70 hG hI (fun M6 I6 => ?_)) (Nat.le_of_ble_eq_true rfl)
        refine Wp.deep (s_X12_onNow_70 hG I6 (fun R7 => ?_)) (Nat.le_of_ble_eq_true rfl)
        have f8 := ti_m2000
        exact (s_X12_hottest_70_all hG hQ 34).1 _ _ _ _ _ _ I6 (by omega) (by omega) (by omega) (by omega)
      · skip
        exfalso; omega
theorem s_X12_clash_70 {g : gM} {x1 : Int32} {x2 : Int32} {m : dM} {Q : Int32 → dM → Prop} (hG : Gd g) (hI : Inv g m) (hQ : ∀ (r : Int32) (m' : dM), Inv g m' → Q r m') : c_X12_clash_70 23 x1 x2 m Q := by
  refine v_X12_clash_70 ?_
  refine v_X12_isUse_70 ?_
  have f1 := congrArg Int32.toInt (hI.2 70 18 rfl)
  have f2 := Inv.s hG hI (k := 70) (j := 18) rfl rfl
  refine ⟨by omega, ?_⟩
  refine v_X12_in ?_
  have f3 := ti_0
  refine ⟨fun hc4 => ?_, fun hc4 => ?_⟩
  · skip
    refine v_X12_in_14 ?_
    refine ⟨by decide, ?_⟩
    refine ⟨fun hc5 => ?_, fun hc5 => ?_⟩
    · skip
      refine v_X12_clash_70_21 ?_
      have f6 := ti_m1
      exact hQ _ _ hI
    · skip
      exfalso; omega
  · skip
    have f5 := Inv.cnt86 hG hI
    have f6 := Inv.s hG hI (k := 86) (j := (m.1 70 18).toNatClampNeg) rfl rfl
    have f7 := dSubE (X := (m.1 86 (m.1 70 18).toNatClampNeg).toInt) (Y := 1) (x := (m.1 86 (m.1 70 18).toNatClampNeg)) (y := (1 : Int32)) rfl (by decide) (by omega) (by omega)
    refine ⟨fun hc8 => ?_, fun hc8 => ?_⟩
    · skip
      refine v_X12_in_14 ?_
      refine ⟨by decide, ?_⟩
      refine ⟨fun hc9 => ?_, fun hc9 => ?_⟩
      · skip
        refine v_X12_clash_70_21 ?_
        have f10 := ti_m1
        exact hQ _ _ hI
      · skip
        exfalso; omega
    · skip
      have f9 := ti_1
      refine ⟨by decide, ?_⟩
      refine ⟨fun hc10 => ?_, fun hc10 => ?_⟩
      · skip
        exfalso; omega
      · skip
        refine v_X12_isUse_70 ?_
        refine ⟨by omega, ?_⟩
        refine v_X12_in ?_
        refine ⟨fun hc11 => ?_, fun hc11 => ?_⟩
        · skip
          refine v_X12_in_14 ?_
          refine ⟨by decide, ?_⟩
          refine ⟨fun hc12 => ?_, fun hc12 => ?_⟩
          · skip
            refine v_X12_clash_70_21 ?_
            have f13 := ti_m1
            exact hQ _ _ hI
          · skip
            exfalso; omega
        · skip
          refine ⟨fun hc12 => ?_, fun hc12 => ?_⟩
          · skip
            refine v_X12_in_14 ?_
            refine ⟨by decide, ?_⟩
            refine ⟨fun hc13 => ?_, fun hc13 => ?_⟩
            · skip
              refine v_X12_clash_70_21 ?_
              have f14 := ti_m1
              exact hQ _ _ hI
            · skip
              exfalso; omega
          · skip
            refine ⟨by decide, ?_⟩
            refine ⟨fun hc13 => ?_, fun hc13 => ?_⟩
            · skip
              exfalso; omega
            · skip
              refine ⟨fun hc14 => ?_, fun hc14 => ?_⟩
              · skip
                refine Wp.deep (s_X12_copies_70 hG hI (fun M15 I15 => ?_)) (Nat.le_of_ble_eq_true rfl)
                refine v_X12_flatAt_70 ?_
                have f16 := congrArg Int32.toInt (I15.2 70 18 rfl)
                have f17 := Inv.s hG I15 (k := 70) (j := 18) rfl rfl
                have f18 := dMulE (X := 8) (Y := (M15.1 70 18).toInt) (x := (8 : Int32)) (y := (M15.1 70 18)) (by decide) rfl (by omega) (by omega)
                have f19 := dAddE (X := ((8 : Int32) * (M15.1 70 18)).toInt) (Y := x1.toInt) (x := ((8 : Int32) * (M15.1 70 18))) (y := x1) rfl rfl (by omega) (by omega)
                refine ⟨by omega, ?_⟩
                refine v_X12_isLit_70 ?_
                have f20 := Inv.cnt86 hG I15
                have f21 := Inv.s hG I15 (k := 86) (j := (M15.1 70 18).toNatClampNeg) rfl rfl
                have f22 := Inv.flat hG I15 (u := x1) (by omega) (by omega)
                refine ⟨by omega, ?_⟩
                refine ⟨fun hc23 => ?_, fun hc23 => ?_⟩
                · skip
                  refine ⟨fun hc24 => ?_, fun hc24 => ?_⟩
                  · skip
                    refine v_X12_clash_70_51 ?_
                    exact hQ _ _ I15
                  · skip
                    exfalso; omega
                · skip
                  refine ⟨fun hc24 => ?_, fun hc24 => ?_⟩
                  · skip
                    exfalso; omega
                  · skip
                    refine v_X12_flatAt_70 ?_
                    have f25 := dAddE (X := ((8 : Int32) * (M15.1 70 18)).toInt) (Y := x2.toInt) (x := ((8 : Int32) * (M15.1 70 18))) (y := x2) rfl rfl (by omega) (by omega)
                    refine ⟨by omega, ?_⟩
                    refine v_X12_isLit_70 ?_
                    have f26 := Inv.flat hG I15 (u := x2) (by omega) (by omega)
                    refine ⟨by omega, ?_⟩
                    refine ⟨fun hc27 => ?_, fun hc27 => ?_⟩
                    · skip
                      refine ⟨fun hc28 => ?_, fun hc28 => ?_⟩
                      · skip
                        exfalso; omega
                      · skip
                        refine v_X12_clash_70_51 ?_
                        exact hQ _ _ I15
                    · skip
                      refine ⟨fun hc28 => ?_, fun hc28 => ?_⟩
                      · skip
                        have f29 := dShl8 (x := x1) (by omega) (by omega)
                        have f30 := dShl8 (x := x2) (by omega) (by omega)
                        have f31 := dRemE (x := (M15.1 108 55)) (y := (24 : Int32)) (Y := 24) (by decide) (by decide)
                        refine Wp.deep (s_X12_goingBits_70 hG I15 (by omega) (fun R32 M32 I32 => ?_)) (Nat.le_of_ble_eq_true rfl)
                        refine Wp.deep (s_X12_goingBits_70 hG I32 (by omega) (fun R33 M33 I33 => ?_)) (Nat.le_of_ble_eq_true rfl)
                        refine Wp.deep (s_X12_goingBits_70 hG I33 (by omega) (fun R34 M34 I34 => ?_)) (Nat.le_of_ble_eq_true rfl)
                        refine Wp.deep (s_X12_bits hG I34 (fun R35 => ?_)) (Nat.le_of_ble_eq_true rfl)
                        exact hQ _ _ I34
                      · skip
                        exfalso; omega
              · skip
                refine v_X12_clash_70_21 ?_
                have f15 := ti_m1
                exact hQ _ _ hI
theorem s_X12_then_70_all {g : gM} {Q : Int32 → dM → Prop} (hG : Gd g) (hQ : ∀ (r : Int32) (m' : dM), Inv g m' → Q r m') : ∀ n : Nat, (∀ (m : dM), Inv g m → 0 < (n : Int) → j_X12_then_70_16 25 m Q) ∧ (∀ (x3 : Int32) (x4 : Int32) (m : dM), Inv g m → (0 ≤ x4.toInt ∧ x4.toInt ≤ 10) → 11 - 1 * x4.toInt < (n : Int) → j_X12_then_70_57 25 x3 x4 m Q) := by
  intro n
  induction n with
  | zero => exact ⟨fun m hI hμ => by exfalso; omega, fun x3 x4 m hI h4 hμ => by exfalso; omega⟩
  | succ n ih =>
    refine ⟨?_, ?_⟩
    · intro m hI hμ
      refine v_X12_then_70_16 ?_
      have f1 := ti_m1
      exact hQ _ _ hI
    · intro x3 x4 m hI h4 hμ
      refine v_X12_then_70_57 ?_
      have f1 := congrArg Int32.toInt (hI.2 70 18 rfl)
      have f2 := Inv.s hG hI (k := 70) (j := 18) rfl rfl
      refine ⟨by omega, ?_⟩
      have f3 := Inv.cnt82 hG hI
      have f4 := Inv.s hG hI (k := 82) (j := (m.1 70 18).toNatClampNeg) rfl rfl
      refine ⟨fun hc5 => ?_, fun hc5 => ?_⟩
      · skip
        exact hQ _ _ hI
      · skip
        have f6 := dAddE (X := 10) (Y := x4.toInt) (x := (10 : Int32)) (y := x4) (by decide) rfl (by omega) (by omega)
        refine ⟨by omega, ?_⟩
        have f7 := dAddE (X := x4.toInt) (Y := 1) (x := x4) (y := (1 : Int32)) rfl (by decide) (by omega) (by omega)
        exact ih.2 _ _ _ hI (by omega) (by omega)
theorem s_X12_then_70 {g : gM} {x1 : Int32} {x2 : Int32} {m : dM} {Q : Int32 → dM → Prop} (hG : Gd g) (hI : Inv g m) (hQ : ∀ (r : Int32) (m' : dM), Inv g m' → Q r m') : c_X12_then_70 25 x1 x2 m Q := by
  refine v_X12_then_70 ?_
  refine v_X12_isLong ?_
  refine v_X12_in ?_
  have f1 := ti_0
  refine ⟨fun hc2 => ?_, fun hc2 => ?_⟩
  · skip
    refine v_X12_in_14 ?_
    refine ⟨by decide, ?_⟩
    refine ⟨fun hc3 => ?_, fun hc3 => ?_⟩
    · skip
      exact (s_X12_then_70_all hG hQ 13).1 _ hI (by omega)
    · skip
      exfalso; omega
  · skip
    have f3 := ti_72
    refine ⟨fun hc4 => ?_, fun hc4 => ?_⟩
    · skip
      refine v_X12_in_14 ?_
      refine ⟨by decide, ?_⟩
      refine ⟨fun hc5 => ?_, fun hc5 => ?_⟩
      · skip
        exact (s_X12_then_70_all hG hQ 13).1 _ hI (by omega)
      · skip
        exfalso; omega
    · skip
      have f5 := ti_1
      refine ⟨by decide, ?_⟩
      refine ⟨fun hc6 => ?_, fun hc6 => ?_⟩
      · skip
        exfalso; omega
      · skip
        refine v_X12_in ?_
        refine ⟨fun hc7 => ?_, fun hc7 => ?_⟩
        · skip
          refine v_X12_in_14 ?_
          refine ⟨fun hc8 => ?_, fun hc8 => ?_⟩
          · skip
            exfalso; omega
          · skip
            exact (s_X12_then_70_all hG hQ 13).1 _ hI (by omega)
        · skip
          have f8 := ti_2
          refine ⟨fun hc9 => ?_, fun hc9 => ?_⟩
          · skip
            refine v_X12_in_14 ?_
            refine ⟨fun hc10 => ?_, fun hc10 => ?_⟩
            · skip
              exfalso; omega
            · skip
              exact (s_X12_then_70_all hG hQ 13).1 _ hI (by omega)
          · skip
            refine ⟨fun hc10 => ?_, fun hc10 => ?_⟩
            · skip
              refine Wp.deep (s_X12_copies_70 hG hI (fun M11 I11 => ?_)) (Nat.le_of_ble_eq_true rfl)
              refine Wp.deep (s_X12_goes_70 hG I11 (by omega) (fun M12 I12 => ?_)) (Nat.le_of_ble_eq_true rfl)
              refine ⟨fun hc13 => ?_, fun hc13 => ?_⟩
              · skip
                exact (s_X12_then_70_all hG hQ 13).2 _ _ _ I12 (by omega) (by omega)
              · skip
                have f14 := dAddE (X := 56) (Y := x2.toInt) (x := (56 : Int32)) (y := x2) (by decide) rfl (by omega) (by omega)
                refine ⟨by omega, ?_⟩
                refine ⟨by omega, ?_⟩
                exact hQ _ _ I12
            · skip
              exfalso; omega
end
section
theorem s_X12_litIn_70 {g : gM} {x1 : Int32} {x2 : Int32} {m : dM} {Q : Int32 → dM → Prop} (hG : Gd g) (hI : Inv g m) (hQ : ∀ (r : Int32) (m' : dM), Inv g m' → (-1 ≤ r.toInt ∧ r.toInt ≤ 1) → Q r m') : c_X12_litIn_70 25 x1 x2 m Q := by
  refine v_X12_litIn_70 ?_
  refine v_X12_isFlat_70 ?_
  have f1 := congrArg Int32.toInt (hI.2 70 18 rfl)
  have f2 := Inv.s hG hI (k := 70) (j := 18) rfl rfl
  refine ⟨by omega, ?_⟩
  refine v_X12_in ?_
  have f3 := ti_0
  refine ⟨fun hc4 => ?_, fun hc4 => ?_⟩
  · skip
    refine v_X12_in_14 ?_
    refine ⟨by decide, ?_⟩
    refine ⟨fun hc5 => ?_, fun hc5 => ?_⟩
    · skip
      refine v_X12_litIn_70_15 ?_
      have f6 := ti_m1
      exact hQ _ _ hI (by omega)
    · skip
      exfalso; omega
  · skip
    have f5 := Inv.cnt80 hG hI
    have f6 := Inv.s hG hI (k := 80) (j := (m.1 70 18).toNatClampNeg) rfl rfl
    have f7 := dSubE (X := (m.1 80 (m.1 70 18).toNatClampNeg).toInt) (Y := 1) (x := (m.1 80 (m.1 70 18).toNatClampNeg)) (y := (1 : Int32)) rfl (by decide) (by omega) (by omega)
    refine ⟨fun hc8 => ?_, fun hc8 => ?_⟩
    · skip
      refine v_X12_in_14 ?_
      refine ⟨by decide, ?_⟩
      refine ⟨fun hc9 => ?_, fun hc9 => ?_⟩
      · skip
        refine v_X12_litIn_70_15 ?_
        have f10 := ti_m1
        exact hQ _ _ hI (by omega)
      · skip
        exfalso; omega
    · skip
      have f9 := ti_1
      refine ⟨by decide, ?_⟩
      refine ⟨fun hc10 => ?_, fun hc10 => ?_⟩
      · skip
        exfalso; omega
      · skip
        refine v_X12_isLong ?_
        refine v_X12_in ?_
        refine ⟨fun hc11 => ?_, fun hc11 => ?_⟩
        · skip
          refine v_X12_in_14 ?_
          refine ⟨by decide, ?_⟩
          refine ⟨fun hc12 => ?_, fun hc12 => ?_⟩
          · skip
            exfalso; omega
          · skip
            refine v_X12_litIn_70_15 ?_
            have f13 := ti_m1
            exact hQ _ _ hI (by omega)
        · skip
          have f12 := ti_72
          refine ⟨fun hc13 => ?_, fun hc13 => ?_⟩
          · skip
            refine v_X12_in_14 ?_
            refine ⟨by decide, ?_⟩
            refine ⟨fun hc14 => ?_, fun hc14 => ?_⟩
            · skip
              exfalso; omega
            · skip
              refine v_X12_litIn_70_15 ?_
              have f15 := ti_m1
              exact hQ _ _ hI (by omega)
          · skip
            refine ⟨by decide, ?_⟩
            refine ⟨fun hc14 => ?_, fun hc14 => ?_⟩
            · skip
              refine Wp.deep (s_X12_copies_70 hG hI (fun M15 I15 => ?_)) (Nat.le_of_ble_eq_true rfl)
              refine Wp.deep (s_X12_goes_70 hG I15 (by omega) (fun M16 I16 => ?_)) (Nat.le_of_ble_eq_true rfl)
              refine v_X12_isLit_70 ?_
              refine ⟨by omega, ?_⟩
              refine ⟨fun hc17 => ?_, fun hc17 => ?_⟩
              · skip
                refine ⟨fun hc18 => ?_, fun hc18 => ?_⟩
                · skip
                  exact hQ _ _ I16 (by omega)
                · skip
                  exfalso; omega
              · skip
                refine ⟨fun hc18 => ?_, fun hc18 => ?_⟩
                · skip
                  exfalso; omega
                · skip
                  exact hQ _ _ I16 (by omega)
            · skip
              exfalso; omega
theorem s_X12_year_70_all {g : gM} {Q : Int32 → dM → Prop} (hG : Gd g) (hQ : ∀ (r : Int32) (m' : dM), Inv g m' → Q r m') : ∀ n : Nat, (∀ (m : dM), Inv g m → 0 < (n : Int) → j_X12_year_70_17 24 m Q) ∧ (∀ (x1 : Int32) (x2 : Int32) (x3 : Int32) (x4 : Int32) (m : dM), Inv g m → (0 ≤ x1.toInt ∧ x1.toInt ≤ 72) → (1 ≤ x2.toInt ∧ x2.toInt ≤ 20) → (0 ≤ x4.toInt ∧ x4.toInt ≤ 20) → 3150 - 150 * x4.toInt < (n : Int) → j_X12_year_70_24 24 x1 x2 x3 x4 m Q) ∧ (∀ (x1 : Int32) (x2 : Int32) (x3 : Int32) (x4 : Int32) (x5 : Int32) (x6 : Int32) (m : dM), Inv g m → (0 ≤ x1.toInt ∧ x1.toInt ≤ 72) → (1 ≤ x2.toInt ∧ x2.toInt ≤ 20) → (0 ≤ x4.toInt ∧ x4.toInt ≤ 19) → (0 ≤ x5.toInt ∧ x5.toInt ≤ 1) → (0 ≤ x6.toInt ∧ x6.toInt ≤ 73) → 3149 - 150 * x4.toInt - 2 * x6.toInt < (n : Int) → j_X12_year_70_51 24 x1 x2 x3 x4 x5 x6 m Q) ∧ (∀ (x1 : Int32) (x2 : Int32) (x3 : Int32) (x4 : Int32) (x5 : Int32) (x6 : Int32) (m : dM), Inv g m → (1 ≤ x1.toInt ∧ x1.toInt ≤ 72) → (1 ≤ x2.toInt ∧ x2.toInt ≤ 20) → (0 ≤ x4.toInt ∧ x4.toInt ≤ 19) → (0 ≤ x5.toInt ∧ x5.toInt ≤ 1) → (0 ≤ x6.toInt ∧ x6.toInt ≤ 72) → 3148 - 150 * x4.toInt - 2 * x6.toInt < (n : Int) → j_X12_year_70_71 24 x1 x2 x3 x4 x5 x6 m Q) ∧ (∀ (x1 : Int32) (x2 : Int32) (x3 : Int32) (x4 : Int32) (m : dM), Inv g m → (0 ≤ x1.toInt ∧ x1.toInt ≤ 72) → (1 ≤ x2.toInt ∧ x2.toInt ≤ 20) → (0 ≤ x4.toInt ∧ x4.toInt ≤ 19) → 3001 - 150 * x4.toInt < (n : Int) → j_X12_year_70_85 24 x1 x2 x3 x4 m Q) := by
  intro n
  induction n with
  | zero => exact ⟨fun m hI hμ => by exfalso; omega, fun x1 x2 x3 x4 m hI h1 h2 h4 hμ => by exfalso; omega, fun x1 x2 x3 x4 x5 x6 m hI h1 h2 h4 h5 h6 hμ => by exfalso; omega, fun x1 x2 x3 x4 x5 x6 m hI h1 h2 h4 h5 h6 hμ => by exfalso; omega, fun x1 x2 x3 x4 m hI h1 h2 h4 hμ => by exfalso; omega⟩
  | succ n ih =>
    refine ⟨?_, ?_, ?_, ?_, ?_⟩
    · intro m hI hμ
      refine v_X12_year_70_17 ?_
      have f1 := ti_m1
      exact hQ _ _ hI
    · intro x1 x2 x3 x4 m hI h1 h2 h4 hμ
      refine v_X12_year_70_24 ?_
      refine ⟨fun hc1 => ?_, fun hc1 => ?_⟩
      · skip
        exact hQ _ _ hI
      · skip
        refine Wp.deep (s_X12_copies_70 hG hI (fun M2 I2 => ?_)) (Nat.le_of_ble_eq_true rfl)
        have f3 := ti_1
        have f4 := ti_0
        have I5 : Inv g (dSet M2 70 56 ((M2.1 70 56) + x4)) := (Inv.setA I2 rfl)
        exact ih.2.2.1 _ _ _ _ _ _ _ I5 (by omega) (by omega) (by omega) (by omega) (by omega) (by omega)
    · intro x1 x2 x3 x4 x5 x6 m hI h1 h2 h4 h5 h6 hμ
      refine v_X12_year_70_51 ?_
      refine ⟨fun hc1 => ?_, fun hc1 => ?_⟩
      · skip
        refine ⟨fun hc2 => ?_, fun hc2 => ?_⟩
        · skip
          exact ih.2.2.2.2 _ _ _ _ _ hI (by omega) (by omega) (by omega) (by omega)
        · skip
          exact ih.2.2.2.2 _ _ _ _ _ hI (by omega) (by omega) (by omega) (by omega)
      · skip
        refine Wp.deep (s_X12_hourGoes_70 hG hI (fun M2 I2 => ?_)) (Nat.le_of_ble_eq_true rfl)
        refine ⟨fun hc3 => ?_, fun hc3 => ?_⟩
        · skip
          exact ih.2.2.2.1 _ _ _ _ _ _ _ I2 (by omega) (by omega) (by omega) (by omega) (by omega) (by omega)
        · skip
          have f4 := ti_0
          exact ih.2.2.2.1 _ _ _ _ _ _ _ I2 (by omega) (by omega) (by omega) (by omega) (by omega) (by omega)
    · intro x1 x2 x3 x4 x5 x6 m hI h1 h2 h4 h5 h6 hμ
      refine v_X12_year_70_71 ?_
      have f1 := dAddE (X := x6.toInt) (Y := 1) (x := x6) (y := (1 : Int32)) rfl (by decide) (by omega) (by omega)
      exact ih.2.2.1 _ _ _ _ _ _ _ hI (by omega) (by omega) (by omega) (by omega) (by omega) (by omega)
    · intro x1 x2 x3 x4 m hI h1 h2 h4 hμ
      refine v_X12_year_70_85 ?_
      have f1 := dAddE (X := x4.toInt) (Y := 1) (x := x4) (y := (1 : Int32)) rfl (by decide) (by omega) (by omega)
      exact ih.2.1 _ _ _ _ _ hI (by omega) (by omega) (by omega) (by omega)
theorem s_X12_year_70 {g : gM} {x1 : Int32} {x2 : Int32} {m : dM} {Q : Int32 → dM → Prop} (hG : Gd g) (hI : Inv g m) (hQ : ∀ (r : Int32) (m' : dM), Inv g m' → Q r m') : c_X12_year_70 24 x1 x2 m Q := by
  refine v_X12_year_70 ?_
  refine v_X12_isLong ?_
  refine v_X12_in ?_
  have f1 := ti_0
  refine ⟨fun hc2 => ?_, fun hc2 => ?_⟩
  · skip
    refine v_X12_in_14 ?_
    refine ⟨by decide, ?_⟩
    refine ⟨fun hc3 => ?_, fun hc3 => ?_⟩
    · skip
      exact (s_X12_year_70_all hG hQ 3152).1 _ hI (by omega)
    · skip
      exfalso; omega
  · skip
    have f3 := ti_72
    refine ⟨fun hc4 => ?_, fun hc4 => ?_⟩
    · skip
      refine v_X12_in_14 ?_
      refine ⟨by decide, ?_⟩
      refine ⟨fun hc5 => ?_, fun hc5 => ?_⟩
      · skip
        exact (s_X12_year_70_all hG hQ 3152).1 _ hI (by omega)
      · skip
        exfalso; omega
    · skip
      have f5 := ti_1
      refine ⟨by decide, ?_⟩
      refine ⟨fun hc6 => ?_, fun hc6 => ?_⟩
      · skip
        exfalso; omega
      · skip
        refine v_X12_in ?_
        refine ⟨fun hc7 => ?_, fun hc7 => ?_⟩
        · skip
          refine v_X12_in_14 ?_
          refine ⟨fun hc8 => ?_, fun hc8 => ?_⟩
          · skip
            exfalso; omega
          · skip
            exact (s_X12_year_70_all hG hQ 3152).1 _ hI (by omega)
        · skip
          have f8 := ti_20
          refine ⟨fun hc9 => ?_, fun hc9 => ?_⟩
          · skip
            refine v_X12_in_14 ?_
            refine ⟨fun hc10 => ?_, fun hc10 => ?_⟩
            · skip
              exfalso; omega
            · skip
              exact (s_X12_year_70_all hG hQ 3152).1 _ hI (by omega)
          · skip
            refine ⟨fun hc10 => ?_, fun hc10 => ?_⟩
            · skip
              exact (s_X12_year_70_all hG hQ 3152).2.1 _ _ _ _ _ hI (by omega) (by omega) (by omega) (by omega)
            · skip
              exfalso; omega
theorem s_X12_wentBits_70_all {g : gM} {Q : Int32 → dM → Prop} (hG : Gd g) (hQ : ∀ (r : Int32) (m' : dM), Inv g m' → Q r m') : ∀ n : Nat, (∀ (x1 : Int32) (x2 : Int32) (x3 : Int32) (m : dM), Inv g m → (0 ≤ x1.toInt ∧ x1.toInt ≤ 20) → (0 ≤ x3.toInt ∧ x3.toInt ≤ 10) → 483 - 44 * x3.toInt < (n : Int) → j_X12_wentBits_70_4 23 x1 x2 x3 m Q) ∧ (∀ (x1 : Int32) (x2 : Int32) (x3 : Int32) (x4 : Int32) (x5 : Int32) (m : dM), Inv g m → (0 ≤ x1.toInt ∧ x1.toInt ≤ 20) → (0 ≤ x3.toInt ∧ x3.toInt ≤ 9) → (0 ≤ x4.toInt ∧ x4.toInt ≤ 1) → (0 ≤ x5.toInt ∧ x5.toInt ≤ 20) → 482 - 44 * x3.toInt - 2 * x5.toInt < (n : Int) → j_X12_wentBits_70_56 23 x1 x2 x3 x4 x5 m Q) ∧ (∀ (x1 : Int32) (x2 : Int32) (x3 : Int32) (x4 : Int32) (x5 : Int32) (m : dM), Inv g m → (1 ≤ x1.toInt ∧ x1.toInt ≤ 20) → (0 ≤ x3.toInt ∧ x3.toInt ≤ 9) → (0 ≤ x4.toInt ∧ x4.toInt ≤ 1) → (0 ≤ x5.toInt ∧ x5.toInt ≤ 19) → 481 - 44 * x3.toInt - 2 * x5.toInt < (n : Int) → j_X12_wentBits_70_91 23 x1 x2 x3 x4 x5 m Q) ∧ (∀ (x1 : Int32) (x2 : Int32) (x3 : Int32) (m : dM), Inv g m → (0 ≤ x1.toInt ∧ x1.toInt ≤ 20) → (0 ≤ x3.toInt ∧ x3.toInt ≤ 9) → 440 - 44 * x3.toInt < (n : Int) → j_X12_wentBits_70_108 23 x1 x2 x3 m Q) := by
  intro n
  induction n with
  | zero => exact ⟨fun x1 x2 x3 m hI h1 h3 hμ => by exfalso; omega, fun x1 x2 x3 x4 x5 m hI h1 h3 h4 h5 hμ => by exfalso; omega, fun x1 x2 x3 x4 x5 m hI h1 h3 h4 h5 hμ => by exfalso; omega, fun x1 x2 x3 m hI h1 h3 hμ => by exfalso; omega⟩
  | succ n ih =>
    refine ⟨?_, ?_, ?_, ?_⟩
    · intro x1 x2 x3 m hI h1 h3 hμ
      refine v_X12_wentBits_70_4 ?_
      have f1 := congrArg Int32.toInt (hI.2 70 18 rfl)
      have f2 := Inv.s hG hI (k := 70) (j := 18) rfl rfl
      refine ⟨by omega, ?_⟩
      have f3 := Inv.cnt82 hG hI
      have f4 := Inv.s hG hI (k := 82) (j := (m.1 70 18).toNatClampNeg) rfl rfl
      refine ⟨fun hc5 => ?_, fun hc5 => ?_⟩
      · skip
        exact hQ _ _ hI
      · skip
        have f6 := dAddE (X := 10) (Y := x3.toInt) (x := (10 : Int32)) (y := x3) (by decide) rfl (by omega) (by omega)
        refine ⟨by omega, ?_⟩
        refine ⟨fun hc7 => ?_, fun hc7 => ?_⟩
        · skip
          have f8 := dShl10 (x := x3) (by omega) (by omega)
          refine Wp.deep (s_X12_loses_70 hG hI (by omega) (fun M9 I9 => ?_)) (Nat.le_of_ble_eq_true rfl)
          refine Wp.deep (s_X12_litBits_70 hG I9 (fun R10 => ?_)) (Nat.le_of_ble_eq_true rfl)
          refine ⟨by omega, ?_⟩
          have f11 := ti_1
          have f12 := ti_0
          have I13 : Inv g (dSet M9 114 x3.toNatClampNeg R10) := (Inv.setA I9 rfl)
          exact ih.2.1 _ _ _ _ _ _ I13 (by omega) (by omega) (by omega) (by omega) (by omega)
        · skip
          exact ih.2.2.2 _ _ _ _ hI (by omega) (by omega) (by omega)
    · intro x1 x2 x3 x4 x5 m hI h1 h3 h4 h5 hμ
      refine v_X12_wentBits_70_56 ?_
      refine ⟨fun hc1 => ?_, fun hc1 => ?_⟩
      · skip
        refine ⟨fun hc2 => ?_, fun hc2 => ?_⟩
        · skip
          exact ih.2.2.2 _ _ _ _ hI (by omega) (by omega) (by omega)
        · skip
          have f3 := dShl10 (x := x3) (by omega) (by omega)
          exact ih.2.2.2 _ _ _ _ hI (by omega) (by omega) (by omega)
      · skip
        refine ⟨by omega, ?_⟩
        refine ⟨by omega, ?_⟩
        refine ⟨by omega, ?_⟩
        have f2 := ti_1
        have f3 := dAndE (x := ((m.1 114 x3.toNatClampNeg) >>> ((m.1 112 x5.toNatClampNeg) &&& 31))) (y := (1 : Int32)) (by decide)
        refine ⟨fun hc4 => ?_, fun hc4 => ?_⟩
        · skip
          exact ih.2.2.1 _ _ _ _ _ _ hI (by omega) (by omega) (by omega) (by omega) (by omega)
        · skip
          have f5 := ti_0
          exact ih.2.2.1 _ _ _ _ _ _ hI (by omega) (by omega) (by omega) (by omega) (by omega)
    · intro x1 x2 x3 x4 x5 m hI h1 h3 h4 h5 hμ
      refine v_X12_wentBits_70_91 ?_
      have f1 := dAddE (X := x5.toInt) (Y := 1) (x := x5) (y := (1 : Int32)) rfl (by decide) (by omega) (by omega)
      exact ih.2.1 _ _ _ _ _ _ hI (by omega) (by omega) (by omega) (by omega) (by omega)
    · intro x1 x2 x3 m hI h1 h3 hμ
      refine v_X12_wentBits_70_108 ?_
      have f1 := dAddE (X := x3.toInt) (Y := 1) (x := x3) (y := (1 : Int32)) rfl (by decide) (by omega) (by omega)
      exact ih.1 _ _ _ _ hI (by omega) (by omega) (by omega)
theorem s_X12_wentBits_70 {g : gM} {x1 : Int32} {m : dM} {Q : Int32 → dM → Prop} (hG : Gd g) (hI : Inv g m) (h1 : 0 ≤ x1.toInt ∧ x1.toInt ≤ 20) (hQ : ∀ (r : Int32) (m' : dM), Inv g m' → Q r m') : c_X12_wentBits_70 23 x1 m Q := by
  refine v_X12_wentBits_70 ?_
  have f1 := ti_0
  exact (s_X12_wentBits_70_all hG hQ 485).1 _ _ _ _ hI (by omega) (by omega) (by omega)
theorem s_X12_went_70 {g : gM} {x1 : Int32} {x2 : Int32} {m : dM} {Q : Int32 → dM → Prop} (hG : Gd g) (hI : Inv g m) (hQ : ∀ (r : Int32) (m' : dM), Inv g m' → Q r m') : c_X12_went_70 24 x1 x2 m Q := by
  refine v_X12_went_70 ?_
  refine v_X12_in ?_
  have f1 := ti_0
  refine ⟨fun hc2 => ?_, fun hc2 => ?_⟩
  · skip
    refine v_X12_in_14 ?_
    refine ⟨fun hc3 => ?_, fun hc3 => ?_⟩
    · skip
      refine v_X12_went_70_21 ?_
      have f4 := ti_m1
      exact hQ _ _ hI
    · skip
      exfalso; omega
  · skip
    have f3 := congrArg Int32.toInt (hI.2 70 63 rfl)
    have f4 := Inv.s hG hI (k := 70) (j := 63) rfl rfl
    refine ⟨fun hc5 => ?_, fun hc5 => ?_⟩
    · skip
      refine v_X12_in_14 ?_
      refine ⟨fun hc6 => ?_, fun hc6 => ?_⟩
      · skip
        refine v_X12_went_70_21 ?_
        have f7 := ti_m1
        exact hQ _ _ hI
      · skip
        exfalso; omega
    · skip
      have f6 := ti_1
      refine ⟨fun hc7 => ?_, fun hc7 => ?_⟩
      · skip
        exfalso; omega
      · skip
        refine v_X12_in ?_
        refine ⟨fun hc8 => ?_, fun hc8 => ?_⟩
        · skip
          refine v_X12_in_14 ?_
          refine ⟨fun hc9 => ?_, fun hc9 => ?_⟩
          · skip
            exfalso; omega
          · skip
            refine v_X12_went_70_21 ?_
            have f10 := ti_m1
            exact hQ _ _ hI
        · skip
          refine ⟨fun hc9 => ?_, fun hc9 => ?_⟩
          · skip
            refine v_X12_in_14 ?_
            refine ⟨fun hc10 => ?_, fun hc10 => ?_⟩
            · skip
              exfalso; omega
            · skip
              refine v_X12_went_70_21 ?_
              have f11 := ti_m1
              exact hQ _ _ hI
          · skip
            refine ⟨fun hc10 => ?_, fun hc10 => ?_⟩
            · skip
              refine Wp.deep (s_X12_wentBits_70 hG hI (by omega) (fun R11 M11 I11 => ?_)) (Nat.le_of_ble_eq_true rfl)
              refine ⟨fun hc12 => ?_, fun hc12 => ?_⟩
              · skip
                exact hQ _ _ I11
              · skip
                refine Wp.deep (s_X12_bits hG I11 (fun R13 => ?_)) (Nat.le_of_ble_eq_true rfl)
                exact hQ _ _ I11
            · skip
              exfalso; omega
theorem s_X12_ask_70_all {g : gM} {Q : Int32 → dM → Prop} (hG : Gd g) (hQ : ∀ (r : Int32) (m' : dM), Inv g m' → (-2 ≤ r.toInt ∧ r.toInt ≤ 6) → Q r m') : ∀ n : Nat, (∀ (x2 : Int32) (x3 : Int32) (x4 : Int32) (x5 : Int32) (m : dM), Inv g m → (-2 ≤ x3.toInt ∧ x3.toInt ≤ 6) → (0 ≤ x5.toInt ∧ x5.toInt ≤ 7) → 200 - 25 * x5.toInt < (n : Int) → j_X12_ask_70_29 24 x2 x3 x4 x5 m Q) ∧ (∀ (x2 : Int32) (x3 : Int32) (x4 : Int32) (x5 : Int32) (x6 : Int32) (x7 : Int32) (m : dM), Inv g m → (-2 ≤ x3.toInt ∧ x3.toInt ≤ 6) → (0 ≤ x5.toInt ∧ x5.toInt ≤ 6) → (0 ≤ x7.toInt ∧ x7.toInt ≤ 10) → 199 - 25 * x5.toInt - 2 * x7.toInt < (n : Int) → j_X12_ask_70_53 24 x2 x3 x4 x5 x6 x7 m Q) ∧ (∀ (x2 : Int32) (x3 : Int32) (x4 : Int32) (x5 : Int32) (x6 : Int32) (x7 : Int32) (m : dM), Inv g m → (-2 ≤ x3.toInt ∧ x3.toInt ≤ 6) → (0 ≤ x5.toInt ∧ x5.toInt ≤ 6) → (0 ≤ x7.toInt ∧ x7.toInt ≤ 9) → 198 - 25 * x5.toInt - 2 * x7.toInt < (n : Int) → j_X12_ask_70_94 24 x2 x3 x4 x5 x6 x7 m Q) ∧ (∀ (x2 : Int32) (x5 : Int32) (x7 : Int32) (m : dM), Inv g m → (0 ≤ x5.toInt ∧ x5.toInt ≤ 6) → 177 - 25 * x5.toInt < (n : Int) → j_X12_ask_70_140 24 x2 x5 x7 m Q) ∧ (∀ (x2 : Int32) (x3 : Int32) (x4 : Int32) (x5 : Int32) (m : dM), Inv g m → (0 ≤ x3.toInt ∧ x3.toInt ≤ 6) → (0 ≤ x5.toInt ∧ x5.toInt ≤ 6) → 176 - 25 * x5.toInt < (n : Int) → j_X12_ask_70_147 24 x2 x3 x4 x5 m Q) ∧ (∀ (x3 : Int32) (m : dM), Inv g m → (-2 ≤ x3.toInt ∧ x3.toInt ≤ 6) → 0 < (n : Int) → j_X12_ask_70_153 24 x3 m Q) := by
  intro n
  induction n with
  | zero => exact ⟨fun x2 x3 x4 x5 m hI h3 h5 hμ => by exfalso; omega, fun x2 x3 x4 x5 x6 x7 m hI h3 h5 h7 hμ => by exfalso; omega, fun x2 x3 x4 x5 x6 x7 m hI h3 h5 h7 hμ => by exfalso; omega, fun x2 x5 x7 m hI h5 hμ => by exfalso; omega, fun x2 x3 x4 x5 m hI h3 h5 hμ => by exfalso; omega, fun x3 m hI h3 hμ => by exfalso; omega⟩
  | succ n ih =>
    refine ⟨?_, ?_, ?_, ?_, ?_, ?_⟩
    · intro x2 x3 x4 x5 m hI h3 h5 hμ
      refine v_X12_ask_70_29 ?_
      have f1 := congrArg Int32.toInt (hI.2 70 18 rfl)
      have f2 := Inv.s hG hI (k := 70) (j := 18) rfl rfl
      refine ⟨by omega, ?_⟩
      have f3 := Inv.cnt80 hG hI
      have f4 := Inv.s hG hI (k := 80) (j := (m.1 70 18).toNatClampNeg) rfl rfl
      refine ⟨fun hc5 => ?_, fun hc5 => ?_⟩
      · skip
        exact ih.2.2.2.2.2 _ _ hI (by omega) (by omega)
      · skip
        refine ⟨fun hc6 => ?_, fun hc6 => ?_⟩
        · skip
          exact ih.2.2.2.2.2 _ _ hI (by omega) (by omega)
        · skip
          have f7 := ti_0
          exact ih.2.1 _ _ _ _ _ _ _ hI (by omega) (by omega) (by omega) (by omega)
    · intro x2 x3 x4 x5 x6 x7 m hI h3 h5 h7 hμ
      refine v_X12_ask_70_53 ?_
      have f1 := congrArg Int32.toInt (hI.2 70 18 rfl)
      have f2 := Inv.s hG hI (k := 70) (j := 18) rfl rfl
      refine ⟨by omega, ?_⟩
      have f3 := Inv.cnt82 hG hI
      have f4 := Inv.s hG hI (k := 82) (j := (m.1 70 18).toNatClampNeg) rfl rfl
      refine ⟨fun hc5 => ?_, fun hc5 => ?_⟩
      · skip
        refine Wp.deep (s_X12_bits hG hI (fun R6 => ?_)) (Nat.le_of_ble_eq_true rfl)
        refine ⟨fun hc7 => ?_, fun hc7 => ?_⟩
        · skip
          refine Wp.deep (s_X12_bits hG hI (fun R8 => ?_)) (Nat.le_of_ble_eq_true rfl)
          refine ⟨fun hc9 => ?_, fun hc9 => ?_⟩
          · skip
            exact ih.2.2.2.1 _ _ _ _ hI (by omega) (by omega)
          · skip
            refine ⟨fun hc10 => ?_, fun hc10 => ?_⟩
            · skip
              exact ih.2.2.2.1 _ _ _ _ hI (by omega) (by omega)
            · skip
              exact ih.2.2.2.2.1 _ _ _ _ _ hI (by omega) (by omega) (by omega)
        · skip
          refine ⟨fun hc8 => ?_, fun hc8 => ?_⟩
          · skip
            exact ih.2.2.2.1 _ _ _ _ hI (by omega) (by omega)
          · skip
            refine ⟨fun hc9 => ?_, fun hc9 => ?_⟩
            · skip
              exact ih.2.2.2.1 _ _ _ _ hI (by omega) (by omega)
            · skip
              exact ih.2.2.2.2.1 _ _ _ _ _ hI (by omega) (by omega) (by omega)
      · skip
        have f6 := ti_1
        have f7 := dAndE (x := (x2 >>> (x7 &&& 31))) (y := (1 : Int32)) (by decide)
        refine ⟨fun hc8 => ?_, fun hc8 => ?_⟩
        · skip
          exact ih.2.2.1 _ _ _ _ _ _ _ hI (by omega) (by omega) (by omega) (by omega)
        · skip
          refine ⟨by omega, ?_⟩
          have f9 := dAndE (x := ((m.1 114 x7.toNatClampNeg) >>> (x5 &&& 31))) (y := (1 : Int32)) (by decide)
          exact ih.2.2.1 _ _ _ _ _ _ _ hI (by omega) (by omega) (by omega) (by omega)
    · intro x2 x3 x4 x5 x6 x7 m hI h3 h5 h7 hμ
      refine v_X12_ask_70_94 ?_
      have f1 := dAddE (X := x7.toInt) (Y := 1) (x := x7) (y := (1 : Int32)) rfl (by decide) (by omega) (by omega)
      exact ih.2.1 _ _ _ _ _ _ _ hI (by omega) (by omega) (by omega) (by omega)
    · intro x2 x5 x7 m hI h5 hμ
      refine v_X12_ask_70_140 ?_
      exact ih.2.2.2.2.1 _ _ _ _ _ hI (by omega) (by omega) (by omega)
    · intro x2 x3 x4 x5 m hI h3 h5 hμ
      refine v_X12_ask_70_147 ?_
      have f1 := dAddE (X := x5.toInt) (Y := 1) (x := x5) (y := (1 : Int32)) rfl (by decide) (by omega) (by omega)
      exact ih.1 _ _ _ _ _ hI (by omega) (by omega) (by omega)
    · intro x3 m hI h3 hμ
      refine v_X12_ask_70_153 ?_
      exact hQ _ _ hI (by omega)
theorem s_X12_ask_70 {g : gM} {x1 : Int32} {m : dM} {Q : Int32 → dM → Prop} (hG : Gd g) (hI : Inv g m) (hQ : ∀ (r : Int32) (m' : dM), Inv g m' → (-2 ≤ r.toInt ∧ r.toInt ≤ 6) → Q r m') : c_X12_ask_70 24 x1 m Q := by
  refine v_X12_ask_70 ?_
  refine v_X12_in ?_
  have f1 := ti_0
  refine ⟨fun hc2 => ?_, fun hc2 => ?_⟩
  · skip
    refine v_X12_in_14 ?_
    refine ⟨fun hc3 => ?_, fun hc3 => ?_⟩
    · skip
      exfalso; omega
    · skip
      have f4 := ti_m1
      exact hQ _ _ hI (by omega)
  · skip
    have f3 := congrArg Int32.toInt (hI.2 70 63 rfl)
    have f4 := Inv.s hG hI (k := 70) (j := 63) rfl rfl
    refine ⟨fun hc5 => ?_, fun hc5 => ?_⟩
    · skip
      refine v_X12_in_14 ?_
      refine ⟨fun hc6 => ?_, fun hc6 => ?_⟩
      · skip
        exfalso; omega
      · skip
        have f7 := ti_m1
        exact hQ _ _ hI (by omega)
    · skip
      have f6 := ti_1
      refine ⟨fun hc7 => ?_, fun hc7 => ?_⟩
      · skip
        refine Wp.deep (s_X12_wentBits_70 hG hI (by omega) (fun R8 M8 I8 => ?_)) (Nat.le_of_ble_eq_true rfl)
        have f9 := ti_m2
        exact (s_X12_ask_70_all hG hQ 202).1 _ _ _ _ _ I8 (by omega) (by omega) (by omega)
      · skip
        exfalso; omega
theorem s_X12_count_70_all {g : gM} {Q : Int32 → dM → Prop} (hG : Gd g) (hQ : ∀ (r : Int32) (m' : dM), Inv g m' → Q r m') : ∀ n : Nat, (∀ (x2 : Int32) (x3 : Int32) (m : dM), Inv g m → (0 ≤ x3.toInt ∧ x3.toInt ≤ 10) → 10 - 1 * x3.toInt < (n : Int) → j_X12_count_70_228 22 x2 x3 m Q) ∧ (∀ (x2 : Int32) (x3 : Int32) (m : dM), Inv g m → (0 ≤ x3.toInt ∧ x3.toInt ≤ 10) → 32 - 2 * x3.toInt < (n : Int) → j_X12_count_70_265 22 x2 x3 m Q) ∧ (∀ (x2 : Int32) (x3 : Int32) (m : dM), Inv g m → (0 ≤ x3.toInt ∧ x3.toInt ≤ 9) → 31 - 2 * x3.toInt < (n : Int) → j_X12_count_70_295 22 x2 x3 m Q) := by
  intro n
  induction n with
  | zero => exact ⟨fun x2 x3 m hI h3 hμ => by exfalso; omega, fun x2 x3 m hI h3 hμ => by exfalso; omega, fun x2 x3 m hI h3 hμ => by exfalso; omega⟩
  | succ n ih =>
    refine ⟨?_, ?_, ?_⟩
    · intro x2 x3 m hI h3 hμ
      refine v_X12_count_70_228 ?_
      have f1 := congrArg Int32.toInt (hI.2 70 18 rfl)
      have f2 := Inv.s hG hI (k := 70) (j := 18) rfl rfl
      refine ⟨by omega, ?_⟩
      have f3 := Inv.cnt82 hG hI
      have f4 := Inv.s hG hI (k := 82) (j := (m.1 70 18).toNatClampNeg) rfl rfl
      refine ⟨fun hc5 => ?_, fun hc5 => ?_⟩
      · skip
        exact hQ _ _ hI
      · skip
        have f6 := dAddE (X := 30) (Y := x3.toInt) (x := (30 : Int32)) (y := x3) (by decide) rfl (by omega) (by omega)
        refine ⟨by omega, ?_⟩
        have f7 := dAddE (X := x3.toInt) (Y := 1) (x := x3) (y := (1 : Int32)) rfl (by decide) (by omega) (by omega)
        exact ih.1 _ _ _ hI (by omega) (by omega)
    · intro x2 x3 m hI h3 hμ
      refine v_X12_count_70_265 ?_
      have f1 := congrArg Int32.toInt (hI.2 70 18 rfl)
      have f2 := Inv.s hG hI (k := 70) (j := 18) rfl rfl
      refine ⟨by omega, ?_⟩
      have f3 := Inv.cnt82 hG hI
      have f4 := Inv.s hG hI (k := 82) (j := (m.1 70 18).toNatClampNeg) rfl rfl
      refine ⟨fun hc5 => ?_, fun hc5 => ?_⟩
      · skip
        exact hQ _ _ hI
      · skip
        refine v_X12_isWhole_70 ?_
        refine v_X12_isWire_70 ?_
        refine ⟨by omega, ?_⟩
        refine v_X12_in ?_
        have f6 := ti_0
        refine ⟨fun hc7 => ?_, fun hc7 => ?_⟩
        · skip
          exfalso; omega
        · skip
          have f8 := dSubE (X := (m.1 82 (m.1 70 18).toNatClampNeg).toInt) (Y := 1) (x := (m.1 82 (m.1 70 18).toNatClampNeg)) (y := (1 : Int32)) rfl (by decide) (by omega) (by omega)
          refine ⟨fun hc9 => ?_, fun hc9 => ?_⟩
          · skip
            refine v_X12_in_14 ?_
            refine ⟨by decide, ?_⟩
            refine ⟨fun hc10 => ?_, fun hc10 => ?_⟩
            · skip
              refine v_X12_isWhole_70_24 ?_
              refine ⟨fun hc11 => ?_, fun hc11 => ?_⟩
              · skip
                exact ih.2.2 _ _ _ hI (by omega) (by omega)
              · skip
                exfalso; omega
            · skip
              exfalso; omega
          · skip
            have f10 := ti_1
            refine ⟨by decide, ?_⟩
            refine ⟨fun hc11 => ?_, fun hc11 => ?_⟩
            · skip
              exfalso; omega
            · skip
              have f12 := dAddE (X := 10) (Y := x3.toInt) (x := (10 : Int32)) (y := x3) (by decide) rfl (by omega) (by omega)
              refine ⟨by omega, ?_⟩
              refine ⟨fun hc13 => ?_, fun hc13 => ?_⟩
              · skip
                refine v_X12_isWhole_70_24 ?_
                refine ⟨fun hc14 => ?_, fun hc14 => ?_⟩
                · skip
                  exact ih.2.2 _ _ _ hI (by omega) (by omega)
                · skip
                  exfalso; omega
              · skip
                refine ⟨fun hc14 => ?_, fun hc14 => ?_⟩
                · skip
                  exfalso; omega
                · skip
                  refine ⟨by omega, ?_⟩
                  exact ih.2.2 _ _ _ hI (by omega) (by omega)
    · intro x2 x3 m hI h3 hμ
      refine v_X12_count_70_295 ?_
      have f1 := dAddE (X := x3.toInt) (Y := 1) (x := x3) (y := (1 : Int32)) rfl (by decide) (by omega) (by omega)
      exact ih.2.1 _ _ _ hI (by omega) (by omega)
theorem s_X12_count_70 {g : gM} {x1 : Int32} {m : dM} {Q : Int32 → dM → Prop} (hG : Gd g) (hI : Inv g m) (hQ : ∀ (r : Int32) (m' : dM), Inv g m' → Q r m') : c_X12_count_70 22 x1 m Q := by
  refine v_X12_count_70 ?_
  refine Wp.deep (s_X12_copies_70 hG hI (fun M1 I1 => ?_)) (Nat.le_of_ble_eq_true rfl)
  refine ⟨fun hc2 => ?_, fun hc2 => ?_, fun hc2 => ?_, fun hc2 => ?_, fun hc2 => ?_, fun hc2 => ?_, fun hc2 => ?_, fun hc2 => ?_, fun hc2 => ?_, fun hc2 => ?_, fun hc2 => ?_, fun hc2 => ?_, fun hc2 => ?_, fun hc2 => ?_, fun hc2 => ?_, fun hc2 => ?_, fun hc2 => ?_⟩
  · skip
    have f3 := congrArg Int32.toInt (I1.2 70 18 rfl)
    have f4 := Inv.s hG I1 (k := 70) (j := 18) rfl rfl
    refine ⟨by omega, ?_⟩
    have f5 := Inv.cnt80 hG I1
    have f6 := Inv.s hG I1 (k := 80) (j := (M1.1 70 18).toNatClampNeg) rfl rfl
    exact hQ _ _ I1
  · skip
    have f3 := congrArg Int32.toInt (I1.2 70 18 rfl)
    have f4 := Inv.s hG I1 (k := 70) (j := 18) rfl rfl
    refine ⟨by omega, ?_⟩
    have f5 := Inv.cnt82 hG I1
    have f6 := Inv.s hG I1 (k := 82) (j := (M1.1 70 18).toNatClampNeg) rfl rfl
    exact hQ _ _ I1
  · skip
    have f3 := congrArg Int32.toInt (I1.2 70 18 rfl)
    have f4 := Inv.s hG I1 (k := 70) (j := 18) rfl rfl
    refine ⟨by omega, ?_⟩
    have f5 := Inv.cnt86 hG I1
    have f6 := Inv.s hG I1 (k := 86) (j := (M1.1 70 18).toNatClampNeg) rfl rfl
    exact hQ _ _ I1
  · skip
    exact hQ _ _ I1
  · skip
    exact hQ _ _ I1
  · skip
    exact hQ _ _ I1
  · skip
    refine Wp.deep (s_X12_goneBits_70 hG I1 (fun R3 => ?_)) (Nat.le_of_ble_eq_true rfl)
    exact hQ _ _ I1
  · skip
    refine Wp.deep (s_X12_litBits_70 hG I1 (fun R3 => ?_)) (Nat.le_of_ble_eq_true rfl)
    exact hQ _ _ I1
  · skip
    refine Wp.deep (s_X12_onNow_70 hG I1 (fun R3 => ?_)) (Nat.le_of_ble_eq_true rfl)
    exact hQ _ _ I1
  · skip
    have f3 := congrArg Int32.toInt (I1.2 70 2 rfl)
    have f4 := Inv.s hG I1 (k := 70) (j := 2) rfl rfl
    exact hQ _ _ I1
  · skip
    have f3 := Inv.w I1 (k := 70) (j := 61) rfl
    exact hQ _ _ I1
  · skip
    have f3 := congrArg Int32.toInt (I1.2 70 63 rfl)
    have f4 := Inv.s hG I1 (k := 70) (j := 63) rfl rfl
    exact hQ _ _ I1
  · skip
    have f3 := congrArg Int32.toInt (I1.2 115 0 rfl)
    refine ⟨fun hc4 => ?_, fun hc4 => ?_⟩
    · skip
      have f5 := congrArg Int32.toInt (I1.2 115 1 rfl)
      refine ⟨fun hc6 => ?_, fun hc6 => ?_⟩
      · skip
        have f7 := congrArg Int32.toInt (I1.2 115 2 rfl)
        refine ⟨fun hc8 => ?_, fun hc8 => ?_⟩
        · skip
          have f9 := dAddE (X := 0) (Y := 0) (x := (0 : Int32)) (y := (0 : Int32)) (by decide) (by decide) (by omega) (by omega)
          have f10 := dAddE (X := ((0 : Int32) + (0 : Int32)).toInt) (Y := 0) (x := ((0 : Int32) + (0 : Int32))) (y := (0 : Int32)) rfl (by decide) (by omega) (by omega)
          exact hQ _ _ I1
        · skip
          have f9 := dAddE (X := 0) (Y := 0) (x := (0 : Int32)) (y := (0 : Int32)) (by decide) (by decide) (by omega) (by omega)
          have f10 := dAddE (X := ((0 : Int32) + (0 : Int32)).toInt) (Y := 1) (x := ((0 : Int32) + (0 : Int32))) (y := (1 : Int32)) rfl (by decide) (by omega) (by omega)
          exact hQ _ _ I1
      · skip
        have f7 := congrArg Int32.toInt (I1.2 115 2 rfl)
        refine ⟨fun hc8 => ?_, fun hc8 => ?_⟩
        · skip
          have f9 := dAddE (X := 0) (Y := 1) (x := (0 : Int32)) (y := (1 : Int32)) (by decide) (by decide) (by omega) (by omega)
          have f10 := dAddE (X := ((0 : Int32) + (1 : Int32)).toInt) (Y := 0) (x := ((0 : Int32) + (1 : Int32))) (y := (0 : Int32)) rfl (by decide) (by omega) (by omega)
          exact hQ _ _ I1
        · skip
          have f9 := dAddE (X := 0) (Y := 1) (x := (0 : Int32)) (y := (1 : Int32)) (by decide) (by decide) (by omega) (by omega)
          have f10 := dAddE (X := ((0 : Int32) + (1 : Int32)).toInt) (Y := 1) (x := ((0 : Int32) + (1 : Int32))) (y := (1 : Int32)) rfl (by decide) (by omega) (by omega)
          exact hQ _ _ I1
    · skip
      have f5 := congrArg Int32.toInt (I1.2 115 1 rfl)
      refine ⟨fun hc6 => ?_, fun hc6 => ?_⟩
      · skip
        have f7 := congrArg Int32.toInt (I1.2 115 2 rfl)
        refine ⟨fun hc8 => ?_, fun hc8 => ?_⟩
        · skip
          have f9 := dAddE (X := 1) (Y := 0) (x := (1 : Int32)) (y := (0 : Int32)) (by decide) (by decide) (by omega) (by omega)
          have f10 := dAddE (X := ((1 : Int32) + (0 : Int32)).toInt) (Y := 0) (x := ((1 : Int32) + (0 : Int32))) (y := (0 : Int32)) rfl (by decide) (by omega) (by omega)
          exact hQ _ _ I1
        · skip
          have f9 := dAddE (X := 1) (Y := 0) (x := (1 : Int32)) (y := (0 : Int32)) (by decide) (by decide) (by omega) (by omega)
          have f10 := dAddE (X := ((1 : Int32) + (0 : Int32)).toInt) (Y := 1) (x := ((1 : Int32) + (0 : Int32))) (y := (1 : Int32)) rfl (by decide) (by omega) (by omega)
          exact hQ _ _ I1
      · skip
        have f7 := congrArg Int32.toInt (I1.2 115 2 rfl)
        refine ⟨fun hc8 => ?_, fun hc8 => ?_⟩
        · skip
          have f9 := dAddE (X := 1) (Y := 1) (x := (1 : Int32)) (y := (1 : Int32)) (by decide) (by decide) (by omega) (by omega)
          have f10 := dAddE (X := ((1 : Int32) + (1 : Int32)).toInt) (Y := 0) (x := ((1 : Int32) + (1 : Int32))) (y := (0 : Int32)) rfl (by decide) (by omega) (by omega)
          exact hQ _ _ I1
        · skip
          have f9 := dAddE (X := 1) (Y := 1) (x := (1 : Int32)) (y := (1 : Int32)) (by decide) (by decide) (by omega) (by omega)
          have f10 := dAddE (X := ((1 : Int32) + (1 : Int32)).toInt) (Y := 1) (x := ((1 : Int32) + (1 : Int32))) (y := (1 : Int32)) rfl (by decide) (by omega) (by omega)
          exact hQ _ _ I1
  · skip
    refine Wp.deep (s_X12_isSurge_70 hG I1 (fun R3 hr3 => ?_)) (Nat.le_of_ble_eq_true rfl)
    refine ⟨fun hc4 => ?_, fun hc4 => ?_⟩
    · skip
      have f5 := ti_0
      exact hQ _ _ I1
    · skip
      have f5 := ti_1
      exact hQ _ _ I1
  · skip
    have f3 := ti_0
    exact (s_X12_count_70_all hG hQ 34).1 _ _ _ I1 (by omega) (by omega)
  · skip
    have f3 := ti_0
    exact (s_X12_count_70_all hG hQ 34).2.1 _ _ _ I1 (by omega) (by omega)
  · skip
    have f3 := ti_m1
    exact hQ _ _ I1
end
section
/-! THE STATE BETWEEN CALLS, by itself -/
theorem sT_w {k j : Nat} {b : Int × Int} (h : sT k j = some b) : wT k j = none := by
  unfold sT at h
  split at h
  all_goals first
    | rfl
    | (split at h <;> first | rfl | cases h)
    | cases h
theorem gSeg_congr {g g' : gM} (h1 : g' 102 = g 102) (h2 : g' 103 = g 103) : ∀ (n p t : Nat), gSeg g' n p t = gSeg g n p t
  | 0, _, _ => rfl
  | n + 1, p, t => by
    simp only [gSeg]
    rw [h1, h2, gSeg_congr h1 h2 n (p + 1) (t + 1), gSeg_congr h1 h2 n (p + 1) (t - 1)]
theorem Gx_congr {g g' : gM} (h22 : g' 2 2 = g 2 2) (hl : g' 70 18 = g 70 18) (h7 : g' 7 = g 7) (hc : ∀ k : Nat, 82 ≤ k → k ≤ 103 → g' k = g k) (hG : Gx g) : Gx g' := by
  have eL : gL g' = gL g := by unfold gL; rw [hl]
  have e : ∀ k : Nat, 82 ≤ k → k ≤ 103 → g' k = g k := hc
  have hs : ∀ (L : Nat) (a b : Int), gPc g' L a b = gPc g L a b := fun L a b => by
    unfold gPc
    rw [gSeg_congr (e 102 (by omega) (by omega)) (e 103 (by omega) (by omega))]
  have hb : ∀ L j : Nat, gBr g' L j = gBr g L j := fun L j => by
    unfold gBr
    simp only [hs]
    rw [e 97 (by omega) (by omega), e 98 (by omega) (by omega), e 99 (by omega) (by omega), e 100 (by omega) (by omega), e 101 (by omega) (by omega)]
  have hw : ∀ (L : Nat) (a b : Int), gLw g' L a b = gLw g L a b := fun L a b => by
    unfold gLw
    simp only [hb]
  unfold Gx at hG ⊢
  rw [eL, h22, h7, e 86 (by omega) (by omega), e 87 (by omega) (by omega), e 82 (by omega) (by omega), e 83 (by omega) (by omega), e 84 (by omega) (by omega), e 95 (by omega) (by omega), e 96 (by omega) (by omega)]
  simp only [hw]
  exact hG
def Ok (m : dM) : Prop := Gd m.1 ∧ Inv m.1 m
section OKS
variable {g : gM} {m : dM} {k j : Nat} {lo hi : Int} {v : Int32}
theorem Inv.cell (hI : Inv g m) (hw : ∀ j, wT k j = none) : m.1 k = g k := funext fun j => hI.2 k j (hw j)
theorem wT_mid {k : Nat} (h1 : 82 ≤ k) (h2 : k ≤ 103) : ∀ j, wT k j = none := by
  have H : ∀ n : Nat, n < 22 → ∀ j, wT (82 + n) j = none := by
    intro n hn j
    match n, hn with
    | 0, _ | 1, _ | 2, _ | 3, _ | 4, _ | 5, _ | 6, _ | 7, _ | 8, _ | 9, _ | 10, _ | 11, _ | 12, _ | 13, _ | 14, _ | 15, _ | 16, _ | 17, _ | 18, _ | 19, _ | 20, _ | 21, _ => rfl
    | n + 22, hn => omega
  have := H (k - 82) (by omega)
  rw [show 82 + (k - 82) = k by omega] at this
  exact this
theorem Ok.of (hG : Gd g) (hI : Inv g m) : Ok m := by
  refine ⟨⟨fun k j lo hi h => ?_, ?_⟩, hI.1, fun _ _ _ => rfl⟩
  · rw [hI.2 k j (sT_w h)]
    exact hG.1 k j lo hi h
  · exact Gx_congr (hI.2 2 2 rfl) (hI.2 70 18 rfl) (hI.cell (fun _ => rfl)) (fun k h1 h2 => hI.cell (wT_mid h1 h2)) hG.2
theorem Inv.self (hI : Inv g m) : Inv m.1 m := ⟨hI.1, fun _ _ _ => rfl⟩
/-- a store at what stays, that Gx does not read -/
theorem Ok.set1 (hO : Ok m) (hk : k = 0 ∨ k = 20 ∨ k = 25) (hw : wT k j = none) (hs : sT k j = some (lo, hi)) (h1 : lo ≤ v.toInt) (h2 : v.toInt ≤ hi) : Ok (dSet m k j v) := by
  have hne : ∀ a : Nat, a ≠ k → (dSet m k j v).1 a = m.1 a := fun a ha => dSet_k ha
  refine ⟨⟨fun k' j' lo' hi' h => ?_, ?_⟩, fun k' j' lo' hi' h => ?_, fun _ _ _ => rfl⟩
  · rw [dSet_e]
    by_cases hc : k' = k ∧ j' = j
    · rw [if_pos hc]
      rw [hc.1, hc.2, hs] at h
      cases h
      exact ⟨h1, h2⟩
    · rw [if_neg hc]
      exact hO.1.1 k' j' lo' hi' h
  · refine Gx_congr ?_ ?_ ?_ (fun a h1 h2 => hne a (by omega)) hO.1.2
    · rw [hne 2 (by omega)]
    · rw [hne 70 (by omega)]
    · exact hne 7 (by omega)
  · rw [dSet_e]
    by_cases hc : k' = k ∧ j' = j
    · rw [hc.1, hc.2, hw] at h
      cases h
    · rw [if_neg hc]
      exact hO.2.1 k' j' lo' hi' h
theorem Ok.set (hO : Ok m) (hw : wT k j = some (lo, hi)) (h1 : lo ≤ v.toInt) (h2 : v.toInt ≤ hi) : Ok (dSet m k j v) := Ok.of hO.1 (Inv.set hO.2 hw h1 h2)
theorem Ok.setA (hO : Ok m) (hw : wT k j = fR) : Ok (dSet m k j v) := Ok.of hO.1 (Inv.setA hO.2 hw)
theorem Ok.setL {x : Int64} (hO : Ok m) : Ok (dSetL m k j x) := hO
theorem Ok.s (hO : Ok m) (h : sT k j = some (lo, hi)) : lo ≤ (m.1 k j).toInt ∧ (m.1 k j).toInt ≤ hi := hO.1.1 k j lo hi h
theorem Ok.w (hO : Ok m) (h : wT k j = some (lo, hi)) : lo ≤ (m.1 k j).toInt ∧ (m.1 k j).toInt ≤ hi := hO.2.1 k j lo hi h
end OKS
end
section
/-! THE CLASS: what writes at what stays (by hand) -/
def T2 (m m' : dM) : Prop := m'.1 0 1 = m.1 0 1 ∧ m'.1 70 2 = m.1 70 2
def Hm (m : dM) : Prop := ∀ u : Nat, (u : Int) < (m.1 20 2).toInt → 0 ≤ (m.1 25 u).toInt ∧ (m.1 25 u).toInt ≤ 6
theorem T2.of {m m' : dM} (h : Inv m.1 m') : T2 m m' := ⟨h.2 0 1 rfl, h.2 70 2 rfl⟩
theorem T2.tr {a b c : dM} (h : T2 a b) (h' : T2 b c) : T2 a c := ⟨h'.1.trans h.1, h'.2.trans h.2⟩
theorem Hm.of {m m' : dM} (h : Inv m.1 m') (hH : Hm m) : Hm m' := by
  unfold Hm
  rw [h.2 20 2 rfl, h.cell (k := 25) (fun _ => rfl)]
  exact hH
theorem m_X3_clear_20 {m : dM} {Q : dM → Prop} (hO : Ok m) (hQ : ∀ m', Ok m' → T2 m m' → (m'.1 20 2).toInt = 0 → Q m') : c_X3_clear_20 3 m Q := by
  refine v_X3_clear_20 ?_
  have O1 : Ok (dSet (dSet (dSet (dSet (dSet (dSet (dSet m 20 0 (0 : Int32)) 20 1 (0 : Int32)) 20 2 (0 : Int32)) 20 3 (0 : Int32)) 20 4 (0 : Int32)) 20 5 (100 : Int32)) 20 6 (0 : Int32)) := by
    refine Ok.setA (Ok.setA (Ok.setA (Ok.setA (Ok.set1 (lo := 0) (hi := 8) (Ok.set1 (lo := 0) (hi := 10) (Ok.set1 (lo := 0) (hi := 7) hO (Or.inr (Or.inl rfl)) rfl rfl (by decide) (by decide)) (Or.inr (Or.inl rfl)) rfl rfl (by decide) (by decide)) (Or.inr (Or.inl rfl)) rfl rfl (by decide) (by decide)) rfl) rfl) rfl) rfl
  refine Wp.deep (s_X4_clear_29 O1.1 O1.2 (fun m' I' => ?_)) (Nat.le_of_ble_eq_true rfl)
  refine hQ _ (Ok.of O1.1 I') ⟨I'.2 0 1 rfl, I'.2 70 2 rfl⟩ ?_
  rw [I'.2 20 2 rfl]
  rfl
theorem m_X5_flatNamed {m : dM} {Q : Int32 → dM → Prop} (hO : Ok m) (hQ : ∀ (r : Int32) (m' : dM), Inv m.1 m' → (-1 ≤ r.toInt ∧ r.toInt ≤ 6) → (r.toInt = -1 → (m'.1 44 5).toInt = 4) → Q r m') : c_X5_flatNamed_44 2 m Q := by
  refine v_X5_flatNamed_44 ?_
  refine Wp.deep (s_X8_nameAt_38 hO.1 hO.2 (fun r1 => ?_)) (Nat.le_of_ble_eq_true rfl)
  have b := hO.s (k := 20) (j := 0) rfl
  refine Wp.deep (s_X5_indexOf_45 hO.1 hO.2 b (fun r2 hr2 => ?_)) (Nat.le_of_ble_eq_true rfl)
  refine ⟨fun hc => ?_, fun hc => ?_⟩
  · refine v_X5_flatNamed_44_36 ?_
    exact hQ _ _ hO.2 hr2 (fun h => absurd h hc)
  · refine v_X5_flatNamed_44_36 ?_
    exact hQ _ _ (Inv.setA hO.2 rfl) hr2 (fun _ => rfl)
theorem m_X5_takeFlat_44 {m : dM} {Q : Int32 → dM → Prop} (hO : Ok m) (hH : Hm m) (hQ : ∀ (r : Int32) (m' : dM), Ok m' → T2 m m' → ((m'.1 44 5).toInt = 0 ∨ r.toInt ≠ 0 → Hm m') → (0 ≤ r.toInt ∧ r.toInt ≤ 1) → Q r m') : c_X5_takeFlat_44 6 m Q := by
  refine v_X5_takeFlat_44 ?_
  have b0 := hO.s (k := 20) (j := 0) rfl
  refine ⟨fun hc => ?_, fun hc => ?_⟩
  · refine Wp.deep (s_X5_isNewName_44 hO.1 hO.2 (fun r1 m1 I1 hr1 => ?_)) (Nat.le_of_ble_eq_true rfl)
    have O1 := Ok.of hO.1 I1
    refine ⟨fun hc1 => ?_, fun hc1 => ?_⟩
    · refine Wp.deep (s_X8_nameAt_38 O1.1 O1.2 (fun r2 => ?_)) (Nat.le_of_ble_eq_true rfl)
      refine ⟨by omega, ?_⟩
      have O2 : Ok (dSet (dSetL m1 45 (m.1 20 0).toNatClampNeg r2) 44 4 ((m1.1 44 4) + (1 : Int32))) := Ok.setA (Ok.setL O1) rfl
      refine Wp.deep (s_X8_numberAt_38 O2.1 O2.2 (fun r3 => ?_)) (Nat.le_of_ble_eq_true rfl)
      refine ⟨by omega, ?_⟩
      have e0 : m1.1 20 0 = m.1 20 0 := I1.2 20 0 rfl
      have f := dAddE (X := (m1.1 20 0).toInt) (Y := 1) (x := m1.1 20 0) (y := (1 : Int32)) rfl (by decide) (by rw [e0]; omega) (by rw [e0]; omega)
      rw [e0] at f
      have O3 : Ok (dSet (dSet (dSet (dSetL m1 45 (m.1 20 0).toNatClampNeg r2) 44 4 ((m1.1 44 4) + (1 : Int32))) 21 (m.1 20 0).toNatClampNeg r3) 20 0 ((m1.1 20 0) + (1 : Int32))) :=
        Ok.set1 (lo := 0) (hi := 7) (Ok.setA O2 rfl) (Or.inr (Or.inl rfl)) rfl rfl (by rw [e0]; omega) (by rw [e0]; omega)
      refine Wp.deep (s_X5_isWithin_44 O3.1 O3.2 (fun r4 m4 I4 hr4 => ?_)) (Nat.le_of_ble_eq_true rfl)
      refine ⟨dB01 hr4, hQ _ _ (Ok.of O3.1 I4) ((T2.of I1).tr ⟨I4.2 0 1 rfl, I4.2 70 2 rfl⟩) (fun _ => ?_) hr4⟩
      exact Hm.of I4 (show Hm m1 from Hm.of I1 hH)
    · exact hQ _ _ O1 (T2.of I1) (fun _ => Hm.of I1 hH) (by decide)
  · refine Wp.deep (s_X5_fail_44 hO.1 hO.2 (fun r5 m5 I5 hr5 => ?_)) (Nat.le_of_ble_eq_true rfl)
    exact ⟨dB01 (by omega), hQ _ _ (Ok.of hO.1 I5) (T2.of I5) (fun _ => Hm.of I5 hH) (by omega)⟩
theorem m_X5_takeWire_44 {m : dM} {Q : Int32 → dM → Prop} (hO : Ok m) (hH : Hm m) (hQ : ∀ (r : Int32) (m' : dM), Ok m' → T2 m m' → ((m'.1 44 5).toInt = 0 ∨ r.toInt ≠ 0 → Hm m') → (0 ≤ r.toInt ∧ r.toInt ≤ 1) → Q r m') : c_X5_takeWire_44 6 m Q := by
  have fin : ∀ m2 : dM, Ok m2 → T2 m m2 → Hm m2 → j_X5_takeWire_44_71 6 m2 Q := by
    intro m2 O2 h1 h2
    refine v_X5_takeWire_44_71 ?_
    refine Wp.deep (s_X5_fail_44 O2.1 O2.2 (fun r5 m5 I5 hr5 => ?_)) (Nat.le_of_ble_eq_true rfl)
    exact ⟨dB01 (by omega), hQ _ _ (Ok.of O2.1 I5) (h1.tr (T2.of I5)) (fun _ => Hm.of I5 h2) (by omega)⟩
  refine v_X5_takeWire_44 ?_
  have b0 := hO.s (k := 20) (j := 1) rfl
  refine ⟨fun hc => ?_, fun hc => ?_⟩
  · refine Wp.deep (s_X5_flatNamed_44 hO.1 hO.2 (fun r1 m1 I1 hr1 => ?_)) (Nat.le_of_ble_eq_true rfl)
    have O1 := Ok.of hO.1 I1
    refine ⟨fun hc1 => ?_, fun hc1 => ?_⟩
    · have O1' : Ok (dSet m1 44 4 ((m1.1 44 4) + (1 : Int32))) := Ok.setA O1 rfl
      refine Wp.deep (s_X5_flatNamed_44 O1'.1 O1'.2 (fun r2 m2 I2 hr2 => ?_)) (Nat.le_of_ble_eq_true rfl)
      have O2 := Ok.of O1'.1 I2
      have t2 : T2 m m2 := (T2.of I1).tr ⟨I2.2 0 1 rfl, I2.2 70 2 rfl⟩
      have hH2 : Hm m2 := Hm.of I2 (show Hm m1 from Hm.of I1 hH)
      refine ⟨fun hc2 => ?_, fun hc2 => ?_⟩
      · refine ⟨fun hc3 => fin _ O2 t2 hH2, fun hc3 => ?_⟩
        refine Wp.deep (s_X3_isWired_20 O2.1 O2.2 (fun r3 hr3 => ?_)) (Nat.le_of_ble_eq_true rfl)
        refine ⟨fun hc4 => ?_, fun hc4 => fin _ O2 t2 hH2⟩
        refine ⟨by omega, ⟨by omega, ?_⟩⟩
        have O3 : Ok (dSet (dSet (dSet m2 44 4 ((m2.1 44 4) + (1 : Int32))) 22 (m.1 20 1).toNatClampNeg r1) 23 (m.1 20 1).toNatClampNeg r2) :=
          Ok.set (Ok.set (Ok.setA O2 rfl) (show wT 22 _ = some (0, 6) from rfl) (by omega) (by omega)) (show wT 23 _ = some (0, 6) from rfl) (by omega) (by omega)
        refine Wp.deep (s_X8_numberAt_38 O3.1 O3.2 (fun r4 => ?_)) (Nat.le_of_ble_eq_true rfl)
        refine ⟨by omega, ?_⟩
        have e0 : m2.1 20 1 = m.1 20 1 := (I2.2 20 1 rfl).trans (I1.2 20 1 rfl)
        have f := dAddE (X := (m2.1 20 1).toInt) (Y := 1) (x := m2.1 20 1) (y := (1 : Int32)) rfl (by decide) (by rw [e0]; omega) (by rw [e0]; omega)
        rw [e0] at f
        have O4 : Ok (dSet (dSet (dSet (dSet (dSet m2 44 4 ((m2.1 44 4) + (1 : Int32))) 22 (m.1 20 1).toNatClampNeg r1) 23 (m.1 20 1).toNatClampNeg r2) 24 (m.1 20 1).toNatClampNeg r4) 20 1 ((m2.1 20 1) + (1 : Int32))) :=
          Ok.set1 (lo := 0) (hi := 10) (Ok.setA O3 rfl) (Or.inr (Or.inl rfl)) rfl rfl (by rw [e0]; omega) (by rw [e0]; omega)
        refine Wp.deep (s_X5_isWithin_44 O4.1 O4.2 (fun r5 m5 I5 hr5 => ?_)) (Nat.le_of_ble_eq_true rfl)
        exact ⟨dB01 hr5, hQ _ _ (Ok.of O4.1 I5) (t2.tr ⟨I5.2 0 1 rfl, I5.2 70 2 rfl⟩) (fun _ => Hm.of I5 (show Hm m2 from hH2)) hr5⟩
      · exact hQ _ _ O2 t2 (fun _ => hH2) (by decide)
    · exact hQ _ _ O1 (T2.of I1) (fun _ => Hm.of I1 hH) (by decide)
  · refine Wp.deep (s_X5_fail_44 hO.1 hO.2 (fun r5 m5 I5 hr5 => ?_)) (Nat.le_of_ble_eq_true rfl)
    exact ⟨dB01 (by omega), hQ _ _ (Ok.of hO.1 I5) (T2.of I5) (fun _ => Hm.of I5 hH) (by omega)⟩
theorem m_X5_takeUse_44 {m : dM} {Q : Int32 → dM → Prop} (hO : Ok m) (hH : Hm m) (hQ : ∀ (r : Int32) (m' : dM), Ok m' → T2 m m' → ((m'.1 44 5).toInt = 0 ∨ r.toInt ≠ 0 → Hm m') → (0 ≤ r.toInt ∧ r.toInt ≤ 1) → Q r m') : c_X5_takeUse_44 6 m Q := by
  refine v_X5_takeUse_44 ?_
  have b0 := hO.s (k := 20) (j := 2) rfl
  refine ⟨fun hc => ?_, fun hc => ?_⟩
  · refine Wp.deep (s_X5_isNewName_44 hO.1 hO.2 (fun r1 m1 I1 hr1 => ?_)) (Nat.le_of_ble_eq_true rfl)
    have O1 := Ok.of hO.1 I1
    refine ⟨fun hc1 => ?_, fun hc1 => ?_⟩
    · refine Wp.deep (s_X8_nameAt_38 O1.1 O1.2 (fun r2 => ?_)) (Nat.le_of_ble_eq_true rfl)
      refine ⟨by omega, ?_⟩
      have e0 : m1.1 20 2 = m.1 20 2 := I1.2 20 2 rfl
      have f := dAddE (X := (m1.1 20 2).toInt) (Y := 1) (x := m1.1 20 2) (y := (1 : Int32)) rfl (by decide) (by rw [e0]; omega) (by rw [e0]; omega)
      rw [e0] at f
      have O2 : Ok (dSet (dSet (dSetL m1 46 (m.1 20 2).toNatClampNeg r2) 20 2 ((m1.1 20 2) + (1 : Int32))) 44 4 ((m1.1 44 4) + (1 : Int32))) :=
        Ok.setA (Ok.set1 (lo := 0) (hi := 8) (Ok.setL O1) (Or.inr (Or.inl rfl)) rfl rfl (by rw [e0]; omega) (by rw [e0]; omega)) rfl
      refine Wp.deep (m_X5_flatNamed O2 (fun r3 m3 I3 hr3 hf3 => ?_)) (Nat.le_of_ble_eq_true rfl)
      have O3 := Ok.of O2.1 I3
      have t3 : T2 m m3 := (T2.of I1).tr ⟨I3.2 0 1 rfl, I3.2 70 2 rfl⟩
      have e3 : m3.1 20 2 = m.1 20 2 + 1 := (I3.2 20 2 rfl).trans (by show m1.1 20 2 + 1 = _; rw [e0])
      have e25 : m3.1 25 = m.1 25 := (I3.cell (k := 25) (fun _ => rfl)).trans (I1.cell (k := 25) (fun _ => rfl))
      refine ⟨by omega, ⟨by omega, ?_⟩⟩
      have O4 : Ok (dSet m3 25 (m.1 20 2).toNatClampNeg r3) := Ok.set1 (lo := -1) (hi := 6) O3 (Or.inr (Or.inr rfl)) rfl rfl (by omega) (by omega)
      refine ⟨fun hc3 => ?_, fun hc3 => ?_⟩
      · have hH4 : Hm (dSet m3 25 (m.1 20 2).toNatClampNeg r3) := by
          intro u hu
          have hu : (u : Int) < (m3.1 20 2).toInt := hu
          rw [e3] at hu
          rw [dSet_e]
          by_cases hq : u = (m.1 20 2).toNatClampNeg
          · rw [if_pos ⟨rfl, hq⟩]; omega
          · rw [if_neg (fun z => hq z.2), e25]
            have := d_cl b0.1
            exact hH u (by omega)
        have O5 : Ok (dSet (dSet m3 25 (m.1 20 2).toNatClampNeg r3) 44 4 ((m3.1 44 4) + (1 : Int32))) := Ok.setA O4 rfl
        refine Wp.deep (s_X8_numberAt_38 O5.1 O5.2 (fun r4 => ?_)) (Nat.le_of_ble_eq_true rfl)
        refine ⟨by omega, ?_⟩
        have O6 : Ok (dSet (dSet (dSet m3 25 (m.1 20 2).toNatClampNeg r3) 44 4 ((m3.1 44 4) + (1 : Int32))) 26 (m.1 20 2).toNatClampNeg r4) := Ok.setA O5 rfl
        refine Wp.deep (s_X8_numberAt_38 O6.1 O6.2 (fun r5 => ?_)) (Nat.le_of_ble_eq_true rfl)
        refine ⟨by omega, ?_⟩
        have O7 : Ok (dSet (dSet (dSet (dSet m3 25 (m.1 20 2).toNatClampNeg r3) 44 4 ((m3.1 44 4) + (1 : Int32))) 26 (m.1 20 2).toNatClampNeg r4) 27 (m.1 20 2).toNatClampNeg r5) := Ok.setA O6 rfl
        refine Wp.deep (s_X8_numberAt_38 O7.1 O7.2 (fun r6 => ?_)) (Nat.le_of_ble_eq_true rfl)
        refine ⟨by omega, ?_⟩
        have O8 : Ok (dSet (dSet (dSet (dSet (dSet m3 25 (m.1 20 2).toNatClampNeg r3) 44 4 ((m3.1 44 4) + (1 : Int32))) 26 (m.1 20 2).toNatClampNeg r4) 27 (m.1 20 2).toNatClampNeg r5) 28 (m.1 20 2).toNatClampNeg r6) := Ok.setA O7 rfl
        refine Wp.deep (s_X5_isWithin_44 O8.1 O8.2 (fun r7 m7 I7 hr7 => ?_)) (Nat.le_of_ble_eq_true rfl)
        have O9 := Ok.of O8.1 I7
        have hH7 : Hm m7 := Hm.of I7 (show Hm (dSet m3 25 (m.1 20 2).toNatClampNeg r3) from hH4)
        have t7 : T2 m m7 := t3.tr ⟨I7.2 0 1 rfl, I7.2 70 2 rfl⟩
        have fin : ∀ m8 : dM, Inv m7.1 m8 → j_X5_takeUse_44_213 6 m8 Q := fun m8 I8 => by
          refine v_X5_takeUse_44_213 ?_
          exact hQ _ _ (Ok.of O9.1 I8) (t7.tr (T2.of I8)) (fun _ => Hm.of I8 hH7) (by decide)
        refine ⟨fun hc7 => fin _ O9.2, fun hc7 => ?_⟩
        refine Wp.deep (s_X5_isWithin_44 O9.1 O9.2 (fun r8 m8 I8 hr8 => ?_)) (Nat.le_of_ble_eq_true rfl)
        refine ⟨fun hc8 => fin _ I8, fun hc8 => ?_⟩
        refine ⟨by omega, ?_⟩
        refine Wp.deep (s_X5_isWithin_44 O9.1 I8 (fun r9 m9 I9 hr9 => ?_)) (Nat.le_of_ble_eq_true rfl)
        refine ⟨fun hc9 => fin _ I9, fun hc9 => ?_⟩
        exact hQ _ _ (Ok.of O9.1 I9) (t7.tr (T2.of I9)) (fun _ => Hm.of I9 hH7) (by decide)
      · refine hQ _ _ O4 ⟨t3.1, t3.2⟩ (fun h => ?_) (by decide)
        rcases h with h | h
        · have h : (m3.1 44 5).toInt = 0 := h
          rw [hf3 hc3] at h
          exact absurd h (by decide)
        · exact absurd rfl h
    · exact hQ _ _ O1 (T2.of I1) (fun _ => Hm.of I1 hH) (by decide)
  · refine Wp.deep (s_X5_fail_44 hO.1 hO.2 (fun r5 m5 I5 hr5 => ?_)) (Nat.le_of_ble_eq_true rfl)
    exact ⟨dB01 (by omega), hQ _ _ (Ok.of hO.1 I5) (T2.of I5) (fun _ => Hm.of I5 hH) (by omega)⟩
theorem m_X5_takeTold_44 {x1 : Int32} {m : dM} {Q : Int32 → dM → Prop} (hO : Ok m) (hH : Hm m) (hQ : ∀ (r : Int32) (m' : dM), Ok m' → T2 m m' → ((m'.1 44 5).toInt = 0 ∨ r.toInt ≠ 0 → Hm m') → (0 ≤ r.toInt ∧ r.toInt ≤ 1) → Q r m') : c_X5_takeTold_44 7 x1 m Q := by
  refine v_X5_takeTold_44 ?_
  have tri : Q (1 : Int32) m := hQ _ _ hO ⟨rfl, rfl⟩ (fun _ => hH) (by decide)
  refine ⟨fun _ => ?_, fun _ => ?_, fun _ => ?_, fun _ => tri, fun _ => tri, fun _ => tri, fun _ => tri, fun _ => ?_, fun _ => ?_, fun _ => ?_, fun _ => tri⟩
  · exact Wp.deep (m_X5_takeFlat_44 hO hH (fun r m' a b c e => ⟨dB01 e, hQ r m' a b c e⟩)) (Nat.le_of_ble_eq_true rfl)
  · exact Wp.deep (m_X5_takeWire_44 hO hH (fun r m' a b c e => ⟨dB01 e, hQ r m' a b c e⟩)) (Nat.le_of_ble_eq_true rfl)
  · exact Wp.deep (m_X5_takeUse_44 hO hH (fun r m' a b c e => ⟨dB01 e, hQ r m' a b c e⟩)) (Nat.le_of_ble_eq_true rfl)
  · exact Wp.deep (s_X5_takeSurge_44 hO.1 hO.2 (fun r m' I e => ⟨dB01 e, hQ r m' (Ok.of hO.1 I) (T2.of I) (fun _ => Hm.of I hH) e⟩)) (Nat.le_of_ble_eq_true rfl)
  · exact Wp.deep (s_X5_takeCoins_44 hO.1 hO.2 (fun r m' I e => ⟨dB01 e, hQ r m' (Ok.of hO.1 I) (T2.of I) (fun _ => Hm.of I hH) e⟩)) (Nat.le_of_ble_eq_true rfl)
  · exact Wp.deep (s_X5_takeSeed_44 hO.1 hO.2 (fun r m' I e => ⟨dB01 e, hQ r m' (Ok.of hO.1 I) (T2.of I) (fun _ => Hm.of I hH) e⟩)) (Nat.le_of_ble_eq_true rfl)
theorem m_X8_kindAt {x1 : Int32} {m : dM} {Q : Int32 → dM → Prop} (hQ : ∀ r, Q r m) : c_X8_kindAt_38 1 x1 m Q := by
  refine v_X8_kindAt_38 ?_
  refine ⟨fun _ => v_X8_kindAt_38_20 (hQ _), fun h1 => ⟨fun _ => v_X8_kindAt_38_20 (hQ _), fun h2 => ⟨by omega, hQ _⟩⟩⟩
theorem m_X5_check_44 {m0 : dM} {Q : Int32 → dM → Prop} (hQ : ∀ (r : Int32) (m' : dM), Ok m' → T2 m0 m' → (r.toInt = 0 → Hm m') → Q r m') : ∀ n : Nat, (∀ (x1 : Int32) (m : dM), Ok m → T2 m0 m → ((m.1 44 5).toInt = 0 → Hm m) → 0 ≤ x1.toInt ∧ x1.toInt ≤ 401 → 401 - x1.toInt < (n : Int) → j_X5_check_44_12 9 x1 m Q) := by
  intro n
  have fin : ∀ m : dM, Ok m → T2 m0 m → ((m.1 44 5).toInt = 0 → Hm m) → j_X5_check_44_82 9 m Q := fun m hO ht hH => by
    refine v_X5_check_44_82 ?_
    exact hQ _ _ hO ht hH
  induction n with
  | zero => intro x1 m hO ht hH h1 hμ; exfalso; omega
  | succ n ih =>
    intro x1 m hO ht hH h1 hμ
    have back : ∀ m' : dM, x1.toInt ≤ 400 → Ok m' → T2 m0 m' → ((m'.1 44 5).toInt = 0 → Hm m') → j_X5_check_44_76 9 x1 m' Q := fun m' hx a b c => by
      refine v_X5_check_44_76 ?_
      have f := dAddE (X := x1.toInt) (Y := 1) (x := x1) (y := (1 : Int32)) rfl (by decide) (by omega) (by omega)
      exact ih _ _ a b c (by omega) (by omega)
    refine v_X5_check_44_12 ?_
    refine ⟨fun hc => fin m hO ht hH, fun hc => ⟨fun hc1 => fin m hO ht hH, fun hc1 => ?_⟩⟩
    refine Wp.deep (m_X8_kindAt (fun r1 => ?_)) (Nat.le_of_ble_eq_true rfl)
    refine ⟨fun hc2 => fin m hO ht hH, fun hc2 => ?_⟩
    refine Wp.deep (m_X8_kindAt (fun r2 => ?_)) (Nat.le_of_ble_eq_true rfl)
    have O1 : Ok (dSet m 44 4 ((m.1 44 4) + (1 : Int32))) := Ok.setA hO rfl
    refine Wp.deep (m_X5_takeTold_44 O1 (show Hm m from hH hc1) (fun r3 m3 O3 t3 hH3 hr3 => ?_)) (Nat.le_of_ble_eq_true rfl)
    have t3' : T2 m0 m3 := ht.tr ⟨t3.1, t3.2⟩
    refine ⟨fun hc3 => back _ hc O3 t3' (fun h => hH3 (Or.inl h)), fun hc3 => ?_⟩
    refine Wp.deep (s_X5_skipEnd_44 O3.1 O3.2 (fun m4 I4 => ?_)) (Nat.le_of_ble_eq_true rfl)
    exact back _ hc (Ok.of O3.1 I4) (t3'.tr (T2.of I4)) (fun _ => Hm.of I4 (hH3 (Or.inr hc3)))
theorem m_X5_check {m : dM} {Q : Int32 → dM → Prop} (hO : Ok m) (hH : Hm m) (hQ : ∀ (r : Int32) (m' : dM), Ok m' → T2 m m' → (r.toInt = 0 → Hm m') → Q r m') : c_X5_check_44 9 m Q := by
  refine v_X5_check_44 ?_
  have O1 : Ok (dSet (dSet m 44 4 (0 : Int32)) 44 5 (0 : Int32)) := Ok.setA (Ok.setA hO rfl) rfl
  exact m_X5_check_44 (m0 := m) hQ 500 _ _ O1 ⟨rfl, rfl⟩ (fun _ => hH) (by decide) (by decide)
end
section
/-! THE CLASS, 2: laws and house copied, read, feed, back -/
def OkB (m : dM) : Prop := ∀ (k j : Nat) (lo hi : Int), wT k j = some (lo, hi) ∨ sT k j = some (lo, hi) → lo ≤ (m.1 k j).toInt ∧ (m.1 k j).toInt ≤ hi
theorem Ok.b {m : dM} (hO : Ok m) : OkB m := fun k j lo hi h => by
  rcases h with h | h
  · exact hO.w h
  · exact hO.s h
theorem Ok.mk {m : dM} (hB : OkB m) (hG : Gx m.1) : Ok m := ⟨⟨fun k j lo hi h => hB k j lo hi (Or.inr h), hG⟩, fun k j lo hi h => hB k j lo hi (Or.inl h), fun _ _ _ => rfl⟩
theorem OkB.set {m : dM} {k j : Nat} {v : Int32} (h : OkB m) (hb : ∀ lo hi, wT k j = some (lo, hi) ∨ sT k j = some (lo, hi) → lo ≤ v.toInt ∧ v.toInt ≤ hi) : OkB (dSet m k j v) := by
  intro k' j' lo hi h'
  rw [dSet_e]
  by_cases hc : k' = k ∧ j' = j
  · rw [if_pos hc]
    rw [hc.1, hc.2] at h'
    exact hb lo hi h'
  · rw [if_neg hc]
    exact h k' j' lo hi h'
theorem OkB.cpy {m : dM} {k0 sp k1 dp n : Nat} (h : OkB m) (hb : ∀ (j : Nat) (lo hi : Int), wT k1 j = some (lo, hi) ∨ sT k1 j = some (lo, hi) → lo ≤ (m.1 k0 (sp + (j - dp))).toInt ∧ (m.1 k0 (sp + (j - dp))).toInt ≤ hi) : OkB (dCpy m k0 sp k1 dp n) := by
  intro k' j' lo hi h'
  rw [dCpy_e]
  by_cases hc : k' = k1 ∧ dp ≤ j' ∧ j' < dp + n
  · rw [if_pos hc]
    rw [hc.1] at h'
    exact hb j' lo hi h'
  · rw [if_neg hc]
    exact h k' j' lo hi h'
theorem Gx_model {g g' : gM} (hl : g' 70 18 = g 70 18) (hc : ∀ k : Nat, 82 ≤ k → k ≤ 103 → g' k = g k) (hG : Gx g) (hh : ∀ u : Nat, (u : Int) < (g' 2 2).toInt → 0 ≤ (g' 7 u).toInt ∧ (g' 7 u).toInt ≤ 6) : Gx g' := by
  have eL : gL g' = gL g := by unfold gL; rw [hl]
  have e : ∀ k : Nat, 82 ≤ k → k ≤ 103 → g' k = g k := hc
  have hs : ∀ (L : Nat) (a b : Int), gPc g' L a b = gPc g L a b := fun L a b => by
    unfold gPc
    rw [gSeg_congr (e 102 (by omega) (by omega)) (e 103 (by omega) (by omega))]
  have hb : ∀ L j : Nat, gBr g' L j = gBr g L j := fun L j => by
    unfold gBr
    simp only [hs]
    rw [e 97 (by omega) (by omega), e 98 (by omega) (by omega), e 99 (by omega) (by omega), e 100 (by omega) (by omega), e 101 (by omega) (by omega)]
  have hw : ∀ (L : Nat) (a b : Int), gLw g' L a b = gLw g L a b := fun L a b => by
    unfold gLw
    simp only [hb]
  refine ⟨hh, ?_⟩
  have hG := hG.2
  rw [eL, e 86 (by omega) (by omega), e 87 (by omega) (by omega), e 82 (by omega) (by omega), e 83 (by omega) (by omega), e 84 (by omega) (by omega), e 95 (by omega) (by omega), e 96 (by omega) (by omega)]
  simp only [hw]
  exact hG
theorem dCpy_k {m : dM} {k0 sp k1 dp n a : Nat} (h : a ≠ k1) : (dCpy m k0 sp k1 dp n).1 a = m.1 a := by
  funext b
  rw [dCpy_e, if_neg (fun q => h q.1)]
/-- one law over -/
theorem m_lawOver {m : dM} {x : Int32} {a b : Nat} (hO : Ok m) (ha : a = 32 ∨ a = 33 ∨ a = 34 ∨ a = 35) (hb : b = 14 ∨ b = 15 ∨ b = 16 ∨ b = 17) : Ok (dCpy (dSet m 18 x.toNatClampNeg (m.1 36 x.toNatClampNeg)) a (0 : Int).toNat b (0 : Int).toNat (14 : Int).toNat) := by
  have B1 : OkB (dSet m 18 x.toNatClampNeg (m.1 36 x.toNatClampNeg)) := OkB.set hO.b (fun lo hi h => by
    rcases h with h | h
    · cases h
    · cases h
      exact hO.w (k := 36) rfl)
  have hne : ∀ c : Nat, c ≠ 18 → c ≠ b → (dCpy (dSet m 18 x.toNatClampNeg (m.1 36 x.toNatClampNeg)) a (0 : Int).toNat b (0 : Int).toNat (14 : Int).toNat).1 c = m.1 c := fun c h1 h2 => by rw [dCpy_k h2, dSet_k h1]
  refine Ok.mk (OkB.cpy B1 (fun j lo hi h => ?_)) ?_
  · have hw : wT b j = none ∧ sT b j = some (0, 406) := by rcases hb with rfl | rfl | rfl | rfl <;> exact ⟨rfl, rfl⟩
    have hw2 : ∀ i, wT a i = some (0, 406) := by intro i; rcases ha with rfl | rfl | rfl | rfl <;> rfl
    have : lo = 0 ∧ hi = 406 := by
      rcases h with h | h
      · rw [hw.1] at h; cases h
      · rw [hw.2] at h; cases h; exact ⟨rfl, rfl⟩
    rw [this.1, this.2]
    exact B1 _ _ _ _ (Or.inl (hw2 _))
  · refine Gx_congr ?_ ?_ (hne 7 (by omega) (by omega)) (fun c h1 h2 => hne c (by omega) (by omega)) hO.1.2
    · rw [hne 2 (by omega) (by omega)]
    · rw [hne 70 (by omega) (by omega)]
theorem m_X4_copy_27 {m0 : dM} {Q : dM → Prop} (hQ : ∀ m', Ok m' → T2 m0 m' → Q m') : ∀ n : Nat, ∀ (x2 : Int32) (m : dM), Ok m → T2 m0 m → 0 ≤ x2.toInt ∧ x2.toInt ≤ 4 → 4 - x2.toInt < (n : Int) → j_X4_copy_11_29_27 1 x2 m Q := by
  intro n
  induction n with
  | zero => intro x2 m hO ht h2 hμ; exfalso; omega
  | succ n ih =>
    intro x2 m hO ht h2 hμ
    refine v_X4_copy_11_29_27 ?_
    refine ⟨fun hc => hQ _ hO ht, fun hc => ?_⟩
    have f := dAddE (X := x2.toInt) (Y := 1) (x := x2) (y := (1 : Int32)) rfl (by decide) (by omega) (by omega)
    have go : ∀ a b : Nat, (a = 32 ∨ a = 33 ∨ a = 34 ∨ a = 35) → (b = 14 ∨ b = 15 ∨ b = 16 ∨ b = 17) → j_X4_copy_11_29_27 1 (x2 + 1) (dCpy (dSet m 18 x2.toNatClampNeg (m.1 36 x2.toNatClampNeg)) a (0 : Int).toNat b (0 : Int).toNat (14 : Int).toNat) Q := fun a b ha hb =>
      ih _ _ (m_lawOver hO ha hb) ⟨by rw [dCpy_k (by omega), dSet_k (by omega)]; exact ht.1, by rw [dCpy_k (by omega), dSet_k (by omega)]; exact ht.2⟩ (by omega) (by omega)
    refine ⟨by omega, ⟨by omega, ⟨by omega, ?_⟩⟩⟩
    refine ⟨fun _ => ⟨by omega, fun _ => ?_, fun _ => ?_, fun _ => ?_, fun _ => ?_⟩, fun _ => ⟨by omega, fun _ => ?_, fun _ => ?_, fun _ => ?_, fun _ => ?_⟩, fun _ => ⟨by omega, fun _ => ?_, fun _ => ?_, fun _ => ?_, fun _ => ?_⟩, fun _ => ⟨by omega, fun _ => ?_, fun _ => ?_, fun _ => ?_, fun _ => ?_⟩⟩
    all_goals exact go _ _ (by decide) (by decide)
theorem m_X4_copy {m : dM} {Q : dM → Prop} (hO : Ok m) (hQ : ∀ m', Ok m' → T2 m m' → Q m') : c_X4_copy_11_29 1 m Q := by
  refine v_X4_copy_11_29 ?_
  have b := hO.w (k := 29) (j := 1) rfl
  refine ⟨by omega, ?_⟩
  refine m_X4_copy_27 (m0 := m) hQ 6 _ _ ?_ ⟨rfl, rfl⟩ (by decide) (by decide)
  have hne : ∀ c : Nat, c ≠ 11 → c ≠ 12 → (dSet (dCpy m 30 (0 : Int).toNat 12 (0 : Int).toNat ((m.1 29 1).toInt).toNat) 11 1 (m.1 29 1)).1 c = m.1 c := fun c h1 h2 => by rw [dSet_k h1, dCpy_k h2]
  refine Ok.mk (OkB.set (OkB.cpy hO.b (fun j lo hi h => ?_)) (fun lo hi h => ?_)) ?_
  · rcases h with h | h <;> cases h
  · rcases h with h | h
    · cases h
    · cases h; exact b
  · refine Gx_congr ?_ ?_ (hne 7 (by omega) (by omega)) (fun c h1 h2 => hne c (by omega) (by omega)) hO.1.2
    · rw [hne 2 (by omega) (by omega)]
    · rw [hne 70 (by omega) (by omega)]
theorem m_X3_copy {m : dM} {Q : dM → Prop} (hO : Ok m) (hH : Hm m) (hQ : ∀ m', Ok m' → T2 m m' → Q m') : c_X3_copy_2_20 2 m Q := by
  refine v_X3_copy_2_20 ?_
  have bnd : ∀ {k j : Nat} {v : Int32} {lo hi : Int}, wT k j = none → sT k j = some (lo, hi) → lo ≤ v.toInt ∧ v.toInt ≤ hi → ∀ lo' hi', wT k j = some (lo', hi') ∨ sT k j = some (lo', hi') → lo' ≤ v.toInt ∧ v.toInt ≤ hi' := fun h1 h2 h3 lo' hi' h => by
    rcases h with h | h
    · rw [h1] at h; cases h
    · rw [h2] at h; cases h; exact h3
  have nob : ∀ {k j : Nat} {v : Int32}, wT k j = none → sT k j = none → ∀ lo' hi', wT k j = some (lo', hi') ∨ sT k j = some (lo', hi') → lo' ≤ v.toInt ∧ v.toInt ≤ hi' := fun h1 h2 lo' hi' h => by
    rcases h with h | h
    · rw [h1] at h; cases h
    · rw [h2] at h; cases h
  have B1 : OkB (dSet (dSet (dSet (dSet (dSet (dSet (dSet m 2 0 (m.1 20 0)) 2 1 (m.1 20 1)) 2 2 (m.1 20 2)) 2 3 (m.1 20 3)) 2 4 (m.1 20 4)) 2 5 (m.1 20 5)) 2 6 (m.1 20 6)) :=
    OkB.set (OkB.set (OkB.set (OkB.set (OkB.set (OkB.set (OkB.set hO.b (bnd rfl rfl (hO.s (k := 20) (j := 0) rfl))) (bnd rfl rfl (hO.s (k := 20) (j := 1) rfl))) (bnd rfl rfl (hO.s (k := 20) (j := 2) rfl))) (nob rfl rfl)) (nob rfl rfl)) (nob rfl rfl)) (nob rfl rfl)
  generalize hM : (dSet (dSet (dSet (dSet (dSet (dSet (dSet m 2 0 (m.1 20 0)) 2 1 (m.1 20 1)) 2 2 (m.1 20 2)) 2 3 (m.1 20 3)) 2 4 (m.1 20 4)) 2 5 (m.1 20 5)) 2 6 (m.1 20 6)) = M at B1 ⊢
  have hMk : ∀ c : Nat, c ≠ 2 → M.1 c = m.1 c := fun c hc => by rw [← hM]; simp only [dSet_k hc]
  have hM22 : M.1 2 2 = m.1 20 2 := by rw [← hM]; rfl
  have O2 : Ok (dCpy (dCpy (dCpy (dCpy (dCpy (dCpy (dCpy (dCpy M 21 (0 : Int).toNat 3 (0 : Int).toNat (7 : Int).toNat) 22 (0 : Int).toNat 4 (0 : Int).toNat (10 : Int).toNat) 23 (0 : Int).toNat 5 (0 : Int).toNat (10 : Int).toNat) 24 (0 : Int).toNat 6 (0 : Int).toNat (10 : Int).toNat) 25 (0 : Int).toNat 7 (0 : Int).toNat (8 : Int).toNat) 26 (0 : Int).toNat 8 (0 : Int).toNat (8 : Int).toNat) 27 (0 : Int).toNat 9 (0 : Int).toNat (8 : Int).toNat) 28 (0 : Int).toNat 10 (0 : Int).toNat (8 : Int).toNat) := by
    refine Ok.mk ?_ (Gx_model ?_ (fun c h1 h2 => ?_) hO.1.2 (fun u hu => ?_))
    · refine OkB.cpy (OkB.cpy (OkB.cpy (OkB.cpy (OkB.cpy (OkB.cpy (OkB.cpy (OkB.cpy B1 (fun j => nob rfl rfl)) (fun j => bnd rfl rfl ?_)) (fun j => bnd rfl rfl ?_)) (fun j => nob rfl rfl)) (fun j => nob rfl rfl)) (fun j => nob rfl rfl)) (fun j => nob rfl rfl)) (fun j => nob rfl rfl)
      · rw [dCpy_k (by omega), hMk 22 (by omega)]
        exact hO.w (k := 22) rfl
      · rw [dCpy_k (by omega), dCpy_k (by omega), hMk 23 (by omega)]
        exact hO.w (k := 23) rfl
    · rw [dCpy_k (by omega), dCpy_k (by omega), dCpy_k (by omega), dCpy_k (by omega), dCpy_k (by omega), dCpy_k (by omega), dCpy_k (by omega), dCpy_k (by omega), hMk 70 (by omega)]
    · rw [dCpy_k (by omega), dCpy_k (by omega), dCpy_k (by omega), dCpy_k (by omega), dCpy_k (by omega), dCpy_k (by omega), dCpy_k (by omega), dCpy_k (by omega), hMk c (by omega)]
    · rw [dCpy_k (by omega), dCpy_k (by omega), dCpy_k (by omega), dCpy_k (by omega), dCpy_k (by omega), dCpy_k (by omega), dCpy_k (by omega), dCpy_k (by omega), hM22] at hu
      have b2 := hO.s (k := 20) (j := 2) rfl
      rw [dCpy_k (by omega), dCpy_k (by omega), dCpy_k (by omega), dCpy_e, if_pos ⟨rfl, by show 0 ≤ u; omega, by show u < 0 + 8; omega⟩, dCpy_k (by omega), dCpy_k (by omega), dCpy_k (by omega), dCpy_k (by omega), hMk 25 (by omega)]
      have e : (0 : Int).toNat + (u - (0 : Int).toNat) = u := by show 0 + (u - 0) = u; omega
      rw [e]
      exact hH u hu
  refine Wp.deep (m_X4_copy O2 (fun m' O' t' => ?_)) (Nat.le_of_ble_eq_true rfl)
  refine hQ _ O' ⟨t'.1.trans ?_, t'.2.trans ?_⟩
  · rw [dCpy_k (by omega), dCpy_k (by omega), dCpy_k (by omega), dCpy_k (by omega), dCpy_k (by omega), dCpy_k (by omega), dCpy_k (by omega), dCpy_k (by omega), hMk 0 (by omega)]
  · rw [dCpy_k (by omega), dCpy_k (by omega), dCpy_k (by omega), dCpy_k (by omega), dCpy_k (by omega), dCpy_k (by omega), dCpy_k (by omega), dCpy_k (by omega), hMk 70 (by omega)]
end
section
/-! a store that Gx does not read; what most calls leave as it is -/
theorem Ok.gen {m : dM} {k j : Nat} {v : Int32} (hO : Ok m) (hk : (k ≠ 2 ∧ k ≠ 7 ∧ k ≠ 70) ∧ (k < 82 ∨ 103 < k)) (hb : ∀ lo hi, wT k j = some (lo, hi) ∨ sT k j = some (lo, hi) → lo ≤ v.toInt ∧ v.toInt ≤ hi) : Ok (dSet m k j v) := by
  have hne : ∀ c : Nat, c ≠ k → (dSet m k j v).1 c = m.1 c := fun c h => dSet_k h
  refine Ok.mk (OkB.set hO.b hb) (Gx_congr ?_ ?_ (hne 7 (by omega)) (fun c h1 h2 => hne c (by omega)) hO.1.2)
  · rw [hne 2 (by omega)]
  · rw [hne 70 (by omega)]
theorem Ok.gen0 {m : dM} {k j : Nat} {v : Int32} (hO : Ok m) (hk : (k ≠ 2 ∧ k ≠ 7 ∧ k ≠ 70) ∧ (k < 82 ∨ 103 < k)) (hw : wT k j = none) (hs : sT k j = none) : Ok (dSet m k j v) := hO.gen hk (fun lo hi h => by
  rcases h with h | h
  · rw [hw] at h; cases h
  · rw [hs] at h; cases h)
def kp (k j : Nat) : Bool := match k with
  | 0 => Nat.beq j 1 || Nat.beq j 2
  | 1 => true
  | 2 => Nat.beq j 0
  | 51 => Nat.beq j 4
  | 67 => Nat.beq j 3
  | 70 => Nat.beq j 2 || (Nat.beq j 17 || (Nat.beq j 18 || Nat.beq j 63))
  | 71 => true
  | 80 => true
  | 115 => true
  | _ => false
theorem kp_w {k j : Nat} (h : kp k j = true) : wT k j = none := by
  unfold kp at h
  split at h
  · rw [Bool.or_eq_true] at h
    rcases h with h | h <;> (have e := Nat.eq_of_beq_eq_true h; subst e; rfl)
  · rfl
  · have e := Nat.eq_of_beq_eq_true h; subst e; rfl
  · have e := Nat.eq_of_beq_eq_true h; subst e; rfl
  · have e := Nat.eq_of_beq_eq_true h; subst e; rfl
  · simp only [Bool.or_eq_true] at h
    rcases h with h | h | h | h <;> (have e := Nat.eq_of_beq_eq_true h; subst e; rfl)
  · rfl
  · rfl
  · rfl
  · cases h
/-- tape, place, told, slots, flats are as they were -/
def Kp (m m' : dM) : Prop := ∀ k j : Nat, kp k j = true → m'.1 k j = m.1 k j
theorem Kp.of {m m' : dM} (h : Inv m.1 m') : Kp m m' := fun k j q => h.2 k j (kp_w q)
theorem Kp.rf (m : dM) : Kp m m := fun _ _ _ => rfl
theorem Kp.tr {a b c : dM} (h : Kp a b) (h' : Kp b c) : Kp a c := fun k j q => (h' k j q).trans (h k j q)
end
section
/-! THE CLASS, 3: read, feed, back; the reference's feed, back -/
theorem m_X8_placeAt {x1 : Int32} {m : dM} {Q : Int32 → dM → Prop} (hQ : ∀ r, Q r m) : c_X8_placeAt_38 1 x1 m Q := by
  refine v_X8_placeAt_38 ?_
  refine ⟨fun _ => v_X8_placeAt_38_20 (hQ _), fun h1 => ⟨fun _ => v_X8_placeAt_38_20 (hQ _), fun h2 => ⟨by omega, hQ _⟩⟩⟩
theorem m_X2_faultAt {m : dM} {Q : Int32 → dM → Prop} (hQ : ∀ r, Q r m) : c_X2_faultAt_43 2 m Q := by
  refine v_X2_faultAt_43 ?_
  exact ⟨fun _ => Wp.deep (m_X8_placeAt hQ) (Nat.le_of_ble_eq_true rfl), fun _ => hQ _⟩
theorem m_X5_faultAt {m : dM} {Q : Int32 → dM → Prop} (hQ : ∀ r, Q r m) : c_X5_faultAt_44 2 m Q := by
  refine v_X5_faultAt_44 ?_
  exact ⟨fun _ => Wp.deep (m_X8_placeAt hQ) (Nat.le_of_ble_eq_true rfl), fun _ => hQ _⟩
theorem m_X11_read {m : dM} {Q : Int32 → dM → Prop} (hO : Ok m) (hQ : ∀ (r : Int32) (m' : dM), Ok m' → (m'.1 0 1).toInt = 0 → m'.1 70 2 = m.1 70 2 → Q r m') : c_X11_read_0 70 m Q := by
  have fin : ∀ (x1 : Int32) (m' : dM), Ok m' → (m'.1 0 1).toInt = 0 → m'.1 70 2 = m.1 70 2 → j_X11_read_0_123 70 x1 m' Q := fun x1 m' a b c => v_X11_read_0_123 (hQ _ _ a b c)
  have mid : ∀ (x1 : Int32) (m' : dM), Ok m' → (x1.toInt = 0 → Hm m') → (m'.1 0 1).toInt = 0 → m'.1 70 2 = m.1 70 2 → j_X11_read_0_69 70 x1 m' Q := fun x1 m' O hH b c => by
    refine v_X11_read_0_69 ?_
    refine ⟨fun _ => fin _ _ O b c, fun hc => ?_⟩
    refine Wp.deep (m_X3_copy O (hH hc) (fun m1 O1 t1 => ?_)) (Nat.le_of_ble_eq_true rfl)
    refine Wp.deep (s_X0_houseIsNew_54 O1.1 O1.2 (fun m2 I2 => ?_)) (Nat.le_of_ble_eq_true rfl)
    refine Wp.deep (s_X7_begin_47_2 O1.1 I2 (fun m3 I3 => ?_)) (Nat.le_of_ble_eq_true rfl)
    refine Wp.deep (s_X6_clear_51 O1.1 I3 (fun m4 I4 => ?_)) (Nat.le_of_ble_eq_true rfl)
    refine v_X6_clearSlots_51 (v_X9_clear_67 ?_)
    have t6 := t1.tr (T2.of I4)
    have O6 : Ok (dSet (dSet m4 51 4 (0 : Int32)) 67 3 (0 : Int32)) := Ok.gen (Ok.gen0 (Ok.of O1.1 I4) (by decide) rfl rfl) (by decide) (fun lo hi h => by
      rcases h with h | h
      · cases h
      · cases h; decide)
    refine fin _ _ O6 ?_ ?_
    · show (m4.1 0 1).toInt = 0
      rw [t6.1]; exact b
    · show m4.1 70 2 = m.1 70 2
      exact t6.2.trans c
  refine v_X11_read_0 ?_
  have b := hO.s (k := 0) (j := 1) rfl
  refine Wp.deep (s_X8_scan_38_1 hO.1 hO.2 b (fun m1 I1 => ?_)) (Nat.le_of_ble_eq_true rfl)
  have O1 : Ok (dSet m1 0 1 (0 : Int32)) := Ok.set1 (lo := 0) (hi := 2000) (Ok.of hO.1 I1) (Or.inl rfl) rfl rfl (by decide) (by decide)
  refine Wp.deep (m_X3_clear_20 O1 (fun m2 O2 t2 hu => ?_)) (Nat.le_of_ble_eq_true rfl)
  have a2 : (m2.1 0 1).toInt = 0 := by rw [t2.1]; rfl
  have c2 : m2.1 70 2 = m.1 70 2 := t2.2.trans (I1.2 70 2 rfl)
  have hH2 : Hm m2 := fun u h => by exfalso; omega
  refine Wp.deep (s_X2_check_43 O2.1 O2.2 (fun r3 m3 I3 => ?_)) (Nat.le_of_ble_eq_true rfl)
  refine Wp.deep (m_X2_faultAt (fun r4 => ?_)) (Nat.le_of_ble_eq_true rfl)
  have O4 : Ok (dSet m3 0 2 r4) := Ok.gen0 (Ok.of O2.1 I3) (by decide) rfl rfl
  have hH4 : Hm (dSet m3 0 2 r4) := show Hm m3 from Hm.of I3 hH2
  have a4 : ((dSet m3 0 2 r4).1 0 1).toInt = 0 := by show (m3.1 0 1).toInt = 0; rw [I3.2 0 1 rfl]; exact a2
  have c4 : (dSet m3 0 2 r4).1 70 2 = m.1 70 2 := by show m3.1 70 2 = _; rw [I3.2 70 2 rfl]; exact c2
  refine ⟨fun hc => mid _ _ O4 (fun h => absurd h hc) a4 c4, fun hc => ?_⟩
  refine Wp.deep (m_X5_check O4 hH4 (fun r5 m5 O5 t5 hH5 => ?_)) (Nat.le_of_ble_eq_true rfl)
  refine Wp.deep (m_X5_faultAt (fun r6 => ?_)) (Nat.le_of_ble_eq_true rfl)
  refine mid _ _ (Ok.gen0 O5 (by decide) rfl rfl) (fun h => show Hm m5 from hH5 h) ?_ ?_
  · show (m5.1 0 1).toInt = 0; rw [t5.1]; exact a4
  · exact t5.2.trans c4
theorem m_X11_putBytes_3 {x1 : Int32} {Q : dM → Prop} : ∀ (n : Nat) (x2 : Int32) (m : dM), x2.toInt = 8 * n - 8 → n ≤ 4 → (m.1 0 1).toInt + n ≤ 2000 → Ok m → (∀ m', Ok m' → m'.1 70 2 = m.1 70 2 → (m'.1 0 1).toInt = (m.1 0 1).toInt + n → Q m') → j_X11_putBytes_0_3 1 x1 x2 m Q := by
  intro n
  induction n with
  | zero =>
    intro x2 m hx hn ht hO hQ
    refine v_X11_putBytes_0_3 ?_
    exact ⟨fun _ => v_X11_putBytes_0_46 (hQ _ hO rfl (by omega)), fun h => by exfalso; omega⟩
  | succ n ih =>
    intro x2 m hx hn ht hO hQ
    have b := hO.s (k := 0) (j := 1) rfl
    refine v_X11_putBytes_0_3 ?_
    refine ⟨fun _ => by exfalso; omega, fun h => ⟨fun _ => by exfalso; omega, fun h2 => ⟨by omega, ?_⟩⟩⟩
    have f := dAddE (X := x2.toInt) (Y := -8) (x := x2) (y := (-8 : Int32)) rfl (by decide) (by omega) (by omega)
    have f2 := dAddE (X := (m.1 0 1).toInt) (Y := 1) (x := m.1 0 1) (y := (1 : Int32)) rfl (by decide) (by omega) (by omega)
    have e : ((dSet (dSet m 1 (m.1 0 1).toNatClampNeg (x1.toUInt32 >>> (x2.toUInt32 &&& Int32.toUInt32 31)).toInt32.toInt8.toInt32.toInt8.toInt32) 0 1 ((m.1 0 1) + (1 : Int32))).1 0 1).toInt = (m.1 0 1).toInt + 1 := f2
    refine ih _ _ (by omega) (by omega) (by omega) (Ok.set1 (lo := 0) (hi := 2000) (Ok.gen0 hO (by decide) rfl rfl) (Or.inl rfl) rfl rfl (by omega) (by omega)) (fun m' a b c => hQ m' a b (by omega))
theorem m_X11_putBytes {x1 : Int32} {m : dM} {Q : dM → Prop} (ht : (m.1 0 1).toInt + 4 ≤ 2000) (hO : Ok m) (hQ : ∀ m', Ok m' → m'.1 70 2 = m.1 70 2 → (m'.1 0 1).toInt = (m.1 0 1).toInt + 4 → Q m') : c_X11_putBytes_0 1 x1 m Q := by
  refine v_X11_putBytes_0 ?_
  exact m_X11_putBytes_3 4 _ _ (by decide) (by omega) ht hO hQ
theorem m_X11_feed {x1 x2 x3 x4 x5 : Int32} {m : dM} {Q : Int32 → dM → Prop} (hO : Ok m) (hQ : ∀ (r : Int32) (m' : dM), Ok m' → m'.1 70 2 = m.1 70 2 → (((m.1 0 1).toInt + 20 ≤ 2000 ∧ r.toInt = (m.1 0 1).toInt + 20 ∧ (m'.1 0 1).toInt = (m.1 0 1).toInt + 20) ∨ (2000 < (m.1 0 1).toInt + 20 ∧ r.toInt = -1 ∧ m'.1 0 1 = m.1 0 1)) → Q r m') : c_X11_feed_0 2 x1 x2 x3 x4 x5 m Q := by
  refine v_X11_feed_0 ?_
  have b := hO.s (k := 0) (j := 1) rfl
  have f := dAddE (X := (m.1 0 1).toInt) (Y := 20) (x := m.1 0 1) (y := (20 : Int32)) rfl (by decide) (by omega) (by omega)
  refine ⟨fun hc => ?_, fun hc => hQ _ _ hO rfl (Or.inr ⟨by omega, by decide, rfl⟩)⟩
  refine Wp.deep (m_X11_putBytes (by omega) hO (fun m1 O1 a1 b1 => ?_)) (Nat.le_of_ble_eq_true rfl)
  refine Wp.deep (m_X11_putBytes (by omega) O1 (fun m2 O2 a2 b2 => ?_)) (Nat.le_of_ble_eq_true rfl)
  refine Wp.deep (m_X11_putBytes (by omega) O2 (fun m3 O3 a3 b3 => ?_)) (Nat.le_of_ble_eq_true rfl)
  refine Wp.deep (m_X11_putBytes (by omega) O3 (fun m4 O4 a4 b4 => ?_)) (Nat.le_of_ble_eq_true rfl)
  refine Wp.deep (m_X11_putBytes (by omega) O4 (fun m5 O5 a5 b5 => ?_)) (Nat.le_of_ble_eq_true rfl)
  exact hQ _ _ O5 (by rw [a5, a4, a3, a2, a1]) (Or.inl ⟨by omega, by omega, by omega⟩)
theorem m_X11_back {x1 : Int32} {m : dM} {Q : Int32 → dM → Prop} (hO : Ok m) (hQ : ∀ (r : Int32) (m' : dM), Ok m' → m'.1 70 2 = m.1 70 2 → (((0 ≤ x1.toInt ∧ x1.toInt ≤ (m.1 0 1).toInt) ∧ r.toInt = (m.1 0 1).toInt - x1.toInt ∧ (m'.1 0 1).toInt = (m.1 0 1).toInt - x1.toInt) ∨ (¬ (0 ≤ x1.toInt ∧ x1.toInt ≤ (m.1 0 1).toInt) ∧ r.toInt = -1 ∧ m'.1 0 1 = m.1 0 1)) → Q r m') : c_X11_back_0 1 x1 m Q := by
  refine v_X11_back_0 ?_
  have b := hO.s (k := 0) (j := 1) rfl
  refine ⟨fun hc => v_X11_back_0_12 (hQ _ _ hO rfl (Or.inr ⟨by omega, by decide, rfl⟩)), fun hc => ⟨fun hc1 => ?_, fun hc1 => v_X11_back_0_12 (hQ _ _ hO rfl (Or.inr ⟨by omega, by decide, rfl⟩))⟩⟩
  have f := dSubE (X := (m.1 0 1).toInt) (Y := x1.toInt) (x := m.1 0 1) (y := x1) rfl rfl (by omega) (by omega)
  exact hQ _ _ (Ok.set1 (lo := 0) (hi := 2000) hO (Or.inl rfl) rfl rfl (by omega) (by omega)) rfl (Or.inl ⟨⟨hc, hc1⟩, by omega, f⟩)
/-- a store at a field of the reference that stays, not the live side -/
theorem Ok.set70 {m : dM} {j : Nat} {v : Int32} (hO : Ok m) (hj : j ≠ 18) (hb : ∀ lo hi, wT 70 j = some (lo, hi) ∨ sT 70 j = some (lo, hi) → lo ≤ v.toInt ∧ v.toInt ≤ hi) : Ok (dSet m 70 j v) := by
  refine Ok.mk (OkB.set hO.b hb) ?_
  have hne : ∀ c : Nat, c ≠ 70 → (dSet m 70 j v).1 c = m.1 c := fun c h => dSet_k h
  refine Gx_congr ?_ (dSet_j (fun h => hj h.symm)) (hne 7 (by omega)) (fun c h1 h2 => hne c (by omega)) hO.1.2
  rw [hne 2 (by omega)]
theorem m_X12_put_3 {x1 : Int32} {Q : dM → Prop} : ∀ (n : Nat) (x2 : Int32) (m : dM), x2.toInt = 8 * n - 8 → n ≤ 4 → (m.1 70 2).toInt + n ≤ 2000 → Ok m → (∀ m', Ok m' → m'.1 0 1 = m.1 0 1 → (m'.1 70 2).toInt = (m.1 70 2).toInt + n → Q m') → j_X12_put_70_3 1 x1 x2 m Q := by
  intro n
  induction n with
  | zero =>
    intro x2 m hx hn ht hO hQ
    refine v_X12_put_70_3 ?_
    exact ⟨fun _ => hQ _ hO rfl (by omega), fun h => by exfalso; omega⟩
  | succ n ih =>
    intro x2 m hx hn ht hO hQ
    have b := hO.s (k := 70) (j := 2) rfl
    refine v_X12_put_70_3 ?_
    refine ⟨fun _ => by exfalso; omega, fun h => ⟨by omega, ?_⟩⟩
    have f := dAddE (X := x2.toInt) (Y := -8) (x := x2) (y := (-8 : Int32)) rfl (by decide) (by omega) (by omega)
    have f2 := dAddE (X := (m.1 70 2).toInt) (Y := 1) (x := m.1 70 2) (y := (1 : Int32)) rfl (by decide) (by omega) (by omega)
    have e : ((dSet (dSet m 71 (m.1 70 2).toNatClampNeg (x1 >>> (x2 &&& 31)).toInt8.toInt32.toInt8.toInt32) 70 2 ((m.1 70 2) + (1 : Int32))).1 70 2).toInt = (m.1 70 2).toInt + 1 := f2
    refine ih _ _ (by omega) (by omega) (by omega) (Ok.set70 (Ok.gen0 hO (by decide) rfl rfl) (by decide) (fun lo hi h => ?_)) (fun m' a b c => hQ m' a b (by omega))
    rcases h with h | h
    · cases h
    · cases h; omega
theorem m_X12_put {x1 : Int32} {m : dM} {Q : dM → Prop} (ht : (m.1 70 2).toInt + 4 ≤ 2000) (hO : Ok m) (hQ : ∀ m', Ok m' → m'.1 0 1 = m.1 0 1 → (m'.1 70 2).toInt = (m.1 70 2).toInt + 4 → Q m') : c_X12_put_70 1 x1 m Q := by
  refine v_X12_put_70 ?_
  exact m_X12_put_3 4 _ _ (by decide) (by omega) ht hO hQ
theorem m_X12_feed {x1 x2 x3 x4 x5 : Int32} {m : dM} {Q : Int32 → dM → Prop} (hO : Ok m) (hQ : ∀ (r : Int32) (m' : dM), Ok m' → m'.1 0 1 = m.1 0 1 → (((m.1 70 2).toInt + 20 ≤ 2000 ∧ r.toInt = (m.1 70 2).toInt + 20 ∧ (m'.1 70 2).toInt = (m.1 70 2).toInt + 20) ∨ (2000 < (m.1 70 2).toInt + 20 ∧ r.toInt = -1 ∧ m'.1 70 2 = m.1 70 2)) → Q r m') : c_X12_feed_70 2 x1 x2 x3 x4 x5 m Q := by
  refine v_X12_feed_70 ?_
  have b := hO.s (k := 70) (j := 2) rfl
  have f := dAddE (X := (m.1 70 2).toInt) (Y := 20) (x := m.1 70 2) (y := (20 : Int32)) rfl (by decide) (by omega) (by omega)
  refine ⟨fun hc => ?_, fun hc => hQ _ _ hO rfl (Or.inr ⟨by omega, by decide, rfl⟩)⟩
  refine Wp.deep (m_X12_put (by omega) hO (fun m1 O1 a1 b1 => ?_)) (Nat.le_of_ble_eq_true rfl)
  refine Wp.deep (m_X12_put (by omega) O1 (fun m2 O2 a2 b2 => ?_)) (Nat.le_of_ble_eq_true rfl)
  refine Wp.deep (m_X12_put (by omega) O2 (fun m3 O3 a3 b3 => ?_)) (Nat.le_of_ble_eq_true rfl)
  refine Wp.deep (m_X12_put (by omega) O3 (fun m4 O4 a4 b4 => ?_)) (Nat.le_of_ble_eq_true rfl)
  refine Wp.deep (m_X12_put (by omega) O4 (fun m5 O5 a5 b5 => ?_)) (Nat.le_of_ble_eq_true rfl)
  exact hQ _ _ O5 (by rw [a5, a4, a3, a2, a1]) (Or.inl ⟨by omega, by omega, by omega⟩)
theorem m_X12_back {x1 : Int32} {m : dM} {Q : Int32 → dM → Prop} (hO : Ok m) (hQ : ∀ (r : Int32) (m' : dM), Ok m' → m'.1 0 1 = m.1 0 1 → (((0 ≤ x1.toInt ∧ x1.toInt ≤ (m.1 70 2).toInt) ∧ r.toInt = (m.1 70 2).toInt - x1.toInt ∧ (m'.1 70 2).toInt = (m.1 70 2).toInt - x1.toInt) ∨ (¬ (0 ≤ x1.toInt ∧ x1.toInt ≤ (m.1 70 2).toInt) ∧ r.toInt = -1 ∧ m'.1 70 2 = m.1 70 2)) → Q r m') : c_X12_back_70 1 x1 m Q := by
  refine v_X12_back_70 ?_
  have b := hO.s (k := 70) (j := 2) rfl
  refine ⟨fun hc => v_X12_back_70_12 (hQ _ _ hO rfl (Or.inr ⟨by omega, by decide, rfl⟩)), fun hc => ⟨fun hc1 => ?_, fun hc1 => v_X12_back_70_12 (hQ _ _ hO rfl (Or.inr ⟨by omega, by decide, rfl⟩))⟩⟩
  have f := dSubE (X := (m.1 70 2).toInt) (Y := x1.toInt) (x := m.1 70 2) (y := x1) rfl rfl (by omega) (by omega)
  refine hQ _ _ (Ok.set70 hO (by decide) (fun lo hi h => ?_)) rfl (Or.inl ⟨⟨hc, hc1⟩, by omega, f⟩)
  rcases h with h | h
  · cases h
  · cases h; omega
end
section
/-! THE REFERENCE's read, 1: going on, failing (by hand) -/
def flt (m : dM) : Int := (m.1 70 13).toInt
def tt (m : dM) : Int := (m.1 70 11).toInt
def wst (m : dM) : Int := (m.1 70 15).toInt
def cds (m : dM) : Int := (m.1 70 46).toInt
def brs (m : dM) : Int := (m.1 70 40).toInt
def nms (m : dM) : Int := (m.1 70 20).toInt
def opn (m : dM) : Int := (m.1 70 12).toInt
def wtg (m : dM) : Int := (m.1 70 50).toInt
def Wz (m m' : dM) : Prop := (wst m' = 0 → wst m = 0) ∧ (0 ≤ wst m → 0 ≤ wst m')
theorem Wz.tr {m m' m'' : dM} (h : Wz m m') (h' : Wz m' m'') : Wz m m'' := ⟨fun q => h.1 (h'.1 q), fun q => h'.2 (h.2 q)⟩
theorem Wz.eq {m m' : dM} (h : wst m' = wst m) : Wz m m' := by unfold Wz; rw [h]; exact ⟨fun q => q, fun q => q⟩
/-- only where it stands, and faults, have changed; n more gone by, or a fault -/
def Mv (n : Int) (m m' : dM) : Prop := (∀ k : Nat, k ≠ 70 → m'.1 k = m.1 k) ∧ (∀ j : Nat, j ≠ 11 → j ≠ 13 → j ≠ 14 → j ≠ 15 → j ≠ 16 → m'.1 70 j = m.1 70 j) ∧ (0 ≤ tt m' ∧ tt m' ≤ 400) ∧ ((flt m = 0 ∧ flt m' = 0 ∧ tt m' = tt m + n) ∨ (0 < flt m' ∧ tt m ≤ tt m' ∧ tt m' ≤ tt m + n)) ∧ Wz m m'
theorem Mv.tr {a b : Int} {m m' m'' : dM} (h : Mv a m m') (h' : Mv b m' m'') (ha : 0 ≤ a) (hb : 0 ≤ b) : Mv (a + b) m m'' := by
  obtain ⟨h1, h2, h3, h4, h5⟩ := h
  obtain ⟨k1, k2, k3, k4, k5⟩ := h'
  refine ⟨fun k hk => (k1 k hk).trans (h1 k hk), fun j a1 a2 a3 a4 a5 => (k2 j a1 a2 a3 a4 a5).trans (h2 j a1 a2 a3 a4 a5), k3, ?_, h5.tr k5⟩
  rcases h4 with h4 | h4
  · rcases k4 with k4 | k4
    · left; omega
    · right; omega
  · rcases k4 with k4 | k4
    · exfalso; omega
    · right; omega
theorem Mv.rf {m : dM} (h : 0 ≤ tt m ∧ tt m ≤ 400) (hf : 0 ≤ flt m) : Mv 0 m m := by
  refine ⟨fun _ _ => rfl, fun _ _ _ _ _ _ => rfl, h, ?_, Wz.eq rfl⟩
  by_cases h0 : flt m = 0
  · left; omega
  · right; omega
theorem Mv.fl {n : Int} {m m' : dM} (h : Mv n m m') : 0 ≤ flt m' := by
  rcases h.2.2.2.1 with q | q <;> omega
theorem p_fail {x1 : Int32} {m : dM} {Q : dM → Prop} (ht : 0 ≤ tt m ∧ tt m ≤ 400) (hx : 1 ≤ x1.toInt) (hQ : ∀ m', Mv 0 m m' → 0 < flt m' → Q m') : c_X12_fail_70 1 x1 m Q := by
  refine v_X12_fail_70 ⟨fun hc => ⟨⟨ht.1, by have := ht.2; unfold tt at this; omega⟩, ?_⟩, fun hc => ?_⟩
  · have e : flt (dSet (dSet m 70 13 x1) 70 14 (m.1 74 (m.1 70 11).toNatClampNeg)) = x1.toInt := rfl
    refine hQ _ ⟨fun k hk => by rw [dSet_k hk, dSet_k hk], fun j a1 a2 a3 a4 a5 => by rw [dSet_j a3, dSet_j a2], ht, ?_, Wz.eq rfl⟩ (by omega)
    right
    have e2 : tt (dSet (dSet m 70 13 x1) 70 14 (m.1 74 (m.1 70 11).toNatClampNeg)) = tt m := rfl
    omega
  · exact hQ _ (Mv.rf ht (Int.le_of_lt hc)) hc
theorem p_goesOn {m : dM} {Q : dM → Prop} (ht : 0 ≤ tt m ∧ tt m ≤ 400) (hf : 0 ≤ flt m) (hQ : ∀ m', Mv 1 m m' → Q m') : c_X12_goesOn_70 2 m Q := by
  refine v_X12_goesOn_70 ⟨fun hc => ?_, fun hc => ?_⟩
  · have hc : tt m ≠ 400 := hc
    have et : (m.1 70 11).toInt = tt m := rfl
    have f := dAddE (X := tt m) (Y := 1) (x := m.1 70 11) (y := (1 : Int32)) rfl (by decide) (by omega) (by omega)
    refine v_X12_goesOn_70_28 (hQ _ ?_)
    have e1 : tt (dSet m 70 11 (m.1 70 11 + 1)) = tt m + 1 := f
    have e2 : flt (dSet m 70 11 (m.1 70 11 + 1)) = flt m := rfl
    refine ⟨fun k hk => dSet_k hk, fun j a1 a2 a3 a4 a5 => dSet_j a1, by omega, ?_, Wz.eq rfl⟩
    by_cases h0 : flt m = 0
    · left; omega
    · right; omega
  · refine Wp.deep (p_fail ht (by decide) (fun m' h h' => ?_)) (Nat.le_of_ble_eq_true rfl)
    refine v_X12_goesOn_70_28 (hQ _ ⟨h.1, h.2.1, h.2.2.1, ?_, h.2.2.2.2⟩)
    right
    rcases h.2.2.2.1 with q | q <;> omega
theorem p_is {x1 : Int32} {m : dM} {Q : Int32 → dM → Prop} (ht : 0 ≤ tt m ∧ tt m ≤ 400) (h1 : flt m = 0 → (m.1 73 (m.1 70 11).toNatClampNeg).toInt = x1.toInt → Q 1 m) (h0 : ¬ (flt m = 0 ∧ (m.1 73 (m.1 70 11).toNatClampNeg).toInt = x1.toInt) → Q 0 m) : c_X12_is_70 1 x1 m Q := by
  refine v_X12_is_70 ⟨fun hc => v_X12_is_70_24 (h0 (fun q => hc q.1)), fun hc => ⟨⟨ht.1, by have := ht.2; unfold tt at this; omega⟩, fun hk => v_X12_is_70_24 (h0 (fun q => hk q.2)), fun hk => h1 hc hk⟩⟩
theorem p_must {x1 : Int32} {m : dM} {Q : dM → Prop} (ht : 0 ≤ tt m ∧ tt m ≤ 400) (hf : 0 ≤ flt m) (hQ : ∀ m', Mv 1 m m' → Q m') : c_X12_must_70 3 x1 m Q := by
  refine v_X12_must_70 ?_
  refine Wp.deep (p_is ht (fun h1 h2 => ⟨fun h => absurd h (by decide), fun _ => ?_⟩) (fun h1 => ⟨fun _ => ?_, fun h => absurd rfl h⟩)) (Nat.le_of_ble_eq_true rfl)
  · exact Wp.deep (p_goesOn ht hf (fun m' h => v_X12_must_70_20 (hQ _ h))) (Nat.le_of_ble_eq_true rfl)
  · refine Wp.deep (p_fail ht (by decide) (fun m' h h' => v_X12_must_70_20 (hQ _ ⟨h.1, h.2.1, h.2.2.1, ?_, h.2.2.2.2⟩))) (Nat.le_of_ble_eq_true rfl)
    right
    rcases h.2.2.2.1 with q | q <;> omega
theorem p_wrong {x1 x2 : Int32} {m : dM} {Q : dM → Prop} (ht : 0 ≤ tt m ∧ tt m ≤ 400) (hf : 0 ≤ flt m) (hx : 1 ≤ x1.toInt) (h2 : 0 ≤ x2.toInt ∧ x2.toInt ≤ 400) (hQ : ∀ m', Mv 0 m m' → (flt m' = 0 → wst m' ≠ 0) → Q m') : c_X12_wrong_70 1 x1 x2 m Q := by
  have rf := Mv.rf ht hf
  have st : flt m = 0 → j_X12_wrong_70_46 1 x1 (m.1 74 x2.toNatClampNeg) m Q := fun h0 => by
    refine v_X12_wrong_70_46 (hQ _ ⟨fun k hk => by rw [dSet_k hk, dSet_k hk], fun j a1 a2 a3 a4 a5 => by rw [dSet_j a5, dSet_j a4], ht, Or.inl ⟨h0, h0, by show tt m = tt m + 0; omega⟩, ⟨fun h => ?_, fun _ => ?_⟩⟩ (fun _ h => ?_))
    · have h : x1.toInt = 0 := h
      exfalso; omega
    · show 0 ≤ x1.toInt
      omega
    · have h : x1.toInt = 0 := h
      omega
  have hfl : ¬ 0 < flt m → flt m = 0 := fun h => by omega
  refine v_X12_wrong_70 ⟨by omega, fun hc => v_X12_wrong_70_45 (hQ _ rf (fun h => by have hc : 0 < flt m := hc; omega)), fun hc => ⟨fun hw => st (hfl (by show ¬ 0 < flt m; unfold flt; omega)), fun hw => ⟨fun _ => v_X12_wrong_70_45 (hQ _ rf (fun _ => hw)), fun _ => ⟨fun _ => st (hfl (by show ¬ 0 < flt m; unfold flt; omega)), fun _ => ⟨fun _ => st (hfl (by show ¬ 0 < flt m; unfold flt; omega)), fun _ => v_X12_wrong_70_45 (hQ _ rf (fun _ => hw))⟩⟩⟩⟩⟩
/-! names, flats, numbers -/
theorem p_named_12 {x1 : Int32} {mb : dM} {Q : Int32 → dM → Prop} (hx1 : 0 ≤ x1.toInt ∧ x1.toInt ≤ 400) (hQ : ∀ m', Mv 0 mb m' → Q x1 m') : ∀ n : Nat, ∀ (x2 : Int32) (m : dM), Mv 0 mb m → nms m ≤ 15 → 0 ≤ x2.toInt ∧ x2.toInt ≤ 15 → 15 - x2.toInt < (n : Int) → j_X12_named_70_12 4 x1 x2 m Q := by
  intro n
  induction n with
  | zero => intro x2 m hm hn h2 hμ; exfalso; omega
  | succ n ih =>
    intro x2 m hm hn h2 hμ
    have fin : j_X12_named_70_55 4 x1 m Q := v_X12_named_70_55 (hQ _ hm)
    refine v_X12_named_70_12 ⟨fun _ => fin, fun hc => ⟨fun _ => fin, fun h0 => ?_⟩⟩
    have hc : x2.toInt < nms m := hc
    have f := dAddE (X := x2.toInt) (Y := 1) (x := x2) (y := (1 : Int32)) rfl (by decide) (by omega) (by omega)
    have nx : ∀ m', Mv 0 m m' → j_X12_named_70_49 4 x1 x2 m' Q := fun m' h => by
      refine v_X12_named_70_49 (ih _ _ (hm.tr h (by decide) (by decide)) ?_ (by omega) (by omega))
      have e : nms m' = nms m := by unfold nms; rw [h.2.1 20 (by decide) (by decide) (by decide) (by decide) (by decide)]
      omega
    refine ⟨by omega, ⟨by omega, fun _ => nx m (Mv.rf hm.2.2.1 hm.fl), fun _ => ?_⟩⟩
    exact Wp.deep (p_wrong hm.2.2.1 hm.fl (by decide) hx1 (fun m' h _ => nx m' h)) (Nat.le_of_ble_eq_true rfl)
theorem p_named {m : dM} {Q : Int32 → dM → Prop} (ht : 0 ≤ tt m ∧ tt m ≤ 400) (hf : 0 ≤ flt m) (hn : nms m ≤ 15) (hQ : ∀ (r : Int32) (m' : dM), Mv 1 m m' → 0 ≤ r.toInt ∧ r.toInt ≤ 400 → Q r m') : c_X12_named_70 4 m Q := by
  refine v_X12_named_70 ?_
  refine p_must ht hf (fun m1 h1 => ?_)
  have e : nms m1 = nms m := by unfold nms; rw [h1.2.1 20 (by decide) (by decide) (by decide) (by decide) (by decide)]
  exact p_named_12 (mb := m1) ht (fun m' h => hQ _ _ (by have := h1.tr h (by decide) (by decide); exact this) ht) 17 _ _ (Mv.rf h1.2.2.1 h1.fl) (by omega) (by decide) (by decide)
theorem p_knownFlat_21 {x1 : Int32} {m : dM} {Q : Int32 → dM → Prop} (ht : 0 ≤ tt m ∧ tt m ≤ 400) (hf : 0 ≤ flt m) (hn : nms m ≤ 15) (h79 : ∀ j, -1 ≤ (m.1 79 j).toInt ∧ (m.1 79 j).toInt ≤ 6) (hx1 : 0 ≤ x1.toInt ∧ x1.toInt ≤ 400) (hQ : ∀ (r : Int32) (m' : dM), Mv 0 m m' → -1 ≤ r.toInt ∧ r.toInt ≤ 6 → (flt m' = 0 → wst m' = 0 → 0 ≤ r.toInt) → Q r m') : ∀ n : Nat, ∀ x2 : Int32, 0 ≤ x2.toInt ∧ x2.toInt ≤ 15 → 15 - x2.toInt < (n : Int) → j_X12_knownFlat_70_21 4 x1 x2 m Q := by
  intro n
  induction n with
  | zero => intro x2 h2 hμ; exfalso; omega
  | succ n ih =>
    intro x2 h2 hμ
    refine v_X12_knownFlat_70_21 ⟨fun _ => ?_, fun hc => ?_⟩
    · exact Wp.deep (p_wrong ht hf (by decide) hx1 (fun m' h h' => hQ _ _ h (by decide) (fun a b => absurd b (h' a)))) (Nat.le_of_ble_eq_true rfl)
    · have hc : x2.toInt < nms m := hc
      have f := dAddE (X := x2.toInt) (Y := 1) (x := x2) (y := (1 : Int32)) rfl (by decide) (by omega) (by omega)
      have nx : j_X12_knownFlat_70_61 4 x1 x2 m Q := v_X12_knownFlat_70_61 (ih _ (by omega) (by omega))
      refine ⟨by omega, ⟨by omega, fun _ => nx, fun _ => ⟨by omega, fun _ => nx, fun h0 => ⟨by omega, ?_⟩⟩⟩⟩
      exact hQ _ _ (Mv.rf ht hf) (h79 _) (fun _ _ => h0)
theorem p_knownFlat {m : dM} {Q : Int32 → dM → Prop} (ht : 0 ≤ tt m ∧ tt m ≤ 400) (hf : 0 ≤ flt m) (hn : nms m ≤ 15) (h79 : ∀ j, -1 ≤ (m.1 79 j).toInt ∧ (m.1 79 j).toInt ≤ 6) (hQ : ∀ (r : Int32) (m' : dM), Mv 1 m m' → -1 ≤ r.toInt ∧ r.toInt ≤ 6 → (flt m' = 0 → wst m' = 0 → 0 ≤ r.toInt) → Q r m') : c_X12_knownFlat_70 4 m Q := by
  refine v_X12_knownFlat_70 ?_
  refine p_must ht hf (fun m1 h1 => ⟨fun hc => ?_, fun hc => ?_⟩)
  · have e : nms m1 = nms m := by unfold nms; rw [h1.2.1 20 (by decide) (by decide) (by decide) (by decide) (by decide)]
    exact p_knownFlat_21 h1.2.2.1 h1.fl (by omega) (by rw [h1.1 79 (by decide)]; exact h79) ht (fun r m' h a b => hQ r m' (h1.tr h (by decide) (by decide)) a b) 17 _ (by decide) (by decide)
  · have hc : 0 < flt m1 := hc
    exact hQ _ _ h1 (by decide) (fun a => by exfalso; omega)
theorem p_bounded {x1 x2 : Int32} {m : dM} {Q : Int32 → dM → Prop} (ht : 0 ≤ tt m ∧ tt m ≤ 400) (hf : 0 ≤ flt m) (h75 : ∀ j, 0 ≤ (m.1 75 j).toInt ∧ (m.1 75 j).toInt ≤ 9999) (hx : 0 ≤ x1.toInt ∧ x1.toInt ≤ 9999) (hQ : ∀ (r : Int32) (m' : dM), Mv 1 m m' → 0 ≤ r.toInt ∧ r.toInt ≤ 9999 → Q r m') : c_X12_bounded_70 3 x1 x2 m Q := by
  have bad : j_X12_bounded_70_15 3 x1 m Q := by
    refine v_X12_bounded_70_15 ?_
    refine Wp.deep (p_fail ht (by decide) (fun m' h h' => hQ _ _ ⟨h.1, h.2.1, h.2.2.1, ?_, h.2.2.2.2⟩ hx)) (Nat.le_of_ble_eq_true rfl)
    right
    rcases h.2.2.2.1 with q | q <;> omega
  refine v_X12_bounded_70 ⟨fun _ => bad, fun hc => ?_⟩
  refine Wp.deep (p_is ht (fun h1 h2 => ⟨fun _ => ⟨⟨ht.1, by have := ht.2; unfold tt at this; omega⟩, ?_⟩, fun h => absurd h (by decide)⟩) (fun h1 => ⟨fun h => absurd rfl h, fun _ => bad⟩)) (Nat.le_of_ble_eq_true rfl)
  have on : ∀ m1, Mv 0 m m1 → j_X12_bounded_70_51 3 (m.1 75 (m.1 70 11).toNatClampNeg) m1 Q := fun m1 h => by
    refine v_X12_bounded_70_51 (p_goesOn h.2.2.1 h.fl (fun m' h' => hQ _ _ ?_ (h75 _)))
    exact h.tr h' (by decide) (by decide)
  have wr : j_X12_bounded_70_42 3 (m.1 75 (m.1 70 11).toNatClampNeg) m Q := by
    refine v_X12_bounded_70_42 ?_
    exact Wp.deep (p_wrong ht hf (by decide) ht (fun m' h _ => on m' h)) (Nat.le_of_ble_eq_true rfl)
  exact ⟨fun _ => wr, fun _ => ⟨fun _ => on m (Mv.rf ht hf), fun _ => wr⟩⟩
end
section
/-! THE REFERENCE's read, 2: an expression (by hand) -/
def gDp (g : gM) : Nat → Nat → Nat → Nat → Prop
  | 0, _, t, t' => t = t'
  | n + 1, p, t, t' => ((g 102 p).toInt < 2 ∧ ((g 102 p).toInt ≠ 0 → 0 ≤ (g 103 p).toInt ∧ (g 103 p).toInt ≤ 8) ∧ gDp g n (p + 1) (t + 1) t') ∨ ((2 ≤ (g 102 p).toInt ∧ (g 102 p).toInt ≤ 5) ∧ 2 ≤ t ∧ gDp g n (p + 1) (t - 1) t')
theorem gDp_seg {g : gM} : ∀ {n p t t' : Nat}, gDp g n p t t' → gSeg g n p t
  | 0, _, _, _, _ => trivial
  | n + 1, p, t, t', h => by
    rcases h with ⟨a, b, c⟩ | ⟨a, b, c⟩
    · exact Or.inl ⟨a, b, gDp_seg c⟩
    · exact Or.inr ⟨a, b, gDp_seg c⟩
theorem gDp_congr {g g' : gM} : ∀ {n p t t' : Nat}, (∀ j, p ≤ j → j < p + n → g' 102 j = g 102 j ∧ g' 103 j = g 103 j) → gDp g n p t t' → gDp g' n p t t'
  | 0, _, _, _, _, h => h
  | n + 1, p, t, t', hc, h => by
    have e := hc p (Nat.le_refl _) (by omega)
    have hc' : ∀ j, p + 1 ≤ j → j < p + 1 + n → g' 102 j = g 102 j ∧ g' 103 j = g 103 j := fun j h1 h2 => hc j (by omega) (by omega)
    rcases h with ⟨a, b, c⟩ | ⟨a, b, c⟩
    · left; rw [e.1, e.2]; exact ⟨a, b, gDp_congr hc' c⟩
    · right; rw [e.1]; exact ⟨a, b, gDp_congr hc' c⟩
theorem gDp_push {g : gM} : ∀ {n p t t' : Nat}, gDp g n p t t' → (g 102 (p + n)).toInt < 2 → ((g 102 (p + n)).toInt ≠ 0 → 0 ≤ (g 103 (p + n)).toInt ∧ (g 103 (p + n)).toInt ≤ 8) → gDp g (n + 1) p t (t' + 1)
  | 0, p, t, t', h, a, b => by
    have h : t = t' := h
    subst h
    exact Or.inl ⟨a, b, rfl⟩
  | n + 1, p, t, t', h, a, b => by
    have e : p + (n + 1) = (p + 1) + n := by omega
    rw [e] at a b
    rcases h with ⟨a1, b1, c⟩ | ⟨a1, b1, c⟩
    · exact Or.inl ⟨a1, b1, gDp_push c a b⟩
    · exact Or.inr ⟨a1, b1, gDp_push c a b⟩
theorem gDp_op {g : gM} : ∀ {n p t t' : Nat}, gDp g n p t (t' + 1) → (2 ≤ (g 102 (p + n)).toInt ∧ (g 102 (p + n)).toInt ≤ 5) → 1 ≤ t' → gDp g (n + 1) p t t'
  | 0, p, t, t', h, a, b => by
    have h : t = t' + 1 := h
    subst h
    exact Or.inr ⟨a, by omega, rfl⟩
  | n + 1, p, t, t', h, a, b => by
    have e : p + (n + 1) = (p + 1) + n := by omega
    rw [e] at a
    rcases h with ⟨a1, b1, c⟩ | ⟨a1, b1, c⟩
    · exact Or.inl ⟨a1, b1, gDp_op c a b⟩
    · exact Or.inr ⟨a1, b1, gDp_op c a b⟩
/-- what waits: o opens, p signs, and what is on top (0 nothing or an open, 1 a weak sign, 2 a strong one) -/
def Wk (f : Nat → Int32) : Nat → Nat → Nat → Nat → Prop
  | 0, o, p, c => o = 0 ∧ p = 0 ∧ c = 0
  | n + 1, o, p, c => ((f n).toInt = 6 ∧ c = 0 ∧ ∃ o' c', o = o' + 1 ∧ Wk f n o' p c') ∨ (((f n).toInt = 8 ∨ (f n).toInt = 9) ∧ c = 1 ∧ ∃ p', p = p' + 1 ∧ Wk f n o p' 0) ∨ (((f n).toInt = 10 ∨ (f n).toInt = 15) ∧ c = 2 ∧ ∃ p' c', p = p' + 1 ∧ c' ≤ 1 ∧ Wk f n o p' c')
theorem Wk_congr {f f' : Nat → Int32} : ∀ {n o p c : Nat}, (∀ j, j < n → f' j = f j) → Wk f n o p c → Wk f' n o p c
  | 0, _, _, _, _, h => h
  | n + 1, o, p, c, hc, h => by
    have e := hc n (by omega)
    have hc' : ∀ j, j < n → f' j = f j := fun j hj => hc j (by omega)
    unfold Wk at h ⊢
    rw [e]
    rcases h with ⟨a, b, o', c', d, w⟩ | ⟨a, b, p', d, w⟩ | ⟨a, b, p', c', d, i, w⟩
    · exact Or.inl ⟨a, b, o', c', d, Wk_congr hc' w⟩
    · exact Or.inr (Or.inl ⟨a, b, p', d, Wk_congr hc' w⟩)
    · exact Or.inr (Or.inr ⟨a, b, p', c', d, i, Wk_congr hc' w⟩)
theorem Wk_len {f : Nat → Int32} : ∀ {n o p c : Nat}, Wk f n o p c → n = o + p ∧ p ≤ 2 * o + c ∧ c ≤ 2
  | 0, o, p, c, h => by obtain ⟨a, b, d⟩ := h; omega
  | n + 1, o, p, c, h => by
    unfold Wk at h
    rcases h with ⟨a, b, o', c', d, w⟩ | ⟨a, b, p', d, w⟩ | ⟨a, b, p', c', d, i, w⟩ <;> (have := Wk_len w; omega)
def CoF (m : dM) (p : Nat) (m' : dM) : Prop := (∀ k : Nat, k ≠ 70 → k ≠ 102 → k ≠ 103 → m'.1 k = m.1 k) ∧ (∀ j : Nat, j ≠ 46 → j ≠ 50 → m'.1 70 j = m.1 70 j) ∧ (∀ j : Nat, ((j : Int) < cds m ∨ cds m + p ≤ j) → m'.1 102 j = m.1 102 j ∧ m'.1 103 j = m.1 103 j)
theorem co_0 {x1 : Int32} {Q : dM → Prop} {c0 : Nat} {B : Int} (hB : B ≤ 839) : ∀ (n : Nat) (m : dM) (o p c q : Nat), n ≤ 64 → wtg m = n → Wk (m.1 104) n o p c → cds m = c0 + q → gDp m.1 q c0 0 (p + 1) → cds m + p ≤ B →
    (∀ (m' : dM) (n' p' c' q' : Nat), CoF m p m' → wtg m' = n' → Wk (m'.1 104) n' o p' c' → c' ≤ 1 → (x1.toInt = 0 → c' = 0) → cds m' = c0 + q' → gDp m'.1 q' c0 0 (p' + 1) → cds m' + p' = cds m + p → q ≤ q' → Q m') → j_X12_comesOut_70_0 2 x1 m Q := by
  intro n
  induction n with
  | zero =>
    intro m o p c q hn hw hW hc hD hB' hQ
    have hW' : o = 0 ∧ p = 0 ∧ c = 0 := hW
    refine v_X12_comesOut_70_0 ⟨fun _ => hQ m 0 p c q ⟨fun _ _ _ _ => rfl, fun _ _ _ => rfl, fun _ _ => ⟨rfl, rfl⟩⟩ hw hW (by omega) (fun _ => hW'.2.2) hc hD rfl (Nat.le_refl _), fun h => ?_⟩
    have h : 0 < wtg m := h
    exfalso; omega
  | succ n ih =>
    intro m o p c q hn hw hW hc hD hB' hQ
    have ew : (m.1 70 50).toInt = wtg m := rfl
    have ec : (m.1 70 46).toInt = cds m := rfl
    have f := dSubE (X := wtg m) (Y := 1) (x := m.1 70 50) (y := (1 : Int32)) rfl (by decide) (by omega) (by omega)
    have ei : (m.1 70 50 - (1 : Int32)).toNatClampNeg = n := by
      have := d_cl (x := m.1 70 50 - (1 : Int32)) (by omega)
      omega
    have stay : c ≤ 1 → (x1.toInt = 0 → c = 0) → j_X12_comesOut_70_41 2 m Q := fun h1 h2 => v_X12_comesOut_70_41 (hQ m (n + 1) p c q ⟨fun _ _ _ _ => rfl, fun _ _ _ => rfl, fun _ _ => ⟨rfl, rfl⟩⟩ hw hW h1 h2 hc hD rfl (Nat.le_refl _))
    have out : ∀ (p1 c1 : Nat), p = p1 + 1 → Wk (m.1 104) n o p1 c1 → ∀ code : Int32, 2 ≤ code.toInt ∧ code.toInt ≤ 5 → c_X12_emit_70 1 code (0 : Int32) (dSet m 70 50 ((m.1 70 50) - (1 : Int32))) (fun m1 => j_X12_comesOut_70_0 2 x1 m1 Q) := by
      intro p1 c1 hp hW1 code hcode
      refine v_X12_emit_70 ?_
      have ec' : ((dSet m 70 50 ((m.1 70 50) - (1 : Int32))).1 70 46) = m.1 70 46 := rfl
      rw [ec']
      have fc := dAddE (X := cds m) (Y := 1) (x := m.1 70 46) (y := (1 : Int32)) rfl (by decide) (by omega) (by omega)
      have eC : (m.1 70 46).toNatClampNeg = c0 + q := by
        have := d_cl (x := m.1 70 46) (by omega)
        omega
      refine ⟨by omega, ⟨by omega, ?_⟩⟩
      rw [eC]
      have r2 : ∀ j, j ≠ c0 + q → (dSet (dSet (dSet (dSet m 70 50 ((m.1 70 50) - (1 : Int32))) 102 (c0 + q) code) 103 (c0 + q) (0 : Int32)) 70 46 ((m.1 70 46) + (1 : Int32))).1 102 j = m.1 102 j ∧ (dSet (dSet (dSet (dSet m 70 50 ((m.1 70 50) - (1 : Int32))) 102 (c0 + q) code) 103 (c0 + q) (0 : Int32)) 70 46 ((m.1 70 46) + (1 : Int32))).1 103 j = m.1 103 j := fun j hj => by
        constructor
        · rw [dSet_k (by decide), dSet_k (by decide), dSet_j hj, dSet_k (by decide)]
        · rw [dSet_k (by decide), dSet_j hj, dSet_k (by decide), dSet_k (by decide)]
      have r1 : (dSet (dSet (dSet (dSet m 70 50 ((m.1 70 50) - (1 : Int32))) 102 (c0 + q) code) 103 (c0 + q) (0 : Int32)) 70 46 ((m.1 70 46) + (1 : Int32))).1 102 (c0 + q) = code := by rw [dSet_k (by decide), dSet_k (by decide), dSet_s]
      generalize hM : (dSet (dSet (dSet (dSet m 70 50 ((m.1 70 50) - (1 : Int32))) 102 (c0 + q) code) 103 (c0 + q) (0 : Int32)) 70 46 ((m.1 70 46) + (1 : Int32))) = M at r1 r2 ⊢
      have w1 : wtg M = n := by rw [← hM]; show (m.1 70 50 - (1 : Int32)).toInt = n; omega
      have w2 : cds M = c0 + (q + 1 : Nat) := by rw [← hM]; show (m.1 70 46 + (1 : Int32)).toInt = _; omega
      have w3 : ∀ k : Nat, k ≠ 70 → k ≠ 102 → k ≠ 103 → M.1 k = m.1 k := fun k h1 h2 h3 => by rw [← hM, dSet_k h1, dSet_k h3, dSet_k h2, dSet_k h1]
      have w4 : ∀ j : Nat, j ≠ 46 → j ≠ 50 → M.1 70 j = m.1 70 j := fun j h1 h2 => by rw [← hM, dSet_j h1, dSet_k (by decide), dSet_k (by decide), dSet_j h2]
      have hD1 : gDp M.1 (q + 1) c0 0 (p1 + 1) := by
        refine gDp_op (gDp_congr (fun j h1 h2 => r2 j (by omega)) (by rw [← hp]; exact hD)) ?_ (by omega)
        rw [r1]; exact hcode
      refine ih M o p1 c1 (q + 1) (by omega) w1 (by rw [w3 104 (by decide) (by decide) (by decide)]; exact hW1) w2 hD1 (by omega) ?_
      intro m' n' p' c' q' hF a1 a2 a3 a4 a5 a6 a7 a8
      refine hQ m' n' p' c' q' ⟨fun k h1 h2 h3 => (hF.1 k h1 h2 h3).trans (w3 k h1 h2 h3), fun j h1 h2 => (hF.2.1 j h1 h2).trans (w4 j h1 h2), fun j hj => ?_⟩ a1 a2 a3 a4 a5 a6 (by omega) (by omega)
      have g1 := hF.2.2 j (by omega)
      have g2 := r2 j (by omega)
      exact ⟨g1.1.trans g2.1, g1.2.trans g2.2⟩
    refine v_X12_comesOut_70_0 ⟨fun h => by have h : wtg m ≤ 0 := h; exfalso; omega, fun _ => ⟨by omega, ?_⟩⟩
    rw [ei]
    have hW0 := hW
    unfold Wk at hW0
    rcases hW0 with ⟨a, b, o', c', d, w⟩ | ⟨a, b, p', d, w⟩ | ⟨a, b, p', c', d, i, w⟩
    · exact ⟨fun _ => stay (by omega) (fun _ => b), fun h => absurd a h⟩
    · have em : ∀ y : Int32, y = m.1 104 n → j_X12_comesOut_70_42 2 x1 y m Q := fun y hy => by
        subst hy
        refine v_X12_comesOut_70_42 ⟨fun _ => ⟨fun _ => ⟨fun _ => out p' 0 d w _ (by decide), fun _ => out p' 0 d w _ (by decide)⟩, fun _ => out p' 0 d w _ (by decide)⟩, fun _ => out p' 0 d w _ (by decide)⟩
      refine ⟨fun h => by exfalso; omega, fun _ => ⟨fun _ => em _ rfl, fun hx => ⟨fun _ => stay (by omega) (fun h => absurd h hx), fun h8 => ⟨fun h9 => by exfalso; omega, fun _ => stay (by omega) (fun h => absurd h hx)⟩⟩⟩⟩
    · have em : ∀ y : Int32, y = m.1 104 n → j_X12_comesOut_70_42 2 x1 y m Q := fun y hy => by
        subst hy
        refine v_X12_comesOut_70_42 ⟨fun _ => ⟨fun _ => ⟨fun _ => out p' c' d w _ (by decide), fun _ => out p' c' d w _ (by decide)⟩, fun _ => out p' c' d w _ (by decide)⟩, fun _ => out p' c' d w _ (by decide)⟩
      refine ⟨fun h => by exfalso; omega, fun _ => ⟨fun _ => em _ rfl, fun hx => ⟨fun h => by exfalso; omega, fun h8 => ⟨fun h9 => em _ rfl, fun h => by exfalso; omega⟩⟩⟩⟩
end
section
/-! THE REFERENCE's read, 3: an expression, all of it (by hand) -/
def XF (me : dM) (s : Nat) (m : dM) : Prop := (∀ k : Nat, k ≠ 70 → k ≠ 102 → k ≠ 103 → k ≠ 104 → m.1 k = me.1 k) ∧ (∀ j : Nat, j ≠ 11 → j ≠ 12 → j ≠ 13 → j ≠ 14 → j ≠ 15 → j ≠ 16 → j ≠ 46 → j ≠ 50 → m.1 70 j = me.1 70 j) ∧ (∀ j : Nat, ((j : Int) < cds me ∨ 420 * s + 402 ≤ j) → m.1 102 j = me.1 102 j ∧ m.1 103 j = me.1 103 j) ∧ Wz me m
def EZ (me : dM) (s : Nat) (m : dM) : Prop := XF me s m ∧ (0 ≤ tt m ∧ tt m ≤ 400) ∧ tt me ≤ tt m ∧ 0 ≤ flt m ∧ cds me ≤ cds m ∧ cds m ≤ 420 * s + 401
def ES (me : dM) (s : Nat) (m : dM) (o p c D : Nat) : Prop := XF me s m ∧ (0 ≤ tt m ∧ tt m ≤ 400) ∧ tt me ≤ tt m ∧ 0 ≤ flt m ∧ opn m = o ∧ wtg m = (o + p : Nat) ∧ Wk (m.1 104) (o + p) o p c ∧ (∃ q : Nat, cds m = cds me + q ∧ gDp m.1 q (cds me).toNat 0 D) ∧ cds m + p ≤ 420 * s + 401 ∧ (flt m = 0 → cds m + p ≤ 420 * s + tt m ∧ o ≤ 6) ∧ o ≤ 7
def EQ (me : dM) (s : Nat) (m : dM) : Prop := EZ me s m ∧ (flt m = 0 → opn m = 0 ∧ tt me + 1 ≤ tt m ∧ cds m ≤ 420 * s + tt m ∧ gPc m.1 s (cds me) (cds m))
theorem ES.z {me : dM} {s : Nat} {m : dM} {o p c D : Nat} (h : ES me s m o p c D) : EZ me s m := by
  obtain ⟨a1, a2, a3, a4, a5, a6, a7, ⟨q, a8, -⟩, a9, a10, a11⟩ := h
  exact ⟨a1, a2, a3, a4, by omega, by omega⟩
theorem ES.mv {me : dM} {s : Nat} {m m' : dM} {o p c D : Nat} {k : Int} (h : ES me s m o p c D) (hm : Mv k m m') (hk : 0 ≤ k) : ES me s m' o p c D := by
  obtain ⟨⟨x1, x2, x3, x4⟩, a2, a3, a4, a5, a6, a7, ⟨q, a8, a8'⟩, a9, a10, a11⟩ := h
  obtain ⟨h1, h2, h3, h4, h5⟩ := hm
  have e46 : m'.1 70 46 = m.1 70 46 := h2 46 (by decide) (by decide) (by decide) (by decide) (by decide)
  have e12 : m'.1 70 12 = m.1 70 12 := h2 12 (by decide) (by decide) (by decide) (by decide) (by decide)
  have e50 : m'.1 70 50 = m.1 70 50 := h2 50 (by decide) (by decide) (by decide) (by decide) (by decide)
  have c1 : cds m' = cds m := by unfold cds; rw [e46]
  have hf : 0 ≤ flt m' := by rcases h4 with q | q <;> omega
  have ht : tt m ≤ tt m' := by rcases h4 with q | q <;> omega
  refine ⟨⟨fun k b1 b2 b3 b4 => (h1 k b1).trans (x1 k b1 b2 b3 b4), fun j b1 b2 b3 b4 b5 b6 b7 b8 => (h2 j b1 b3 b4 b5 b6).trans (x2 j b1 b2 b3 b4 b5 b6 b7 b8), fun j hj => by rw [h1 102 (by decide), h1 103 (by decide)]; exact x3 j hj, x4.tr h5⟩, h3, by omega, hf, by unfold opn; rw [e12]; exact a5, by unfold wtg; rw [e50]; exact a6, by rw [h1 104 (by decide)]; exact a7, ⟨q, by rw [c1]; exact a8, gDp_congr (fun j _ _ => by rw [h1 102 (by decide), h1 103 (by decide)]; exact ⟨rfl, rfl⟩) a8'⟩, by omega, fun h0 => ?_, a11⟩
  have hf0 : flt m = 0 := by rcases h4 with q | q <;> omega
  have := a10 hf0
  omega
section EXPR
variable {me : dM} {s : Nat}
/-- an operand comes out, and it goes on -/
theorem es_emit {m : dM} {o p c : Nat} {code val : Int32} {Q : dM → Prop} (hs : s ≤ 1) (hme : 420 * (s : Int) ≤ cds me) (h : ES me s m o p c p) (h0 : flt m = 0) (hcode : code.toInt < 2 ∧ (code.toInt ≠ 0 → 0 ≤ val.toInt ∧ val.toInt ≤ 8)) (hQ : ∀ m', EZ me s m' → (flt m' = 0 → ES me s m' o p c (p + 1) ∧ tt m + 1 ≤ tt m') → Q m') : c_X12_emit_70 2 code val m (fun m2 => c_X12_goesOn_70 2 m2 Q) := by
  obtain ⟨⟨x1, x2, x3, x4⟩, a2, a3, a4, a5, a6, a7, ⟨q, a8, a8'⟩, a9, a10, a11⟩ := h
  have hb := a10 h0
  have ec : (m.1 70 46).toInt = cds m := rfl
  have fc := dAddE (X := cds m) (Y := 1) (x := m.1 70 46) (y := (1 : Int32)) rfl (by decide) (by omega) (by omega)
  have eC : (m.1 70 46).toNatClampNeg = (cds me).toNat + q := by
    have := d_cl (x := m.1 70 46) (by omega)
    omega
  refine v_X12_emit_70 ⟨by omega, ⟨by omega, ?_⟩⟩
  rw [eC]
  have r2 : ∀ j, j ≠ (cds me).toNat + q → (dSet (dSet (dSet m 102 ((cds me).toNat + q) code) 103 ((cds me).toNat + q) val) 70 46 ((m.1 70 46) + (1 : Int32))).1 102 j = m.1 102 j ∧ (dSet (dSet (dSet m 102 ((cds me).toNat + q) code) 103 ((cds me).toNat + q) val) 70 46 ((m.1 70 46) + (1 : Int32))).1 103 j = m.1 103 j := fun j hj => by
    constructor
    · rw [dSet_k (by decide), dSet_k (by decide), dSet_j hj]
    · rw [dSet_k (by decide), dSet_j hj, dSet_k (by decide)]
  have r1 : (dSet (dSet (dSet m 102 ((cds me).toNat + q) code) 103 ((cds me).toNat + q) val) 70 46 ((m.1 70 46) + (1 : Int32))).1 102 ((cds me).toNat + q) = code := by rw [dSet_k (by decide), dSet_k (by decide), dSet_s]
  have r3 : (dSet (dSet (dSet m 102 ((cds me).toNat + q) code) 103 ((cds me).toNat + q) val) 70 46 ((m.1 70 46) + (1 : Int32))).1 103 ((cds me).toNat + q) = val := by rw [dSet_k (by decide), dSet_s]
  generalize hM : (dSet (dSet (dSet m 102 ((cds me).toNat + q) code) 103 ((cds me).toNat + q) val) 70 46 ((m.1 70 46) + (1 : Int32))) = M at r1 r2 r3 ⊢
  have w2 : cds M = cds me + (q + 1 : Nat) := by rw [← hM]; show (m.1 70 46 + (1 : Int32)).toInt = _; omega
  have w3 : ∀ k : Nat, k ≠ 70 → k ≠ 102 → k ≠ 103 → M.1 k = m.1 k := fun k h1 h2 h3 => by rw [← hM, dSet_k h1, dSet_k h3, dSet_k h2]
  have w4 : ∀ j : Nat, j ≠ 46 → M.1 70 j = m.1 70 j := fun j h1 => by rw [← hM, dSet_j h1, dSet_k (by decide), dSet_k (by decide)]
  have t1 : tt M = tt m := by unfold tt; rw [w4 11 (by decide)]
  have f1 : flt M = flt m := by unfold flt; rw [w4 13 (by decide)]
  have u1 : wst M = wst m := by unfold wst; rw [w4 15 (by decide)]
  have hD1 : gDp M.1 (q + 1) (cds me).toNat 0 (p + 1) := gDp_push (gDp_congr (fun j h1 h2 => r2 j (by omega)) a8') (by rw [r1]; exact hcode.1) (by rw [r1, r3]; exact hcode.2)
  refine p_goesOn (by omega) (by omega) (fun m3 h3 => ?_)
  obtain ⟨k1, k2, k3, k4, k5⟩ := h3
  have e46 : m3.1 70 46 = M.1 70 46 := k2 46 (by decide) (by decide) (by decide) (by decide) (by decide)
  have c3 : cds m3 = cds M := by unfold cds; rw [e46]
  have X3 : XF me s m3 := by
    refine ⟨fun k b1 b2 b3 b4 => (k1 k b1).trans ((w3 k b1 b2 b3).trans (x1 k b1 b2 b3 b4)), fun j b1 b2 b3 b4 b5 b6 b7 b8 => (k2 j b1 b3 b4 b5 b6).trans ((w4 j b7).trans (x2 j b1 b2 b3 b4 b5 b6 b7 b8)), fun j hj => ?_, x4.tr ((Wz.eq u1).tr k5)⟩
    rw [k1 102 (by decide), k1 103 (by decide)]
    have g2 := r2 j (by omega)
    have g3 := x3 j hj
    exact ⟨g2.1.trans g3.1, g2.2.trans g3.2⟩
  have hf3 : 0 ≤ flt m3 := by rcases k4 with z | z <;> omega
  have ht3 : tt m ≤ tt m3 := by rcases k4 with z | z <;> omega
  refine hQ m3 ⟨X3, k3, by omega, hf3, by omega, by omega⟩ (fun hz => ?_)
  have ht4 : tt m3 = tt m + 1 := by rcases k4 with z | z <;> omega
  refine ⟨⟨X3, k3, by omega, hf3, ?_, ?_, ?_, ⟨q + 1, by omega, gDp_congr (fun j _ _ => by rw [k1 102 (by decide), k1 103 (by decide)]; exact ⟨rfl, rfl⟩) hD1⟩, by omega, fun _ => by omega, a11⟩, by omega⟩
  · unfold opn; rw [k2 12 (by decide) (by decide) (by decide) (by decide) (by decide), w4 12 (by decide)]; exact a5
  · unfold wtg; rw [k2 50 (by decide) (by decide) (by decide) (by decide) (by decide), w4 50 (by decide)]; exact a6
  · rw [k1 104 (by decide), w3 104 (by decide) (by decide) (by decide)]; exact a7
theorem p_unit {m : dM} {o p c : Nat} {Q : dM → Prop} (hs : s ≤ 1) (hme : 420 * (s : Int) ≤ cds me) (h : ES me s m o p c p) (hQ : ∀ m', EZ me s m' → (flt m' = 0 → ES me s m' o p c (p + 1) ∧ flt m = 0 ∧ tt m + 1 ≤ tt m') → Q m') : c_X12_unit_70 3 m Q := by
  have a2 := h.2.1
  have a4 := h.2.2.2.1
  have bad : j_X12_unit_70_88 3 m Q := by
    refine v_X12_unit_70_88 ?_
    refine Wp.deep (p_fail a2 (by decide) (fun m' h' hf => v_X12_unit_70_93 (hQ m' (h.mv h' (by decide)).z (fun h0 => by exfalso; omega)))) (Nat.le_of_ble_eq_true rfl)
  have tr : (0 ≤ (m.1 70 11).toInt ∧ (m.1 70 11).toInt < 403) := ⟨a2.1, by have := a2.2; unfold tt at this; omega⟩
  refine v_X12_unit_70 ?_
  refine Wp.deep (p_is a2 (fun h1 h2 => ⟨fun q => absurd q (by decide), fun _ => ⟨tr, ?_⟩⟩) (fun h1 => ⟨fun _ => ⟨fun _ => bad, fun h0 => ⟨tr, fun _ => bad, fun hk => ⟨tr, fun _ => bad, fun hk2 => ⟨tr, ?_⟩⟩⟩⟩, fun q => absurd rfl q⟩)) (Nat.le_of_ble_eq_true rfl)
  · exact es_emit hs hme h h1 ⟨by decide, fun q => absurd rfl q⟩ (fun m' z e => v_X12_unit_70_93 (hQ m' z (fun h0 => ⟨(e h0).1, h1, (e h0).2⟩)))
  · have f := dSubE (X := (m.1 73 (m.1 70 11).toNatClampNeg).toInt) (Y := 33) (x := m.1 73 (m.1 70 11).toNatClampNeg) (y := (33 : Int32)) rfl (by decide) (by omega) (by omega)
    exact es_emit hs hme h h0 ⟨by decide, fun _ => by omega⟩ (fun m' z e => v_X12_unit_70_93 (hQ m' z (fun h0' => ⟨(e h0').1, h0, (e h0').2⟩)))
/-- what comesOut does within an expression -/
theorem es_out {m : dM} {o p c : Nat} {x : Int32} {Q : dM → Prop} (hs : s ≤ 1) (hme : 420 * (s : Int) ≤ cds me) (h : ES me s m o p c (p + 1)) (hQ : ∀ (m' : dM) (p' c' : Nat), ES me s m' o p' c' (p' + 1) → c' ≤ 1 → (x.toInt = 0 → c' = 0) → tt m' = tt m → flt m' = flt m → m'.1 73 = m.1 73 → m'.1 70 11 = m.1 70 11 → Q m') : c_X12_comesOut_70 2 x m Q := by
  obtain ⟨⟨x1, x2, x3, x4⟩, a2, a3, a4, a5, a6, a7, ⟨q, a8, a8'⟩, a9, a10, a11⟩ := h
  have hl := Wk_len a7
  have h0 : (cds m) = ((cds me).toNat : Int) + q := by omega
  refine co_0 (c0 := (cds me).toNat) (B := 420 * s + 401) (by omega) (o + p) m o p c q (by omega) a6 a7 h0 a8' a9 ?_
  intro m' n' p' c' q' hF b1 b2 b3 b4 b5 b6 b7 b8
  have hl' := Wk_len b2
  have t1 : tt m' = tt m := by unfold tt; rw [hF.2.1 11 (by decide) (by decide)]
  have f1 : flt m' = flt m := by unfold flt; rw [hF.2.1 13 (by decide) (by decide)]
  have u1 : wst m' = wst m := by unfold wst; rw [hF.2.1 15 (by decide) (by decide)]
  have o1 : opn m' = o := by unfold opn; rw [hF.2.1 12 (by decide) (by decide)]; exact a5
  refine hQ m' p' c' ⟨⟨fun k e1 e2 e3 e4 => (hF.1 k e1 e2 e3).trans (x1 k e1 e2 e3 e4), fun j e1 e2 e3 e4 e5 e6 e7 e8 => (hF.2.1 j e7 e8).trans (x2 j e1 e2 e3 e4 e5 e6 e7 e8), fun j hj => ?_, x4.tr (Wz.eq u1)⟩, by omega, by omega, by omega, o1, by rw [← hl'.1]; exact b1, by rw [← hl'.1]; exact b2, ⟨q', by omega, b6⟩, by omega, fun hz => ?_, a11⟩ b3 b4 t1 f1 (hF.1 73 (by decide) (by decide) (by decide)) (hF.2.1 11 (by decide) (by decide))
  · have g1 := hF.2.2 j (by omega)
    have g2 := x3 j hj
    exact ⟨g1.1.trans g2.1, g1.2.trans g2.2⟩
  · have := a10 (by omega)
    omega
theorem ex_204 {m : dM} {o p c : Nat} {Q : dM → Prop} (hs : s ≤ 1) (hme : 420 * (s : Int) ≤ cds me) (hQ : ∀ m', EQ me s m' → Q m') (h : ES me s m o p c (p + 1)) (hz : flt m = 0 → o = 0 ∧ tt me + 1 ≤ tt m) : j_X12_expression_70_204 4 m Q := by
  refine v_X12_expression_70_204 ?_
  refine Wp.deep (es_out hs hme h (fun m' p' c' h' b1 b2 b3 b4 _ _ => hQ m' ⟨h'.z, fun h0 => ?_⟩)) (Nat.le_of_ble_eq_true rfl)
  have hz := hz (by omega)
  have ho := hz.1
  subst ho
  obtain ⟨-, a2, a3, a4, a5, a6, a7, ⟨q, a8, a8'⟩, a9, a10, a11⟩ := h'
  have hl := Wk_len a7
  have hp : p' = 0 := by have := b2 (by decide); omega
  subst hp
  have hb := a10 h0
  refine ⟨by omega, by omega, by omega, by omega, by omega, by omega, by omega, ?_⟩
  rw [show (cds m' - cds me).toNat = q by omega]
  exact gDp_seg a8'
/-- a sign is pushed, and it goes on -/
theorem es_push {m : dM} {o p c cn : Nat} {Q : dM → Prop} (hs : s ≤ 1) (h : ES me s m o p c (p + 1)) (h0 : flt m = 0) (hW : Wk (upd (m.1 104) (o + p) (m.1 73 (m.1 70 11).toNatClampNeg)) (o + p + 1) o (p + 1) cn) (hQ : ∀ m', ES me s m' o (p + 1) cn (p + 1) → Mv 1 m m' ∨ tt m + 1 ≤ tt m' ∨ 0 < flt m' → (flt m' = 0 → tt m' = tt m + 1) → Q m') : (0 ≤ (m.1 70 11).toInt ∧ (m.1 70 11).toInt < 403) ∧ (0 ≤ (m.1 70 50).toInt ∧ (m.1 70 50).toInt < 64) ∧ c_X12_goesOn_70 3 (dSet (dSet m 104 (m.1 70 50).toNatClampNeg (m.1 73 (m.1 70 11).toNatClampNeg)) 70 50 ((m.1 70 50) + (1 : Int32))) Q := by
  obtain ⟨⟨x1, x2, x3, x4⟩, a2, a3, a4, a5, a6, a7, ⟨q, a8, a8'⟩, a9, a10, a11⟩ := h
  have hl := Wk_len a7
  have ew : (m.1 70 50).toInt = wtg m := rfl
  have et : (m.1 70 11).toInt = tt m := rfl
  have eW : (m.1 70 50).toNatClampNeg = o + p := by
    have := d_cl (x := m.1 70 50) (by omega)
    omega
  have fw := dAddE (X := wtg m) (Y := 1) (x := m.1 70 50) (y := (1 : Int32)) rfl (by decide) (by omega) (by omega)
  have hb := a10 h0
  refine ⟨by omega, by omega, ?_⟩
  rw [eW]
  refine Wp.deep (p_goesOn (m := dSet (dSet m 104 (o + p) (m.1 73 (m.1 70 11).toNatClampNeg)) 70 50 ((m.1 70 50) + (1 : Int32))) a2 a4 (fun m3 h3 => ?_)) (Nat.le_of_ble_eq_true rfl)
  obtain ⟨k1, k2, k3, k4, k5⟩ := h3
  have k4 : (flt m = 0 ∧ flt m3 = 0 ∧ tt m3 = tt m + 1) ∨ (0 < flt m3 ∧ tt m ≤ tt m3 ∧ tt m3 ≤ tt m + 1) := k4
  have k5 : Wz m m3 := k5
  have hf3 : 0 ≤ flt m3 := by rcases k4 with z | z <;> omega
  have ht3 : tt m ≤ tt m3 := by rcases k4 with z | z <;> omega
  have e46 : m3.1 70 46 = m.1 70 46 := k2 46 (by decide) (by decide) (by decide) (by decide) (by decide)
  have c3 : cds m3 = cds m := by unfold cds; rw [e46]
  refine hQ m3 ⟨⟨fun k e1 e2 e3 e4 => (k1 k e1).trans (by rw [dSet_k e1, dSet_k e4]; exact x1 k e1 e2 e3 e4), fun j e1 e2 e3 e4 e5 e6 e7 e8 => (k2 j e1 e3 e4 e5 e6).trans (by rw [dSet_j e8, dSet_k (by decide)]; exact x2 j e1 e2 e3 e4 e5 e6 e7 e8), fun j hj => ?_, x4.tr k5⟩, k3, by omega, hf3, ?_, ?_, ?_, ⟨q, by omega, gDp_congr (fun j _ _ => by rw [k1 102 (by decide), k1 103 (by decide)]; exact ⟨rfl, rfl⟩) a8'⟩, by omega, fun hz => ?_, a11⟩ ?_ (fun hz => by rcases k4 with z | z <;> omega)
  · rw [k1 102 (by decide), k1 103 (by decide)]; exact x3 j hj
  · unfold opn; rw [k2 12 (by decide) (by decide) (by decide) (by decide) (by decide)]; exact a5
  · unfold wtg; rw [k2 50 (by decide) (by decide) (by decide) (by decide) (by decide)]; show (m.1 70 50 + (1 : Int32)).toInt = _; omega
  · rw [k1 104 (by decide), dSet_k (by decide), dSet_f, show o + (p + 1) = o + p + 1 by omega]; exact hW
  · rcases k4 with z | z <;> omega
  · right
    rcases k4 with z | z <;> omega
end EXPR
end
section
/-! THE REFERENCE's read, 4: an expression from its start to its end (by hand) -/
def mu (m : dM) (a b : Int) (n : Nat) : Prop := (flt m = 0 ∧ 8 * (401 - tt m) + a < n) ∨ (0 < flt m ∧ b < n)
section EXM
variable {me : dM} {s : Nat}
theorem ex_main {Q : dM → Prop} (hs : s ≤ 1) (hme : 420 * (s : Int) ≤ cds me) (hQ : ∀ m', EQ me s m' → Q m') : ∀ n : Nat,
    (∀ (x1 : Int32) (m : dM) (o p c : Nat), x1.toInt = 0 → ES me s m o p c p → mu m 6 3 n → j_X12_expression_70_12 4 x1 (1 : Int32) m Q) ∧
    (∀ (x1 : Int32) (m : dM) (o p c : Nat), x1.toInt = 0 → ES me s m o p c p → mu m 5 3 n → j_X12_expression_70_23 4 x1 m Q) ∧
    (∀ (x1 : Int32) (m : dM) (o p c : Nat), x1.toInt = 0 → ES me s m o p c p → o ≤ 6 → (flt m = 0 → o ≤ 5) → mu m 4 4 n → j_X12_expression_70_46 4 x1 m Q) ∧
    (∀ (x1 : Int32) (m : dM) (o p c : Nat), x1.toInt = 0 → ES me s m o p c (p + 1) → (flt m = 0 → tt me + 1 ≤ tt m) → mu m 6 3 n → j_X12_expression_70_96 4 x1 m Q) ∧
    (∀ (x1 : Int32) (m : dM) (o p c : Nat), x1.toInt = 0 → ES me s m o p c (p + 1) → (flt m = 0 → tt me + 1 ≤ tt m) → mu m 5 2 n → j_X12_expression_70_145 4 x1 m Q) ∧
    (∀ (x1 : Int32) (m : dM) (o p c : Nat), x1.toInt = 0 → ES me s m o p c (p + 1) → flt m = 0 → tt me + 1 ≤ tt m → ((m.1 73 (m.1 70 11).toNatClampNeg).toInt = 8 ∨ (m.1 73 (m.1 70 11).toNatClampNeg).toInt = 9 ∨ (m.1 73 (m.1 70 11).toNatClampNeg).toInt = 10 ∨ (m.1 73 (m.1 70 11).toNatClampNeg).toInt = 15) → mu m 4 0 n → j_X12_expression_70_181 4 x1 m Q) := by
  intro n
  induction n with
  | zero =>
    refine ⟨fun x1 m o p c hx h hμ => ?_, fun x1 m o p c hx h hμ => ?_, fun x1 m o p c hx h h6 h5 hμ => ?_, fun x1 m o p c hx h ht hμ => ?_, fun x1 m o p c hx h ht hμ => ?_, fun x1 m o p c hx h h0 ht hk hμ => ?_⟩ <;> (have := h.2.1; exfalso; rcases hμ with q | q <;> omega)
  | succ n ih =>
    refine ⟨fun x1 m o p c hx h hμ => ?_, fun x1 m o p c hx h hμ => ?_, fun x1 m o p c hx h h6 h5 hμ => ?_, fun x1 m o p c hx h ht hμ => ?_, fun x1 m o p c hx h ht hμ => ?_, fun x1 m o p c hx h h0 ht hk hμ => ?_⟩
    · -- 12
      have bad : flt m ≠ 0 → j_X12_expression_70_272 4 m Q := fun hf => v_X12_expression_70_272 (hQ m ⟨h.z, fun h0 => absurd h0 hf⟩)
      refine v_X12_expression_70_12 ⟨fun q => absurd q (by decide), fun _ => ⟨fun hf => bad hf, fun hf => ?_⟩⟩
      have hf : flt m = 0 := hf
      refine ih.2.1 x1 m o p c hx h ?_
      left
      rcases hμ with q | q <;> omega
    · -- 23
      refine v_X12_expression_70_23 ?_
      refine Wp.deep (p_is h.2.1 (fun h1 h2 => ⟨fun q => absurd q (by decide), fun _ => ?_⟩) (fun h1 => ⟨fun _ => ?_, fun q => absurd rfl q⟩)) (Nat.le_of_ble_eq_true rfl)
      · have hb := h.2.2.2.2.2.2.2.2.2.1 h1
        have eo : (m.1 70 12).toInt = o := h.2.2.2.2.1
        refine ⟨fun hne => ?_, fun he => ?_⟩
        · refine ih.2.2.1 x1 m o p c hx h (by omega) (fun _ => by omega) ?_
          rcases hμ with q | q
          · left; omega
          · right; omega
        · refine Wp.deep (p_fail h.2.1 (by decide) (fun m3 h3 hf3 => ?_)) (Nat.le_of_ble_eq_true rfl)
          refine ih.2.2.1 x1 m3 o p c hx (h.mv h3 (by decide)) (by omega) (fun q => by exfalso; omega) ?_
          right
          have := h.2.1
          rcases hμ with q | q <;> omega
      · refine p_unit hs hme h (fun m2 z e => ⟨fun hc => ?_, fun hc => ?_⟩)
        · have hc : flt m2 ≤ 0 := hc
          have h0 : flt m2 = 0 := by have := z.2.2.2.1; omega
          have e := e h0
          refine ih.2.2.2.1 x1 m2 o p c hx e.1 (fun _ => by have := h.2.2.1; omega) ?_
          left
          have := h.2.1
          rcases hμ with q | q <;> omega
        · have hc : 0 < flt m2 := hc
          exact hQ m2 ⟨z, fun h0 => by exfalso; omega⟩
    · -- 46
      obtain ⟨⟨x1', x2', x3', x4'⟩, a2, a3, a4, a5, a6, a7, ⟨q, a8, a8'⟩, a9, a10, a11⟩ := h
      have eo : (m.1 70 12).toInt = o := a5
      have fo := dAddE (X := (o : Int)) (Y := 1) (x := m.1 70 12) (y := (1 : Int32)) eo (by decide) (by omega) (by omega)
      refine v_X12_expression_70_46 ?_
      refine Wp.deep (p_goesOn (m := dSet m 70 12 ((m.1 70 12) + (1 : Int32))) a2 a4 (fun m1 h1 => ?_)) (Nat.le_of_ble_eq_true rfl)
      obtain ⟨k1, k2, k3, k4, k5⟩ := h1
      have k4 : (flt m = 0 ∧ flt m1 = 0 ∧ tt m1 = tt m + 1) ∨ (0 < flt m1 ∧ tt m ≤ tt m1 ∧ tt m1 ≤ tt m + 1) := k4
      have k5 : Wz m m1 := k5
      have hf1 : 0 ≤ flt m1 := by rcases k4 with z | z <;> omega
      have ht1 : tt m ≤ tt m1 := by rcases k4 with z | z <;> omega
      have hl := Wk_len a7
      have e50 : m1.1 70 50 = m.1 70 50 := k2 50 (by decide) (by decide) (by decide) (by decide) (by decide)
      have ew : (m1.1 70 50).toInt = (o + p : Nat) := by rw [e50]; exact a6
      have eW : (m1.1 70 50).toNatClampNeg = o + p := by
        have := d_cl (x := m1.1 70 50) (by omega)
        omega
      have fw := dAddE (X := ((o + p : Nat) : Int)) (Y := 1) (x := m1.1 70 50) (y := (1 : Int32)) ew (by decide) (by omega) (by omega)
      refine ⟨by omega, ?_⟩
      rw [eW]
      have e46 : m1.1 70 46 = m.1 70 46 := k2 46 (by decide) (by decide) (by decide) (by decide) (by decide)
      have c1 : cds (dSet (dSet m1 104 (o + p) (6 : Int32)) 70 50 ((m1.1 70 50) + (1 : Int32))) = cds m := by show (m1.1 70 46).toInt = _; rw [e46]; rfl
      have f1 : flt (dSet (dSet m1 104 (o + p) (6 : Int32)) 70 50 ((m1.1 70 50) + (1 : Int32))) = flt m1 := rfl
      have t1 : tt (dSet (dSet m1 104 (o + p) (6 : Int32)) 70 50 ((m1.1 70 50) + (1 : Int32))) = tt m1 := rfl
      refine ih.2.1 x1 _ (o + 1) p 0 hx ⟨⟨fun k e1 e2 e3 e4 => by rw [dSet_k e1, dSet_k e4, k1 k e1, dSet_k e1]; exact x1' k e1 e2 e3 e4, fun j e1 e2 e3 e4 e5 e6 e7 e8 => by rw [dSet_j e8, dSet_k (by decide), k2 j e1 e3 e4 e5 e6, dSet_j e2]; exact x2' j e1 e2 e3 e4 e5 e6 e7 e8, fun j hj => ?_, x4'.tr k5⟩, by omega, by omega, by omega, ?_, ?_, ?_, ⟨q, by omega, gDp_congr (fun j _ _ => ?_) a8'⟩, by omega, fun hz => ?_, by omega⟩ ?_
      · rw [dSet_k (by decide), dSet_k (by decide), dSet_k (by decide), dSet_k (by decide), k1 102 (by decide), k1 103 (by decide)]; exact x3' j hj
      · show (m1.1 70 12).toInt = _
        rw [k2 12 (by decide) (by decide) (by decide) (by decide) (by decide)]
        show (m.1 70 12 + (1 : Int32)).toInt = _
        omega
      · show (m1.1 70 50 + (1 : Int32)).toInt = _
        omega
      · rw [dSet_k (by decide), dSet_f, show o + 1 + p = o + p + 1 by omega]
        refine Or.inl ⟨by unfold upd; rw [if_pos rfl]; decide, rfl, o, c, rfl, Wk_congr (fun j hj => ?_) a7⟩
        unfold upd
        rw [if_neg (by omega), k1 104 (by decide)]
        rfl
      · rw [dSet_k (by decide), dSet_k (by decide), dSet_k (by decide), dSet_k (by decide), k1 102 (by decide), k1 103 (by decide)]; exact ⟨rfl, rfl⟩
      · have h0 : flt m = 0 := by rcases k4 with z | z <;> omega
        have := a10 h0
        have := h5 h0
        omega
      · unfold mu
        rw [f1, t1]
        rcases k4 with z | z
        · left; rcases hμ with q | q <;> omega
        · right; rcases hμ with q | q <;> omega
    · -- 96
      have go : j_X12_expression_70_145 4 x1 m Q := by
        refine ih.2.2.2.2.1 x1 m o p c hx h ht ?_
        rcases hμ with q | q
        · left; omega
        · right; omega
      refine v_X12_expression_70_96 ?_
      refine Wp.deep (p_is h.2.1 (fun h1 h2 => ⟨fun q => absurd q (by decide), fun _ => ⟨fun _ => go, fun ho => ?_⟩⟩) (fun h1 => ⟨fun _ => go, fun q => absurd rfl q⟩)) (Nat.le_of_ble_eq_true rfl)
      have eo : (m.1 70 12).toInt = o := h.2.2.2.2.1
      refine Wp.deep (es_out hs hme h (fun m2 p' c' h' b1 b2 b3 b4 _ _ => ?_)) (Nat.le_of_ble_eq_true rfl)
      have hc' : c' = 0 := b2 (by decide)
      subst hc'
      obtain ⟨⟨x1', x2', x3', x4'⟩, a2, a3, a4, a5, a6, a7, ⟨q, a8, a8'⟩, a9, a10, a11⟩ := h'
      obtain ⟨o1, rfl⟩ : ∃ o1, o = o1 + 1 := ⟨o - 1, by omega⟩
      have eW : o1 + 1 + p' = (o1 + p') + 1 := by omega
      rw [eW] at a7
      have a7' := a7
      unfold Wk at a7'
      rcases a7' with ⟨-, -, o2, c2, d, w⟩ | ⟨-, b, -⟩ | ⟨-, b, -⟩
      · have ho2 : o2 = o1 := by omega
        subst ho2
        have ew : (m2.1 70 50).toInt = (o2 + 1 + p' : Nat) := a6
        have e12 : (m2.1 70 12).toInt = (o2 + 1 : Nat) := a5
        have fw := dSubE (X := ((o2 + 1 + p' : Nat) : Int)) (Y := 1) (x := m2.1 70 50) (y := (1 : Int32)) ew (by decide) (by omega) (by omega)
        have fo := dSubE (X := ((o2 + 1 : Nat) : Int)) (Y := 1) (x := m2.1 70 12) (y := (1 : Int32)) e12 (by decide) (by omega) (by omega)
        have hM : ES me s (dSet (dSet m2 70 50 ((m2.1 70 50) - (1 : Int32))) 70 12 ((m2.1 70 12) - (1 : Int32))) o2 p' c2 (p' + 1) := by
          refine ⟨⟨fun k e1 e2 e3 e4 => by rw [dSet_k e1, dSet_k e1]; exact x1' k e1 e2 e3 e4, fun j e1 e2 e3 e4 e5 e6 e7 e8 => by rw [dSet_j e2, dSet_j e8]; exact x2' j e1 e2 e3 e4 e5 e6 e7 e8, fun j hj => x3' j hj, x4'⟩, a2, a3, a4, ?_, ?_, w, ⟨q, a8, gDp_congr (g := m2.1) (fun j _ _ => ⟨rfl, rfl⟩) a8'⟩, a9, fun hz => ?_, by omega⟩
          · show (m2.1 70 12 - (1 : Int32)).toInt = _; omega
          · show (m2.1 70 50 - (1 : Int32)).toInt = _; omega
          · have := a10 hz
            refine ⟨this.1, by omega⟩
        refine Wp.deep (p_goesOn (m := dSet (dSet m2 70 50 ((m2.1 70 50) - (1 : Int32))) 70 12 ((m2.1 70 12) - (1 : Int32))) a2 a4 (fun m3 h3 => ?_)) (Nat.le_of_ble_eq_true rfl)
        have k4 : (flt m2 = 0 ∧ flt m3 = 0 ∧ tt m3 = tt m2 + 1) ∨ (0 < flt m3 ∧ tt m2 ≤ tt m3 ∧ tt m3 ≤ tt m2 + 1) := h3.2.2.2.1
        refine ih.2.2.2.1 x1 m3 o2 p' c2 hx (hM.mv h3 (by decide)) (fun h0 => ?_) ?_
        · rcases k4 with z | z
          · have := ht (by omega); omega
          · omega
        · unfold mu
          rcases k4 with z | z
          · left; rcases hμ with q | q <;> omega
          · right; rcases hμ with q | q <;> omega
      · exact absurd b (by decide)
      · exact absurd b (by decide)
    · -- 145
      have nx : flt m = 0 → ((m.1 73 (m.1 70 11).toNatClampNeg).toInt = 8 ∨ (m.1 73 (m.1 70 11).toNatClampNeg).toInt = 9 ∨ (m.1 73 (m.1 70 11).toNatClampNeg).toInt = 10 ∨ (m.1 73 (m.1 70 11).toNatClampNeg).toInt = 15) → j_X12_expression_70_181 4 x1 m Q := fun h0 hk => by
        refine ih.2.2.2.2.2 x1 m o p c hx h h0 (ht h0) hk ?_
        rcases hμ with q | q
        · left; omega
        · right; omega
      have e8 := ti_8
      have e9 := ti_9
      have e10 := ti_10
      have e15 : (15 : Int32).toInt = 15 := by decide
      refine v_X12_expression_70_145 ?_
      refine Wp.deep (p_is h.2.1 (fun h1 h2 => ⟨fun _ => nx h1 (by omega), fun q => absurd q (by decide)⟩) (fun _ => ⟨fun q => absurd rfl q, fun _ => ?_⟩)) (Nat.le_of_ble_eq_true rfl)
      refine Wp.deep (p_is h.2.1 (fun h1 h2 => ⟨fun _ => nx h1 (by omega), fun q => absurd q (by decide)⟩) (fun _ => ⟨fun q => absurd rfl q, fun _ => ?_⟩)) (Nat.le_of_ble_eq_true rfl)
      refine Wp.deep (p_is h.2.1 (fun h1 h2 => ⟨fun _ => nx h1 (by omega), fun q => absurd q (by decide)⟩) (fun _ => ⟨fun q => absurd rfl q, fun _ => ?_⟩)) (Nat.le_of_ble_eq_true rfl)
      refine Wp.deep (p_is h.2.1 (fun h1 h2 => ⟨fun q => absurd q (by decide), fun _ => nx h1 (by omega)⟩) (fun _ => ⟨fun _ => ⟨fun ho => ?_, fun ho => ?_⟩, fun q => absurd rfl q⟩)) (Nat.le_of_ble_eq_true rfl)
      · have eo : (m.1 70 12).toInt = o := h.2.2.2.2.1
        exact ex_204 hs hme hQ h (fun h0 => ⟨by omega, ht h0⟩)
      · refine Wp.deep (p_fail h.2.1 (by decide) (fun m5 h5 hf5 => ?_)) (Nat.le_of_ble_eq_true rfl)
        exact ex_204 hs hme hQ (h.mv h5 (by decide)) (fun h0 => by exfalso; omega)
    · -- 181
      have e8 := ti_8
      have e10 := ti_10
      have e15 : (15 : Int32).toInt = 15 := by decide
      have again : ∀ (m3 : dM) (o' p' c' : Nat), ES me s m3 o' p' c' p' → (flt m3 = 0 → tt m3 = tt m + 1) → j_X12_expression_70_12 4 x1 (1 : Int32) m3 Q := fun m3 o' p' c' h3 t3 => by
        refine ih.1 x1 m3 o' p' c' hx h3 ?_
        unfold mu
        have := h3.2.2.2.1
        have := h.2.1
        by_cases hz : flt m3 = 0
        · left; have := t3 hz; rcases hμ with q | q <;> omega
        · right; rcases hμ with q | q <;> omega
      have strong : ((m.1 73 (m.1 70 11).toNatClampNeg).toInt = 10 ∨ (m.1 73 (m.1 70 11).toNatClampNeg).toInt = 15) → ∀ x : Int32, c_X12_comesOut_70 3 x m (fun m2 => (0 ≤ (m2.1 70 11).toInt ∧ (m2.1 70 11).toInt < 403) ∧ (0 ≤ (m2.1 70 50).toInt ∧ (m2.1 70 50).toInt < 64) ∧ c_X12_goesOn_70 3 (dSet (dSet m2 104 (m2.1 70 50).toNatClampNeg (m2.1 73 (m2.1 70 11).toNatClampNeg)) 70 50 ((m2.1 70 50) + (1 : Int32))) (fun m3 => j_X12_expression_70_12 4 x1 (1 : Int32) m3 Q)) := fun hk2 x => by
        refine Wp.deep (es_out hs hme h (fun m2 p' c' h' b1 b2 b3 b4 b5 b6 => ?_)) (Nat.le_of_ble_eq_true rfl)
        refine es_push (cn := 2) hs h' (by omega) ?_ (fun m3 h3 _ t3 => again m3 _ _ _ h3 (fun hz => by have := t3 hz; omega))
        rw [b5, b6]
        refine Or.inr (Or.inr ⟨by unfold upd; rw [if_pos rfl]; exact hk2, rfl, p', c', rfl, b1, Wk_congr (fun j hj => ?_) h'.2.2.2.2.2.2.1⟩)
        unfold upd
        rw [if_neg (by omega)]
      refine v_X12_expression_70_181 ?_
      refine Wp.deep (p_is h.2.1 (fun h1 h2 => ⟨fun _ => strong (by omega) _, fun q => absurd q (by decide)⟩) (fun g1 => ⟨fun q => absurd rfl q, fun _ => ?_⟩)) (Nat.le_of_ble_eq_true rfl)
      refine Wp.deep (p_is h.2.1 (fun h1 h2 => ⟨fun q => absurd q (by decide), fun _ => strong (by omega) _⟩) (fun g2 => ⟨fun _ => ?_, fun q => absurd rfl q⟩)) (Nat.le_of_ble_eq_true rfl)
      have hk2 : (m.1 73 (m.1 70 11).toNatClampNeg).toInt = 8 ∨ (m.1 73 (m.1 70 11).toNatClampNeg).toInt = 9 := by
        rcases hk with q | q | q | q
        · exact Or.inl q
        · exact Or.inr q
        · exact absurd ⟨h0, by omega⟩ g1
        · exact absurd ⟨h0, by omega⟩ g2
      refine Wp.deep (es_out hs hme h (fun m2 p' c' h' b1 b2 b3 b4 b5 b6 => ?_)) (Nat.le_of_ble_eq_true rfl)
      have hc' : c' = 0 := b2 (by decide)
      subst hc'
      refine es_push (cn := 1) hs h' (by omega) ?_ (fun m3 h3 _ t3 => again m3 _ _ _ h3 (fun hz => by have := t3 hz; omega))
      rw [b5, b6]
      refine Or.inr (Or.inl ⟨by unfold upd; rw [if_pos rfl]; exact hk2, rfl, p', rfl, Wk_congr (fun j hj => ?_) h'.2.2.2.2.2.2.1⟩)
      unfold upd
      rw [if_neg (by omega)]
theorem p_expression {Q : dM → Prop} (hs : s ≤ 1) (ht : 0 ≤ tt me ∧ tt me ≤ 400) (hf : flt me = 0) (ho : opn me = 0) (hc : 420 * (s : Int) ≤ cds me ∧ cds me ≤ 420 * s + tt me) (hQ : ∀ m', EQ me s m' → Q m') : c_X12_expression_70 4 me Q := by
  refine v_X12_expression_70 ?_
  have hES : ES me s (dSet me 70 50 (0 : Int32)) 0 0 0 0 := by
    have c1 : cds (dSet me 70 50 (0 : Int32)) = cds me := rfl
    have f1 : flt (dSet me 70 50 (0 : Int32)) = flt me := rfl
    have t1 : tt (dSet me 70 50 (0 : Int32)) = tt me := rfl
    refine ⟨⟨fun k e1 _ _ _ => dSet_k e1, fun j _ _ _ _ _ _ _ e8 => dSet_j e8, fun j _ => ⟨rfl, rfl⟩, Wz.eq rfl⟩, by omega, by omega, by omega, ho, rfl, ⟨rfl, rfl, rfl⟩, ⟨0, by omega, rfl⟩, by omega, fun _ => ⟨by omega, by omega⟩, by omega⟩
  refine (ex_main hs hc.1 hQ 4000).1 _ _ 0 0 0 ho hES ?_
  left
  have f1 : flt (dSet me 70 50 (0 : Int32)) = flt me := rfl
  have t1 : tt (dSet me 70 50 (0 : Int32)) = tt me := rfl
  omega
end EXM
end
section
/-! THE REFERENCE's read, 5: a law (by hand) -/
theorem gSeg_congr2 {g g' : gM} : ∀ {n p t : Nat}, (∀ j, p ≤ j → j < p + n → g' 102 j = g 102 j ∧ g' 103 j = g 103 j) → gSeg g n p t → gSeg g' n p t
  | 0, _, _, _, _ => trivial
  | n + 1, p, t, hc, h => by
    have e := hc p (Nat.le_refl _) (by omega)
    have hc' : ∀ j, p + 1 ≤ j → j < p + 1 + n → g' 102 j = g 102 j ∧ g' 103 j = g 103 j := fun j h1 h2 => hc j (by omega) (by omega)
    rcases h with ⟨a, b, c⟩ | ⟨a, b, c⟩
    · left; rw [e.1, e.2]; exact ⟨a, b, gSeg_congr2 hc' c⟩
    · right; rw [e.1]; exact ⟨a, b, gSeg_congr2 hc' c⟩
theorem gPc_congr {g g' : gM} {s : Nat} {a b c : Int} (hc : ∀ j : Nat, (j : Int) < c → g' 102 j = g 102 j ∧ g' 103 j = g 103 j) (hb : b ≤ c) (h : gPc g s a b) : gPc g' s a b := by
  obtain ⟨h1, h2, h3, h4, h5⟩ := h
  exact ⟨h1, h2, h3, h4, gSeg_congr2 (fun j e1 e2 => hc j (by omega)) h5⟩
def PW (m : dM) (s : Nat) (a b : Int) : Prop := gPc m.1 s a b ∧ b ≤ cds m
def BW (m : dM) (s j : Nat) : Prop := ((m.1 97 j).toInt ≠ 0 → PW m s (m.1 98 j).toInt (m.1 99 j).toInt ∧ PW m s (m.1 99 j).toInt (m.1 100 j).toInt) ∧ PW m s (m.1 100 j).toInt (m.1 101 j).toInt
theorem PW.up {m m' : dM} {s : Nat} {a b : Int} (hc : ∀ j : Nat, (j : Int) < cds m → m'.1 102 j = m.1 102 j ∧ m'.1 103 j = m.1 103 j) (hd : cds m ≤ cds m') (h : PW m s a b) : PW m' s a b := ⟨gPc_congr hc h.2 h.1, Int.le_trans h.2 hd⟩
theorem BW.up {m m' : dM} {s j : Nat} (hc : ∀ j : Nat, (j : Int) < cds m → m'.1 102 j = m.1 102 j ∧ m'.1 103 j = m.1 103 j) (hd : cds m ≤ cds m') (hj : ∀ k : Nat, 97 ≤ k → k ≤ 101 → m'.1 k j = m.1 k j) (h : BW m s j) : BW m' s j := by
  unfold BW at h ⊢
  rw [hj 97 (by omega) (by omega), hj 98 (by omega) (by omega), hj 99 (by omega) (by omega), hj 100 (by omega) (by omega), hj 101 (by omega) (by omega)]
  exact ⟨fun q => ⟨(h.1 q).1.up hc hd, (h.1 q).2.up hc hd⟩, h.2.up hc hd⟩
def LF (mb : dM) (s : Nat) (m : dM) : Prop := (∀ k : Nat, k ≠ 70 → k < 97 ∨ 104 < k → m.1 k = mb.1 k) ∧ (∀ j : Nat, j ≠ 11 → j ≠ 12 → j ≠ 13 → j ≠ 14 → j ≠ 15 → j ≠ 16 → j ≠ 40 → j ≠ 46 → j ≠ 50 → m.1 70 j = mb.1 70 j) ∧ (∀ k j : Nat, 97 ≤ k → k ≤ 101 → ((j : Int) < brs mb ∨ 130 * s + 130 ≤ j) → m.1 k j = mb.1 k j) ∧ (∀ j : Nat, ((j : Int) < cds mb ∨ 420 * s + 402 ≤ j) → m.1 102 j = mb.1 102 j ∧ m.1 103 j = mb.1 103 j) ∧ Wz mb m
theorem LF.mv {mb m m' : dM} {s : Nat} {k : Int} (h : LF mb s m) (hm : Mv k m m') : LF mb s m' := by
  obtain ⟨h1, h2, h3, h4, h5⟩ := h
  obtain ⟨k1, k2, k3, k4, k5⟩ := hm
  refine ⟨fun k e1 e2 => (k1 k e1).trans (h1 k e1 e2), fun j e1 e2 e3 e4 e5 e6 e7 e8 e9 => (k2 j e1 e3 e4 e5 e6).trans (h2 j e1 e2 e3 e4 e5 e6 e7 e8 e9), fun k j e1 e2 e3 => ?_, fun j e1 => ?_, h5.tr k5⟩
  · rw [k1 k (by omega)]; exact h3 k j e1 e2 e3
  · rw [k1 102 (by decide), k1 103 (by decide)]; exact h4 j e1
theorem LF.xf {mb m m' : dM} {s : Nat} (h : LF mb s m) (hc : cds mb ≤ cds m) (hx : XF m s m') : LF mb s m' := by
  obtain ⟨h1, h2, h3, h4, h5⟩ := h
  obtain ⟨k1, k2, k3, k4⟩ := hx
  refine ⟨fun k e1 e2 => (k1 k e1 (by omega) (by omega) (by omega)).trans (h1 k e1 e2), fun j e1 e2 e3 e4 e5 e6 e7 e8 e9 => (k2 j e1 e2 e3 e4 e5 e6 e8 e9).trans (h2 j e1 e2 e3 e4 e5 e6 e7 e8 e9), fun k j e1 e2 e3 => ?_, fun j e1 => ?_, h5.tr k4⟩
  · rw [k1 k (by omega) (by omega) (by omega) (by omega)]; exact h3 k j e1 e2 e3
  · have g1 := k3 j (by omega)
    have g2 := h4 j e1
    exact ⟨g1.1.trans g2.1, g1.2.trans g2.2⟩
/-- a store into the branch that is being told -/
theorem LF.br {mb m : dM} {s k : Nat} {v : Int32} (h : LF mb s m) (hk : 97 ≤ k) (hk2 : k ≤ 101) (hb : brs mb ≤ brs m) (hb0 : 0 ≤ brs m) (hb2 : brs m < 130 * s + 130) : LF mb s (dSet m k (m.1 70 40).toNatClampNeg v) := by
  obtain ⟨h1, h2, h3, h4, h5⟩ := h
  have e : ((m.1 70 40).toNatClampNeg : Int) = brs m := d_cl hb0
  refine ⟨fun a e1 e2 => by rw [dSet_k (by omega)]; exact h1 a e1 e2, fun j e1 e2 e3 e4 e5 e6 e7 e8 e9 => by rw [dSet_k (by omega)]; exact h2 j e1 e2 e3 e4 e5 e6 e7 e8 e9, fun a j e1 e2 e3 => by rw [dSet_j (by omega)]; exact h3 a j e1 e2 e3, fun j e1 => by rw [dSet_k (by omega), dSet_k (by omega)]; exact h4 j e1, h5.tr (Wz.eq (by unfold wst; rw [dSet_k (by omega)]))⟩
/-- what a call of an expression that has failed already does: nothing -/
theorem p_exprBad {m : dM} {Q : dM → Prop} (hf : 0 < flt m) (hQ : Q (dSet m 70 50 (0 : Int32))) : c_X12_expression_70 4 m Q := by
  refine v_X12_expression_70 ?_
  have e : flt (dSet m 70 50 (0 : Int32)) = flt m := rfl
  exact v_X12_expression_70_12 ⟨fun q => absurd q (by decide), fun _ => ⟨fun _ => v_X12_expression_70_272 hQ, fun h0 => by have h0 : flt m = 0 := h0; exfalso; omega⟩⟩
/-- within a law: what holds, with 'e' more tokens gone by than four for each branch -/
def LSt (mb : dM) (s : Nat) (e : Int) (bm : Int) (m : dM) : Prop := LF mb s m ∧ (0 ≤ tt m ∧ tt m ≤ 400) ∧ tt mb ≤ tt m ∧ 0 ≤ flt m ∧ (brs mb ≤ brs m ∧ brs m ≤ 130 * s + bm) ∧ (flt m = 0 → flt mb = 0 ∧ opn m = 0 ∧ (cds mb ≤ cds m ∧ cds m ≤ 420 * s + tt m) ∧ 4 * (brs m - 130 * s) + e ≤ tt m ∧ ∀ j : Nat, brs mb ≤ j → (j : Int) < brs m → BW m s j)
theorem LSt.mv {mb m m' : dM} {s : Nat} {e bm : Int} {k : Int} (h : LSt mb s e bm m) (hm : Mv k m m') (hk : 0 ≤ k) : LSt mb s (e + k) bm m' := by
  obtain ⟨h1, h2, h3, h4, h5, h6⟩ := h
  have hm' := hm
  obtain ⟨k1, k2, k3, k4, k5⟩ := hm
  have b1 : brs m' = brs m := by unfold brs; rw [k2 40 (by decide) (by decide) (by decide) (by decide) (by decide)]
  have c1 : cds m' = cds m := by unfold cds; rw [k2 46 (by decide) (by decide) (by decide) (by decide) (by decide)]
  have o1 : opn m' = opn m := by unfold opn; rw [k2 12 (by decide) (by decide) (by decide) (by decide) (by decide)]
  refine ⟨h1.mv hm', k3, by rcases k4 with q | q <;> omega, by rcases k4 with q | q <;> omega, by omega, fun h0 => ?_⟩
  have z : flt m = 0 ∧ tt m' = tt m + k := by rcases k4 with q | q <;> omega
  have h6 := h6 z.1
  refine ⟨h6.1, by omega, by omega, by omega, fun j e1 e2 => ?_⟩
  exact (h6.2.2.2.2 j e1 (by omega)).up (fun j _ => by rw [k1 102 (by decide), k1 103 (by decide)]; exact ⟨rfl, rfl⟩) (by omega) (fun a e3 e4 => by rw [k1 a (by omega)])
/-- an expression told within a law -/
theorem LSt.ex {mb m : dM} {s : Nat} {e bm : Int} {Q : dM → Prop} (hs : s ≤ 1) (hcb : 420 * (s : Int) ≤ cds mb) (h : LSt mb s e bm m) (hQ : ∀ m', LSt mb s (e + 1) bm m' → (∀ k : Nat, 97 ≤ k → k ≤ 101 → m'.1 k = m.1 k) → brs m' = brs m → tt m ≤ tt m' → (flt m' = 0 → flt m = 0 ∧ cds m ≤ cds m' ∧ gPc m'.1 s (cds m) (cds m') ∧ (∀ j : Nat, (j : Int) < cds m → m'.1 102 j = m.1 102 j ∧ m'.1 103 j = m.1 103 j)) → Q m') : c_X12_expression_70 4 m Q := by
  by_cases h0 : flt m = 0
  · have h6 := h.2.2.2.2.2 h0
    refine p_expression hs h.2.1 h0 h6.2.1 ⟨by omega, h6.2.2.1.2⟩ (fun m' hq => ?_)
    obtain ⟨⟨x, z2, z3, z4, z5, z6⟩, hz⟩ := hq
    have b1 : brs m' = brs m := by unfold brs; rw [x.2.1 40 (by decide) (by decide) (by decide) (by decide) (by decide) (by decide) (by decide) (by decide)]
    refine hQ m' ⟨h.1.xf h6.2.2.1.1 x, z2, by have := h.2.2.1; omega, z4, by have := h.2.2.2.2.1; omega, fun h0' => ?_⟩ (fun k e1 e2 => x.1 k (by omega) (by omega) (by omega) (by omega)) b1 z3 (fun h0' => ⟨h0, z5, (hz h0').2.2.2, fun j e1 => x.2.2.1 j (Or.inl e1)⟩)
    have hz := hz h0'
    refine ⟨h6.1, hz.1, by omega, by omega, fun j e1 e2 => ?_⟩
    exact (h6.2.2.2.2 j e1 (by omega)).up (fun j e3 => x.2.2.1 j (Or.inl e3)) z5 (fun a e3 e4 => by rw [x.1 a (by omega) (by omega) (by omega) (by omega)])
  · have hf : 0 < flt m := by have := h.2.2.2.1; omega
    refine p_exprBad hf ?_
    have f1 : flt (dSet m 70 50 (0 : Int32)) = flt m := rfl
    obtain ⟨⟨h1, h2, h3, h4, h5⟩, t2, t3, t4, t5, t6⟩ := h
    exact hQ _ ⟨⟨fun k e1 e2 => by rw [dSet_k e1]; exact h1 k e1 e2, fun j e1 e2 e3 e4 e5 e6 e7 e8 e9 => by rw [dSet_j e9]; exact h2 j e1 e2 e3 e4 e5 e6 e7 e8 e9, fun k j e1 e2 e3 => by rw [dSet_k (by omega)]; exact h3 k j e1 e2 e3, fun j e1 => h4 j e1, h5⟩, t2, t3, t4, t5, fun q => by exfalso; omega⟩ (fun k e1 e2 => dSet_k (by omega)) rfl (Int.le_refl _) (fun q => by exfalso; omega)
theorem brs_set {m : dM} {k j : Nat} {v : Int32} (hk : k ≠ 70) : brs (dSet m k j v) = brs m ∧ cds (dSet m k j v) = cds m ∧ flt (dSet m k j v) = flt m ∧ tt (dSet m k j v) = tt m ∧ opn (dSet m k j v) = opn m := by
  unfold brs cds flt tt opn
  rw [dSet_k (fun h => hk h.symm)]
  exact ⟨rfl, rfl, rfl, rfl, rfl⟩
/-- a store into the branch under way -/
theorem LSt.br {mb m : dM} {s k : Nat} {e bm : Int} {v : Int32} (h : LSt mb s e bm m) (hk : 97 ≤ k) (hk2 : k ≤ 101) (hb0 : 0 ≤ brs mb) (hb2 : bm < 130) : LSt mb s e bm (dSet m k (m.1 70 40).toNatClampNeg v) := by
  obtain ⟨h1, h2, h3, h4, h5, h6⟩ := h
  obtain ⟨e1, e2, e3, e4, e5⟩ := brs_set (m := m) (j := (m.1 70 40).toNatClampNeg) (v := v) (show k ≠ 70 by omega)
  have eb : ((m.1 70 40).toNatClampNeg : Int) = brs m := d_cl (show 0 ≤ brs m by omega)
  refine ⟨h1.br hk hk2 h5.1 (by omega) (by omega), by omega, by omega, by omega, by omega, fun h0 => ?_⟩
  have h6 := h6 (by omega)
  refine ⟨h6.1, by omega, by omega, by omega, fun j f1 f2 => ?_⟩
  exact (h6.2.2.2.2 j f1 (by omega)).up (fun j _ => by rw [dSet_k (by omega), dSet_k (by omega)]; exact ⟨rfl, rfl⟩) (by omega) (fun a _ _ => dSet_j (by omega))
/-- a term: an expression, and a branch is done -/
theorem p_term {mb m : dM} {s : Nat} {e bm : Int} {Q : dM → Prop} (hs : s ≤ 1) (hcb : 420 * (s : Int) ≤ cds mb) (hbb : 130 * (s : Int) ≤ brs mb) (hbm : bm ≤ 110) (h : LSt mb s e bm m)
    (hbr : flt m = 0 → (m.1 97 (m.1 70 40).toNatClampNeg).toInt ≠ 0 → PW m s (m.1 98 (m.1 70 40).toNatClampNeg).toInt (m.1 99 (m.1 70 40).toNatClampNeg).toInt ∧ PW m s (m.1 99 (m.1 70 40).toNatClampNeg).toInt (cds m)) (hQ : ∀ m', LSt mb s (e - 3) (bm + 1) m' → tt m ≤ tt m' → (flt m' = 0 → flt m = 0) → Q m') : c_X12_term_70 5 m Q := by
  have hb5 := h.2.2.2.2.1
  have eb : ((m.1 70 40).toNatClampNeg : Int) = brs m := d_cl (show 0 ≤ brs m by omega)
  have fin : ∀ m1 : dM, LSt mb s (e + 1) bm m1 → brs m1 = brs m → tt m ≤ tt m1 → (flt m1 = 0 → flt m = 0) → (flt m1 = 0 → BW (dSet m1 101 (m1.1 70 40).toNatClampNeg (m1.1 70 46)) s (m1.1 70 40).toNatClampNeg) → j_X12_term_70_24 5 m1 Q := by
    intro m1 h1 hb htt hff hB
    have eb1 : (m1.1 70 40).toInt = brs m1 := rfl
    have fb := dAddE (X := brs m1) (Y := 1) (x := m1.1 70 40) (y := (1 : Int32)) rfl (by decide) (by omega) (by omega)
    refine v_X12_term_70_24 ⟨by omega, hQ _ ?_ (show tt m ≤ tt m1 from htt) (show flt m1 = 0 → flt m = 0 from hff)⟩
    have g1 := h1.br (k := 101) (v := m1.1 70 46) (by omega) (by omega) (by omega) (by omega)
    have eb2 : ((m1.1 70 40).toNatClampNeg : Int) = brs m1 := d_cl (show 0 ≤ brs m1 by omega)
    generalize hM : dSet m1 101 (m1.1 70 40).toNatClampNeg (m1.1 70 46) = M at g1 hB ⊢
    have e40 : M.1 70 40 = m1.1 70 40 := by rw [← hM]; rfl
    have eF : flt M = flt m1 := by rw [← hM]; rfl
    obtain ⟨⟨h1, h2, h3, h4, h5⟩, t2, t3, t4, t5, t6⟩ := g1
    have bM : brs M = brs m1 := by unfold brs; rw [e40]
    have c1 : cds (dSet M 70 40 (m1.1 70 40 + 1)) = cds M := rfl
    have f1 : flt (dSet M 70 40 (m1.1 70 40 + 1)) = flt M := rfl
    have q1 : tt (dSet M 70 40 (m1.1 70 40 + 1)) = tt M := rfl
    have o1 : opn (dSet M 70 40 (m1.1 70 40 + 1)) = opn M := rfl
    have b1 : brs (dSet M 70 40 (m1.1 70 40 + 1)) = brs m1 + 1 := fb
    refine ⟨⟨fun k a1 a2 => by rw [dSet_k a1]; exact h1 k a1 a2, fun j a1 a2 a3 a4 a5 a6 a7 a8 a9 => by rw [dSet_j a7]; exact h2 j a1 a2 a3 a4 a5 a6 a7 a8 a9, fun k j a1 a2 a3 => by rw [dSet_k (by omega)]; exact h3 k j a1 a2 a3, fun j a1 => h4 j a1, h5⟩, by omega, by omega, by omega, by omega, fun h0 => ?_⟩
    have t6 := t6 (by omega)
    refine ⟨t6.1, by omega, by omega, by omega, fun j a1 a2 => ?_⟩
    have up : ∀ j, BW M s j → BW (dSet M 70 40 (m1.1 70 40 + 1)) s j := fun j hj => BW.up (m := M) (fun j _ => ⟨rfl, rfl⟩) (by omega) (fun a b1 b2 => by rw [dSet_k (by omega)]) hj
    by_cases hj : (j : Int) < brs m1
    · exact up j (t6.2.2.2.2 j a1 (by omega))
    · have : j = (m1.1 70 40).toNatClampNeg := by omega
      rw [this]
      exact up _ (hB (by omega))
  have eb0 : (m.1 70 40).toInt = brs m := rfl
  refine v_X12_term_70 ⟨by omega, fun hf => ?_, fun hf => ?_⟩
  · have hf : flt m ≠ 0 := hf
    have hf2 : 0 < flt m := by have := h.2.2.2.1; omega
    have g1 := h.br (k := 100) (v := m.1 70 46) (by omega) (by omega) (by omega) (by omega)
    have f1 : flt (dSet m 100 (m.1 70 40).toNatClampNeg (m.1 70 46)) = flt m := rfl
    refine fin _ ⟨g1.1, g1.2.1, g1.2.2.1, g1.2.2.2.1, g1.2.2.2.2.1, fun q => by exfalso; omega⟩ rfl (Int.le_refl _) (fun q => q) (fun q => by exfalso; omega)
  · have hf : flt m = 0 := hf
    have g1 := h.br (k := 100) (v := m.1 70 46) (by omega) (by omega) (by omega) (by omega)
    have c1 : cds (dSet m 100 (m.1 70 40).toNatClampNeg (m.1 70 46)) = cds m := rfl
    refine g1.ex hs hcb (fun m1 h1 hk hb htt hz => ?_)
    have hb' : brs m1 = brs m := hb
    refine fin m1 h1 hb' htt (fun _ => hf) (fun h0 => ?_)
    have hz := hz h0
    rw [c1] at hz
    have e40 : (m1.1 70 40).toNatClampNeg = (m.1 70 40).toNatClampNeg := by
      have := d_cl (show 0 ≤ (m1.1 70 40).toInt by show 0 ≤ brs m1; omega)
      have w : (m1.1 70 40).toInt = brs m1 := rfl
      omega
    have r : ∀ a : Nat, 97 ≤ a → a ≤ 100 → (dSet m1 101 (m1.1 70 40).toNatClampNeg (m1.1 70 46)).1 a (m1.1 70 40).toNatClampNeg = (dSet m 100 (m.1 70 40).toNatClampNeg (m.1 70 46)).1 a (m.1 70 40).toNatClampNeg := fun a b1 b2 => by rw [dSet_k (by omega), hk a b1 (by omega), e40]
    have c2 : cds (dSet m1 101 (m1.1 70 40).toNatClampNeg (m1.1 70 46)) = cds m1 := rfl
    have up2 : ∀ a b : Int, PW m s a b → PW (dSet m1 101 (m1.1 70 40).toNatClampNeg (m1.1 70 46)) s a b := fun a b q => q.up (fun j hj => by rw [dSet_k (by decide), dSet_k (by decide)]; exact hz.2.2.2 j hj) (by omega)
    unfold BW
    rw [r 97 (by omega) (by omega), r 98 (by omega) (by omega), r 99 (by omega) (by omega), r 100 (by omega) (by omega), dSet_s, dSet_s, dSet_k (by decide), dSet_k (by decide), dSet_k (by decide)]
    refine ⟨fun q => ?_, ⟨?_, by show cds m1 ≤ _; omega⟩⟩
    · have := hbr hf q
      exact ⟨up2 _ _ this.1, up2 _ _ this.2⟩
    · exact gPc_congr (g := m1.1) (c := cds m1) (fun j _ => ⟨rfl, rfl⟩) (Int.le_refl _) hz.2.2.1
end
