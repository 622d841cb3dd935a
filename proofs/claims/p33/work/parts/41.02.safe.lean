theorem s_X12_looks_70_all {g : gM} {Q : dM → Prop} (hG : Gd g) (hQ : ∀ m' : dM, Inv g m' → Q m') : ∀ n : Nat, (∀ (x1 : Int32) (x2 : Int32) (x3 : Int32) (m : dM), Inv g m → (-23 ≤ x1.toInt ∧ x1.toInt ≤ 20046) → (0 ≤ x2.toInt ∧ x2.toInt ≤ 9) → (0 ≤ x3.toInt ∧ x3.toInt ≤ 9) → 9 - 1 * x3.toInt < (n : Int) → j_X12_looks_70_2 1 x1 x2 x3 m Q) := by
  intro n
  induction n with
  | zero => exact fun x1 x2 x3 m hI h1 h2 h3 hμ => by exfalso; omega
  | succ n ih =>
    · intro x1 x2 x3 m hI h1 h2 h3 hμ
      refine v_X12_looks_70_2 ?_
      refine ⟨fun hc1 => ?_, fun hc1 => ?_⟩
      · skip
        have I2 : Inv g (dSet m 105 3 x1) := (Inv.setA hI rfl)
        have I3 : Inv g (dSet (dSet m 105 3 x1) 105 4 ((m.1 108 55) / (24 : Int32))) := (Inv.setA I2 rfl)
        have I4 : Inv g (dSet (dSet (dSet m 105 3 x1) 105 4 ((m.1 108 55) / (24 : Int32))) 105 8 x2) := (Inv.setA I3 rfl)
        exact hQ _ I4
      · skip
        refine ⟨by omega, ?_⟩
        have f2 := dAddE (X := x3.toInt) (Y := 1) (x := x3) (y := (1 : Int32)) rfl (by decide) (by omega) (by omega)
        have I3 : Inv g (dSet m 105 x3.toNatClampNeg (0 : Int32)) := (Inv.setA hI rfl)
        exact ih _ _ _ _ I3 (by omega) (by omega) (by omega) (by omega)
theorem s_X12_looks_70 {g : gM} {x1 : Int32} {x2 : Int32} {m : dM} {Q : dM → Prop} (hG : Gd g) (hI : Inv g m) (h1 : -23 ≤ x1.toInt ∧ x1.toInt ≤ 20046) (h2 : 0 ≤ x2.toInt ∧ x2.toInt ≤ 9) (hQ : ∀ m' : dM, Inv g m' → Q m') : c_X12_looks_70 1 x1 x2 m Q := by
  refine v_X12_looks_70 ?_
  have f1 := ti_0
  exact (s_X12_looks_70_all hG hQ 11) _ _ _ _ hI (by omega) (by omega) (by omega) (by omega)
theorem s_X12_onAt_70_all {g : gM} {Q : Int32 → dM → Prop} {m : dM} (hG : Gd g) (hI : Inv g m) (hQ : ∀ r : Int32, Q r m) : ∀ n : Nat, (∀ (x1 : Int32) (x2 : Int32) (x3 : Int32), (-23 ≤ x1.toInt ∧ x1.toInt ≤ 20046) → (0 ≤ x3.toInt ∧ x3.toInt ≤ 8) → 17 - 2 * x3.toInt < (n : Int) → j_X12_onAt_70_4 2 x1 x2 x3 m Q) ∧ (∀ (x1 : Int32) (x2 : Int32) (x3 : Int32), (-23 ≤ x1.toInt ∧ x1.toInt ≤ 20046) → (0 ≤ x3.toInt ∧ x3.toInt ≤ 7) → 16 - 2 * x3.toInt < (n : Int) → j_X12_onAt_70_83 2 x1 x2 x3 m Q) := by
  intro n
  induction n with
  | zero => exact ⟨fun x1 x2 x3 h1 h3 hμ => by exfalso; omega, fun x1 x2 x3 h1 h3 hμ => by exfalso; omega⟩
  | succ n ih =>
    refine ⟨?_, ?_⟩
    · intro x1 x2 x3 h1 h3 hμ
      refine v_X12_onAt_70_4 ?_
      have f1 := congrArg Int32.toInt (hI.2 70 18 rfl)
      have f2 := Inv.s hG hI (k := 70) (j := 18) rfl rfl
      refine ⟨by omega, ?_⟩
      have f3 := Inv.cnt86 hG hI
      have f4 := Inv.s hG hI (k := 86) (j := (m.1 70 18).toNatClampNeg) rfl rfl
      refine ⟨fun hc5 => ?_, fun hc5 => ?_⟩
      · skip
        exact hQ _
      · skip
        have f6 := dAddE (X := 47) (Y := x3.toInt) (x := (47 : Int32)) (y := x3) (by decide) rfl (by omega) (by omega)
        refine ⟨by omega, ?_⟩
        refine ⟨fun hc7 => ?_, fun hc7 => ?_⟩
        · skip
          exact ih.2 _ _ _ (by omega) (by omega) (by omega)
        · skip
          have f8 := dMulE (X := 8) (Y := (m.1 70 18).toInt) (x := (8 : Int32)) (y := (m.1 70 18)) (by decide) rfl (by omega) (by omega)
          have f9 := dAddE (X := ((8 : Int32) * (m.1 70 18)).toInt) (Y := x3.toInt) (x := ((8 : Int32) * (m.1 70 18))) (y := x3) rfl rfl (by omega) (by omega)
          refine ⟨by omega, ?_⟩
          refine ⟨by omega, ?_⟩
          refine v_X12_in ?_
          have f10 := Inv.s hG hI (k := 89) (j := (((8 : Int32) * (m.1 70 18)) + x3).toNatClampNeg) rfl rfl
          refine ⟨fun hc11 => ?_, fun hc11 => ?_⟩
          · skip
            refine v_X12_in_14 ?_
            have f12 := ti_0
            refine ⟨fun hc13 => ?_, fun hc13 => ?_⟩
            · skip
              exact ih.2 _ _ _ (by omega) (by omega) (by omega)
            · skip
              exfalso; omega
          · skip
            have f12 := Inv.s hG hI (k := 90) (j := (((8 : Int32) * (m.1 70 18)) + x3).toNatClampNeg) rfl rfl
            refine ⟨fun hc13 => ?_, fun hc13 => ?_⟩
            · skip
              refine v_X12_in_14 ?_
              have f14 := ti_0
              refine ⟨fun hc15 => ?_, fun hc15 => ?_⟩
              · skip
                exact ih.2 _ _ _ (by omega) (by omega) (by omega)
              · skip
                exfalso; omega
            · skip
              have f14 := ti_1
              refine ⟨fun hc15 => ?_, fun hc15 => ?_⟩
              · skip
                exfalso; omega
              · skip
                refine v_X12_flatAt_70 ?_
                refine ⟨by omega, ?_⟩
                refine v_X12_isLit_70 ?_
                have f16 := Inv.flat hG hI (u := x3) (by omega) (by omega)
                refine ⟨by omega, ?_⟩
                refine ⟨fun hc17 => ?_, fun hc17 => ?_⟩
                · skip
                  have f18 := ti_0
                  refine ⟨fun hc19 => ?_, fun hc19 => ?_⟩
                  · skip
                    exact ih.2 _ _ _ (by omega) (by omega) (by omega)
                  · skip
                    exfalso; omega
                · skip
                  refine ⟨fun hc18 => ?_, fun hc18 => ?_⟩
                  · skip
                    exfalso; omega
                  · skip
                    have f19 := dShl8 (x := x3) (by omega) (by omega)
                    exact ih.2 _ _ _ (by omega) (by omega) (by omega)
    · intro x1 x2 x3 h1 h3 hμ
      refine v_X12_onAt_70_83 ?_
      have f1 := dAddE (X := x3.toInt) (Y := 1) (x := x3) (y := (1 : Int32)) rfl (by decide) (by omega) (by omega)
      exact ih.1 _ _ _ (by omega) (by omega) (by omega)
theorem s_X12_onAt_70 {g : gM} {x1 : Int32} {m : dM} {Q : Int32 → dM → Prop} (hG : Gd g) (hI : Inv g m) (h1 : -23 ≤ x1.toInt ∧ x1.toInt ≤ 20046) (hQ : ∀ r : Int32, Q r m) : c_X12_onAt_70 2 x1 m Q := by
  refine v_X12_onAt_70 ?_
  have f1 := ti_0
  exact (s_X12_onAt_70_all hG hI hQ 19).1 _ _ _ (by omega) (by omega) (by omega)
theorem s_X12_onNow_70 {g : gM} {m : dM} {Q : Int32 → dM → Prop} (hG : Gd g) (hI : Inv g m) (hQ : ∀ r : Int32, Q r m) : c_X12_onNow_70 3 m Q := by
  refine v_X12_onNow_70 ?_
  have f1 := dRemE (x := (m.1 108 55)) (y := (24 : Int32)) (Y := 24) (by decide) (by decide)
  refine Wp.deep (s_X12_onAt_70 hG hI (by omega) (fun R2 => ?_)) (Nat.le_of_ble_eq_true rfl)
  exact hQ _
theorem s_X12_ampsOn_70_all {g : gM} {Q : Int32 → dM → Prop} {m : dM} (hG : Gd g) (hI : Inv g m) (hQ : ∀ r : Int32, Q r m) : ∀ n : Nat, (∀ (x1 : Int32) (x2 : Int32) (x3 : Int32) (x4 : Int32), (0 ≤ x1.toInt ∧ x1.toInt ≤ 6) → (0 ≤ x4.toInt ∧ x4.toInt ≤ 8) → 17 - 2 * x4.toInt < (n : Int) → j_X12_ampsOn_70_10 4 x1 x2 x3 x4 m Q) ∧ (∀ (x1 : Int32) (x2 : Int32) (x3 : Int32) (x4 : Int32), (0 ≤ x1.toInt ∧ x1.toInt ≤ 6) → (0 ≤ x4.toInt ∧ x4.toInt ≤ 7) → 16 - 2 * x4.toInt < (n : Int) → j_X12_ampsOn_70_53 4 x1 x2 x3 x4 m Q) := by
  intro n
  induction n with
  | zero => exact ⟨fun x1 x2 x3 x4 h1 h4 hμ => by exfalso; omega, fun x1 x2 x3 x4 h1 h4 hμ => by exfalso; omega⟩
  | succ n ih =>
    refine ⟨?_, ?_⟩
    · intro x1 x2 x3 x4 h1 h4 hμ
      refine v_X12_ampsOn_70_10 ?_
      have f1 := congrArg Int32.toInt (hI.2 70 18 rfl)
      have f2 := Inv.s hG hI (k := 70) (j := 18) rfl rfl
      refine ⟨by omega, ?_⟩
      have f3 := Inv.cnt86 hG hI
      have f4 := Inv.s hG hI (k := 86) (j := (m.1 70 18).toNatClampNeg) rfl rfl
      refine ⟨fun hc5 => ?_, fun hc5 => ?_⟩
      · skip
        exact hQ _
      · skip
        have f6 := ti_1
        have f7 := dAndE (x := (x2 >>> (x4 &&& 31))) (y := (1 : Int32)) (by decide)
        refine ⟨fun hc8 => ?_, fun hc8 => ?_⟩
        · skip
          exact ih.2 _ _ _ _ (by omega) (by omega) (by omega)
        · skip
          refine v_X12_flatAt_70 ?_
          have f9 := dMulE (X := 8) (Y := (m.1 70 18).toInt) (x := (8 : Int32)) (y := (m.1 70 18)) (by decide) rfl (by omega) (by omega)
          have f10 := dAddE (X := ((8 : Int32) * (m.1 70 18)).toInt) (Y := x4.toInt) (x := ((8 : Int32) * (m.1 70 18))) (y := x4) rfl rfl (by omega) (by omega)
          refine ⟨by omega, ?_⟩
          have f11 := Inv.flat hG hI (u := x4) (by omega) (by omega)
          refine ⟨fun hc12 => ?_, fun hc12 => ?_⟩
          · skip
            exact ih.2 _ _ _ _ (by omega) (by omega) (by omega)
          · skip
            refine v_X12_ampsAt_70 ?_
            refine ⟨by omega, ?_⟩
            exact ih.2 _ _ _ _ (by omega) (by omega) (by omega)
    · intro x1 x2 x3 x4 h1 h4 hμ
      refine v_X12_ampsOn_70_53 ?_
      have f1 := dAddE (X := x4.toInt) (Y := 1) (x := x4) (y := (1 : Int32)) rfl (by decide) (by omega) (by omega)
      exact ih.1 _ _ _ _ (by omega) (by omega) (by omega)
theorem s_X12_ampsOn_70 {g : gM} {x1 : Int32} {m : dM} {Q : Int32 → dM → Prop} (hG : Gd g) (hI : Inv g m) (h1 : 0 ≤ x1.toInt ∧ x1.toInt ≤ 6) (hQ : ∀ r : Int32, Q r m) : c_X12_ampsOn_70 4 x1 m Q := by
  refine v_X12_ampsOn_70 ?_
  refine Wp.deep (s_X12_onNow_70 hG hI (fun R1 => ?_)) (Nat.le_of_ble_eq_true rfl)
  have f2 := ti_0
  exact (s_X12_ampsOn_70_all hG hI hQ 19).1 _ _ _ _ (by omega) (by omega) (by omega)
theorem s_J7_fill_56_all {g : gM} {Q : dM → Prop} (hG : Gd g) (hQ : ∀ m' : dM, Inv g m' → Q m') : ∀ n : Nat, (∀ (x1 : Int32) (x2 : Int32) (x3 : Int32) (m : dM), Inv g m → (0 ≤ x1.toInt ∧ x1.toInt ≤ 0) → (0 ≤ x2.toInt ∧ x2.toInt ≤ 10) → (10 ≤ x3.toInt ∧ x3.toInt ≤ 10) → 10 - 1 * x2.toInt < (n : Int) → j_J7_fill_56_5 1 x1 x2 x3 m Q) := by
  intro n
  induction n with
  | zero => exact fun x1 x2 x3 m hI h1 h2 h3 hμ => by exfalso; omega
  | succ n ih =>
    · intro x1 x2 x3 m hI h1 h2 h3 hμ
      refine v_J7_fill_56_5 ?_
      refine ⟨fun hc1 => ?_, fun hc1 => ?_⟩
      · skip
        exact hQ _ hI
      · skip
        refine ⟨by omega, ?_⟩
        have f2 := dAddE (X := x2.toInt) (Y := 1) (x := x2) (y := (1 : Int32)) rfl (by decide) (by omega) (by omega)
        have I3 : Inv g (dSet m 56 x2.toNatClampNeg x1) := (Inv.setA hI rfl)
        exact ih _ _ _ _ I3 (by omega) (by omega) (by omega) (by omega)
theorem s_J7_fill_56 {g : gM} {x1 : Int32} {m : dM} {Q : dM → Prop} (hG : Gd g) (hI : Inv g m) (h1 : 0 ≤ x1.toInt ∧ x1.toInt ≤ 0) (hQ : ∀ m' : dM, Inv g m' → Q m') : c_J7_fill_56 1 x1 m Q := by
  refine v_J7_fill_56 ?_
  have f1 := ti_0
  have f2 := ti_10
  exact (s_J7_fill_56_all hG hQ 12) _ _ _ _ hI (by omega) (by omega) (by omega) (by omega)
theorem s_X0_putOn_54_47_all {g : gM} {Q : dM → Prop} (hG : Gd g) (hQ : ∀ m' : dM, Inv g m' → Q m') : ∀ n : Nat, (∀ (x2 : Int32) (x3 : Int32) (m : dM), Inv g m → (0 ≤ x3.toInt ∧ x3.toInt ≤ 8) → 116 - 13 * x3.toInt < (n : Int) → j_X0_putOn_54_47_21 3 x2 x3 m Q) ∧ (∀ (x2 : Int32) (x3 : Int32) (x4 : Int32) (x5 : Int32) (m : dM), Inv g m → (0 ≤ x3.toInt ∧ x3.toInt ≤ 7) → (0 ≤ x5.toInt ∧ x5.toInt ≤ 10) → 115 - 13 * x3.toInt - 1 * x5.toInt < (n : Int) → j_X0_putOn_54_47_66 3 x2 x3 x4 x5 m Q) ∧ (∀ (x2 : Int32) (x3 : Int32) (m : dM), Inv g m → (0 ≤ x3.toInt ∧ x3.toInt ≤ 7) → 104 - 13 * x3.toInt < (n : Int) → j_X0_putOn_54_47_125 3 x2 x3 m Q) := by
  intro n
  induction n with
  | zero => exact ⟨fun x2 x3 m hI h3 hμ => by exfalso; omega, fun x2 x3 x4 x5 m hI h3 h5 hμ => by exfalso; omega, fun x2 x3 m hI h3 hμ => by exfalso; omega⟩
  | succ n ih =>
    refine ⟨?_, ?_, ?_⟩
    · intro x2 x3 m hI h3 hμ
      refine v_X0_putOn_54_47_21 ?_
      have f1 := congrArg Int32.toInt (hI.2 2 2 rfl)
      have f2 := Inv.s hG hI (k := 2) (j := 2) rfl rfl
      refine ⟨fun hc3 => ?_, fun hc3 => ?_⟩
      · skip
        exact hQ _ hI
      · skip
        refine v_X11_has ?_
        have f4 := ti_1
        have f5 := dAndE (x := (x2.toUInt32 >>> (x3.toUInt32 &&& Int32.toUInt32 31)).toInt32) (y := (1 : Int32)) (by decide)
        refine ⟨fun hc6 => ?_, fun hc6 => ?_⟩
        · skip
          have f7 := ti_0
          refine ⟨fun hc8 => ?_, fun hc8 => ?_⟩
          · skip
            exact ih.2.1 _ _ _ _ _ hI (by omega) (by omega) (by omega)
          · skip
            exfalso; omega
        · skip
          refine ⟨fun hc7 => ?_, fun hc7 => ?_⟩
          · skip
            exfalso; omega
          · skip
            refine ⟨by omega, ?_⟩
            have f8 := Inv.home hG hI (u := x3) (by omega) (by omega)
            refine ⟨by omega, ?_⟩
            have f9 := ti_0
            exact ih.2.1 _ _ _ _ _ hI (by omega) (by omega) (by omega)
    · intro x2 x3 x4 x5 m hI h3 h5 hμ
      refine v_X0_putOn_54_47_66 ?_
      refine ⟨fun hc1 => ?_, fun hc1 => ?_⟩
      · skip
        exact ih.2.2 _ _ _ hI (by omega) (by omega)
      · skip
        have f2 := congrArg Int32.toInt (hI.2 2 1 rfl)
        have f3 := Inv.s hG hI (k := 2) (j := 1) rfl rfl
        refine ⟨fun hc4 => ?_, fun hc4 => ?_⟩
        · skip
          exact ih.2.2 _ _ _ hI (by omega) (by omega)
        · skip
          refine ⟨by omega, ?_⟩
          refine v_X11_has ?_
          have f5 := ti_1
          have f6 := dAndE (x := (x4.toUInt32 >>> (x5.toUInt32 &&& Int32.toUInt32 31)).toInt32) (y := (1 : Int32)) (by decide)
          refine ⟨fun hc7 => ?_, fun hc7 => ?_⟩
          · skip
            have f8 := ti_0
            refine ⟨fun hc9 => ?_, fun hc9 => ?_⟩
            · skip
              refine ⟨by omega, ?_⟩
              have f10 := dAddE (X := x5.toInt) (Y := 1) (x := x5) (y := (1 : Int32)) rfl (by decide) (by omega) (by omega)
              have I11 : Inv g (dSet m 56 x5.toNatClampNeg ((m.1 56 x5.toNatClampNeg) + (0 : Int32))) := (Inv.setA hI rfl)
              exact ih.2.1 _ _ _ _ _ I11 (by omega) (by omega) (by omega)
            · skip
              exfalso; omega
          · skip
            refine ⟨fun hc8 => ?_, fun hc8 => ?_⟩
            · skip
              exfalso; omega
            · skip
              refine ⟨by omega, ?_⟩
              refine ⟨by omega, ?_⟩
              have f9 := dAddE (X := x5.toInt) (Y := 1) (x := x5) (y := (1 : Int32)) rfl (by decide) (by omega) (by omega)
              have I10 : Inv g (dSet m 56 x5.toNatClampNeg ((m.1 56 x5.toNatClampNeg) + (m.1 8 x3.toNatClampNeg))) := (Inv.setA hI rfl)
              exact ih.2.1 _ _ _ _ _ I10 (by omega) (by omega) (by omega)
    · intro x2 x3 m hI h3 hμ
      refine v_X0_putOn_54_47_125 ?_
      have f1 := dAddE (X := x3.toInt) (Y := 1) (x := x3) (y := (1 : Int32)) rfl (by decide) (by omega) (by omega)
      exact ih.1 _ _ _ hI (by omega) (by omega)
theorem s_X0_putOn_54_47 {g : gM} {x2 : Int32} {m : dM} {Q : dM → Prop} (hG : Gd g) (hI : Inv g m) (hQ : ∀ m' : dM, Inv g m' → Q m') : c_X0_putOn_54_47 3 x2 m Q := by
  refine v_X0_putOn_54_47 ?_
  refine Wp.deep (s_X10_lay_57 hG hI (fun M1 I1 => ?_)) (Nat.le_of_ble_eq_true rfl)
  have f2 := ti_0
  refine Wp.deep (s_J7_fill_56 hG I1 (by omega) (fun M3 I3 => ?_)) (Nat.le_of_ble_eq_true rfl)
  exact (s_X0_putOn_54_47_all hG hQ 118).1 _ _ _ I3 (by omega) (by omega)
theorem s_X0_loadNow_54_47 {g : gM} {x2 : Int32} {m : dM} {Q : Int32 → dM → Prop} (hG : Gd g) (hI : Inv g m) (h2 : 0 ≤ x2.toInt ∧ x2.toInt ≤ 9) (hQ : ∀ (r : Int32) (m' : dM), Inv g m' → Q r m') : c_X0_loadNow_54_47 5 x2 m Q := by
  refine v_X0_loadNow_54_47 ?_
  refine Wp.deep (s_X0_usesNow_54_47 hG hI (fun R1 M1 I1 => ?_)) (Nat.le_of_ble_eq_true rfl)
  refine Wp.deep (s_X0_putOn_54_47 hG I1 (fun M2 I2 => ?_)) (Nat.le_of_ble_eq_true rfl)
  refine ⟨by omega, ?_⟩
  exact hQ _ _ I2
theorem s_X0_costOf_54_47 {g : gM} {x2 : Int32} {m : dM} {Q : Int32 → dM → Prop} (hG : Gd g) (hI : Inv g m) (h2 : 0 ≤ x2.toInt ∧ x2.toInt ≤ 9) (hQ : ∀ (r : Int32) (m' : dM), Inv g m' → (0 ≤ r.toInt ∧ r.toInt ≤ 99) → Q r m') : c_X0_costOf_54_47 4 x2 m Q := by
  refine v_X0_costOf_54_47 ?_
  refine v_X7_hourOfDay_47 ?_
  refine v_X7_day_47 ?_
  have f1 := dRemE (x := (m.1 47 0)) (y := (24 : Int32)) (Y := 24) (by decide) (by decide)
  refine Wp.deep (s_X0_setVars_54 hG hI (by omega) (by omega) (fun M2 I2 => ?_)) (Nat.le_of_ble_eq_true rfl)
  refine ⟨by omega, ?_⟩
  refine ⟨by omega, ?_⟩
  have f3 := ti_2
  have I4 : Inv g (dSet M2 55 1 (M2.1 48 x2.toNatClampNeg)) := (Inv.setA I2 rfl)
  have I5 : Inv g (dSet (dSet M2 55 1 (M2.1 48 x2.toNatClampNeg)) 55 2 (M2.1 49 x2.toNatClampNeg)) := (Inv.setA I4 rfl)
  refine Wp.deep (s_X4_tells_11_55 hG I5 (by omega) (fun R6 M6 I6 => ?_)) (Nat.le_of_ble_eq_true rfl)
  refine Wp.deep (s_X0_held hG I6 (fun R7 hr7 => ?_)) (Nat.le_of_ble_eq_true rfl)
  exact hQ _ _ I6 (by omega)
theorem s_X0_going_54_47_all {g : gM} {Q : Int32 → dM → Prop} (hG : Gd g) (hQ : ∀ (r : Int32) (m' : dM), Inv g m' → Q r m') : ∀ n : Nat, (∀ (x2 : Int32) (x3 : Int32) (x4 : Int32) (x5 : Int32) (m : dM), Inv g m → (-23 ≤ x2.toInt ∧ x2.toInt ≤ 23) → (0 ≤ x5.toInt ∧ x5.toInt ≤ 10) → 21 - 2 * x5.toInt < (n : Int) → j_X0_going_54_47_6 4 x2 x3 x4 x5 m Q) ∧ (∀ (x2 : Int32) (x3 : Int32) (x4 : Int32) (x5 : Int32) (m : dM), Inv g m → (-23 ≤ x2.toInt ∧ x2.toInt ≤ 23) → (0 ≤ x5.toInt ∧ x5.toInt ≤ 9) → 20 - 2 * x5.toInt < (n : Int) → j_X0_going_54_47_119 4 x2 x3 x4 x5 m Q) := by
  intro n
  induction n with
  | zero => exact ⟨fun x2 x3 x4 x5 m hI h2 h5 hμ => by exfalso; omega, fun x2 x3 x4 x5 m hI h2 h5 hμ => by exfalso; omega⟩
  | succ n ih =>
    refine ⟨?_, ?_⟩
    · intro x2 x3 x4 x5 m hI h2 h5 hμ
      refine v_X0_going_54_47_6 ?_
      have f1 := congrArg Int32.toInt (hI.2 2 1 rfl)
      have f2 := Inv.s hG hI (k := 2) (j := 1) rfl rfl
      refine ⟨fun hc3 => ?_, fun hc3 => ?_⟩
      · skip
        exact hQ _ _ hI
      · skip
        refine ⟨by omega, ?_⟩
        refine ⟨fun hc4 => ?_, fun hc4 => ?_⟩
        · skip
          exact ih.2 _ _ _ _ _ hI (by omega) (by omega) (by omega)
        · skip
          refine v_X11_has ?_
          have f5 := ti_1
          have f6 := dAndE (x := ((m.1 47 4).toUInt32 >>> (x5.toUInt32 &&& Int32.toUInt32 31)).toInt32) (y := (1 : Int32)) (by decide)
          refine ⟨fun hc7 => ?_, fun hc7 => ?_⟩
          · skip
            have f8 := ti_0
            refine ⟨fun hc9 => ?_, fun hc9 => ?_⟩
            · skip
              exfalso; omega
            · skip
              refine v_X7_day_47 ?_
              refine Wp.deep (s_X0_setVars_54 hG hI (by omega) (by omega) (fun M10 I10 => ?_)) (Nat.le_of_ble_eq_true rfl)
              refine ⟨by omega, ?_⟩
              refine ⟨by omega, ?_⟩
              refine ⟨by omega, ?_⟩
              have I11 : Inv g (dSet M10 55 0 ((M10.1 56 x5.toNatClampNeg) + x3)) := (Inv.setA I10 rfl)
              have I12 : Inv g (dSet (dSet M10 55 0 ((M10.1 56 x5.toNatClampNeg) + x3)) 55 1 (M10.1 48 x5.toNatClampNeg)) := (Inv.setA I11 rfl)
              have I13 : Inv g (dSet (dSet (dSet M10 55 0 ((M10.1 56 x5.toNatClampNeg) + x3)) 55 1 (M10.1 48 x5.toNatClampNeg)) 55 2 (M10.1 49 x5.toNatClampNeg)) := (Inv.setA I12 rfl)
              refine Wp.deep (s_X4_tells_11_55 hG I13 (by omega) (fun R14 M14 I14 => ?_)) (Nat.le_of_ble_eq_true rfl)
              refine ⟨fun hc15 => ?_, fun hc15 => ?_⟩
              · skip
                exact ih.2 _ _ _ _ _ I14 (by omega) (by omega) (by omega)
              · skip
                have f16 := dShl10 (x := x5) (by omega) (by omega)
                exact ih.2 _ _ _ _ _ I14 (by omega) (by omega) (by omega)
          · skip
            refine ⟨fun hc8 => ?_, fun hc8 => ?_⟩
            · skip
              exact ih.2 _ _ _ _ _ hI (by omega) (by omega) (by omega)
            · skip
              exfalso; omega
    · intro x2 x3 x4 x5 m hI h2 h5 hμ
      refine v_X0_going_54_47_119 ?_
      have f1 := dAddE (X := x5.toInt) (Y := 1) (x := x5) (y := (1 : Int32)) rfl (by decide) (by omega) (by omega)
      exact ih.1 _ _ _ _ _ hI (by omega) (by omega) (by omega)
theorem s_X0_going_54_47 {g : gM} {x2 : Int32} {x3 : Int32} {m : dM} {Q : Int32 → dM → Prop} (hG : Gd g) (hI : Inv g m) (h2 : -23 ≤ x2.toInt ∧ x2.toInt ≤ 23) (hQ : ∀ (r : Int32) (m' : dM), Inv g m' → Q r m') : c_X0_going_54_47 4 x2 x3 m Q := by
  refine v_X0_going_54_47 ?_
  have f1 := ti_0
  exact (s_X0_going_54_47_all hG hQ 23).1 _ _ _ _ _ hI (by omega) (by omega) (by omega)
theorem s_X0_goingWith_54_47 {g : gM} {x2 : Int32} {m : dM} {Q : Int32 → dM → Prop} (hG : Gd g) (hI : Inv g m) (hQ : ∀ (r : Int32) (m' : dM), Inv g m' → Q r m') : c_X0_goingWith_54_47 5 x2 m Q := by
  refine v_X0_goingWith_54_47 ?_
  refine Wp.deep (s_X0_putOn_54_47 hG hI (fun M1 I1 => ?_)) (Nat.le_of_ble_eq_true rfl)
  refine v_X7_hourOfDay_47 ?_
  have f2 := dRemE (x := (M1.1 47 0)) (y := (24 : Int32)) (Y := 24) (by decide) (by decide)
  have f3 := ti_0
  refine Wp.deep (s_X0_going_54_47 hG I1 (by omega) (fun R4 M4 I4 => ?_)) (Nat.le_of_ble_eq_true rfl)
  exact hQ _ _ I4
theorem s_X0_goingNow_54_47 {g : gM} {m : dM} {Q : Int32 → dM → Prop} (hG : Gd g) (hI : Inv g m) (hQ : ∀ (r : Int32) (m' : dM), Inv g m' → Q r m') : c_X0_goingNow_54_47 6 m Q := by
  refine v_X0_goingNow_54_47 ?_
  refine Wp.deep (s_X0_usesNow_54_47 hG hI (fun R1 M1 I1 => ?_)) (Nat.le_of_ble_eq_true rfl)
  refine Wp.deep (s_X0_goingWith_54_47 hG I1 (fun R2 M2 I2 => ?_)) (Nat.le_of_ble_eq_true rfl)
  exact hQ _ _ I2
theorem s_X11_wire_0 {g : gM} {x1 : Int32} {x2 : Int32} {m : dM} {Q : Int32 → dM → Prop} (hG : Gd g) (hI : Inv g m) (hQ : ∀ (r : Int32) (m' : dM), Inv g m' → Q r m') : c_X11_wire_0 7 x1 x2 m Q := by
  refine v_X11_wire_0 ?_
  refine v_X11_isWire_0 ?_
  refine ⟨fun hc1 => ?_, fun hc1 => ?_⟩
  · skip
    refine v_X11_isWire_0_19 ?_
    have f2 := ti_0
    refine ⟨fun hc3 => ?_, fun hc3 => ?_⟩
    · skip
      exfalso; omega
    · skip
      have f4 := ti_m1
      exact hQ _ _ hI
  · skip
    have f2 := congrArg Int32.toInt (hI.2 2 1 rfl)
    have f3 := Inv.s hG hI (k := 2) (j := 1) rfl rfl
    refine ⟨fun hc4 => ?_, fun hc4 => ?_⟩
    · skip
      refine v_X11_isWire_0_19 ?_
      have f5 := ti_0
      refine ⟨fun hc6 => ?_, fun hc6 => ?_⟩
      · skip
        exfalso; omega
      · skip
        have f7 := ti_m1
        exact hQ _ _ hI
    · skip
      have f5 := ti_1
      refine ⟨fun hc6 => ?_, fun hc6 => ?_⟩
      · skip
        refine ⟨fun hc7 => ?_, fun hc7 => ?_, fun hc7 => ?_, fun hc7 => ?_, fun hc7 => ?_, fun hc7 => ?_, fun hc7 => ?_, fun hc7 => ?_, fun hc7 => ?_, fun hc7 => ?_⟩
        · skip
          refine ⟨by omega, ?_⟩
          have f8 := Inv.s hG hI (k := 4) (j := x1.toNatClampNeg) rfl rfl
          exact hQ _ _ hI
        · skip
          refine ⟨by omega, ?_⟩
          have f8 := Inv.s hG hI (k := 5) (j := x1.toNatClampNeg) rfl rfl
          exact hQ _ _ hI
        · skip
          refine ⟨by omega, ?_⟩
          exact hQ _ _ hI
        · skip
          refine v_X11_has ?_
          have f8 := dAndE (x := ((m.1 47 3).toUInt32 >>> (x1.toUInt32 &&& Int32.toUInt32 31)).toInt32) (y := (1 : Int32)) (by decide)
          refine ⟨fun hc9 => ?_, fun hc9 => ?_⟩
          · skip
            have f10 := ti_0
            refine ⟨fun hc11 => ?_, fun hc11 => ?_⟩
            · skip
              exact hQ _ _ hI
            · skip
              exfalso; omega
          · skip
            refine ⟨fun hc10 => ?_, fun hc10 => ?_⟩
            · skip
              exfalso; omega
            · skip
              have f11 := ti_0
              exact hQ _ _ hI
        · skip
          refine ⟨by omega, ?_⟩
          exact hQ _ _ hI
        · skip
          refine v_X11_has ?_
          have f8 := dAndE (x := ((m.1 47 4).toUInt32 >>> (x1.toUInt32 &&& Int32.toUInt32 31)).toInt32) (y := (1 : Int32)) (by decide)
          refine ⟨fun hc9 => ?_, fun hc9 => ?_⟩
          · skip
            have f10 := ti_0
            refine ⟨fun hc11 => ?_, fun hc11 => ?_⟩
            · skip
              exact hQ _ _ hI
            · skip
              exfalso; omega
          · skip
            refine ⟨fun hc10 => ?_, fun hc10 => ?_⟩
            · skip
              exfalso; omega
            · skip
              exact hQ _ _ hI
        · skip
          refine Wp.deep (s_X0_loadNow_54_47 hG hI (by omega) (fun R8 M8 I8 => ?_)) (Nat.le_of_ble_eq_true rfl)
          exact hQ _ _ I8
        · skip
          refine Wp.deep (s_X0_costOf_54_47 hG hI (by omega) (fun R8 M8 I8 hr8 => ?_)) (Nat.le_of_ble_eq_true rfl)
          exact hQ _ _ I8
        · skip
          refine Wp.deep (s_X0_goingNow_54_47 hG hI (fun R8 M8 I8 => ?_)) (Nat.le_of_ble_eq_true rfl)
          refine v_X11_has ?_
          have f9 := dAndE (x := (R8.toUInt32 >>> (x1.toUInt32 &&& Int32.toUInt32 31)).toInt32) (y := (1 : Int32)) (by decide)
          refine ⟨fun hc10 => ?_, fun hc10 => ?_⟩
          · skip
            have f11 := ti_0
            refine ⟨fun hc12 => ?_, fun hc12 => ?_⟩
            · skip
              exact hQ _ _ I8
            · skip
              exfalso; omega
          · skip
            refine ⟨fun hc11 => ?_, fun hc11 => ?_⟩
            · skip
              exfalso; omega
            · skip
              exact hQ _ _ I8
        · skip
          have f8 := ti_m1
          exact hQ _ _ hI
      · skip
        exfalso; omega
theorem s_X12_loadBy_70_all {g : gM} {Q : Int32 → dM → Prop} {m : dM} (hG : Gd g) (hI : Inv g m) (hQ : ∀ r : Int32, Q r m) : ∀ n : Nat, (∀ (x1 : Int32) (x2 : Int32) (x3 : Int32) (x4 : Int32), (0 ≤ x1.toInt ∧ x1.toInt ≤ 9) → (0 ≤ x4.toInt ∧ x4.toInt ≤ 8) → 17 - 2 * x4.toInt < (n : Int) → j_X12_loadBy_70_5 2 x1 x2 x3 x4 m Q) ∧ (∀ (x1 : Int32) (x2 : Int32) (x3 : Int32) (x4 : Int32), (0 ≤ x1.toInt ∧ x1.toInt ≤ 9) → (0 ≤ x4.toInt ∧ x4.toInt ≤ 7) → 16 - 2 * x4.toInt < (n : Int) → j_X12_loadBy_70_57 2 x1 x2 x3 x4 m Q) := by
  intro n
  induction n with
  | zero => exact ⟨fun x1 x2 x3 x4 h1 h4 hμ => by exfalso; omega, fun x1 x2 x3 x4 h1 h4 hμ => by exfalso; omega⟩
  | succ n ih =>
    refine ⟨?_, ?_⟩
    · intro x1 x2 x3 x4 h1 h4 hμ
      refine v_X12_loadBy_70_5 ?_
      have f1 := congrArg Int32.toInt (hI.2 70 18 rfl)
      have f2 := Inv.s hG hI (k := 70) (j := 18) rfl rfl
      refine ⟨by omega, ?_⟩
      have f3 := Inv.cnt86 hG hI
      have f4 := Inv.s hG hI (k := 86) (j := (m.1 70 18).toNatClampNeg) rfl rfl
      refine ⟨fun hc5 => ?_, fun hc5 => ?_⟩
      · skip
        exact hQ _
      · skip
        have f6 := ti_1
        have f7 := dAndE (x := (x2 >>> (x4 &&& 31))) (y := (1 : Int32)) (by decide)
        refine ⟨fun hc8 => ?_, fun hc8 => ?_⟩
        · skip
          exact ih.2 _ _ _ _ (by omega) (by omega) (by omega)
        · skip
          refine v_X12_flatAt_70 ?_
          have f9 := dMulE (X := 8) (Y := (m.1 70 18).toInt) (x := (8 : Int32)) (y := (m.1 70 18)) (by decide) rfl (by omega) (by omega)
          have f10 := dAddE (X := ((8 : Int32) * (m.1 70 18)).toInt) (Y := x4.toInt) (x := ((8 : Int32) * (m.1 70 18))) (y := x4) rfl rfl (by omega) (by omega)
          refine ⟨by omega, ?_⟩
          have f11 := Inv.flat hG hI (u := x4) (by omega) (by omega)
          refine ⟨by omega, ?_⟩
          have f12 := dAndE (x := ((m.1 110 (m.1 87 (((8 : Int32) * (m.1 70 18)) + x4).toNatClampNeg).toNatClampNeg) >>> (x1 &&& 31))) (y := (1 : Int32)) (by decide)
          refine ⟨fun hc13 => ?_, fun hc13 => ?_⟩
          · skip
            exact ih.2 _ _ _ _ (by omega) (by omega) (by omega)
          · skip
            refine v_X12_ampsAt_70 ?_
            refine ⟨by omega, ?_⟩
            exact ih.2 _ _ _ _ (by omega) (by omega) (by omega)
    · intro x1 x2 x3 x4 h1 h4 hμ
      refine v_X12_loadBy_70_57 ?_
      have f1 := dAddE (X := x4.toInt) (Y := 1) (x := x4) (y := (1 : Int32)) rfl (by decide) (by omega) (by omega)
      exact ih.1 _ _ _ _ (by omega) (by omega) (by omega)
theorem s_X12_loadBy_70 {g : gM} {x1 : Int32} {x2 : Int32} {m : dM} {Q : Int32 → dM → Prop} (hG : Gd g) (hI : Inv g m) (h1 : 0 ≤ x1.toInt ∧ x1.toInt ≤ 9) (hQ : ∀ r : Int32, Q r m) : c_X12_loadBy_70 2 x1 x2 m Q := by
  refine v_X12_loadBy_70 ?_
  have f1 := ti_0
  exact (s_X12_loadBy_70_all hG hI hQ 19).1 _ _ _ _ (by omega) (by omega) (by omega)
theorem s_X0_payOf_54_47 {g : gM} {x2 : Int32} {m : dM} {Q : Int32 → dM → Prop} (hG : Gd g) (hI : Inv g m) (h2 : 0 ≤ x2.toInt ∧ x2.toInt ≤ 7) (hQ : ∀ (r : Int32) (m' : dM), Inv g m' → (0 ≤ r.toInt ∧ r.toInt ≤ 99) → Q r m') : c_X0_payOf_54_47 4 x2 m Q := by
  refine v_X0_payOf_54_47 ?_
  refine v_X7_hourOfDay_47 ?_
  refine v_X7_day_47 ?_
  have f1 := dRemE (x := (m.1 47 0)) (y := (24 : Int32)) (Y := 24) (by decide) (by decide)
  refine Wp.deep (s_X0_setVars_54 hG hI (by omega) (by omega) (fun M2 I2 => ?_)) (Nat.le_of_ble_eq_true rfl)
  refine ⟨by omega, ?_⟩
  have f3 := ti_3
  have I4 : Inv g (dSet M2 55 5 (M2.1 8 x2.toNatClampNeg)) := (Inv.setA I2 rfl)
  refine Wp.deep (s_X4_tells_11_55 hG I4 (by omega) (fun R5 M5 I5 => ?_)) (Nat.le_of_ble_eq_true rfl)
  refine Wp.deep (s_X0_held hG I5 (fun R6 hr6 => ?_)) (Nat.le_of_ble_eq_true rfl)
  exact hQ _ _ I5 (by omega)
theorem s_X11_use_0 {g : gM} {x1 : Int32} {x2 : Int32} {m : dM} {Q : Int32 → dM → Prop} (hG : Gd g) (hI : Inv g m) (hQ : ∀ (r : Int32) (m' : dM), Inv g m' → Q r m') : c_X11_use_0 5 x1 x2 m Q := by
  refine v_X11_use_0 ?_
  refine v_X11_isUse_0 ?_
  refine ⟨fun hc1 => ?_, fun hc1 => ?_⟩
  · skip
    refine v_X11_isUse_0_19 ?_
    have f2 := ti_0
    refine ⟨fun hc3 => ?_, fun hc3 => ?_⟩
    · skip
      exfalso; omega
    · skip
      have f4 := ti_m1
      exact hQ _ _ hI
  · skip
    have f2 := congrArg Int32.toInt (hI.2 2 2 rfl)
    have f3 := Inv.s hG hI (k := 2) (j := 2) rfl rfl
    refine ⟨fun hc4 => ?_, fun hc4 => ?_⟩
    · skip
      refine v_X11_isUse_0_19 ?_
      have f5 := ti_0
      refine ⟨fun hc6 => ?_, fun hc6 => ?_⟩
      · skip
        exfalso; omega
      · skip
        have f7 := ti_m1
        exact hQ _ _ hI
    · skip
      have f5 := ti_1
      refine ⟨fun hc6 => ?_, fun hc6 => ?_⟩
      · skip
        refine Wp.deep (s_X0_usesNow_54_47 hG hI (fun R7 M7 I7 => ?_)) (Nat.le_of_ble_eq_true rfl)
        refine v_X11_has ?_
        have f8 := dAndE (x := (R7.toUInt32 >>> (x1.toUInt32 &&& Int32.toUInt32 31)).toInt32) (y := (1 : Int32)) (by decide)
        refine ⟨fun hc9 => ?_, fun hc9 => ?_⟩
        · skip
          refine ⟨fun hc10 => ?_, fun hc10 => ?_, fun hc10 => ?_, fun hc10 => ?_, fun hc10 => ?_, fun hc10 => ?_, fun hc10 => ?_, fun hc10 => ?_⟩
          · skip
            refine ⟨by omega, ?_⟩
            have f11 := congrArg Int32.toInt (I7.2 2 2 rfl)
            have f12 := Inv.s hG I7 (k := 2) (j := 2) rfl rfl
            have f13 := Inv.home hG I7 (u := x1) (by omega) (by omega)
            exact hQ _ _ I7
          · skip
            refine ⟨by omega, ?_⟩
            exact hQ _ _ I7
          · skip
            refine ⟨by omega, ?_⟩
            exact hQ _ _ I7
          · skip
            refine ⟨by omega, ?_⟩
            exact hQ _ _ I7
          · skip
            refine v_X11_has ?_
            have f11 := dAndE (x := ((M7.1 47 5).toUInt32 >>> (x1.toUInt32 &&& Int32.toUInt32 31)).toInt32) (y := (1 : Int32)) (by decide)
            refine ⟨fun hc12 => ?_, fun hc12 => ?_⟩
            · skip
              have f13 := ti_0
              refine ⟨fun hc14 => ?_, fun hc14 => ?_⟩
              · skip
                exact hQ _ _ I7
              · skip
                exfalso; omega
            · skip
              refine ⟨fun hc13 => ?_, fun hc13 => ?_⟩
              · skip
                exfalso; omega
              · skip
                exact hQ _ _ I7
          · skip
            have f11 := ti_0
            refine ⟨fun hc12 => ?_, fun hc12 => ?_⟩
            · skip
              exact hQ _ _ I7
            · skip
              exfalso; omega
          · skip
            have f11 := ti_0
            refine ⟨fun hc12 => ?_, fun hc12 => ?_⟩
            · skip
              exact hQ _ _ I7
            · skip
              exfalso; omega
          · skip
            have f11 := ti_m1
            exact hQ _ _ I7
        · skip
          refine ⟨fun hc10 => ?_, fun hc10 => ?_, fun hc10 => ?_, fun hc10 => ?_, fun hc10 => ?_, fun hc10 => ?_, fun hc10 => ?_, fun hc10 => ?_⟩
          · skip
            refine ⟨by omega, ?_⟩
            have f11 := congrArg Int32.toInt (I7.2 2 2 rfl)
            have f12 := Inv.s hG I7 (k := 2) (j := 2) rfl rfl
            have f13 := Inv.home hG I7 (u := x1) (by omega) (by omega)
            exact hQ _ _ I7
          · skip
            refine ⟨by omega, ?_⟩
            exact hQ _ _ I7
          · skip
            refine ⟨by omega, ?_⟩
            exact hQ _ _ I7
          · skip
            refine ⟨by omega, ?_⟩
            exact hQ _ _ I7
          · skip
            refine v_X11_has ?_
            have f11 := dAndE (x := ((M7.1 47 5).toUInt32 >>> (x1.toUInt32 &&& Int32.toUInt32 31)).toInt32) (y := (1 : Int32)) (by decide)
            refine ⟨fun hc12 => ?_, fun hc12 => ?_⟩
            · skip
              have f13 := ti_0
              refine ⟨fun hc14 => ?_, fun hc14 => ?_⟩
              · skip
                exact hQ _ _ I7
              · skip
                exfalso; omega
            · skip
              refine ⟨fun hc13 => ?_, fun hc13 => ?_⟩
              · skip
                exfalso; omega
              · skip
                exact hQ _ _ I7
          · skip
            refine ⟨fun hc11 => ?_, fun hc11 => ?_⟩
            · skip
              exfalso; omega
            · skip
              exact hQ _ _ I7
          · skip
            refine ⟨fun hc11 => ?_, fun hc11 => ?_⟩
            · skip
              exfalso; omega
            · skip
              refine Wp.deep (s_X0_payOf_54_47 hG I7 (by omega) (fun R12 M12 I12 hr12 => ?_)) (Nat.le_of_ble_eq_true rfl)
              exact hQ _ _ I12
          · skip
            have f11 := ti_m1
            exact hQ _ _ I7
      · skip
        exfalso; omega
theorem s_X7_writeTo_47_52 {g : gM} {x2 : Int32} {m : dM} {Q : dM → Prop} (hG : Gd g) (hI : Inv g m) (hQ : ∀ m' : dM, Inv g m' → Q m') : c_X7_writeTo_47_52 1 x2 m Q := by
  refine v_X7_writeTo_47_52 ?_
  refine ⟨fun hc1 => ?_, fun hc1 => ?_⟩
  · skip
    refine v_X7_writeTo_47_52_13 ?_
    exact hQ _ hI
  · skip
    have f2 := dSubE (X := 1320) (Y := 33) (x := (1320 : Int32)) (y := (33 : Int32)) (by decide) (by decide) (by omega) (by omega)
    refine ⟨fun hc3 => ?_, fun hc3 => ?_⟩
    · skip
      refine ⟨by omega, ?_⟩
      have f4 := dAddE (X := x2.toInt) (Y := 1) (x := x2) (y := (1 : Int32)) rfl (by decide) (by omega) (by omega)
      refine ⟨by omega, ?_⟩
      have f5 := dAddE (X := x2.toInt) (Y := 2) (x := x2) (y := (2 : Int32)) rfl (by decide) (by omega) (by omega)
      refine ⟨by omega, ?_⟩
      have f6 := dAddE (X := x2.toInt) (Y := 3) (x := x2) (y := (3 : Int32)) rfl (by decide) (by omega) (by omega)
      refine ⟨by omega, ?_⟩
      have f7 := dAddE (X := x2.toInt) (Y := 4) (x := x2) (y := (4 : Int32)) rfl (by decide) (by omega) (by omega)
      refine ⟨by omega, ?_⟩
      have f8 := dAddE (X := x2.toInt) (Y := 5) (x := x2) (y := (5 : Int32)) rfl (by decide) (by omega) (by omega)
      refine ⟨by omega, ?_⟩
      have f9 := ti_10
      have f10 := dAddE (X := x2.toInt) (Y := 6) (x := x2) (y := (6 : Int32)) rfl (by decide) (by omega) (by omega)
      have f11 := ti_0
      refine ⟨by omega, ?_⟩
      have f12 := dAddE (X := (x2 + (6 : Int32)).toInt) (Y := 10) (x := (x2 + (6 : Int32))) (y := (10 : Int32)) rfl (by decide) (by omega) (by omega)
      refine ⟨by omega, ?_⟩
      have f13 := ti_7
      have f14 := dAddE (X := (x2 + (6 : Int32)).toInt) (Y := 20) (x := (x2 + (6 : Int32))) (y := (20 : Int32)) rfl (by decide) (by omega) (by omega)
      refine ⟨by omega, ?_⟩
      have I15 : Inv g (dSet m 52 x2.toNatClampNeg (m.1 47 0)) := (Inv.setA hI rfl)
      have I16 : Inv g (dSet (dSet m 52 x2.toNatClampNeg (m.1 47 0)) 52 (x2 + (1 : Int32)).toNatClampNeg (m.1 47 1)) := (Inv.setA I15 rfl)
      have I17 : Inv g (dSet (dSet (dSet m 52 x2.toNatClampNeg (m.1 47 0)) 52 (x2 + (1 : Int32)).toNatClampNeg (m.1 47 1)) 52 (x2 + (2 : Int32)).toNatClampNeg (m.1 47 2)) := (Inv.setA I16 rfl)
      have I18 : Inv g (dSet (dSet (dSet (dSet m 52 x2.toNatClampNeg (m.1 47 0)) 52 (x2 + (1 : Int32)).toNatClampNeg (m.1 47 1)) 52 (x2 + (2 : Int32)).toNatClampNeg (m.1 47 2)) 52 (x2 + (3 : Int32)).toNatClampNeg (m.1 47 3)) := (Inv.setA I17 rfl)
      have I19 : Inv g (dSet (dSet (dSet (dSet (dSet m 52 x2.toNatClampNeg (m.1 47 0)) 52 (x2 + (1 : Int32)).toNatClampNeg (m.1 47 1)) 52 (x2 + (2 : Int32)).toNatClampNeg (m.1 47 2)) 52 (x2 + (3 : Int32)).toNatClampNeg (m.1 47 3)) 52 (x2 + (4 : Int32)).toNatClampNeg (m.1 47 4)) := (Inv.setA I18 rfl)
      have I20 : Inv g (dSet (dSet (dSet (dSet (dSet (dSet m 52 x2.toNatClampNeg (m.1 47 0)) 52 (x2 + (1 : Int32)).toNatClampNeg (m.1 47 1)) 52 (x2 + (2 : Int32)).toNatClampNeg (m.1 47 2)) 52 (x2 + (3 : Int32)).toNatClampNeg (m.1 47 3)) 52 (x2 + (4 : Int32)).toNatClampNeg (m.1 47 4)) 52 (x2 + (5 : Int32)).toNatClampNeg (m.1 47 5)) := (Inv.setA I19 rfl)
      have I21 : Inv g (dCpy (dSet (dSet (dSet (dSet (dSet (dSet m 52 x2.toNatClampNeg (m.1 47 0)) 52 (x2 + (1 : Int32)).toNatClampNeg (m.1 47 1)) 52 (x2 + (2 : Int32)).toNatClampNeg (m.1 47 2)) 52 (x2 + (3 : Int32)).toNatClampNeg (m.1 47 3)) 52 (x2 + (4 : Int32)).toNatClampNeg (m.1 47 4)) 52 (x2 + (5 : Int32)).toNatClampNeg (m.1 47 5)) 48 (0 : Int).toNat 52 ((x2 + (6 : Int32)).toInt).toNat (10 : Int).toNat) := (Inv.cpy I20 (fun _ => rfl))
      have I22 : Inv g (dCpy (dCpy (dSet (dSet (dSet (dSet (dSet (dSet m 52 x2.toNatClampNeg (m.1 47 0)) 52 (x2 + (1 : Int32)).toNatClampNeg (m.1 47 1)) 52 (x2 + (2 : Int32)).toNatClampNeg (m.1 47 2)) 52 (x2 + (3 : Int32)).toNatClampNeg (m.1 47 3)) 52 (x2 + (4 : Int32)).toNatClampNeg (m.1 47 4)) 52 (x2 + (5 : Int32)).toNatClampNeg (m.1 47 5)) 48 (0 : Int).toNat 52 ((x2 + (6 : Int32)).toInt).toNat (10 : Int).toNat) 49 (0 : Int).toNat 52 (((x2 + (6 : Int32)) + (10 : Int32)).toInt).toNat (10 : Int).toNat) := (Inv.cpy I21 (fun _ => rfl))
      have I23 : Inv g (dCpy (dCpy (dCpy (dSet (dSet (dSet (dSet (dSet (dSet m 52 x2.toNatClampNeg (m.1 47 0)) 52 (x2 + (1 : Int32)).toNatClampNeg (m.1 47 1)) 52 (x2 + (2 : Int32)).toNatClampNeg (m.1 47 2)) 52 (x2 + (3 : Int32)).toNatClampNeg (m.1 47 3)) 52 (x2 + (4 : Int32)).toNatClampNeg (m.1 47 4)) 52 (x2 + (5 : Int32)).toNatClampNeg (m.1 47 5)) 48 (0 : Int).toNat 52 ((x2 + (6 : Int32)).toInt).toNat (10 : Int).toNat) 49 (0 : Int).toNat 52 (((x2 + (6 : Int32)) + (10 : Int32)).toInt).toNat (10 : Int).toNat) 50 (0 : Int).toNat 52 (((x2 + (6 : Int32)) + (20 : Int32)).toInt).toNat (7 : Int).toNat) := (Inv.cpy I22 (fun _ => rfl))
      exact hQ _ I23
    · skip
      refine v_X7_writeTo_47_52_13 ?_
      exact hQ _ hI
theorem s_X6_keep_51_47 {g : gM} {m : dM} {Q : dM → Prop} (hG : Gd g) (hI : Inv g m) (hQ : ∀ m' : dM, Inv g m' → Q m') : c_X6_keep_51_47 2 m Q := by
  refine v_X6_keep_51_47 ?_
  refine Wp.deep (s_X7_writeTo_47_52 hG hI (fun M1 I1 => ?_)) (Nat.le_of_ble_eq_true rfl)
  have I2 : Inv g (dSet M1 51 2 (((M1.1 51 2) + (1 : Int32)) - ((M1.1 51 2) + (1 : Int32)) / (40 : Int32) * (40 : Int32))) := (Inv.setA I1 rfl)
  have I3 : Inv g (dSet (dSet M1 51 2 (((M1.1 51 2) + (1 : Int32)) - ((M1.1 51 2) + (1 : Int32)) / (40 : Int32) * (40 : Int32))) 51 3 (if (40 : Int32) < ((M1.1 51 3) + (1 : Int32)) then (40 : Int32) else ((M1.1 51 3) + (1 : Int32)))) := (Inv.setA I2 rfl)
  exact hQ _ I3
theorem s_X11_agree_0 {g : gM} {x1 : Int32} {x2 : Int32} {m : dM} {Q : Int32 → dM → Prop} (hG : Gd g) (hI : Inv g m) (h2 : 0 ≤ x2.toInt ∧ x2.toInt ≤ 1) (hQ : ∀ (r : Int32) (m' : dM), Inv g m' → (0 ≤ r.toInt ∧ r.toInt ≤ 1) → Q r m') : c_X11_agree_0 3 x1 x2 m Q := by
  refine v_X11_agree_0 ?_
  refine v_X11_isUse_0 ?_
  refine ⟨fun hc1 => ?_, fun hc1 => ?_⟩
  · skip
    refine v_X11_isUse_0_19 ?_
    have f2 := ti_0
    refine ⟨fun hc3 => ?_, fun hc3 => ?_⟩
    · skip
      refine v_X11_agree_0_23 ?_
      exact hQ _ _ hI (by omega)
    · skip
      exfalso; omega
  · skip
    have f2 := congrArg Int32.toInt (hI.2 2 2 rfl)
    have f3 := Inv.s hG hI (k := 2) (j := 2) rfl rfl
    refine ⟨fun hc4 => ?_, fun hc4 => ?_⟩
    · skip
      refine v_X11_isUse_0_19 ?_
      have f5 := ti_0
      refine ⟨fun hc6 => ?_, fun hc6 => ?_⟩
      · skip
        refine v_X11_agree_0_23 ?_
        exact hQ _ _ hI (by omega)
      · skip
        exfalso; omega
    · skip
      have f5 := ti_1
      refine ⟨fun hc6 => ?_, fun hc6 => ?_⟩
      · skip
        exfalso; omega
      · skip
        refine v_X11_has ?_
        have f7 := dAndE (x := ((m.1 47 5).toUInt32 >>> (x1.toUInt32 &&& Int32.toUInt32 31)).toInt32) (y := (1 : Int32)) (by decide)
        refine ⟨fun hc8 => ?_, fun hc8 => ?_⟩
        · skip
          have f9 := ti_0
          refine ⟨fun hc10 => ?_, fun hc10 => ?_⟩
          · skip
            refine Wp.deep (s_X6_keep_51_47 hG hI (fun M11 I11 => ?_)) (Nat.le_of_ble_eq_true rfl)
            have I12 : Inv g (dSet M11 47 5 ((M11.1 47 5) ^^^ ((1 : Int32) <<< (x1 &&& 31)))) := (Inv.setA I11 rfl)
            exact hQ _ _ I12 (by omega)
          · skip
            refine v_X11_agree_0_23 ?_
            exact hQ _ _ hI (by omega)
        · skip
          refine ⟨fun hc9 => ?_, fun hc9 => ?_⟩
          · skip
            refine Wp.deep (s_X6_keep_51_47 hG hI (fun M10 I10 => ?_)) (Nat.le_of_ble_eq_true rfl)
            have I11 : Inv g (dSet M10 47 5 ((M10.1 47 5) ^^^ ((1 : Int32) <<< (x1 &&& 31)))) := (Inv.setA I10 rfl)
            exact hQ _ _ I11 (by omega)
          · skip
            refine v_X11_agree_0_23 ?_
            have f10 := ti_0
            exact hQ _ _ hI (by omega)
theorem s_X12_records_70_all {g : gM} {Q : dM → Prop} (hG : Gd g) (hQ : ∀ m' : dM, Inv g m' → Q m') : ∀ n : Nat, (∀ (x1 : Int32) (m : dM), Inv g m → (0 ≤ x1.toInt ∧ x1.toInt ≤ 2262) → (40 ≤ (m.1 70 61).toInt ∧ (m.1 70 61).toInt ≤ 40) → 2322 - 1 * x1.toInt < (n : Int) → j_X12_records_70_11 2 x1 m Q) ∧ (∀ (m : dM), Inv g m → (0 ≤ (m.1 70 61).toInt ∧ (m.1 70 61).toInt ≤ 39) → 59 < (n : Int) → j_X12_records_70_49 2 m Q) ∧ (∀ (x1 : Int32) (m : dM), Inv g m → (0 ≤ x1.toInt ∧ x1.toInt ≤ 58) → (0 ≤ (m.1 70 61).toInt ∧ (m.1 70 61).toInt ≤ 39) → 58 - 1 * x1.toInt < (n : Int) → j_X12_records_70_51 2 x1 m Q) := by
  intro n
  induction n with
  | zero => exact ⟨fun x1 m hI h1 hk70_61 hμ => by exfalso; omega, fun m hI hk70_61 hμ => by exfalso; omega, fun x1 m hI h1 hk70_61 hμ => by exfalso; omega⟩
  | succ n ih =>
    refine ⟨?_, ?_, ?_⟩
    · intro x1 m hI h1 hk70_61 hμ
      refine v_X12_records_70_11 ?_
      refine ⟨fun hc1 => ?_, fun hc1 => ?_⟩
      · skip
        have f2 := Inv.w hI (k := 70) (j := 61) rfl
        have f3 := dSubE (X := (m.1 70 61).toInt) (Y := 1) (x := (m.1 70 61)) (y := (1 : Int32)) rfl (by decide) (by omega) (by omega)
        have I4 : Inv g (dSet m 70 61 ((m.1 70 61) - (1 : Int32))) := (Inv.set hI rfl (by omega) (by omega))
        have f5 : ((dSet m 70 61 ((m.1 70 61) - (1 : Int32))).1 70 61).toInt = ((m.1 70 61) - (1 : Int32)).toInt := rfl
        exact ih.2.1 _ I4 (by omega) (by omega)
      · skip
        have f2 := dAddE (X := x1.toInt) (Y := 58) (x := x1) (y := (58 : Int32)) rfl (by decide) (by omega) (by omega)
        refine ⟨by omega, ?_⟩
        refine ⟨by omega, ?_⟩
        have f3 := dAddE (X := x1.toInt) (Y := 1) (x := x1) (y := (1 : Int32)) rfl (by decide) (by omega) (by omega)
        have I4 : Inv g (dSet m 111 x1.toNatClampNeg (m.1 111 (x1 + (58 : Int32)).toNatClampNeg)) := (Inv.setA hI rfl)
        have f5 := Inv.w hI (k := 70) (j := 61) rfl
        have f6 : ((dSet m 111 x1.toNatClampNeg (m.1 111 (x1 + (58 : Int32)).toNatClampNeg)).1 70 61).toInt = (m.1 70 61).toInt := rfl
        exact ih.1 _ _ I4 (by omega) (by omega) (by omega)
    · intro m hI hk70_61 hμ
      refine v_X12_records_70_49 ?_
      have f1 := ti_0
      have f2 := Inv.w hI (k := 70) (j := 61) rfl
      exact ih.2.2 _ _ hI (by omega) (by omega) (by omega)
    · intro x1 m hI h1 hk70_61 hμ
      refine v_X12_records_70_51 ?_
      refine ⟨fun hc1 => ?_, fun hc1 => ?_⟩
      · skip
        have f2 := Inv.w hI (k := 70) (j := 61) rfl
        have f3 := dAddE (X := (m.1 70 61).toInt) (Y := 1) (x := (m.1 70 61)) (y := (1 : Int32)) rfl (by decide) (by omega) (by omega)
        have I4 : Inv g (dSet m 70 61 ((m.1 70 61) + (1 : Int32))) := (Inv.set hI rfl (by omega) (by omega))
        refine Wp.deep (s_X12_keepsRow_70 hG I4 (fun M5 I5 => ?_)) (Nat.le_of_ble_eq_true rfl)
        exact hQ _ I5
      · skip
        refine ⟨by omega, ?_⟩
        have f2 := Inv.w hI (k := 70) (j := 61) rfl
        have f3 := dMulE (X := 58) (Y := (m.1 70 61).toInt) (x := (58 : Int32)) (y := (m.1 70 61)) (by decide) rfl (by omega) (by omega)
        have f4 := dAddE (X := ((58 : Int32) * (m.1 70 61)).toInt) (Y := x1.toInt) (x := ((58 : Int32) * (m.1 70 61))) (y := x1) rfl rfl (by omega) (by omega)
        refine ⟨by omega, ?_⟩
        have f5 := dAddE (X := x1.toInt) (Y := 1) (x := x1) (y := (1 : Int32)) rfl (by decide) (by omega) (by omega)
        have I6 : Inv g (dSet m 111 (((58 : Int32) * (m.1 70 61)) + x1).toNatClampNeg (m.1 107 x1.toNatClampNeg)) := (Inv.setA hI rfl)
        have f7 : ((dSet m 111 (((58 : Int32) * (m.1 70 61)) + x1).toNatClampNeg (m.1 107 x1.toNatClampNeg)).1 70 61).toInt = (m.1 70 61).toInt := rfl
        exact ih.2.2 _ _ I6 (by omega) (by omega) (by omega)
theorem s_X12_records_70 {g : gM} {m : dM} {Q : dM → Prop} (hG : Gd g) (hI : Inv g m) (hQ : ∀ m' : dM, Inv g m' → Q m') : c_X12_records_70 2 m Q := by
  have hz2 := e_lo (m.1 70 61)
  have hz3 := e_hi (m.1 70 61)
  refine v_X12_records_70 ?_
  have f1 := Inv.w hI (k := 70) (j := 61) rfl
  refine ⟨fun hc2 => ?_, fun hc2 => ?_⟩
  · skip
    exact (s_X12_records_70_all hG hQ 2324).2.1 _ hI (by omega) (by omega)
  · skip
    have f3 := ti_0
    exact (s_X12_records_70_all hG hQ 2324).1 _ _ hI (by omega) (by omega) (by omega)
theorem s_X11_mend_0 {g : gM} {x1 : Int32} {m : dM} {Q : Int32 → dM → Prop} (hG : Gd g) (hI : Inv g m) (hQ : ∀ (r : Int32) (m' : dM), Inv g m' → Q r m') : c_X11_mend_0 5 x1 m Q := by
  refine v_X11_mend_0 ?_
  refine v_X11_isWire_0 ?_
  refine ⟨fun hc1 => ?_, fun hc1 => ?_⟩
  · skip
    refine v_X11_isWire_0_19 ?_
    have f2 := ti_0
    refine ⟨fun hc3 => ?_, fun hc3 => ?_⟩
    · skip
      exfalso; omega
    · skip
      have f4 := ti_m1
      exact hQ _ _ hI
  · skip
    have f2 := congrArg Int32.toInt (hI.2 2 1 rfl)
    have f3 := Inv.s hG hI (k := 2) (j := 1) rfl rfl
    refine ⟨fun hc4 => ?_, fun hc4 => ?_⟩
    · skip
      refine v_X11_isWire_0_19 ?_
      have f5 := ti_0
      refine ⟨fun hc6 => ?_, fun hc6 => ?_⟩
      · skip
        exfalso; omega
      · skip
        have f7 := ti_m1
        exact hQ _ _ hI
    · skip
      have f5 := ti_1
      refine ⟨fun hc6 => ?_, fun hc6 => ?_⟩
      · skip
        refine Wp.deep (s_X0_costOf_54_47 hG hI (by omega) (fun R7 M7 I7 hr7 => ?_)) (Nat.le_of_ble_eq_true rfl)
        refine v_X11_has ?_
        have f8 := dAndE (x := ((M7.1 47 3).toUInt32 >>> (x1.toUInt32 &&& Int32.toUInt32 31)).toInt32) (y := (1 : Int32)) (by decide)
        refine ⟨fun hc9 => ?_, fun hc9 => ?_⟩
        · skip
          have f10 := ti_0
          refine ⟨fun hc11 => ?_, fun hc11 => ?_⟩
          · skip
            refine v_X11_mend_0_48 ?_
            have f12 := ti_m2
            exact hQ _ _ I7
          · skip
            exfalso; omega
        · skip
          refine ⟨fun hc10 => ?_, fun hc10 => ?_⟩
          · skip
            exfalso; omega
          · skip
            refine ⟨fun hc11 => ?_, fun hc11 => ?_⟩
            · skip
              refine Wp.deep (s_X6_keep_51_47 hG I7 (fun M12 I12 => ?_)) (Nat.le_of_ble_eq_true rfl)
              refine ⟨by omega, ?_⟩
              have I13 : Inv g (dSet M12 47 1 ((M12.1 47 1) - R7)) := (Inv.setA I12 rfl)
              have I14 : Inv g (dSet (dSet M12 47 1 ((M12.1 47 1) - R7)) 47 3 ((M12.1 47 3) &&& (((1 : Int32) <<< (x1 &&& 31)) ^^^ (-1 : Int32)))) := (Inv.setA I13 rfl)
              have I15 : Inv g (dSet (dSet (dSet M12 47 1 ((M12.1 47 1) - R7)) 47 3 ((M12.1 47 3) &&& (((1 : Int32) <<< (x1 &&& 31)) ^^^ (-1 : Int32)))) 47 4 ((M12.1 47 4) &&& (((1 : Int32) <<< (x1 &&& 31)) ^^^ (-1 : Int32)))) := (Inv.setA I14 rfl)
              have I16 : Inv g (dSet (dSet (dSet (dSet M12 47 1 ((M12.1 47 1) - R7)) 47 3 ((M12.1 47 3) &&& (((1 : Int32) <<< (x1 &&& 31)) ^^^ (-1 : Int32)))) 47 4 ((M12.1 47 4) &&& (((1 : Int32) <<< (x1 &&& 31)) ^^^ (-1 : Int32)))) 49 x1.toNatClampNeg (0 : Int32)) := (Inv.setA I15 rfl)
              exact hQ _ _ I16
            · skip
              refine v_X11_mend_0_48 ?_
              have f12 := ti_m2
              exact hQ _ _ I7
      · skip
        exfalso; omega
theorem s_X11_thicken_0 {g : gM} {x1 : Int32} {m : dM} {Q : Int32 → dM → Prop} (hG : Gd g) (hI : Inv g m) (hQ : ∀ (r : Int32) (m' : dM), Inv g m' → Q r m') : c_X11_thicken_0 5 x1 m Q := by
  refine v_X11_thicken_0 ?_
  refine v_X11_isWire_0 ?_
  refine ⟨fun hc1 => ?_, fun hc1 => ?_⟩
  · skip
    refine v_X11_isWire_0_19 ?_
    have f2 := ti_0
    refine ⟨fun hc3 => ?_, fun hc3 => ?_⟩
    · skip
      exfalso; omega
    · skip
      have f4 := ti_m1
      exact hQ _ _ hI
  · skip
    have f2 := congrArg Int32.toInt (hI.2 2 1 rfl)
    have f3 := Inv.s hG hI (k := 2) (j := 1) rfl rfl
    refine ⟨fun hc4 => ?_, fun hc4 => ?_⟩
    · skip
      refine v_X11_isWire_0_19 ?_
      have f5 := ti_0
      refine ⟨fun hc6 => ?_, fun hc6 => ?_⟩
      · skip
        exfalso; omega
      · skip
        have f7 := ti_m1
        exact hQ _ _ hI
    · skip
      have f5 := ti_1
      refine ⟨fun hc6 => ?_, fun hc6 => ?_⟩
      · skip
        refine Wp.deep (s_X0_costOf_54_47 hG hI (by omega) (fun R7 M7 I7 hr7 => ?_)) (Nat.le_of_ble_eq_true rfl)
        refine v_X11_has ?_
        have f8 := dAndE (x := ((M7.1 47 3).toUInt32 >>> (x1.toUInt32 &&& Int32.toUInt32 31)).toInt32) (y := (1 : Int32)) (by decide)
        refine ⟨fun hc9 => ?_, fun hc9 => ?_⟩
        · skip
          have f10 := ti_0
          refine ⟨fun hc11 => ?_, fun hc11 => ?_⟩
          · skip
            exfalso; omega
          · skip
            refine ⟨by omega, ?_⟩
            refine ⟨fun hc12 => ?_, fun hc12 => ?_⟩
            · skip
              refine v_X11_thicken_0_62 ?_
              have f13 := ti_m2
              exact hQ _ _ I7
            · skip
              refine ⟨fun hc13 => ?_, fun hc13 => ?_⟩
              · skip
                refine Wp.deep (s_X6_keep_51_47 hG I7 (fun M14 I14 => ?_)) (Nat.le_of_ble_eq_true rfl)
                refine ⟨by omega, ?_⟩
                refine ⟨by omega, ?_⟩
                have I15 : Inv g (dSet M14 47 1 ((M14.1 47 1) - R7)) := (Inv.setA I14 rfl)
                have I16 : Inv g (dSet (dSet M14 47 1 ((M14.1 47 1) - R7)) 48 x1.toNatClampNeg ((M14.1 48 x1.toNatClampNeg) + (1 : Int32))) := (Inv.setA I15 rfl)
                exact hQ _ _ I16
              · skip
                refine v_X11_thicken_0_62 ?_
                have f14 := ti_m2
                exact hQ _ _ I7
        · skip
          refine ⟨fun hc10 => ?_, fun hc10 => ?_⟩
          · skip
            refine v_X11_thicken_0_62 ?_
            have f11 := ti_m2
            exact hQ _ _ I7
          · skip
            exfalso; omega
      · skip
        exfalso; omega
