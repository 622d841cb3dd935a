theorem s_X2_checkLaw_43_all {g : gM} {Q : Int32 → dM → Prop} (hG : Gd g) (hQ : ∀ (r : Int32) (m' : dM), Inv g m' → (0 ≤ r.toInt ∧ r.toInt ≤ 1) → Q r m') : ∀ n : Nat, (∀ (m : dM), Inv g m → 0 < (n : Int) → j_X2_checkLaw_43_24 61 m Q) ∧ (∀ (x1 : Int32) (x2 : Int32) (m : dM), Inv g m → (0 ≤ x1.toInt ∧ x1.toInt ≤ 3) → (0 ≤ x2.toInt ∧ x2.toInt ≤ 4) → 8 - 1 * x2.toInt < (n : Int) → j_X2_checkLaw_43_28 61 x1 x2 m Q) ∧ (∀ (m : dM), Inv g m → 3 < (n : Int) → j_X2_checkLaw_43_114 61 m Q) ∧ (∀ (x1 : Int32) (m : dM), Inv g m → (0 ≤ x1.toInt ∧ x1.toInt ≤ 3) → 2 < (n : Int) → j_X2_checkLaw_43_122 61 x1 m Q) ∧ (∀ (m : dM), Inv g m → 1 < (n : Int) → j_X2_checkLaw_43_144 61 m Q) := by
  intro n
  induction n with
  | zero => exact ⟨fun m hI hμ => by exfalso; omega, fun x1 x2 m hI h1 h2 hμ => by exfalso; omega, fun m hI hμ => by exfalso; omega, fun x1 m hI h1 hμ => by exfalso; omega, fun m hI hμ => by exfalso; omega⟩
  | succ n ih =>
    refine ⟨?_, ?_, ?_, ?_, ?_⟩
    · intro m hI hμ
      refine v_X2_checkLaw_43_24 ?_
      have f1 := ti_0
      exact hQ _ _ hI (by omega)
    · intro x1 x2 m hI h1 h2 hμ
      refine v_X2_checkLaw_43_28 ?_
      refine ⟨fun hc1 => ?_, fun hc1 => ?_⟩
      · skip
        exfalso; omega
      · skip
        refine v_X2_kind_43 ?_
        refine ⟨fun hc2 => ?_, fun hc2 => ?_⟩
        · skip
          refine v_X2_kind_43_32 ?_
          have f3 := ti_24
          refine ⟨fun hc4 => ?_, fun hc4 => ?_⟩
          · skip
            exact ih.2.2.2.1 _ _ hI (by omega) (by omega)
          · skip
            exfalso; omega
        · skip
          refine ⟨fun hc3 => ?_, fun hc3 => ?_⟩
          · skip
            refine v_X2_kind_43_32 ?_
            have f4 := ti_24
            refine ⟨fun hc5 => ?_, fun hc5 => ?_⟩
            · skip
              exact ih.2.2.2.1 _ _ hI (by omega) (by omega)
            · skip
              exfalso; omega
          · skip
            refine ⟨by omega, ?_⟩
            refine ⟨fun hc4 => ?_, fun hc4 => ?_⟩
            · skip
              exact ih.2.2.2.1 _ _ hI (by omega) (by omega)
            · skip
              refine ⟨fun hc5 => ?_, fun hc5 => ?_⟩
              · skip
                refine Wp.deep (s_X2_step_43 hG hI (fun R6 M6 I6 hr6 => ?_)) (Nat.le_of_ble_eq_true rfl)
                refine ⟨fun hc7 => ?_, fun hc7 => ?_⟩
                · skip
                  exact ih.2.2.1 _ I6 (by omega)
                · skip
                  have f8 := ti_0
                  refine Wp.deep (s_X2_sum_43_L0 hG I6 (by omega) (fun R9 M9 I9 hr9 => ?_)) (Nat.le_of_ble_eq_true rfl)
                  refine ⟨fun hc10 => ?_, fun hc10 => ?_⟩
                  · skip
                    exact ih.2.2.1 _ I9 (by omega)
                  · skip
                    have f11 := ti_60
                    refine Wp.deep (s_X2_endPiece_43 hG I9 (by omega) (by omega) (fun R12 M12 I12 hr12 => ?_)) (Nat.le_of_ble_eq_true rfl)
                    refine ⟨fun hc13 => ?_, fun hc13 => ?_⟩
                    · skip
                      exact ih.2.2.1 _ I12 (by omega)
                    · skip
                      refine Wp.deep (s_X2_sum_43_L0 hG I12 (by omega) (fun R14 M14 I14 hr14 => ?_)) (Nat.le_of_ble_eq_true rfl)
                      refine ⟨fun hc15 => ?_, fun hc15 => ?_⟩
                      · skip
                        exact ih.2.2.1 _ I14 (by omega)
                      · skip
                        have f16 := ti_11
                        refine Wp.deep (s_X2_endPiece_43 hG I14 (by omega) (by omega) (fun R17 M17 I17 hr17 => ?_)) (Nat.le_of_ble_eq_true rfl)
                        refine ⟨fun hc18 => ?_, fun hc18 => ?_⟩
                        · skip
                          exact ih.2.2.1 _ I17 (by omega)
                        · skip
                          refine Wp.deep (s_X2_sum_43_L0 hG I17 (by omega) (fun R19 M19 I19 hr19 => ?_)) (Nat.le_of_ble_eq_true rfl)
                          refine ⟨fun hc20 => ?_, fun hc20 => ?_⟩
                          · skip
                            exact ih.2.2.1 _ I19 (by omega)
                          · skip
                            have f21 := ti_12
                            refine Wp.deep (s_X2_endPiece_43 hG I19 (by omega) (by omega) (fun R22 M22 I22 hr22 => ?_)) (Nat.le_of_ble_eq_true rfl)
                            refine ⟨fun hc23 => ?_, fun hc23 => ?_⟩
                            · skip
                              have f24 := dAddE (X := x2.toInt) (Y := 1) (x := x2) (y := (1 : Int32)) rfl (by decide) (by omega) (by omega)
                              exact ih.2.1 _ _ _ I22 (by omega) (by omega) (by omega)
                            · skip
                              exact ih.2.2.1 _ I22 (by omega)
              · skip
                have f6 := ti_2
                refine Wp.deep (s_X2_fail_43 hG hI (fun R7 M7 I7 hr7 => ?_)) (Nat.le_of_ble_eq_true rfl)
                refine ⟨dB01 (by omega), ?_⟩
                exact hQ _ _ I7 (by omega)
    · intro m hI hμ
      refine v_X2_checkLaw_43_114 ?_
      have f1 := ti_0
      exact hQ _ _ hI (by omega)
    · intro x1 m hI h1 hμ
      refine v_X2_checkLaw_43_122 ?_
      have f1 := ti_0
      refine Wp.deep (s_X2_sum_43_L0 hG hI (by omega) (fun R2 M2 I2 hr2 => ?_)) (Nat.le_of_ble_eq_true rfl)
      refine ⟨fun hc3 => ?_, fun hc3 => ?_⟩
      · skip
        exact ih.2.2.2.2 _ I2 (by omega)
      · skip
        have f4 := ti_59
        refine Wp.deep (s_X2_endPiece_43 hG I2 (by omega) (by omega) (fun R5 M5 I5 hr5 => ?_)) (Nat.le_of_ble_eq_true rfl)
        refine ⟨fun hc6 => ?_, fun hc6 => ?_⟩
        · skip
          exact ih.2.2.2.2 _ I5 (by omega)
        · skip
          have f7 := ti_1
          exact hQ _ _ I5 (by omega)
    · intro m hI hμ
      refine v_X2_checkLaw_43_144 ?_
      have f1 := ti_0
      exact hQ _ _ hI (by omega)
theorem s_X2_checkLaw_43 {g : gM} {x1 : Int32} {m : dM} {Q : Int32 → dM → Prop} (hG : Gd g) (hI : Inv g m) (h1 : 0 ≤ x1.toInt ∧ x1.toInt ≤ 3) (hQ : ∀ (r : Int32) (m' : dM), Inv g m' → (0 ≤ r.toInt ∧ r.toInt ≤ 1) → Q r m') : c_X2_checkLaw_43 61 x1 m Q := by
  refine v_X2_checkLaw_43 ?_
  refine Wp.deep (s_X4_begin_29 hG hI (by omega) (fun M1 I1 => ?_)) (Nat.le_of_ble_eq_true rfl)
  refine Wp.deep (s_X2_step_43 hG I1 (fun R2 M2 I2 hr2 => ?_)) (Nat.le_of_ble_eq_true rfl)
  refine ⟨fun hc3 => ?_, fun hc3 => ?_⟩
  · skip
    exact (s_X2_checkLaw_43_all hG hQ 10).1 _ I2 (by omega)
  · skip
    have f4 := ti_61
    refine Wp.deep (s_X2_need_43 hG I2 (fun R5 M5 I5 hr5 => ?_)) (Nat.le_of_ble_eq_true rfl)
    refine ⟨fun hc6 => ?_, fun hc6 => ?_⟩
    · skip
      have f7 := ti_0
      exact (s_X2_checkLaw_43_all hG hQ 10).2.1 _ _ _ I5 (by omega) (by omega) (by omega)
    · skip
      exact (s_X2_checkLaw_43_all hG hQ 10).1 _ I5 (by omega)
theorem s_X2_checkTold_43 {g : gM} {x1 : Int32} {m : dM} {Q : dM → Prop} (hG : Gd g) (hI : Inv g m) (hQ : ∀ m' : dM, Inv g m' → Q m') : c_X2_checkTold_43 62 x1 m Q := by
  refine v_X2_checkTold_43 ?_
  refine ⟨fun hc1 => ?_, fun hc1 => ?_, fun hc1 => ?_, fun hc1 => ?_, fun hc1 => ?_, fun hc1 => ?_, fun hc1 => ?_, fun hc1 => ?_, fun hc1 => ?_, fun hc1 => ?_, fun hc1 => ?_⟩
  · skip
    have f2 := ti_7
    have f3 := ti_1
    have I4 : Inv g (dSet m 43 4 ((m.1 43 4) + (1 : Int32))) := (Inv.setA hI rfl)
    refine Wp.deep (s_X2_checkCounted_43 hG I4 (by omega) (by omega) (by omega) (fun M5 I5 => ?_)) (Nat.le_of_ble_eq_true rfl)
    refine v_X2_checkTold_43_165 ?_
    exact hQ _ I5
  · skip
    have f2 := ti_10
    have f3 := ti_2
    have f4 := ti_1
    have I5 : Inv g (dSet m 43 5 ((m.1 43 5) + (1 : Int32))) := (Inv.setA hI rfl)
    refine Wp.deep (s_X2_checkCounted_43 hG I5 (by omega) (by omega) (by omega) (fun M6 I6 => ?_)) (Nat.le_of_ble_eq_true rfl)
    refine v_X2_checkTold_43_165 ?_
    exact hQ _ I6
  · skip
    have f2 := ti_8
    have f3 := ti_2
    have f4 := ti_3
    have I5 : Inv g (dSet m 43 6 ((m.1 43 6) + (1 : Int32))) := (Inv.setA hI rfl)
    refine Wp.deep (s_X2_checkCounted_43 hG I5 (by omega) (by omega) (by omega) (fun M6 I6 => ?_)) (Nat.le_of_ble_eq_true rfl)
    refine v_X2_checkTold_43_165 ?_
    exact hQ _ I6
  · skip
    have f2 := dSubE (X := x1.toInt) (Y := 3) (x := x1) (y := (3 : Int32)) rfl (by decide) (by omega) (by omega)
    refine Wp.deep (s_X2_checkLaw_43 hG hI (by omega) (fun R3 M3 I3 hr3 => ?_)) (Nat.le_of_ble_eq_true rfl)
    refine v_X2_checkTold_43_165 ?_
    exact hQ _ I3
  · skip
    have f2 := dSubE (X := x1.toInt) (Y := 3) (x := x1) (y := (3 : Int32)) rfl (by decide) (by omega) (by omega)
    refine Wp.deep (s_X2_checkLaw_43 hG hI (by omega) (fun R3 M3 I3 hr3 => ?_)) (Nat.le_of_ble_eq_true rfl)
    refine v_X2_checkTold_43_165 ?_
    exact hQ _ I3
  · skip
    have f2 := dSubE (X := x1.toInt) (Y := 3) (x := x1) (y := (3 : Int32)) rfl (by decide) (by omega) (by omega)
    refine Wp.deep (s_X2_checkLaw_43 hG hI (by omega) (fun R3 M3 I3 hr3 => ?_)) (Nat.le_of_ble_eq_true rfl)
    refine v_X2_checkTold_43_165 ?_
    exact hQ _ I3
  · skip
    have f2 := dSubE (X := x1.toInt) (Y := 3) (x := x1) (y := (3 : Int32)) rfl (by decide) (by omega) (by omega)
    refine Wp.deep (s_X2_checkLaw_43 hG hI (by omega) (fun R3 M3 I3 hr3 => ?_)) (Nat.le_of_ble_eq_true rfl)
    refine v_X2_checkTold_43_165 ?_
    exact hQ _ I3
  · skip
    have f2 := ti_0
    have f3 := ti_2
    refine Wp.deep (s_X2_checkRow_43 hG hI (by omega) (by omega) (fun M4 I4 => ?_)) (Nat.le_of_ble_eq_true rfl)
    refine v_X2_checkTold_43_165 ?_
    exact hQ _ I4
  · skip
    have f2 := ti_0
    have f3 := ti_1
    refine Wp.deep (s_X2_checkRow_43 hG hI (by omega) (by omega) (fun M4 I4 => ?_)) (Nat.le_of_ble_eq_true rfl)
    refine v_X2_checkTold_43_165 ?_
    exact hQ _ I4
  · skip
    have f2 := ti_0
    have f3 := ti_1
    refine Wp.deep (s_X2_checkRow_43 hG hI (by omega) (by omega) (fun M4 I4 => ?_)) (Nat.le_of_ble_eq_true rfl)
    refine v_X2_checkTold_43_165 ?_
    exact hQ _ I4
  · skip
    refine v_X2_checkTold_43_165 ?_
    have I2 : Inv g (dSet m 43 3 (1 : Int32)) := (Inv.setA hI rfl)
    exact hQ _ I2
theorem s_X2_check_43_all {g : gM} {Q : Int32 → dM → Prop} (hG : Gd g) (hQ : ∀ (r : Int32) (m' : dM), Inv g m' → Q r m') : ∀ n : Nat, (∀ (x1 : Int32) (m : dM), Inv g m → (0 ≤ x1.toInt ∧ x1.toInt ≤ 401) → 402 - 1 * x1.toInt < (n : Int) → j_X2_check_43_27 63 x1 m Q) ∧ (∀ (m : dM), Inv g m → 0 < (n : Int) → j_X2_check_43_64 63 m Q) := by
  intro n
  induction n with
  | zero => exact ⟨fun x1 m hI h1 hμ => by exfalso; omega, fun m hI hμ => by exfalso; omega⟩
  | succ n ih =>
    refine ⟨?_, ?_⟩
    · intro x1 m hI h1 hμ
      refine v_X2_check_43_27 ?_
      refine ⟨fun hc1 => ?_, fun hc1 => ?_⟩
      · skip
        exact ih.2 _ hI (by omega)
      · skip
        refine ⟨fun hc2 => ?_, fun hc2 => ?_⟩
        · skip
          exact ih.2 _ hI (by omega)
        · skip
          refine v_X2_kind_43 ?_
          refine ⟨fun hc3 => ?_, fun hc3 => ?_⟩
          · skip
            refine v_X2_kind_43_32 ?_
            have f4 := ti_24
            refine ⟨fun hc5 => ?_, fun hc5 => ?_⟩
            · skip
              exact ih.2 _ hI (by omega)
            · skip
              exfalso; omega
          · skip
            refine ⟨fun hc4 => ?_, fun hc4 => ?_⟩
            · skip
              refine v_X2_kind_43_32 ?_
              have f5 := ti_24
              refine ⟨fun hc6 => ?_, fun hc6 => ?_⟩
              · skip
                exact ih.2 _ hI (by omega)
              · skip
                exfalso; omega
            · skip
              refine ⟨by omega, ?_⟩
              refine ⟨fun hc5 => ?_, fun hc5 => ?_⟩
              · skip
                exact ih.2 _ hI (by omega)
              · skip
                refine v_X2_kind_43 ?_
                refine ⟨fun hc6 => ?_, fun hc6 => ?_⟩
                · skip
                  exfalso; omega
                · skip
                  refine ⟨fun hc7 => ?_, fun hc7 => ?_⟩
                  · skip
                    exfalso; omega
                  · skip
                    refine ⟨by omega, ?_⟩
                    refine Wp.deep (s_X2_checkTold_43 hG hI (fun M8 I8 => ?_)) (Nat.le_of_ble_eq_true rfl)
                    have f9 := dAddE (X := x1.toInt) (Y := 1) (x := x1) (y := (1 : Int32)) rfl (by decide) (by omega) (by omega)
                    exact ih.1 _ _ I8 (by omega) (by omega)
    · intro m hI hμ
      refine v_X2_check_43_64 ?_
      exact hQ _ _ hI
theorem s_X2_check_43 {g : gM} {m : dM} {Q : Int32 → dM → Prop} (hG : Gd g) (hI : Inv g m) (hQ : ∀ (r : Int32) (m' : dM), Inv g m' → Q r m') : c_X2_check_43 63 m Q := by
  refine v_X2_check_43 ?_
  have f1 := ti_0
  have I2 : Inv g (dSet m 43 2 (0 : Int32)) := (Inv.setA hI rfl)
  have I3 : Inv g (dSet (dSet m 43 2 (0 : Int32)) 43 3 (0 : Int32)) := (Inv.setA I2 rfl)
  have I4 : Inv g (dSet (dSet (dSet m 43 2 (0 : Int32)) 43 3 (0 : Int32)) 43 4 (0 : Int32)) := (Inv.setA I3 rfl)
  have I5 : Inv g (dSet (dSet (dSet (dSet m 43 2 (0 : Int32)) 43 3 (0 : Int32)) 43 4 (0 : Int32)) 43 5 (0 : Int32)) := (Inv.setA I4 rfl)
  have I6 : Inv g (dSet (dSet (dSet (dSet (dSet m 43 2 (0 : Int32)) 43 3 (0 : Int32)) 43 4 (0 : Int32)) 43 5 (0 : Int32)) 43 6 (0 : Int32)) := (Inv.setA I5 rfl)
  exact (s_X2_check_43_all hG hQ 404).1 _ _ I6 (by omega) (by omega)
theorem s_X12_copies_70_all {g : gM} {Q : dM → Prop} (hG : Gd g) (hQ : ∀ m' : dM, Inv g m' → Q m') : ∀ n : Nat, (∀ (x1 : Int32) (m : dM), Inv g m → (0 ≤ x1.toInt ∧ x1.toInt ≤ 58) → 58 - 1 * x1.toInt < (n : Int) → j_X12_copies_70_2 21 x1 m Q) := by
  intro n
  induction n with
  | zero => exact fun x1 m hI h1 hμ => by exfalso; omega
  | succ n ih =>
    · intro x1 m hI h1 hμ
      refine v_X12_copies_70_2 ?_
      refine ⟨fun hc1 => ?_, fun hc1 => ?_⟩
      · skip
        have f2 := congrArg Int32.toInt (hI.2 70 18 rfl)
        have f3 := Inv.s hG hI (k := 70) (j := 18) rfl rfl
        refine ⟨by omega, ?_⟩
        have I4 : Inv g (dSet m 70 56 (m.1 94 (m.1 70 18).toNatClampNeg)) := (Inv.setA hI rfl)
        have I5 : Inv g (dSet (dSet m 70 56 (m.1 94 (m.1 70 18).toNatClampNeg)) 70 57 (0 : Int32)) := (Inv.setA I4 rfl)
        refine Wp.deep (s_X12_fillsWays_70 hG I5 (fun M6 I6 => ?_)) (Nat.le_of_ble_eq_true rfl)
        exact hQ _ I6
      · skip
        refine ⟨by omega, ?_⟩
        refine ⟨by omega, ?_⟩
        have f2 := dAddE (X := x1.toInt) (Y := 1) (x := x1) (y := (1 : Int32)) rfl (by decide) (by omega) (by omega)
        have I3 : Inv g (dSet m 108 x1.toNatClampNeg (m.1 107 x1.toNatClampNeg)) := (Inv.setA hI rfl)
        exact ih _ _ I3 (by omega) (by omega)
theorem s_X12_copies_70 {g : gM} {m : dM} {Q : dM → Prop} (hG : Gd g) (hI : Inv g m) (hQ : ∀ m' : dM, Inv g m' → Q m') : c_X12_copies_70 21 m Q := by
  refine v_X12_copies_70 ?_
  have f1 := ti_0
  exact (s_X12_copies_70_all hG hQ 60) _ _ hI (by omega) (by omega)
theorem s_X12_quarrelOf_70 {g : gM} {x1 : Int32} {m : dM} {Q : Int32 → dM → Prop} (hG : Gd g) (hI : Inv g m) (h1 : 0 ≤ x1.toInt ∧ x1.toInt ≤ 6) (hQ : ∀ (r : Int32) (m' : dM), Inv g m' → (0 ≤ r.toInt ∧ r.toInt ≤ 99) → Q r m') : c_X12_quarrelOf_70 21 x1 m Q := by
  refine v_X12_quarrelOf_70 ?_
  have f1 := dRemE (x := (m.1 108 55)) (y := (24 : Int32)) (Y := 24) (by decide) (by decide)
  refine Wp.deep (s_X12_looks_70 hG hI (by omega) (by omega) (fun M2 I2 => ?_)) (Nat.le_of_ble_eq_true rfl)
  have f3 := congrArg Int32.toInt (I2.2 70 18 rfl)
  have f4 := Inv.s hG I2 (k := 70) (j := 18) rfl rfl
  have f5 := dMulE (X := 7) (Y := (M2.1 70 18).toInt) (x := (7 : Int32)) (y := (M2.1 70 18)) (by decide) rfl (by omega) (by omega)
  have f6 := dAddE (X := ((7 : Int32) * (M2.1 70 18)).toInt) (Y := x1.toInt) (x := ((7 : Int32) * (M2.1 70 18))) (y := x1) rfl rfl (by omega) (by omega)
  refine ⟨by omega, ?_⟩
  have f7 := dAddE (X := 40) (Y := x1.toInt) (x := (40 : Int32)) (y := x1) (by decide) rfl (by omega) (by omega)
  refine ⟨by omega, ?_⟩
  have f8 := ti_1
  have f9 := ti_0
  have I10 : Inv g (dSet M2 105 6 (M2.1 81 (((7 : Int32) * (M2.1 70 18)) + x1).toNatClampNeg)) := (Inv.setA I2 rfl)
  have I11 : Inv g (dSet (dSet M2 105 6 (M2.1 81 (((7 : Int32) * (M2.1 70 18)) + x1).toNatClampNeg)) 105 7 (M2.1 108 ((40 : Int32) + x1).toNatClampNeg)) := (Inv.setA I10 rfl)
  refine Wp.deep (s_X12_lawTells_70 hG I11 (by omega) (fun R12 M12 I12 => ?_)) (Nat.le_of_ble_eq_true rfl)
  refine v_X12_within ?_
  refine ⟨fun hc13 => ?_, fun hc13 => ?_⟩
  · skip
    have f14 := ti_99
    refine ⟨fun hc15 => ?_, fun hc15 => ?_⟩
    · skip
      exact hQ _ _ I12 (by omega)
    · skip
      exact hQ _ _ I12 (by omega)
  · skip
    exact hQ _ _ I12 (by omega)
theorem s_X12_flat_70 {g : gM} {x1 : Int32} {x2 : Int32} {m : dM} {Q : Int32 → dM → Prop} (hG : Gd g) (hI : Inv g m) (hQ : ∀ (r : Int32) (m' : dM), Inv g m' → Q r m') : c_X12_flat_70 22 x1 x2 m Q := by
  refine v_X12_flat_70 ?_
  refine v_X12_isFlat_70 ?_
  have f1 := congrArg Int32.toInt (hI.2 70 18 rfl)
  have f2 := Inv.s hG hI (k := 70) (j := 18) rfl rfl
  refine ⟨by omega, ?_⟩
  refine v_X12_in ?_
  have f3 := ti_0
  refine ⟨fun hc4 => ?_, fun hc4 => ?_⟩
  · skip
    refine v_X12_in_14 ?_
    refine ⟨by decide, ?_⟩
    refine ⟨fun hc5 => ?_, fun hc5 => ?_⟩
    · skip
      exfalso; omega
    · skip
      have f6 := ti_m1
      exact hQ _ _ hI
  · skip
    have f5 := Inv.cnt80 hG hI
    have f6 := Inv.s hG hI (k := 80) (j := (m.1 70 18).toNatClampNeg) rfl rfl
    have f7 := dSubE (X := (m.1 80 (m.1 70 18).toNatClampNeg).toInt) (Y := 1) (x := (m.1 80 (m.1 70 18).toNatClampNeg)) (y := (1 : Int32)) rfl (by decide) (by omega) (by omega)
    refine ⟨fun hc8 => ?_, fun hc8 => ?_⟩
    · skip
      refine v_X12_in_14 ?_
      refine ⟨by decide, ?_⟩
      refine ⟨fun hc9 => ?_, fun hc9 => ?_⟩
      · skip
        exfalso; omega
      · skip
        have f10 := ti_m1
        exact hQ _ _ hI
    · skip
      have f9 := ti_1
      refine ⟨by decide, ?_⟩
      refine ⟨fun hc10 => ?_, fun hc10 => ?_⟩
      · skip
        refine Wp.deep (s_X12_copies_70 hG hI (fun M11 I11 => ?_)) (Nat.le_of_ble_eq_true rfl)
        refine ⟨fun hc12 => ?_, fun hc12 => ?_, fun hc12 => ?_, fun hc12 => ?_, fun hc12 => ?_, fun hc12 => ?_, fun hc12 => ?_⟩
        · skip
          have f13 := congrArg Int32.toInt (I11.2 70 18 rfl)
          have f14 := Inv.s hG I11 (k := 70) (j := 18) rfl rfl
          have f15 := dMulE (X := 7) (Y := (M11.1 70 18).toInt) (x := (7 : Int32)) (y := (M11.1 70 18)) (by decide) rfl (by omega) (by omega)
          have f16 := dAddE (X := ((7 : Int32) * (M11.1 70 18)).toInt) (Y := x1.toInt) (x := ((7 : Int32) * (M11.1 70 18))) (y := x1) rfl rfl (by omega) (by omega)
          refine ⟨by omega, ?_⟩
          exact hQ _ _ I11
        · skip
          refine v_X12_isLit_70 ?_
          refine ⟨by omega, ?_⟩
          refine ⟨fun hc13 => ?_, fun hc13 => ?_⟩
          · skip
            refine ⟨fun hc14 => ?_, fun hc14 => ?_⟩
            · skip
              exact hQ _ _ I11
            · skip
              exfalso; omega
          · skip
            refine ⟨fun hc14 => ?_, fun hc14 => ?_⟩
            · skip
              exfalso; omega
            · skip
              exact hQ _ _ I11
        · skip
          have f13 := dAddE (X := 40) (Y := x1.toInt) (x := (40 : Int32)) (y := x1) (by decide) rfl (by omega) (by omega)
          refine ⟨by omega, ?_⟩
          exact hQ _ _ I11
        · skip
          refine v_X12_isLit_70 ?_
          refine ⟨by omega, ?_⟩
          refine ⟨fun hc13 => ?_, fun hc13 => ?_⟩
          · skip
            refine ⟨fun hc14 => ?_, fun hc14 => ?_⟩
            · skip
              have f15 := ti_m2
              exact hQ _ _ I11
            · skip
              exfalso; omega
          · skip
            refine ⟨fun hc14 => ?_, fun hc14 => ?_⟩
            · skip
              exfalso; omega
            · skip
              refine ⟨by omega, ?_⟩
              exact hQ _ _ I11
        · skip
          refine Wp.deep (s_X12_quarrelOf_70 hG I11 (by omega) (fun R13 M13 I13 hr13 => ?_)) (Nat.le_of_ble_eq_true rfl)
          exact hQ _ _ I13
        · skip
          refine Wp.deep (s_X12_ampsOn_70 hG I11 (by omega) (fun R13 => ?_)) (Nat.le_of_ble_eq_true rfl)
          exact hQ _ _ I11
        · skip
          have f13 := ti_m1
          exact hQ _ _ I11
      · skip
        exfalso; omega
theorem s_X12_costsOf_70 {g : gM} {x1 : Int32} {m : dM} {Q : Int32 → dM → Prop} (hG : Gd g) (hI : Inv g m) (h1 : 0 ≤ x1.toInt ∧ x1.toInt ≤ 9) (hQ : ∀ (r : Int32) (m' : dM), Inv g m' → (0 ≤ r.toInt ∧ r.toInt ≤ 99) → Q r m') : c_X12_costsOf_70 21 x1 m Q := by
  refine v_X12_costsOf_70 ?_
  have f1 := dRemE (x := (m.1 108 55)) (y := (24 : Int32)) (Y := 24) (by decide) (by decide)
  refine Wp.deep (s_X12_looks_70 hG hI (by omega) (by omega) (fun M2 I2 => ?_)) (Nat.le_of_ble_eq_true rfl)
  refine ⟨by omega, ?_⟩
  have f3 := dAddE (X := 20) (Y := x1.toInt) (x := (20 : Int32)) (y := x1) (by decide) rfl (by omega) (by omega)
  refine ⟨by omega, ?_⟩
  have f4 := ti_2
  have I5 : Inv g (dSet M2 105 1 (M2.1 108 x1.toNatClampNeg)) := (Inv.setA I2 rfl)
  have I6 : Inv g (dSet (dSet M2 105 1 (M2.1 108 x1.toNatClampNeg)) 105 2 (M2.1 108 ((20 : Int32) + x1).toNatClampNeg)) := (Inv.setA I5 rfl)
  refine Wp.deep (s_X12_lawTells_70 hG I6 (by omega) (fun R7 M7 I7 => ?_)) (Nat.le_of_ble_eq_true rfl)
  refine v_X12_within ?_
  have f8 := ti_0
  refine ⟨fun hc9 => ?_, fun hc9 => ?_⟩
  · skip
    have f10 := ti_99
    refine ⟨fun hc11 => ?_, fun hc11 => ?_⟩
    · skip
      exact hQ _ _ I7 (by omega)
    · skip
      exact hQ _ _ I7 (by omega)
  · skip
    exact hQ _ _ I7 (by omega)
theorem s_X12_doesGo_70 {g : gM} {x1 : Int32} {x2 : Int32} {x3 : Int32} {x4 : Int32} {m : dM} {Q : Int32 → dM → Prop} (hG : Gd g) (hI : Inv g m) (h1 : 0 ≤ x1.toInt ∧ x1.toInt ≤ 9) (h3 : -23 ≤ x3.toInt ∧ x3.toInt ≤ 20046) (hQ : ∀ (r : Int32) (m' : dM), Inv g m' → (0 ≤ r.toInt ∧ r.toInt ≤ 1) → Q r m') : c_X12_doesGo_70 21 x1 x2 x3 x4 m Q := by
  refine v_X12_doesGo_70 ?_
  refine v_X12_isWhole_70 ?_
  refine v_X12_isWire_70 ?_
  have f1 := congrArg Int32.toInt (hI.2 70 18 rfl)
  have f2 := Inv.s hG hI (k := 70) (j := 18) rfl rfl
  refine ⟨by omega, ?_⟩
  refine v_X12_in ?_
  have f3 := ti_0
  refine ⟨fun hc4 => ?_, fun hc4 => ?_⟩
  · skip
    exfalso; omega
  · skip
    have f5 := Inv.cnt82 hG hI
    have f6 := Inv.s hG hI (k := 82) (j := (m.1 70 18).toNatClampNeg) rfl rfl
    have f7 := dSubE (X := (m.1 82 (m.1 70 18).toNatClampNeg).toInt) (Y := 1) (x := (m.1 82 (m.1 70 18).toNatClampNeg)) (y := (1 : Int32)) rfl (by decide) (by omega) (by omega)
    refine ⟨fun hc8 => ?_, fun hc8 => ?_⟩
    · skip
      refine v_X12_in_14 ?_
      refine ⟨by decide, ?_⟩
      refine ⟨fun hc9 => ?_, fun hc9 => ?_⟩
      · skip
        refine v_X12_isWhole_70_24 ?_
        refine ⟨fun hc10 => ?_, fun hc10 => ?_⟩
        · skip
          refine v_X12_doesGo_70_21 ?_
          exact hQ _ _ hI (by omega)
        · skip
          exfalso; omega
      · skip
        exfalso; omega
    · skip
      have f9 := ti_1
      refine ⟨by decide, ?_⟩
      refine ⟨fun hc10 => ?_, fun hc10 => ?_⟩
      · skip
        exfalso; omega
      · skip
        have f11 := dAddE (X := 10) (Y := x1.toInt) (x := (10 : Int32)) (y := x1) (by decide) rfl (by omega) (by omega)
        refine ⟨by omega, ?_⟩
        refine ⟨fun hc12 => ?_, fun hc12 => ?_⟩
        · skip
          refine v_X12_isWhole_70_24 ?_
          refine ⟨fun hc13 => ?_, fun hc13 => ?_⟩
          · skip
            refine v_X12_doesGo_70_21 ?_
            exact hQ _ _ hI (by omega)
          · skip
            exfalso; omega
        · skip
          refine ⟨fun hc13 => ?_, fun hc13 => ?_⟩
          · skip
            exfalso; omega
          · skip
            have f14 := dAddE (X := 30) (Y := x1.toInt) (x := (30 : Int32)) (y := x1) (by decide) rfl (by omega) (by omega)
            refine ⟨by omega, ?_⟩
            refine ⟨fun hc15 => ?_, fun hc15 => ?_⟩
            · skip
              refine Wp.deep (s_X12_loadBy_70 hG hI (by omega) (fun R16 => ?_)) (Nat.le_of_ble_eq_true rfl)
              refine ⟨fun hc17 => ?_, fun hc17 => ?_⟩
              · skip
                refine Wp.deep (s_X12_looks_70 hG hI (by omega) (by omega) (fun M18 I18 => ?_)) (Nat.le_of_ble_eq_true rfl)
                refine ⟨by omega, ?_⟩
                have f19 := dAddE (X := 20) (Y := x1.toInt) (x := (20 : Int32)) (y := x1) (by decide) rfl (by omega) (by omega)
                refine ⟨by omega, ?_⟩
                have I20 : Inv g (dSet M18 105 0 (R16 + x4)) := (Inv.setA I18 rfl)
                have I21 : Inv g (dSet (dSet M18 105 0 (R16 + x4)) 105 1 (M18.1 108 x1.toNatClampNeg)) := (Inv.setA I20 rfl)
                have I22 : Inv g (dSet (dSet (dSet M18 105 0 (R16 + x4)) 105 1 (M18.1 108 x1.toNatClampNeg)) 105 2 (M18.1 108 ((20 : Int32) + x1).toNatClampNeg)) := (Inv.setA I21 rfl)
                refine Wp.deep (s_X12_lawTells_70 hG I22 (by omega) (fun R23 M23 I23 => ?_)) (Nat.le_of_ble_eq_true rfl)
                refine ⟨fun hc24 => ?_, fun hc24 => ?_⟩
                · skip
                  exact hQ _ _ I23 (by omega)
                · skip
                  exact hQ _ _ I23 (by omega)
              · skip
                exact hQ _ _ hI (by omega)
            · skip
              refine v_X12_doesGo_70_21 ?_
              exact hQ _ _ hI (by omega)
theorem s_X12_wire_70 {g : gM} {x1 : Int32} {x2 : Int32} {m : dM} {Q : Int32 → dM → Prop} (hG : Gd g) (hI : Inv g m) (hQ : ∀ (r : Int32) (m' : dM), Inv g m' → Q r m') : c_X12_wire_70 22 x1 x2 m Q := by
  refine v_X12_wire_70 ?_
  refine v_X12_isWire_70 ?_
  have f1 := congrArg Int32.toInt (hI.2 70 18 rfl)
  have f2 := Inv.s hG hI (k := 70) (j := 18) rfl rfl
  refine ⟨by omega, ?_⟩
  refine v_X12_in ?_
  have f3 := ti_0
  refine ⟨fun hc4 => ?_, fun hc4 => ?_⟩
  · skip
    refine v_X12_in_14 ?_
    refine ⟨by decide, ?_⟩
    refine ⟨fun hc5 => ?_, fun hc5 => ?_⟩
    · skip
      exfalso; omega
    · skip
      have f6 := ti_m1
      exact hQ _ _ hI
  · skip
    have f5 := Inv.cnt82 hG hI
    have f6 := Inv.s hG hI (k := 82) (j := (m.1 70 18).toNatClampNeg) rfl rfl
    have f7 := dSubE (X := (m.1 82 (m.1 70 18).toNatClampNeg).toInt) (Y := 1) (x := (m.1 82 (m.1 70 18).toNatClampNeg)) (y := (1 : Int32)) rfl (by decide) (by omega) (by omega)
    refine ⟨fun hc8 => ?_, fun hc8 => ?_⟩
    · skip
      refine v_X12_in_14 ?_
      refine ⟨by decide, ?_⟩
      refine ⟨fun hc9 => ?_, fun hc9 => ?_⟩
      · skip
        exfalso; omega
      · skip
        have f10 := ti_m1
        exact hQ _ _ hI
    · skip
      have f9 := ti_1
      refine ⟨by decide, ?_⟩
      refine ⟨fun hc10 => ?_, fun hc10 => ?_⟩
      · skip
        refine Wp.deep (s_X12_copies_70 hG hI (fun M11 I11 => ?_)) (Nat.le_of_ble_eq_true rfl)
        refine ⟨fun hc12 => ?_, fun hc12 => ?_, fun hc12 => ?_, fun hc12 => ?_, fun hc12 => ?_, fun hc12 => ?_, fun hc12 => ?_, fun hc12 => ?_, fun hc12 => ?_, fun hc12 => ?_⟩
        · skip
          have f13 := congrArg Int32.toInt (I11.2 70 18 rfl)
          have f14 := Inv.s hG I11 (k := 70) (j := 18) rfl rfl
          have f15 := dMulE (X := 10) (Y := (M11.1 70 18).toInt) (x := (10 : Int32)) (y := (M11.1 70 18)) (by decide) rfl (by omega) (by omega)
          have f16 := dAddE (X := ((10 : Int32) * (M11.1 70 18)).toInt) (Y := x1.toInt) (x := ((10 : Int32) * (M11.1 70 18))) (y := x1) rfl rfl (by omega) (by omega)
          refine ⟨by omega, ?_⟩
          have f17 := Inv.cnt82 hG I11
          have f18 := Inv.s hG I11 (k := 82) (j := (M11.1 70 18).toNatClampNeg) rfl rfl
          have f19 := Inv.one hG I11 (u := x1) (by omega) (by omega)
          exact hQ _ _ I11
        · skip
          have f13 := congrArg Int32.toInt (I11.2 70 18 rfl)
          have f14 := Inv.s hG I11 (k := 70) (j := 18) rfl rfl
          have f15 := dMulE (X := 10) (Y := (M11.1 70 18).toInt) (x := (10 : Int32)) (y := (M11.1 70 18)) (by decide) rfl (by omega) (by omega)
          have f16 := dAddE (X := ((10 : Int32) * (M11.1 70 18)).toInt) (Y := x1.toInt) (x := ((10 : Int32) * (M11.1 70 18))) (y := x1) rfl rfl (by omega) (by omega)
          refine ⟨by omega, ?_⟩
          have f17 := Inv.cnt82 hG I11
          have f18 := Inv.s hG I11 (k := 82) (j := (M11.1 70 18).toNatClampNeg) rfl rfl
          have f19 := Inv.two hG I11 (u := x1) (by omega) (by omega)
          exact hQ _ _ I11
        · skip
          refine ⟨by omega, ?_⟩
          exact hQ _ _ I11
        · skip
          have f13 := dAddE (X := 10) (Y := x1.toInt) (x := (10 : Int32)) (y := x1) (by decide) rfl (by omega) (by omega)
          refine ⟨by omega, ?_⟩
          exact hQ _ _ I11
        · skip
          have f13 := dAddE (X := 20) (Y := x1.toInt) (x := (20 : Int32)) (y := x1) (by decide) rfl (by omega) (by omega)
          refine ⟨by omega, ?_⟩
          exact hQ _ _ I11
        · skip
          have f13 := dAddE (X := 30) (Y := x1.toInt) (x := (30 : Int32)) (y := x1) (by decide) rfl (by omega) (by omega)
          refine ⟨by omega, ?_⟩
          exact hQ _ _ I11
        · skip
          refine Wp.deep (s_X12_onNow_70 hG I11 (fun R13 => ?_)) (Nat.le_of_ble_eq_true rfl)
          refine Wp.deep (s_X12_loadBy_70 hG I11 (by omega) (fun R14 => ?_)) (Nat.le_of_ble_eq_true rfl)
          exact hQ _ _ I11
        · skip
          refine Wp.deep (s_X12_costsOf_70 hG I11 (by omega) (fun R13 M13 I13 hr13 => ?_)) (Nat.le_of_ble_eq_true rfl)
          exact hQ _ _ I13
        · skip
          refine Wp.deep (s_X12_onNow_70 hG I11 (fun R13 => ?_)) (Nat.le_of_ble_eq_true rfl)
          have f14 := dRemE (x := (M11.1 108 55)) (y := (24 : Int32)) (Y := 24) (by decide) (by decide)
          refine Wp.deep (s_X12_doesGo_70 hG I11 (by omega) (by omega) (fun R15 M15 I15 hr15 => ?_)) (Nat.le_of_ble_eq_true rfl)
          refine ⟨fun hc16 => ?_, fun hc16 => ?_⟩
          · skip
            exact hQ _ _ I15
          · skip
            exact hQ _ _ I15
        · skip
          have f13 := ti_m1
          exact hQ _ _ I11
      · skip
        exfalso; omega
theorem s_X12_paysOf_70 {g : gM} {x1 : Int32} {m : dM} {Q : Int32 → dM → Prop} (hG : Gd g) (hI : Inv g m) (h1 : 0 ≤ x1.toInt ∧ x1.toInt ≤ 7) (hQ : ∀ (r : Int32) (m' : dM), Inv g m' → (0 ≤ r.toInt ∧ r.toInt ≤ 99) → Q r m') : c_X12_paysOf_70 21 x1 m Q := by
  refine v_X12_paysOf_70 ?_
  have f1 := dRemE (x := (m.1 108 55)) (y := (24 : Int32)) (Y := 24) (by decide) (by decide)
  refine Wp.deep (s_X12_looks_70 hG hI (by omega) (by omega) (fun M2 I2 => ?_)) (Nat.le_of_ble_eq_true rfl)
  refine v_X12_ampsAt_70 ?_
  have f3 := congrArg Int32.toInt (I2.2 70 18 rfl)
  have f4 := Inv.s hG I2 (k := 70) (j := 18) rfl rfl
  have f5 := dMulE (X := 8) (Y := (M2.1 70 18).toInt) (x := (8 : Int32)) (y := (M2.1 70 18)) (by decide) rfl (by omega) (by omega)
  have f6 := dAddE (X := ((8 : Int32) * (M2.1 70 18)).toInt) (Y := x1.toInt) (x := ((8 : Int32) * (M2.1 70 18))) (y := x1) rfl rfl (by omega) (by omega)
  refine ⟨by omega, ?_⟩
  have f7 := ti_3
  have I8 : Inv g (dSet M2 105 5 (M2.1 88 (((8 : Int32) * (M2.1 70 18)) + x1).toNatClampNeg)) := (Inv.setA I2 rfl)
  refine Wp.deep (s_X12_lawTells_70 hG I8 (by omega) (fun R9 M9 I9 => ?_)) (Nat.le_of_ble_eq_true rfl)
  refine v_X12_within ?_
  have f10 := ti_0
  refine ⟨fun hc11 => ?_, fun hc11 => ?_⟩
  · skip
    have f12 := ti_99
    refine ⟨fun hc13 => ?_, fun hc13 => ?_⟩
    · skip
      exact hQ _ _ I9 (by omega)
    · skip
      exact hQ _ _ I9 (by omega)
  · skip
    exact hQ _ _ I9 (by omega)
theorem s_X12_use_70 {g : gM} {x1 : Int32} {x2 : Int32} {m : dM} {Q : Int32 → dM → Prop} (hG : Gd g) (hI : Inv g m) (hQ : ∀ (r : Int32) (m' : dM), Inv g m' → Q r m') : c_X12_use_70 22 x1 x2 m Q := by
  refine v_X12_use_70 ?_
  refine v_X12_isUse_70 ?_
  have f1 := congrArg Int32.toInt (hI.2 70 18 rfl)
  have f2 := Inv.s hG hI (k := 70) (j := 18) rfl rfl
  refine ⟨by omega, ?_⟩
  refine v_X12_in ?_
  have f3 := ti_0
  refine ⟨fun hc4 => ?_, fun hc4 => ?_⟩
  · skip
    refine v_X12_in_14 ?_
    refine ⟨by decide, ?_⟩
    refine ⟨fun hc5 => ?_, fun hc5 => ?_⟩
    · skip
      exfalso; omega
    · skip
      have f6 := ti_m1
      exact hQ _ _ hI
  · skip
    have f5 := Inv.cnt86 hG hI
    have f6 := Inv.s hG hI (k := 86) (j := (m.1 70 18).toNatClampNeg) rfl rfl
    have f7 := dSubE (X := (m.1 86 (m.1 70 18).toNatClampNeg).toInt) (Y := 1) (x := (m.1 86 (m.1 70 18).toNatClampNeg)) (y := (1 : Int32)) rfl (by decide) (by omega) (by omega)
    refine ⟨fun hc8 => ?_, fun hc8 => ?_⟩
    · skip
      refine v_X12_in_14 ?_
      refine ⟨by decide, ?_⟩
      refine ⟨fun hc9 => ?_, fun hc9 => ?_⟩
      · skip
        exfalso; omega
      · skip
        have f10 := ti_m1
        exact hQ _ _ hI
    · skip
      have f9 := ti_1
      refine ⟨by decide, ?_⟩
      refine ⟨fun hc10 => ?_, fun hc10 => ?_⟩
      · skip
        refine Wp.deep (s_X12_copies_70 hG hI (fun M11 I11 => ?_)) (Nat.le_of_ble_eq_true rfl)
        refine ⟨fun hc12 => ?_, fun hc12 => ?_, fun hc12 => ?_, fun hc12 => ?_, fun hc12 => ?_, fun hc12 => ?_, fun hc12 => ?_, fun hc12 => ?_⟩
        · skip
          refine v_X12_flatAt_70 ?_
          have f13 := congrArg Int32.toInt (I11.2 70 18 rfl)
          have f14 := Inv.s hG I11 (k := 70) (j := 18) rfl rfl
          have f15 := dMulE (X := 8) (Y := (M11.1 70 18).toInt) (x := (8 : Int32)) (y := (M11.1 70 18)) (by decide) rfl (by omega) (by omega)
          have f16 := dAddE (X := ((8 : Int32) * (M11.1 70 18)).toInt) (Y := x1.toInt) (x := ((8 : Int32) * (M11.1 70 18))) (y := x1) rfl rfl (by omega) (by omega)
          refine ⟨by omega, ?_⟩
          have f17 := Inv.cnt86 hG I11
          have f18 := Inv.s hG I11 (k := 86) (j := (M11.1 70 18).toNatClampNeg) rfl rfl
          have f19 := Inv.flat hG I11 (u := x1) (by omega) (by omega)
          exact hQ _ _ I11
        · skip
          refine v_X12_ampsAt_70 ?_
          have f13 := congrArg Int32.toInt (I11.2 70 18 rfl)
          have f14 := Inv.s hG I11 (k := 70) (j := 18) rfl rfl
          have f15 := dMulE (X := 8) (Y := (M11.1 70 18).toInt) (x := (8 : Int32)) (y := (M11.1 70 18)) (by decide) rfl (by omega) (by omega)
          have f16 := dAddE (X := ((8 : Int32) * (M11.1 70 18)).toInt) (Y := x1.toInt) (x := ((8 : Int32) * (M11.1 70 18))) (y := x1) rfl rfl (by omega) (by omega)
          refine ⟨by omega, ?_⟩
          exact hQ _ _ I11
        · skip
          have f13 := congrArg Int32.toInt (I11.2 70 18 rfl)
          have f14 := Inv.s hG I11 (k := 70) (j := 18) rfl rfl
          have f15 := dMulE (X := 8) (Y := (M11.1 70 18).toInt) (x := (8 : Int32)) (y := (M11.1 70 18)) (by decide) rfl (by omega) (by omega)
          have f16 := dAddE (X := ((8 : Int32) * (M11.1 70 18)).toInt) (Y := x1.toInt) (x := ((8 : Int32) * (M11.1 70 18))) (y := x1) rfl rfl (by omega) (by omega)
          refine ⟨by omega, ?_⟩
          have f17 := Inv.s hG I11 (k := 89) (j := (((8 : Int32) * (M11.1 70 18)) + x1).toNatClampNeg) rfl rfl
          exact hQ _ _ I11
        · skip
          have f13 := congrArg Int32.toInt (I11.2 70 18 rfl)
          have f14 := Inv.s hG I11 (k := 70) (j := 18) rfl rfl
          have f15 := dMulE (X := 8) (Y := (M11.1 70 18).toInt) (x := (8 : Int32)) (y := (M11.1 70 18)) (by decide) rfl (by omega) (by omega)
          have f16 := dAddE (X := ((8 : Int32) * (M11.1 70 18)).toInt) (Y := x1.toInt) (x := ((8 : Int32) * (M11.1 70 18))) (y := x1) rfl rfl (by omega) (by omega)
          refine ⟨by omega, ?_⟩
          have f17 := Inv.s hG I11 (k := 90) (j := (((8 : Int32) * (M11.1 70 18)) + x1).toNatClampNeg) rfl rfl
          exact hQ _ _ I11
        · skip
          have f13 := dAddE (X := 47) (Y := x1.toInt) (x := (47 : Int32)) (y := x1) (by decide) rfl (by omega) (by omega)
          refine ⟨by omega, ?_⟩
          exact hQ _ _ I11
        · skip
          refine Wp.deep (s_X12_onNow_70 hG I11 (fun R13 => ?_)) (Nat.le_of_ble_eq_true rfl)
          have f14 := dAndE (x := (R13 >>> (x1 &&& 31))) (y := (1 : Int32)) (by decide)
          exact hQ _ _ I11
        · skip
          refine Wp.deep (s_X12_paysOf_70 hG I11 (by omega) (fun R13 M13 I13 hr13 => ?_)) (Nat.le_of_ble_eq_true rfl)
          exact hQ _ _ I13
        · skip
          have f13 := ti_m1
          exact hQ _ _ I11
      · skip
        exfalso; omega
theorem s_X12_agree_70 {g : gM} {x1 : Int32} {x2 : Int32} {m : dM} {Q : Int32 → dM → Prop} (hG : Gd g) (hI : Inv g m) (h2 : 0 ≤ x2.toInt ∧ x2.toInt ≤ 1) (hQ : ∀ (r : Int32) (m' : dM), Inv g m' → (0 ≤ r.toInt ∧ r.toInt ≤ 1) → Q r m') : c_X12_agree_70 22 x1 x2 m Q := by
  refine v_X12_agree_70 ?_
  refine v_X12_isUse_70 ?_
  have f1 := congrArg Int32.toInt (hI.2 70 18 rfl)
  have f2 := Inv.s hG hI (k := 70) (j := 18) rfl rfl
  refine ⟨by omega, ?_⟩
  refine v_X12_in ?_
  have f3 := ti_0
  refine ⟨fun hc4 => ?_, fun hc4 => ?_⟩
  · skip
    refine v_X12_in_14 ?_
    refine ⟨by decide, ?_⟩
    refine ⟨fun hc5 => ?_, fun hc5 => ?_⟩
    · skip
      refine v_X12_agree_70_30 ?_
      exact hQ _ _ hI (by omega)
    · skip
      exfalso; omega
  · skip
    have f5 := Inv.cnt86 hG hI
    have f6 := Inv.s hG hI (k := 86) (j := (m.1 70 18).toNatClampNeg) rfl rfl
    have f7 := dSubE (X := (m.1 86 (m.1 70 18).toNatClampNeg).toInt) (Y := 1) (x := (m.1 86 (m.1 70 18).toNatClampNeg)) (y := (1 : Int32)) rfl (by decide) (by omega) (by omega)
    refine ⟨fun hc8 => ?_, fun hc8 => ?_⟩
    · skip
      refine v_X12_in_14 ?_
      refine ⟨by decide, ?_⟩
      refine ⟨fun hc9 => ?_, fun hc9 => ?_⟩
      · skip
        refine v_X12_agree_70_30 ?_
        exact hQ _ _ hI (by omega)
      · skip
        exfalso; omega
    · skip
      have f9 := ti_1
      refine ⟨by decide, ?_⟩
      refine ⟨fun hc10 => ?_, fun hc10 => ?_⟩
      · skip
        exfalso; omega
      · skip
        have f11 := dAddE (X := 47) (Y := x1.toInt) (x := (47 : Int32)) (y := x1) (by decide) rfl (by omega) (by omega)
        refine ⟨by omega, ?_⟩
        refine ⟨fun hc12 => ?_, fun hc12 => ?_⟩
        · skip
          refine ⟨fun hc13 => ?_, fun hc13 => ?_⟩
          · skip
            refine Wp.deep (s_X12_copies_70 hG hI (fun M14 I14 => ?_)) (Nat.le_of_ble_eq_true rfl)
            refine ⟨fun hc15 => ?_, fun hc15 => ?_⟩
            · skip
              exfalso; omega
            · skip
              refine ⟨by omega, ?_⟩
              have I16 : Inv g (dSet M14 108 ((47 : Int32) + x1).toNatClampNeg (1 : Int32)) := (Inv.setA I14 rfl)
              refine Wp.deep (s_X12_records_70 hG I16 (fun M17 I17 => ?_)) (Nat.le_of_ble_eq_true rfl)
              exact hQ _ _ I17 (by omega)
          · skip
            refine v_X12_agree_70_30 ?_
            exact hQ _ _ hI (by omega)
        · skip
          refine ⟨fun hc13 => ?_, fun hc13 => ?_⟩
          · skip
            refine Wp.deep (s_X12_copies_70 hG hI (fun M14 I14 => ?_)) (Nat.le_of_ble_eq_true rfl)
            refine ⟨fun hc15 => ?_, fun hc15 => ?_⟩
            · skip
              refine ⟨by omega, ?_⟩
              have I16 : Inv g (dSet M14 108 ((47 : Int32) + x1).toNatClampNeg (0 : Int32)) := (Inv.setA I14 rfl)
              refine Wp.deep (s_X12_records_70 hG I16 (fun M17 I17 => ?_)) (Nat.le_of_ble_eq_true rfl)
              exact hQ _ _ I17 (by omega)
            · skip
              exfalso; omega
          · skip
            refine v_X12_agree_70_30 ?_
            exact hQ _ _ hI (by omega)
theorem s_X12_mend_70 {g : gM} {x1 : Int32} {m : dM} {Q : Int32 → dM → Prop} (hG : Gd g) (hI : Inv g m) (hQ : ∀ (r : Int32) (m' : dM), Inv g m' → Q r m') : c_X12_mend_70 22 x1 m Q := by
  refine v_X12_mend_70 ?_
  refine v_X12_isWire_70 ?_
  have f1 := congrArg Int32.toInt (hI.2 70 18 rfl)
  have f2 := Inv.s hG hI (k := 70) (j := 18) rfl rfl
  refine ⟨by omega, ?_⟩
  refine v_X12_in ?_
  have f3 := ti_0
  refine ⟨fun hc4 => ?_, fun hc4 => ?_⟩
  · skip
    refine v_X12_in_14 ?_
    refine ⟨by decide, ?_⟩
    refine ⟨fun hc5 => ?_, fun hc5 => ?_⟩
    · skip
      exfalso; omega
    · skip
      have f6 := ti_m1
      exact hQ _ _ hI
  · skip
    have f5 := Inv.cnt82 hG hI
    have f6 := Inv.s hG hI (k := 82) (j := (m.1 70 18).toNatClampNeg) rfl rfl
    have f7 := dSubE (X := (m.1 82 (m.1 70 18).toNatClampNeg).toInt) (Y := 1) (x := (m.1 82 (m.1 70 18).toNatClampNeg)) (y := (1 : Int32)) rfl (by decide) (by omega) (by omega)
    refine ⟨fun hc8 => ?_, fun hc8 => ?_⟩
    · skip
      refine v_X12_in_14 ?_
      refine ⟨by decide, ?_⟩
      refine ⟨fun hc9 => ?_, fun hc9 => ?_⟩
      · skip
        exfalso; omega
      · skip
        have f10 := ti_m1
        exact hQ _ _ hI
    · skip
      have f9 := ti_1
      refine ⟨by decide, ?_⟩
      refine ⟨fun hc10 => ?_, fun hc10 => ?_⟩
      · skip
        refine Wp.deep (s_X12_copies_70 hG hI (fun M11 I11 => ?_)) (Nat.le_of_ble_eq_true rfl)
        have f12 := dAddE (X := 10) (Y := x1.toInt) (x := (10 : Int32)) (y := x1) (by decide) rfl (by omega) (by omega)
        refine ⟨by omega, ?_⟩
        refine ⟨fun hc13 => ?_, fun hc13 => ?_⟩
        · skip
          refine v_X12_mend_70_41 ?_
          have f14 := ti_m2
          exact hQ _ _ I11
        · skip
          refine Wp.deep (s_X12_costsOf_70 hG I11 (by omega) (fun R14 M14 I14 hr14 => ?_)) (Nat.le_of_ble_eq_true rfl)
          refine ⟨fun hc15 => ?_, fun hc15 => ?_⟩
          · skip
            refine Wp.deep (s_X12_costsOf_70 hG I14 (by omega) (fun R16 M16 I16 hr16 => ?_)) (Nat.le_of_ble_eq_true rfl)
            refine ⟨by omega, ?_⟩
            have f17 := dAddE (X := 20) (Y := x1.toInt) (x := (20 : Int32)) (y := x1) (by decide) rfl (by omega) (by omega)
            refine ⟨by omega, ?_⟩
            have f18 := dAddE (X := 30) (Y := x1.toInt) (x := (30 : Int32)) (y := x1) (by decide) rfl (by omega) (by omega)
            refine ⟨by omega, ?_⟩
            have I19 : Inv g (dSet M16 108 56 ((M14.1 108 56) - R16)) := (Inv.setA I16 rfl)
            have I20 : Inv g (dSet (dSet M16 108 56 ((M14.1 108 56) - R16)) 108 ((10 : Int32) + x1).toNatClampNeg (0 : Int32)) := (Inv.setA I19 rfl)
            have I21 : Inv g (dSet (dSet (dSet M16 108 56 ((M14.1 108 56) - R16)) 108 ((10 : Int32) + x1).toNatClampNeg (0 : Int32)) 108 ((20 : Int32) + x1).toNatClampNeg (0 : Int32)) := (Inv.setA I20 rfl)
            have I22 : Inv g (dSet (dSet (dSet (dSet M16 108 56 ((M14.1 108 56) - R16)) 108 ((10 : Int32) + x1).toNatClampNeg (0 : Int32)) 108 ((20 : Int32) + x1).toNatClampNeg (0 : Int32)) 108 ((30 : Int32) + x1).toNatClampNeg (0 : Int32)) := (Inv.setA I21 rfl)
            refine Wp.deep (s_X12_records_70 hG I22 (fun M23 I23 => ?_)) (Nat.le_of_ble_eq_true rfl)
            exact hQ _ _ I23
          · skip
            refine v_X12_mend_70_41 ?_
            have f16 := ti_m2
            exact hQ _ _ I14
      · skip
        exfalso; omega
theorem s_X12_thicken_70 {g : gM} {x1 : Int32} {m : dM} {Q : Int32 → dM → Prop} (hG : Gd g) (hI : Inv g m) (hQ : ∀ (r : Int32) (m' : dM), Inv g m' → Q r m') : c_X12_thicken_70 22 x1 m Q := by
  refine v_X12_thicken_70 ?_
  refine v_X12_isWire_70 ?_
  have f1 := congrArg Int32.toInt (hI.2 70 18 rfl)
  have f2 := Inv.s hG hI (k := 70) (j := 18) rfl rfl
  refine ⟨by omega, ?_⟩
  refine v_X12_in ?_
  have f3 := ti_0
  refine ⟨fun hc4 => ?_, fun hc4 => ?_⟩
  · skip
    refine v_X12_in_14 ?_
    refine ⟨by decide, ?_⟩
    refine ⟨fun hc5 => ?_, fun hc5 => ?_⟩
    · skip
      exfalso; omega
    · skip
      have f6 := ti_m1
      exact hQ _ _ hI
  · skip
    have f5 := Inv.cnt82 hG hI
    have f6 := Inv.s hG hI (k := 82) (j := (m.1 70 18).toNatClampNeg) rfl rfl
    have f7 := dSubE (X := (m.1 82 (m.1 70 18).toNatClampNeg).toInt) (Y := 1) (x := (m.1 82 (m.1 70 18).toNatClampNeg)) (y := (1 : Int32)) rfl (by decide) (by omega) (by omega)
    refine ⟨fun hc8 => ?_, fun hc8 => ?_⟩
    · skip
      refine v_X12_in_14 ?_
      refine ⟨by decide, ?_⟩
      refine ⟨fun hc9 => ?_, fun hc9 => ?_⟩
      · skip
        exfalso; omega
      · skip
        have f10 := ti_m1
        exact hQ _ _ hI
    · skip
      have f9 := ti_1
      refine ⟨by decide, ?_⟩
      refine ⟨fun hc10 => ?_, fun hc10 => ?_⟩
      · skip
        refine Wp.deep (s_X12_copies_70 hG hI (fun M11 I11 => ?_)) (Nat.le_of_ble_eq_true rfl)
        have f12 := dAddE (X := 10) (Y := x1.toInt) (x := (10 : Int32)) (y := x1) (by decide) rfl (by omega) (by omega)
        refine ⟨by omega, ?_⟩
        refine ⟨fun hc13 => ?_, fun hc13 => ?_⟩
        · skip
          refine v_X12_thicken_70_53 ?_
          have f14 := ti_m2
          exact hQ _ _ I11
        · skip
          refine ⟨by omega, ?_⟩
          refine ⟨fun hc14 => ?_, fun hc14 => ?_⟩
          · skip
            refine v_X12_thicken_70_53 ?_
            have f15 := ti_m2
            exact hQ _ _ I11
          · skip
            refine Wp.deep (s_X12_costsOf_70 hG I11 (by omega) (fun R15 M15 I15 hr15 => ?_)) (Nat.le_of_ble_eq_true rfl)
            refine ⟨fun hc16 => ?_, fun hc16 => ?_⟩
            · skip
              refine Wp.deep (s_X12_costsOf_70 hG I15 (by omega) (fun R17 M17 I17 hr17 => ?_)) (Nat.le_of_ble_eq_true rfl)
              refine ⟨by omega, ?_⟩
              refine ⟨by omega, ?_⟩
              have I18 : Inv g (dSet M17 108 56 ((M15.1 108 56) - R17)) := (Inv.setA I17 rfl)
              have I19 : Inv g (dSet (dSet M17 108 56 ((M15.1 108 56) - R17)) 108 x1.toNatClampNeg (((dSet M17 108 56 ((M15.1 108 56) - R17)).1 108 x1.toNatClampNeg) + (1 : Int32))) := (Inv.setA I18 rfl)
              refine Wp.deep (s_X12_records_70 hG I19 (fun M20 I20 => ?_)) (Nat.le_of_ble_eq_true rfl)
              exact hQ _ _ I20
            · skip
              refine v_X12_thicken_70_53 ?_
              have f17 := ti_m2
              exact hQ _ _ I15
      · skip
        exfalso; omega
