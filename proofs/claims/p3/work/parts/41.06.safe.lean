theorem s_X7_readFrom_47_53 {g : gM} {x2 : Int32} {m : dM} {Q : dM → Prop} (hG : Gd g) (hI : Inv g m) (h2 : 0 ≤ x2.toInt ∧ x2.toInt ≤ 66) (hQ : ∀ m' : dM, Inv g m' → Q m') : c_X7_readFrom_47_53 1 x2 m Q := by
  refine v_X7_readFrom_47_53 ?_
  refine ⟨fun hc1 => ?_, fun hc1 => ?_⟩
  · skip
    exfalso; omega
  · skip
    have f2 := dSubE (X := 99) (Y := 33) (x := (99 : Int32)) (y := (33 : Int32)) (by decide) (by decide) (by omega) (by omega)
    refine ⟨fun hc3 => ?_, fun hc3 => ?_⟩
    · skip
      refine ⟨by omega, ?_⟩
      have f4 := dAddE (X := x2.toInt) (Y := 1) (x := x2) (y := (1 : Int32)) rfl (by decide) (by omega) (by omega)
      refine ⟨by omega, ?_⟩
      have f5 := dAddE (X := x2.toInt) (Y := 2) (x := x2) (y := (2 : Int32)) rfl (by decide) (by omega) (by omega)
      refine ⟨by omega, ?_⟩
      have f6 := dAddE (X := x2.toInt) (Y := 3) (x := x2) (y := (3 : Int32)) rfl (by decide) (by omega) (by omega)
      refine ⟨by omega, ?_⟩
      have f7 := dAddE (X := x2.toInt) (Y := 4) (x := x2) (y := (4 : Int32)) rfl (by decide) (by omega) (by omega)
      refine ⟨by omega, ?_⟩
      have f8 := dAddE (X := x2.toInt) (Y := 5) (x := x2) (y := (5 : Int32)) rfl (by decide) (by omega) (by omega)
      refine ⟨by omega, ?_⟩
      have f9 := ti_10
      have f10 := ti_0
      have f11 := dAddE (X := x2.toInt) (Y := 6) (x := x2) (y := (6 : Int32)) rfl (by decide) (by omega) (by omega)
      refine ⟨by omega, ?_⟩
      have f12 := dAddE (X := (x2 + (6 : Int32)).toInt) (Y := 10) (x := (x2 + (6 : Int32))) (y := (10 : Int32)) rfl (by decide) (by omega) (by omega)
      refine ⟨by omega, ?_⟩
      have f13 := ti_7
      have f14 := dAddE (X := (x2 + (6 : Int32)).toInt) (Y := 20) (x := (x2 + (6 : Int32))) (y := (20 : Int32)) rfl (by decide) (by omega) (by omega)
      refine ⟨by omega, ?_⟩
      have I15 : Inv g (dSet m 47 0 (m.1 53 x2.toNatClampNeg)) := (Inv.setA hI rfl)
      have I16 : Inv g (dSet (dSet m 47 0 (m.1 53 x2.toNatClampNeg)) 47 1 (m.1 53 (x2 + (1 : Int32)).toNatClampNeg)) := (Inv.setA I15 rfl)
      have I17 : Inv g (dSet (dSet (dSet m 47 0 (m.1 53 x2.toNatClampNeg)) 47 1 (m.1 53 (x2 + (1 : Int32)).toNatClampNeg)) 47 2 (m.1 53 (x2 + (2 : Int32)).toNatClampNeg)) := (Inv.setA I16 rfl)
      have I18 : Inv g (dSet (dSet (dSet (dSet m 47 0 (m.1 53 x2.toNatClampNeg)) 47 1 (m.1 53 (x2 + (1 : Int32)).toNatClampNeg)) 47 2 (m.1 53 (x2 + (2 : Int32)).toNatClampNeg)) 47 3 (m.1 53 (x2 + (3 : Int32)).toNatClampNeg)) := (Inv.setA I17 rfl)
      have I19 : Inv g (dSet (dSet (dSet (dSet (dSet m 47 0 (m.1 53 x2.toNatClampNeg)) 47 1 (m.1 53 (x2 + (1 : Int32)).toNatClampNeg)) 47 2 (m.1 53 (x2 + (2 : Int32)).toNatClampNeg)) 47 3 (m.1 53 (x2 + (3 : Int32)).toNatClampNeg)) 47 4 (m.1 53 (x2 + (4 : Int32)).toNatClampNeg)) := (Inv.setA I18 rfl)
      have I20 : Inv g (dSet (dSet (dSet (dSet (dSet (dSet m 47 0 (m.1 53 x2.toNatClampNeg)) 47 1 (m.1 53 (x2 + (1 : Int32)).toNatClampNeg)) 47 2 (m.1 53 (x2 + (2 : Int32)).toNatClampNeg)) 47 3 (m.1 53 (x2 + (3 : Int32)).toNatClampNeg)) 47 4 (m.1 53 (x2 + (4 : Int32)).toNatClampNeg)) 47 5 (m.1 53 (x2 + (5 : Int32)).toNatClampNeg)) := (Inv.setA I19 rfl)
      have I21 : Inv g (dCpy (dSet (dSet (dSet (dSet (dSet (dSet m 47 0 (m.1 53 x2.toNatClampNeg)) 47 1 (m.1 53 (x2 + (1 : Int32)).toNatClampNeg)) 47 2 (m.1 53 (x2 + (2 : Int32)).toNatClampNeg)) 47 3 (m.1 53 (x2 + (3 : Int32)).toNatClampNeg)) 47 4 (m.1 53 (x2 + (4 : Int32)).toNatClampNeg)) 47 5 (m.1 53 (x2 + (5 : Int32)).toNatClampNeg)) 53 ((x2 + (6 : Int32)).toInt).toNat 48 (0 : Int).toNat (10 : Int).toNat) := (Inv.cpy I20 (fun _ => rfl))
      have I22 : Inv g (dCpy (dCpy (dSet (dSet (dSet (dSet (dSet (dSet m 47 0 (m.1 53 x2.toNatClampNeg)) 47 1 (m.1 53 (x2 + (1 : Int32)).toNatClampNeg)) 47 2 (m.1 53 (x2 + (2 : Int32)).toNatClampNeg)) 47 3 (m.1 53 (x2 + (3 : Int32)).toNatClampNeg)) 47 4 (m.1 53 (x2 + (4 : Int32)).toNatClampNeg)) 47 5 (m.1 53 (x2 + (5 : Int32)).toNatClampNeg)) 53 ((x2 + (6 : Int32)).toInt).toNat 48 (0 : Int).toNat (10 : Int).toNat) 53 (((x2 + (6 : Int32)) + (10 : Int32)).toInt).toNat 49 (0 : Int).toNat (10 : Int).toNat) := (Inv.cpy I21 (fun _ => rfl))
      have I23 : Inv g (dCpy (dCpy (dCpy (dSet (dSet (dSet (dSet (dSet (dSet m 47 0 (m.1 53 x2.toNatClampNeg)) 47 1 (m.1 53 (x2 + (1 : Int32)).toNatClampNeg)) 47 2 (m.1 53 (x2 + (2 : Int32)).toNatClampNeg)) 47 3 (m.1 53 (x2 + (3 : Int32)).toNatClampNeg)) 47 4 (m.1 53 (x2 + (4 : Int32)).toNatClampNeg)) 47 5 (m.1 53 (x2 + (5 : Int32)).toNatClampNeg)) 53 ((x2 + (6 : Int32)).toInt).toNat 48 (0 : Int).toNat (10 : Int).toNat) 53 (((x2 + (6 : Int32)) + (10 : Int32)).toInt).toNat 49 (0 : Int).toNat (10 : Int).toNat) 53 (((x2 + (6 : Int32)) + (20 : Int32)).toInt).toNat 50 (0 : Int).toNat (7 : Int).toNat) := (Inv.cpy I22 (fun _ => rfl))
      exact hQ _ I23
    · skip
      exfalso; omega
theorem s_X6_fetch_51_47 {g : gM} {x1 : Int32} {m : dM} {Q : Int32 → dM → Prop} (hG : Gd g) (hI : Inv g m) (hQ : ∀ (r : Int32) (m' : dM), Inv g m' → (0 ≤ r.toInt ∧ r.toInt ≤ 1) → Q r m') : c_X6_fetch_51_47 2 x1 m Q := by
  refine v_X6_fetch_51_47 ?_
  refine ⟨fun hc1 => ?_, fun hc1 => ?_⟩
  · skip
    refine v_X6_fetch_51_47_20 ?_
    have f2 := ti_0
    exact hQ _ _ hI (by omega)
  · skip
    refine ⟨fun hc2 => ?_, fun hc2 => ?_⟩
    · skip
      refine v_X6_fetch_51_47_20 ?_
      have f3 := ti_0
      exact hQ _ _ hI (by omega)
    · skip
      refine v_X11_has ?_
      have f3 := ti_1
      have f4 := dAndE (x := ((m.1 51 4).toUInt32 >>> (x1.toUInt32 &&& Int32.toUInt32 31)).toInt32) (y := (1 : Int32)) (by decide)
      refine ⟨fun hc5 => ?_, fun hc5 => ?_⟩
      · skip
        have f6 := ti_0
        refine ⟨fun hc7 => ?_, fun hc7 => ?_⟩
        · skip
          exfalso; omega
        · skip
          refine v_X6_fetch_51_47_20 ?_
          exact hQ _ _ hI (by omega)
      · skip
        refine ⟨fun hc6 => ?_, fun hc6 => ?_⟩
        · skip
          have f7 := dMulE (X := x1.toInt) (Y := 33) (x := x1) (y := (33 : Int32)) rfl (by decide) (by omega) (by omega)
          refine Wp.deep (s_X7_readFrom_47_53 hG hI (by omega) (fun M8 I8 => ?_)) (Nat.le_of_ble_eq_true rfl)
          refine Wp.deep (s_X6_clear_51 hG I8 (fun M9 I9 => ?_)) (Nat.le_of_ble_eq_true rfl)
          exact hQ _ _ I9 (by omega)
        · skip
          exfalso; omega
theorem s_X11_restore_0 {g : gM} {x1 : Int32} {m : dM} {Q : Int32 → dM → Prop} (hG : Gd g) (hI : Inv g m) (hQ : ∀ (r : Int32) (m' : dM), Inv g m' → (0 ≤ r.toInt ∧ r.toInt ≤ 1) → Q r m') : c_X11_restore_0 3 x1 m Q := by
  refine v_X11_restore_0 ?_
  refine Wp.deep (s_X6_fetch_51_47 hG hI (fun R1 M1 I1 hr1 => ?_)) (Nat.le_of_ble_eq_true rfl)
  refine ⟨dB01 (by omega), ?_⟩
  exact hQ _ _ I1 (by omega)
theorem s_X12_restore_70_all {g : gM} {Q : Int32 → dM → Prop} (hG : Gd g) (hQ : ∀ (r : Int32) (m' : dM), Inv g m' → (0 ≤ r.toInt ∧ r.toInt ≤ 1) → Q r m') : ∀ n : Nat, (∀ (m : dM), Inv g m → 0 < (n : Int) → j_X12_restore_70_18 2 m Q) ∧ (∀ (x1 : Int32) (x2 : Int32) (m : dM), Inv g m → (0 ≤ x1.toInt ∧ x1.toInt ≤ 2) → (0 ≤ x2.toInt ∧ x2.toInt ≤ 58) → 59 - 1 * x2.toInt < (n : Int) → j_X12_restore_70_22 2 x1 x2 m Q) := by
  intro n
  induction n with
  | zero => exact ⟨fun m hI hμ => by exfalso; omega, fun x1 x2 m hI h1 h2 hμ => by exfalso; omega⟩
  | succ n ih =>
    refine ⟨?_, ?_⟩
    · intro m hI hμ
      refine v_X12_restore_70_18 ?_
      have f1 := ti_0
      exact hQ _ _ hI (by omega)
    · intro x1 x2 m hI h1 h2 hμ
      refine v_X12_restore_70_22 ?_
      refine ⟨fun hc1 => ?_, fun hc1 => ?_⟩
      · skip
        have f2 := ti_1
        have f3 := ti_0
        have I4 : Inv g (dSet m 70 61 (0 : Int32)) := (Inv.set hI rfl (by omega) (by omega))
        exact hQ _ _ I4 (by omega)
      · skip
        have f2 := dMulE (X := 58) (Y := x1.toInt) (x := (58 : Int32)) (y := x1) (by decide) rfl (by omega) (by omega)
        have f3 := dAddE (X := ((58 : Int32) * x1).toInt) (Y := x2.toInt) (x := ((58 : Int32) * x1)) (y := x2) rfl rfl (by omega) (by omega)
        refine ⟨by omega, ?_⟩
        refine ⟨by omega, ?_⟩
        have f4 := dAddE (X := x2.toInt) (Y := 1) (x := x2) (y := (1 : Int32)) rfl (by decide) (by omega) (by omega)
        have I5 : Inv g (dSet m 107 x2.toNatClampNeg (m.1 116 (((58 : Int32) * x1) + x2).toNatClampNeg)) := (Inv.setA hI rfl)
        exact ih.2 _ _ _ I5 (by omega) (by omega) (by omega)
theorem s_X12_restore_70 {g : gM} {x1 : Int32} {m : dM} {Q : Int32 → dM → Prop} (hG : Gd g) (hI : Inv g m) (hQ : ∀ (r : Int32) (m' : dM), Inv g m' → (0 ≤ r.toInt ∧ r.toInt ≤ 1) → Q r m') : c_X12_restore_70 2 x1 m Q := by
  refine v_X12_restore_70 ?_
  refine v_X12_in ?_
  have f1 := ti_0
  refine ⟨fun hc2 => ?_, fun hc2 => ?_⟩
  · skip
    refine v_X12_in_14 ?_
    refine ⟨fun hc3 => ?_, fun hc3 => ?_⟩
    · skip
      exact (s_X12_restore_70_all hG hQ 61).1 _ hI (by omega)
    · skip
      exfalso; omega
  · skip
    have f3 := ti_2
    refine ⟨fun hc4 => ?_, fun hc4 => ?_⟩
    · skip
      refine v_X12_in_14 ?_
      refine ⟨fun hc5 => ?_, fun hc5 => ?_⟩
      · skip
        exact (s_X12_restore_70_all hG hQ 61).1 _ hI (by omega)
      · skip
        exfalso; omega
    · skip
      have f5 := ti_1
      refine ⟨fun hc6 => ?_, fun hc6 => ?_⟩
      · skip
        exfalso; omega
      · skip
        refine ⟨by omega, ?_⟩
        refine ⟨fun hc7 => ?_, fun hc7 => ?_⟩
        · skip
          exact (s_X12_restore_70_all hG hQ 61).2 _ _ _ hI (by omega) (by omega) (by omega)
        · skip
          exact (s_X12_restore_70_all hG hQ 61).1 _ hI (by omega)
theorem s_X11_wholeRatings_0_all {g : gM} {Q : Int32 → dM → Prop} {m : dM} (hG : Gd g) (hI : Inv g m) (hQ : ∀ r : Int32, Q r m) : ∀ n : Nat, (∀ (x1 : Int32) (x2 : Int32), (0 ≤ x2.toInt ∧ x2.toInt ≤ 10) → 10 - 1 * x2.toInt < (n : Int) → j_X11_wholeRatings_0_4 2 x1 x2 m Q) := by
  intro n
  induction n with
  | zero => exact fun x1 x2 h2 hμ => by exfalso; omega
  | succ n ih =>
    · intro x1 x2 h2 hμ
      refine v_X11_wholeRatings_0_4 ?_
      have f1 := congrArg Int32.toInt (hI.2 2 1 rfl)
      have f2 := Inv.s hG hI (k := 2) (j := 1) rfl rfl
      refine ⟨fun hc3 => ?_, fun hc3 => ?_⟩
      · skip
        exact hQ _
      · skip
        refine v_X11_has ?_
        have f4 := ti_1
        have f5 := dAndE (x := ((m.1 47 3).toUInt32 >>> (x2.toUInt32 &&& Int32.toUInt32 31)).toInt32) (y := (1 : Int32)) (by decide)
        refine ⟨fun hc6 => ?_, fun hc6 => ?_⟩
        · skip
          have f7 := ti_0
          refine ⟨fun hc8 => ?_, fun hc8 => ?_⟩
          · skip
            refine ⟨by omega, ?_⟩
            have f9 := dAddE (X := x2.toInt) (Y := 1) (x := x2) (y := (1 : Int32)) rfl (by decide) (by omega) (by omega)
            exact ih _ _ (by omega) (by omega)
          · skip
            exfalso; omega
        · skip
          refine ⟨fun hc7 => ?_, fun hc7 => ?_⟩
          · skip
            exfalso; omega
          · skip
            have f8 := dAddE (X := x2.toInt) (Y := 1) (x := x2) (y := (1 : Int32)) rfl (by decide) (by omega) (by omega)
            exact ih _ _ (by omega) (by omega)
theorem s_X11_wholeRatings_0 {g : gM} {m : dM} {Q : Int32 → dM → Prop} (hG : Gd g) (hI : Inv g m) (hQ : ∀ r : Int32, Q r m) : c_X11_wholeRatings_0 2 m Q := by
  refine v_X11_wholeRatings_0 ?_
  have f1 := ti_0
  exact (s_X11_wholeRatings_0_all hG hI hQ 12) _ _ (by omega) (by omega)
theorem s_X11_count_0 {g : gM} {x1 : Int32} {m : dM} {Q : Int32 → dM → Prop} (hG : Gd g) (hI : Inv g m) (hQ : ∀ (r : Int32) (m' : dM), Inv g m' → Q r m') : c_X11_count_0 5 x1 m Q := by
  refine v_X11_count_0 ?_
  refine ⟨fun hc1 => ?_, fun hc1 => ?_, fun hc1 => ?_, fun hc1 => ?_, fun hc1 => ?_, fun hc1 => ?_, fun hc1 => ?_, fun hc1 => ?_, fun hc1 => ?_, fun hc1 => ?_, fun hc1 => ?_, fun hc1 => ?_, fun hc1 => ?_, fun hc1 => ?_, fun hc1 => ?_, fun hc1 => ?_, fun hc1 => ?_⟩
  · skip
    have f2 := congrArg Int32.toInt (hI.2 2 0 rfl)
    have f3 := Inv.s hG hI (k := 2) (j := 0) rfl rfl
    exact hQ _ _ hI
  · skip
    have f2 := congrArg Int32.toInt (hI.2 2 1 rfl)
    have f3 := Inv.s hG hI (k := 2) (j := 1) rfl rfl
    exact hQ _ _ hI
  · skip
    have f2 := congrArg Int32.toInt (hI.2 2 2 rfl)
    have f3 := Inv.s hG hI (k := 2) (j := 2) rfl rfl
    exact hQ _ _ hI
  · skip
    exact hQ _ _ hI
  · skip
    exact hQ _ _ hI
  · skip
    exact hQ _ _ hI
  · skip
    exact hQ _ _ hI
  · skip
    refine Wp.deep (s_X3_litWithout_2 hG hI (fun R2 => ?_)) (Nat.le_of_ble_eq_true rfl)
    exact hQ _ _ hI
  · skip
    refine Wp.deep (s_X0_usesNow_54_47 hG hI (fun R2 M2 I2 => ?_)) (Nat.le_of_ble_eq_true rfl)
    exact hQ _ _ I2
  · skip
    have f2 := congrArg Int32.toInt (hI.2 0 1 rfl)
    have f3 := Inv.s hG hI (k := 0) (j := 1) rfl rfl
    exact hQ _ _ hI
  · skip
    exact hQ _ _ hI
  · skip
    have f2 := Inv.w hI (k := 67) (j := 3) rfl
    exact hQ _ _ hI
  · skip
    refine Wp.deep (s_J6_bitCount hG hI (fun R2 hr2 => ?_)) (Nat.le_of_ble_eq_true rfl)
    exact hQ _ _ hI
  · skip
    have f2 := congrArg Int32.toInt (hI.2 2 6 rfl)
    refine Wp.deep (s_X0_isSurge_54 hG hI (fun R3 hr3 => ?_)) (Nat.le_of_ble_eq_true rfl)
    refine ⟨fun hc4 => ?_, fun hc4 => ?_⟩
    · skip
      have f5 := ti_0
      exact hQ _ _ hI
    · skip
      have f5 := ti_1
      exact hQ _ _ hI
  · skip
    exact hQ _ _ hI
  · skip
    refine Wp.deep (s_X11_wholeRatings_0 hG hI (fun R2 => ?_)) (Nat.le_of_ble_eq_true rfl)
    exact hQ _ _ hI
  · skip
    have f2 := ti_m1
    exact hQ _ _ hI
