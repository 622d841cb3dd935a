section
theorem s_X0_houseIsNew_54 {g : gM} {m : dM} {Q : dM → Prop} (hG : Gd g) (hI : Inv g m) (hQ : ∀ m' : dM, Inv g m' → Q m') : c_X0_houseIsNew_54 2 m Q := by
  refine v_X0_houseIsNew_54 ?_
  refine Wp.deep (s_X10_houseIsNew_57 hG hI (fun M1 I1 => ?_)) (Nat.le_of_ble_eq_true rfl)
  exact hQ _ I1
theorem s_J7_fill_49_all {g : gM} {Q : dM → Prop} (hG : Gd g) (hQ : ∀ m' : dM, Inv g m' → Q m') : ∀ n : Nat, (∀ (x1 : Int32) (x2 : Int32) (x3 : Int32) (m : dM), Inv g m → (0 ≤ x1.toInt ∧ x1.toInt ≤ 0) → (0 ≤ x2.toInt ∧ x2.toInt ≤ 10) → (10 ≤ x3.toInt ∧ x3.toInt ≤ 10) → 10 - 1 * x2.toInt < (n : Int) → j_J7_fill_49_5 1 x1 x2 x3 m Q) := by
  intro n
  induction n with
  | zero => exact fun x1 x2 x3 m hI h1 h2 h3 hμ => by exfalso; omega
  | succ n ih =>
    · intro x1 x2 x3 m hI h1 h2 h3 hμ
      refine v_J7_fill_49_5 ?_
      refine ⟨fun hc1 => ?_, fun hc1 => ?_⟩
      · skip
        exact hQ _ hI
      · skip
        refine ⟨by omega, ?_⟩
        have f2 := dAddE (X := x2.toInt) (Y := 1) (x := x2) (y := (1 : Int32)) rfl (by decide) (by omega) (by omega)
        have I3 : Inv g (dSet m 49 x2.toNatClampNeg x1) := (Inv.setA hI rfl)
        exact ih _ _ _ _ I3 (by omega) (by omega) (by omega) (by omega)
theorem s_J7_fill_49 {g : gM} {x1 : Int32} {m : dM} {Q : dM → Prop} (hG : Gd g) (hI : Inv g m) (h1 : 0 ≤ x1.toInt ∧ x1.toInt ≤ 0) (hQ : ∀ m' : dM, Inv g m' → Q m') : c_J7_fill_49 1 x1 m Q := by
  refine v_J7_fill_49 ?_
  have f1 := ti_0
  have f2 := ti_10
  exact (s_J7_fill_49_all hG hQ 12) _ _ _ _ hI (by omega) (by omega) (by omega) (by omega)
theorem s_J7_fill_50_all {g : gM} {Q : dM → Prop} (hG : Gd g) (hQ : ∀ m' : dM, Inv g m' → Q m') : ∀ n : Nat, (∀ (x1 : Int32) (x2 : Int32) (x3 : Int32) (m : dM), Inv g m → (0 ≤ x1.toInt ∧ x1.toInt ≤ 0) → (0 ≤ x2.toInt ∧ x2.toInt ≤ 7) → (7 ≤ x3.toInt ∧ x3.toInt ≤ 7) → 7 - 1 * x2.toInt < (n : Int) → j_J7_fill_50_5 1 x1 x2 x3 m Q) := by
  intro n
  induction n with
  | zero => exact fun x1 x2 x3 m hI h1 h2 h3 hμ => by exfalso; omega
  | succ n ih =>
    · intro x1 x2 x3 m hI h1 h2 h3 hμ
      refine v_J7_fill_50_5 ?_
      refine ⟨fun hc1 => ?_, fun hc1 => ?_⟩
      · skip
        exact hQ _ hI
      · skip
        refine ⟨by omega, ?_⟩
        have f2 := dAddE (X := x2.toInt) (Y := 1) (x := x2) (y := (1 : Int32)) rfl (by decide) (by omega) (by omega)
        have I3 : Inv g (dSet m 50 x2.toNatClampNeg x1) := (Inv.setA hI rfl)
        exact ih _ _ _ _ I3 (by omega) (by omega) (by omega) (by omega)
theorem s_J7_fill_50 {g : gM} {x1 : Int32} {m : dM} {Q : dM → Prop} (hG : Gd g) (hI : Inv g m) (h1 : 0 ≤ x1.toInt ∧ x1.toInt ≤ 0) (hQ : ∀ m' : dM, Inv g m' → Q m') : c_J7_fill_50 1 x1 m Q := by
  refine v_J7_fill_50 ?_
  have f1 := ti_0
  have f2 := ti_7
  exact (s_J7_fill_50_all hG hQ 9) _ _ _ _ hI (by omega) (by omega) (by omega) (by omega)
theorem s_X7_begin_47_2 {g : gM} {m : dM} {Q : dM → Prop} (hG : Gd g) (hI : Inv g m) (hQ : ∀ m' : dM, Inv g m' → Q m') : c_X7_begin_47_2 2 m Q := by
  refine v_X7_begin_47_2 ?_
  have f1 := ti_0
  have I2 : Inv g (dSet m 47 0 (0 : Int32)) := (Inv.setA hI rfl)
  have I3 : Inv g (dSet (dSet m 47 0 (0 : Int32)) 47 1 (m.1 2 5)) := (Inv.setA I2 rfl)
  have I4 : Inv g (dSet (dSet (dSet m 47 0 (0 : Int32)) 47 1 (m.1 2 5)) 47 2 (0 : Int32)) := (Inv.setA I3 rfl)
  have I5 : Inv g (dSet (dSet (dSet (dSet m 47 0 (0 : Int32)) 47 1 (m.1 2 5)) 47 2 (0 : Int32)) 47 3 (0 : Int32)) := (Inv.setA I4 rfl)
  have I6 : Inv g (dSet (dSet (dSet (dSet (dSet m 47 0 (0 : Int32)) 47 1 (m.1 2 5)) 47 2 (0 : Int32)) 47 3 (0 : Int32)) 47 4 (0 : Int32)) := (Inv.setA I5 rfl)
  have I7 : Inv g (dSet (dSet (dSet (dSet (dSet (dSet m 47 0 (0 : Int32)) 47 1 (m.1 2 5)) 47 2 (0 : Int32)) 47 3 (0 : Int32)) 47 4 (0 : Int32)) 47 5 (((1 : Int32) <<< ((m.1 2 2) &&& 31)) - (1 : Int32))) := (Inv.setA I6 rfl)
  have I8 : Inv g (dCpy (dSet (dSet (dSet (dSet (dSet (dSet m 47 0 (0 : Int32)) 47 1 (m.1 2 5)) 47 2 (0 : Int32)) 47 3 (0 : Int32)) 47 4 (0 : Int32)) 47 5 (((1 : Int32) <<< ((m.1 2 2) &&& 31)) - (1 : Int32))) 6 (0 : Int).toNat 48 (0 : Int).toNat (10 : Int).toNat) := (Inv.cpy I7 (fun _ => rfl))
  refine Wp.deep (s_J7_fill_49 hG I8 (by omega) (fun M9 I9 => ?_)) (Nat.le_of_ble_eq_true rfl)
  refine Wp.deep (s_J7_fill_50 hG I9 (by omega) (fun M10 I10 => ?_)) (Nat.le_of_ble_eq_true rfl)
  exact hQ _ I10
theorem s_X6_clear_51 {g : gM} {m : dM} {Q : dM → Prop} (hG : Gd g) (hI : Inv g m) (hQ : ∀ m' : dM, Inv g m' → Q m') : c_X6_clear_51 1 m Q := by
  refine v_X6_clear_51 ?_
  have I1 : Inv g (dSet m 51 2 (0 : Int32)) := (Inv.setA hI rfl)
  have I2 : Inv g (dSet (dSet m 51 2 (0 : Int32)) 51 3 (0 : Int32)) := (Inv.setA I1 rfl)
  exact hQ _ I2
theorem s_X12_begins_70_all {g : gM} {Q : dM → Prop} (hG : Gd g) (hQ : ∀ m' : dM, Inv g m' → Q m') : ∀ n : Nat, (∀ (x1 : Int32) (m : dM), Inv g m → (0 ≤ x1.toInt ∧ x1.toInt ≤ 58) → 78 - 1 * x1.toInt < (n : Int) → j_X12_begins_70_2 1 x1 m Q) ∧ (∀ (x1 : Int32) (m : dM), Inv g m → (0 ≤ x1.toInt ∧ x1.toInt ≤ 10) → 19 - 1 * x1.toInt < (n : Int) → j_X12_begins_70_23 1 x1 m Q) ∧ (∀ (x1 : Int32) (m : dM), Inv g m → (0 ≤ x1.toInt ∧ x1.toInt ≤ 8) → 8 - 1 * x1.toInt < (n : Int) → j_X12_begins_70_64 1 x1 m Q) := by
  intro n
  induction n with
  | zero => exact ⟨fun x1 m hI h1 hμ => by exfalso; omega, fun x1 m hI h1 hμ => by exfalso; omega, fun x1 m hI h1 hμ => by exfalso; omega⟩
  | succ n ih =>
    refine ⟨?_, ?_, ?_⟩
    · intro x1 m hI h1 hμ
      refine v_X12_begins_70_2 ?_
      refine ⟨fun hc1 => ?_, fun hc1 => ?_⟩
      · skip
        have f2 := ti_0
        exact ih.2.1 _ _ hI (by omega) (by omega)
      · skip
        refine ⟨by omega, ?_⟩
        have f2 := dAddE (X := x1.toInt) (Y := 1) (x := x1) (y := (1 : Int32)) rfl (by decide) (by omega) (by omega)
        have I3 : Inv g (dSet m 108 x1.toNatClampNeg (0 : Int32)) := (Inv.setA hI rfl)
        exact ih.1 _ _ I3 (by omega) (by omega)
    · intro x1 m hI h1 hμ
      refine v_X12_begins_70_23 ?_
      have f1 := congrArg Int32.toInt (hI.2 70 18 rfl)
      have f2 := Inv.s hG hI (k := 70) (j := 18) rfl rfl
      refine ⟨by omega, ?_⟩
      have f3 := Inv.cnt82 hG hI
      have f4 := Inv.s hG hI (k := 82) (j := (m.1 70 18).toNatClampNeg) rfl rfl
      refine ⟨fun hc5 => ?_, fun hc5 => ?_⟩
      · skip
        have f6 := ti_0
        exact ih.2.2 _ _ hI (by omega) (by omega)
      · skip
        have f6 := dMulE (X := 10) (Y := (m.1 70 18).toInt) (x := (10 : Int32)) (y := (m.1 70 18)) (by decide) rfl (by omega) (by omega)
        have f7 := dAddE (X := ((10 : Int32) * (m.1 70 18)).toInt) (Y := x1.toInt) (x := ((10 : Int32) * (m.1 70 18))) (y := x1) rfl rfl (by omega) (by omega)
        refine ⟨by omega, ?_⟩
        refine ⟨by omega, ?_⟩
        have f8 := dAddE (X := x1.toInt) (Y := 1) (x := x1) (y := (1 : Int32)) rfl (by decide) (by omega) (by omega)
        have I9 : Inv g (dSet m 108 x1.toNatClampNeg (m.1 85 (((10 : Int32) * (m.1 70 18)) + x1).toNatClampNeg)) := (Inv.setA hI rfl)
        exact ih.2.1 _ _ I9 (by omega) (by omega)
    · intro x1 m hI h1 hμ
      refine v_X12_begins_70_64 ?_
      have f1 := congrArg Int32.toInt (hI.2 70 18 rfl)
      have f2 := Inv.s hG hI (k := 70) (j := 18) rfl rfl
      refine ⟨by omega, ?_⟩
      have f3 := Inv.cnt86 hG hI
      have f4 := Inv.s hG hI (k := 86) (j := (m.1 70 18).toNatClampNeg) rfl rfl
      refine ⟨fun hc5 => ?_, fun hc5 => ?_⟩
      · skip
        refine ⟨by omega, ?_⟩
        refine ⟨by omega, ?_⟩
        have I6 : Inv g (dSet m 108 56 (m.1 93 (m.1 70 18).toNatClampNeg)) := (Inv.setA hI rfl)
        have I7 : Inv g (dSet (dSet m 108 56 (m.1 93 (m.1 70 18).toNatClampNeg)) 70 56 (m.1 94 (m.1 70 18).toNatClampNeg)) := (Inv.setA I6 rfl)
        have I8 : Inv g (dSet (dSet (dSet m 108 56 (m.1 93 (m.1 70 18).toNatClampNeg)) 70 56 (m.1 94 (m.1 70 18).toNatClampNeg)) 70 57 (0 : Int32)) := (Inv.setA I7 rfl)
        exact hQ _ I8
      · skip
        have f6 := dAddE (X := 47) (Y := x1.toInt) (x := (47 : Int32)) (y := x1) (by decide) rfl (by omega) (by omega)
        refine ⟨by omega, ?_⟩
        have f7 := dAddE (X := x1.toInt) (Y := 1) (x := x1) (y := (1 : Int32)) rfl (by decide) (by omega) (by omega)
        have I8 : Inv g (dSet m 108 ((47 : Int32) + x1).toNatClampNeg (1 : Int32)) := (Inv.setA hI rfl)
        exact ih.2.2 _ _ I8 (by omega) (by omega)
theorem s_X12_begins_70 {g : gM} {m : dM} {Q : dM → Prop} (hG : Gd g) (hI : Inv g m) (hQ : ∀ m' : dM, Inv g m' → Q m') : c_X12_begins_70 1 m Q := by
  refine v_X12_begins_70 ?_
  have f1 := ti_0
  exact (s_X12_begins_70_all hG hQ 80).1 _ _ hI (by omega) (by omega)
theorem s_X12_keepsRow_70_all {g : gM} {Q : dM → Prop} (hG : Gd g) (hQ : ∀ m' : dM, Inv g m' → Q m') : ∀ n : Nat, (∀ (x1 : Int32) (m : dM), Inv g m → (0 ≤ x1.toInt ∧ x1.toInt ≤ 58) → 58 - 1 * x1.toInt < (n : Int) → j_X12_keepsRow_70_2 1 x1 m Q) := by
  intro n
  induction n with
  | zero => exact fun x1 m hI h1 hμ => by exfalso; omega
  | succ n ih =>
    · intro x1 m hI h1 hμ
      refine v_X12_keepsRow_70_2 ?_
      refine ⟨fun hc1 => ?_, fun hc1 => ?_⟩
      · skip
        exact hQ _ hI
      · skip
        refine ⟨by omega, ?_⟩
        refine ⟨by omega, ?_⟩
        have f2 := dAddE (X := x1.toInt) (Y := 1) (x := x1) (y := (1 : Int32)) rfl (by decide) (by omega) (by omega)
        have I3 : Inv g (dSet m 107 x1.toNatClampNeg (m.1 108 x1.toNatClampNeg)) := (Inv.setA hI rfl)
        exact ih _ _ I3 (by omega) (by omega)
theorem s_X12_keepsRow_70 {g : gM} {m : dM} {Q : dM → Prop} (hG : Gd g) (hI : Inv g m) (hQ : ∀ m' : dM, Inv g m' → Q m') : c_X12_keepsRow_70 1 m Q := by
  refine v_X12_keepsRow_70 ?_
  have f1 := ti_0
  exact (s_X12_keepsRow_70_all hG hQ 60) _ _ hI (by omega) (by omega)
theorem s_J7_fill_59_all {g : gM} {Q : dM → Prop} (hG : Gd g) (hQ : ∀ m' : dM, Inv g m' → Q m') : ∀ n : Nat, (∀ (x1 : Int32) (x2 : Int32) (x3 : Int32) (m : dM), Inv g m → (-1 ≤ x1.toInt ∧ x1.toInt ≤ -1) → (0 ≤ x2.toInt ∧ x2.toInt ≤ 7) → (7 ≤ x3.toInt ∧ x3.toInt ≤ 7) → 7 - 1 * x2.toInt < (n : Int) → j_J7_fill_59_5 1 x1 x2 x3 m Q) := by
  intro n
  induction n with
  | zero => exact fun x1 x2 x3 m hI h1 h2 h3 hμ => by exfalso; omega
  | succ n ih =>
    · intro x1 x2 x3 m hI h1 h2 h3 hμ
      refine v_J7_fill_59_5 ?_
      refine ⟨fun hc1 => ?_, fun hc1 => ?_⟩
      · skip
        exact hQ _ hI
      · skip
        refine ⟨by omega, ?_⟩
        have f2 := dAddE (X := x2.toInt) (Y := 1) (x := x2) (y := (1 : Int32)) rfl (by decide) (by omega) (by omega)
        have I3 : Inv g (dSet m 59 x2.toNatClampNeg x1) := (Inv.set hI rfl (by omega) (by omega))
        exact ih _ _ _ _ I3 (by omega) (by omega) (by omega) (by omega)
theorem s_J7_fill_59 {g : gM} {x1 : Int32} {m : dM} {Q : dM → Prop} (hG : Gd g) (hI : Inv g m) (h1 : -1 ≤ x1.toInt ∧ x1.toInt ≤ -1) (hQ : ∀ m' : dM, Inv g m' → Q m') : c_J7_fill_59 1 x1 m Q := by
  refine v_J7_fill_59 ?_
  have f1 := ti_0
  have f2 := ti_7
  exact (s_J7_fill_59_all hG hQ 9) _ _ _ _ hI (by omega) (by omega) (by omega) (by omega)
theorem s_J7_fill_60_all {g : gM} {Q : dM → Prop} (hG : Gd g) (hQ : ∀ m' : dM, Inv g m' → Q m') : ∀ n : Nat, (∀ (x1 : Int32) (x2 : Int32) (x3 : Int32) (m : dM), Inv g m → (0 ≤ x1.toInt ∧ x1.toInt ≤ 0) → (0 ≤ x2.toInt ∧ x2.toInt ≤ 7) → (7 ≤ x3.toInt ∧ x3.toInt ≤ 7) → 7 - 1 * x2.toInt < (n : Int) → j_J7_fill_60_5 1 x1 x2 x3 m Q) := by
  intro n
  induction n with
  | zero => exact fun x1 x2 x3 m hI h1 h2 h3 hμ => by exfalso; omega
  | succ n ih =>
    · intro x1 x2 x3 m hI h1 h2 h3 hμ
      refine v_J7_fill_60_5 ?_
      refine ⟨fun hc1 => ?_, fun hc1 => ?_⟩
      · skip
        exact hQ _ hI
      · skip
        refine ⟨by omega, ?_⟩
        have f2 := dAddE (X := x2.toInt) (Y := 1) (x := x2) (y := (1 : Int32)) rfl (by decide) (by omega) (by omega)
        have I3 : Inv g (dSet m 60 x2.toNatClampNeg x1) := (Inv.setA hI rfl)
        exact ih _ _ _ _ I3 (by omega) (by omega) (by omega) (by omega)
theorem s_J7_fill_60 {g : gM} {x1 : Int32} {m : dM} {Q : dM → Prop} (hG : Gd g) (hI : Inv g m) (h1 : 0 ≤ x1.toInt ∧ x1.toInt ≤ 0) (hQ : ∀ m' : dM, Inv g m' → Q m') : c_J7_fill_60 1 x1 m Q := by
  refine v_J7_fill_60 ?_
  have f1 := ti_0
  have f2 := ti_7
  exact (s_J7_fill_60_all hG hQ 9) _ _ _ _ hI (by omega) (by omega) (by omega) (by omega)
theorem s_X10_reachBy_57 {g : gM} {x1 : Int32} {x2 : Int32} {m : dM} {Q : dM → Prop} (hG : Gd g) (hI : Inv g m) (h1 : 0 ≤ x1.toInt ∧ x1.toInt ≤ 9) (h2 : 1 ≤ x2.toInt ∧ x2.toInt ≤ 6) (hQ : ∀ m' : dM, Inv g m' → Q m') : c_X10_reachBy_57 1 x1 x2 m Q := by
  refine v_X10_reachBy_57 ?_
  refine ⟨by omega, ?_⟩
  have f1 := Inv.s hG hI (k := 4) (j := x1.toNatClampNeg) rfl rfl
  refine ⟨by omega, ?_⟩
  have f2 := Inv.w hI (k := 59) (j := (m.1 4 x1.toNatClampNeg).toNatClampNeg) rfl
  have f3 := dSubE (X := x2.toInt) (Y := 1) (x := x2) (y := (1 : Int32)) rfl (by decide) (by omega) (by omega)
  refine ⟨fun hc4 => ?_, fun hc4 => ?_⟩
  · skip
    refine ⟨by omega, ?_⟩
    refine ⟨by omega, ?_⟩
    refine ⟨by omega, ?_⟩
    refine ⟨fun hc5 => ?_, fun hc5 => ?_⟩
    · skip
      refine v_X10_reachBy_57_151 ?_
      exact hQ _ hI
    · skip
      have f6 := Inv.s hG hI (k := 5) (j := x1.toNatClampNeg) rfl rfl
      refine ⟨by omega, ?_⟩
      have f7 := Inv.w hI (k := 59) (j := (m.1 5 x1.toNatClampNeg).toNatClampNeg) rfl
      refine ⟨fun hc8 => ?_, fun hc8 => ?_⟩
      · skip
        refine v_X10_reachBy_57_151 ?_
        exact hQ _ hI
      · skip
        refine ⟨by omega, ?_⟩
        refine ⟨by omega, ?_⟩
        refine ⟨by omega, ?_⟩
        refine ⟨by omega, ?_⟩
        refine v_X10_reachBy_57_151 ?_
        have I9 : Inv g (dSet m 59 (m.1 4 x1.toNatClampNeg).toNatClampNeg x2) := (Inv.set hI rfl (by omega) (by omega))
        have I10 : Inv g (dSet (dSet m 59 (m.1 4 x1.toNatClampNeg).toNatClampNeg x2) 58 (m.1 4 x1.toNatClampNeg).toNatClampNeg x1) := (Inv.set I9 rfl (by omega) (by omega))
        have I11 : Inv g (dSet (dSet (dSet m 59 (m.1 4 x1.toNatClampNeg).toNatClampNeg x2) 58 (m.1 4 x1.toNatClampNeg).toNatClampNeg x1) 60 (m.1 4 x1.toNatClampNeg).toNatClampNeg ((m.1 60 (m.1 5 x1.toNatClampNeg).toNatClampNeg) ||| ((1 : Int32) <<< (x1 &&& 31)))) := (Inv.setA I10 rfl)
        have I12 : Inv g (dSet (dSet (dSet (dSet m 59 (m.1 4 x1.toNatClampNeg).toNatClampNeg x2) 58 (m.1 4 x1.toNatClampNeg).toNatClampNeg x1) 60 (m.1 4 x1.toNatClampNeg).toNatClampNeg ((m.1 60 (m.1 5 x1.toNatClampNeg).toNatClampNeg) ||| ((1 : Int32) <<< (x1 &&& 31)))) 57 5 ((m.1 57 5) ||| ((1 : Int32) <<< ((m.1 4 x1.toNatClampNeg) &&& 31)))) := (Inv.setA I11 rfl)
        exact hQ _ I12
  · skip
    refine ⟨by omega, ?_⟩
    refine ⟨by omega, ?_⟩
    have f5 := Inv.s hG hI (k := 5) (j := x1.toNatClampNeg) rfl rfl
    refine ⟨by omega, ?_⟩
    have f6 := Inv.w hI (k := 59) (j := (m.1 5 x1.toNatClampNeg).toNatClampNeg) rfl
    refine ⟨fun hc7 => ?_, fun hc7 => ?_⟩
    · skip
      refine v_X10_reachBy_57_151 ?_
      exact hQ _ hI
    · skip
      refine ⟨by omega, ?_⟩
      refine ⟨fun hc8 => ?_, fun hc8 => ?_⟩
      · skip
        refine v_X10_reachBy_57_151 ?_
        exact hQ _ hI
      · skip
        refine ⟨by omega, ?_⟩
        refine ⟨by omega, ?_⟩
        refine ⟨by omega, ?_⟩
        refine ⟨by omega, ?_⟩
        refine v_X10_reachBy_57_151 ?_
        have I9 : Inv g (dSet m 59 (m.1 5 x1.toNatClampNeg).toNatClampNeg x2) := (Inv.set hI rfl (by omega) (by omega))
        have I10 : Inv g (dSet (dSet m 59 (m.1 5 x1.toNatClampNeg).toNatClampNeg x2) 58 (m.1 5 x1.toNatClampNeg).toNatClampNeg x1) := (Inv.set I9 rfl (by omega) (by omega))
        have I11 : Inv g (dSet (dSet (dSet m 59 (m.1 5 x1.toNatClampNeg).toNatClampNeg x2) 58 (m.1 5 x1.toNatClampNeg).toNatClampNeg x1) 60 (m.1 5 x1.toNatClampNeg).toNatClampNeg ((m.1 60 (m.1 4 x1.toNatClampNeg).toNatClampNeg) ||| ((1 : Int32) <<< (x1 &&& 31)))) := (Inv.setA I10 rfl)
        have I12 : Inv g (dSet (dSet (dSet (dSet m 59 (m.1 5 x1.toNatClampNeg).toNatClampNeg x2) 58 (m.1 5 x1.toNatClampNeg).toNatClampNeg x1) 60 (m.1 5 x1.toNatClampNeg).toNatClampNeg ((m.1 60 (m.1 4 x1.toNatClampNeg).toNatClampNeg) ||| ((1 : Int32) <<< (x1 &&& 31)))) 57 5 ((m.1 57 5) ||| ((1 : Int32) <<< ((m.1 5 x1.toNatClampNeg) &&& 31)))) := (Inv.setA I11 rfl)
        exact hQ _ I12
theorem s_X10_lay_57_all {g : gM} {Q : dM → Prop} (hG : Gd g) (hQ : ∀ m' : dM, Inv g m' → Q m') : ∀ n : Nat, (∀ (x1 : Int32) (x2 : Int32) (m : dM), Inv g m → (1 ≤ x2.toInt ∧ x2.toInt ≤ 7) → 184 - 23 * x2.toInt < (n : Int) → j_X10_lay_57_58 2 x1 x2 m Q) ∧ (∀ (x1 : Int32) (x2 : Int32) (x3 : Int32) (x4 : Int32) (m : dM), Inv g m → (1 ≤ x2.toInt ∧ x2.toInt ≤ 6) → (0 ≤ x4.toInt ∧ x4.toInt ≤ 10) → 183 - 23 * x2.toInt - 2 * x4.toInt < (n : Int) → j_X10_lay_57_77 2 x1 x2 x3 x4 m Q) ∧ (∀ (x1 : Int32) (x2 : Int32) (x3 : Int32) (x4 : Int32) (m : dM), Inv g m → (1 ≤ x2.toInt ∧ x2.toInt ≤ 6) → (0 ≤ x4.toInt ∧ x4.toInt ≤ 9) → 182 - 23 * x2.toInt - 2 * x4.toInt < (n : Int) → j_X10_lay_57_105 2 x1 x2 x3 x4 m Q) ∧ (∀ (m : dM), Inv g m → 0 < (n : Int) → j_X10_lay_57_128 2 m Q) := by
  intro n
  induction n with
  | zero => exact ⟨fun x1 x2 m hI h2 hμ => by exfalso; omega, fun x1 x2 x3 x4 m hI h2 h4 hμ => by exfalso; omega, fun x1 x2 x3 x4 m hI h2 h4 hμ => by exfalso; omega, fun m hI hμ => by exfalso; omega⟩
  | succ n ih =>
    refine ⟨?_, ?_, ?_, ?_⟩
    · intro x1 x2 m hI h2 hμ
      refine v_X10_lay_57_58 ?_
      have f1 := congrArg Int32.toInt (hI.2 2 0 rfl)
      have f2 := Inv.s hG hI (k := 2) (j := 0) rfl rfl
      refine ⟨fun hc3 => ?_, fun hc3 => ?_⟩
      · skip
        exact ih.2.2.2 _ hI (by omega)
      · skip
        have f4 := ti_0
        exact ih.2.1 _ _ _ _ _ hI (by omega) (by omega) (by omega)
    · intro x1 x2 x3 x4 m hI h2 h4 hμ
      refine v_X10_lay_57_77 ?_
      have f1 := congrArg Int32.toInt (hI.2 2 1 rfl)
      have f2 := Inv.s hG hI (k := 2) (j := 1) rfl rfl
      refine ⟨fun hc3 => ?_, fun hc3 => ?_⟩
      · skip
        refine ⟨fun hc4 => ?_, fun hc4 => ?_⟩
        · skip
          have f5 := dAddE (X := x2.toInt) (Y := 1) (x := x2) (y := (1 : Int32)) rfl (by decide) (by omega) (by omega)
          exact ih.1 _ _ _ hI (by omega) (by omega)
        · skip
          exact ih.2.2.2 _ hI (by omega)
      · skip
        refine v_X11_has ?_
        have f4 := ti_1
        have f5 := dAndE (x := (x1.toUInt32 >>> (x4.toUInt32 &&& Int32.toUInt32 31)).toInt32) (y := (1 : Int32)) (by decide)
        refine ⟨fun hc6 => ?_, fun hc6 => ?_⟩
        · skip
          have f7 := ti_0
          refine ⟨fun hc8 => ?_, fun hc8 => ?_⟩
          · skip
            exfalso; omega
          · skip
            refine Wp.deep (s_X10_reachBy_57 hG hI (by omega) (by omega) (fun M9 I9 => ?_)) (Nat.le_of_ble_eq_true rfl)
            exact ih.2.2.1 _ _ _ _ _ I9 (by omega) (by omega) (by omega)
        · skip
          refine ⟨fun hc7 => ?_, fun hc7 => ?_⟩
          · skip
            exact ih.2.2.1 _ _ _ _ _ hI (by omega) (by omega) (by omega)
          · skip
            exfalso; omega
    · intro x1 x2 x3 x4 m hI h2 h4 hμ
      refine v_X10_lay_57_105 ?_
      have f1 := dAddE (X := x4.toInt) (Y := 1) (x := x4) (y := (1 : Int32)) rfl (by decide) (by omega) (by omega)
      exact ih.2.1 _ _ _ _ _ hI (by omega) (by omega) (by omega)
    · intro m hI hμ
      refine v_X10_lay_57_128 ?_
      exact hQ _ hI
theorem s_X10_lay_57 {g : gM} {x1 : Int32} {m : dM} {Q : dM → Prop} (hG : Gd g) (hI : Inv g m) (hQ : ∀ m' : dM, Inv g m' → Q m') : c_X10_lay_57 2 x1 m Q := by
  refine v_X10_lay_57 ?_
  refine ⟨fun hc1 => ?_, fun hc1 => ?_⟩
  · skip
    have f2 := congrArg Int32.toInt (hI.2 2 0 rfl)
    have f3 := Inv.s hG hI (k := 2) (j := 0) rfl rfl
    refine ⟨fun hc4 => ?_, fun hc4 => ?_⟩
    · skip
      have f5 := ti_m1
      have I6 : Inv g (dSet m 57 1 x1) := (Inv.setA hI rfl)
      have I7 : Inv g (dSet (dSet m 57 1 x1) 57 5 (0 : Int32)) := (Inv.setA I6 rfl)
      refine Wp.deep (s_J7_fill_59 hG I7 (by omega) (fun M8 I8 => ?_)) (Nat.le_of_ble_eq_true rfl)
      have f9 := ti_0
      refine Wp.deep (s_J7_fill_60 hG I8 (by omega) (fun M10 I10 => ?_)) (Nat.le_of_ble_eq_true rfl)
      have f11 := ti_1
      have I12 : Inv g (dSet M10 59 0 (0 : Int32)) := (Inv.set I10 rfl (by omega) (by omega))
      exact (s_X10_lay_57_all hG hQ 163).1 _ _ _ I12 (by omega) (by omega)
    · skip
      have f5 := ti_m1
      have I6 : Inv g (dSet m 57 1 x1) := (Inv.setA hI rfl)
      have I7 : Inv g (dSet (dSet m 57 1 x1) 57 5 (1 : Int32)) := (Inv.setA I6 rfl)
      refine Wp.deep (s_J7_fill_59 hG I7 (by omega) (fun M8 I8 => ?_)) (Nat.le_of_ble_eq_true rfl)
      have f9 := ti_0
      refine Wp.deep (s_J7_fill_60 hG I8 (by omega) (fun M10 I10 => ?_)) (Nat.le_of_ble_eq_true rfl)
      have f11 := ti_1
      have I12 : Inv g (dSet M10 59 0 (0 : Int32)) := (Inv.set I10 rfl (by omega) (by omega))
      exact (s_X10_lay_57_all hG hQ 163).1 _ _ _ I12 (by omega) (by omega)
  · skip
    exact hQ _ hI
theorem s_X0_waysNow_54_47 {g : gM} {m : dM} {Q : dM → Prop} (hG : Gd g) (hI : Inv g m) (hQ : ∀ m' : dM, Inv g m' → Q m') : c_X0_waysNow_54_47 3 m Q := by
  refine v_X0_waysNow_54_47 ?_
  refine Wp.deep (s_X10_lay_57 hG hI (fun M1 I1 => ?_)) (Nat.le_of_ble_eq_true rfl)
  exact hQ _ I1
theorem s_J7_fill_55_all {g : gM} {Q : dM → Prop} (hG : Gd g) (hQ : ∀ m' : dM, Inv g m' → Q m') : ∀ n : Nat, (∀ (x1 : Int32) (x2 : Int32) (x3 : Int32) (m : dM), Inv g m → (0 ≤ x1.toInt ∧ x1.toInt ≤ 0) → (0 ≤ x2.toInt ∧ x2.toInt ≤ 9) → (9 ≤ x3.toInt ∧ x3.toInt ≤ 9) → 9 - 1 * x2.toInt < (n : Int) → j_J7_fill_55_5 1 x1 x2 x3 m Q) := by
  intro n
  induction n with
  | zero => exact fun x1 x2 x3 m hI h1 h2 h3 hμ => by exfalso; omega
  | succ n ih =>
    · intro x1 x2 x3 m hI h1 h2 h3 hμ
      refine v_J7_fill_55_5 ?_
      refine ⟨fun hc1 => ?_, fun hc1 => ?_⟩
      · skip
        exact hQ _ hI
      · skip
        refine ⟨by omega, ?_⟩
        have f2 := dAddE (X := x2.toInt) (Y := 1) (x := x2) (y := (1 : Int32)) rfl (by decide) (by omega) (by omega)
        have I3 : Inv g (dSet m 55 x2.toNatClampNeg x1) := (Inv.setA hI rfl)
        exact ih _ _ _ _ I3 (by omega) (by omega) (by omega) (by omega)
theorem s_J7_fill_55 {g : gM} {x1 : Int32} {m : dM} {Q : dM → Prop} (hG : Gd g) (hI : Inv g m) (h1 : 0 ≤ x1.toInt ∧ x1.toInt ≤ 0) (hQ : ∀ m' : dM, Inv g m' → Q m') : c_J7_fill_55 1 x1 m Q := by
  refine v_J7_fill_55 ?_
  have f1 := ti_0
  have f2 := ti_9
  exact (s_J7_fill_55_all hG hQ 11) _ _ _ _ hI (by omega) (by omega) (by omega) (by omega)
theorem s_X0_setVars_54 {g : gM} {x1 : Int32} {x2 : Int32} {x3 : Int32} {m : dM} {Q : dM → Prop} (hG : Gd g) (hI : Inv g m) (h1 : -23 ≤ x1.toInt ∧ x1.toInt ≤ 23) (h3 : 0 ≤ x3.toInt ∧ x3.toInt ≤ 9) (hQ : ∀ m' : dM, Inv g m' → Q m') : c_X0_setVars_54 2 x1 x2 x3 m Q := by
  refine v_X0_setVars_54 ?_
  have f1 := ti_0
  refine Wp.deep (s_J7_fill_55 hG hI (by omega) (fun M2 I2 => ?_)) (Nat.le_of_ble_eq_true rfl)
  have I3 : Inv g (dSet M2 55 3 x1) := (Inv.setA I2 rfl)
  have I4 : Inv g (dSet (dSet M2 55 3 x1) 55 4 x2) := (Inv.setA I3 rfl)
  have I5 : Inv g (dSet (dSet (dSet M2 55 3 x1) 55 4 x2) 55 8 x3) := (Inv.setA I4 rfl)
  exact hQ _ I5
theorem s_X4_worked_11 {g : gM} {x1 : Int32} {x2 : Int32} {x3 : Int32} {m : dM} {Q : Int32 → dM → Prop} (hG : Gd g) (hI : Inv g m) (h1 : x1.toInt ≤ 3) (hQ : ∀ (r : Int32) (m' : dM), Inv g m' → Q r m') : c_X4_worked_11 1 x1 x2 x3 m Q := by
  refine v_X4_worked_11 ?_
  refine ⟨fun hc1 => ?_, fun hc1 => ?_, fun hc1 => ?_, fun hc1 => ?_⟩
  · skip
    exact hQ _ _ hI
  · skip
    exact hQ _ _ hI
  · skip
    exact hQ _ _ hI
  · skip
    refine ⟨fun hc2 => ?_, fun hc2 => ?_⟩
    · skip
      refine ⟨fun hz => by have := congrArg Int32.toInt hz; have e0 : (0 : Int32).toInt = 0 := rfl; omega, ?_⟩
      exact hQ _ _ hI
    · skip
      have f3 := ti_0
      have I4 : Inv g (dSet m 11 5 (1 : Int32)) := (Inv.setA hI rfl)
      exact hQ _ _ I4
theorem s_X4_pieceTells_11_55_all {g : gM} {Q : Int32 → dM → Prop} (hG : Gd g) (hQ : ∀ (r : Int32) (m' : dM), Inv g m' → Q r m') : ∀ n : Nat, (∀ (m : dM), Inv g m → 0 < (n : Int) → j_X4_pieceTells_11_55_10 2 m Q) ∧ (∀ (x4 : Int32) (x5 : Int32) (x6 : Int32) (m : dM), Inv g m → (0 ≤ x4.toInt ∧ x4.toInt ≤ 32) → (0 ≤ x5.toInt ∧ x5.toInt ≤ 406) → (0 ≤ x6.toInt ∧ x6.toInt ≤ 406) → 815 - 2 * x6.toInt < (n : Int) → j_X4_pieceTells_11_55_37 2 x4 x5 x6 m Q) ∧ (∀ (x4 : Int32) (x5 : Int32) (x6 : Int32) (m : dM), Inv g m → (0 ≤ x4.toInt ∧ x4.toInt ≤ 32) → (1 ≤ x5.toInt ∧ x5.toInt ≤ 406) → (0 ≤ x6.toInt ∧ x6.toInt ≤ 405) → 814 - 2 * x6.toInt < (n : Int) → j_X4_pieceTells_11_55_150 2 x4 x5 x6 m Q) ∧ (∀ (m : dM), Inv g m → 1 < (n : Int) → j_X4_pieceTells_11_55_156 2 m Q) := by
  intro n
  induction n with
  | zero => exact ⟨fun m hI hμ => by exfalso; omega, fun x4 x5 x6 m hI h4 h5 h6 hμ => by exfalso; omega, fun x4 x5 x6 m hI h4 h5 h6 hμ => by exfalso; omega, fun m hI hμ => by exfalso; omega⟩
  | succ n ih =>
    refine ⟨?_, ?_, ?_, ?_⟩
    · intro m hI hμ
      refine v_X4_pieceTells_11_55_10 ?_
      have f1 := ti_0
      exact hQ _ _ hI
    · intro x4 x5 x6 m hI h4 h5 h6 hμ
      refine v_X4_pieceTells_11_55_37 ?_
      refine ⟨fun hc1 => ?_, fun hc1 => ?_⟩
      · skip
        exact ih.2.2.2 _ hI (by omega)
      · skip
        refine ⟨fun hc2 => ?_, fun hc2 => ?_⟩
        · skip
          exact ih.2.2.2 _ hI (by omega)
        · skip
          refine ⟨by omega, ?_⟩
          refine ⟨fun hc3 => ?_, fun hc3 => ?_⟩
          · skip
            refine ⟨fun hc4 => ?_, fun hc4 => ?_⟩
            · skip
              refine ⟨fun hc5 => ?_, fun hc5 => ?_⟩
              · skip
                exact ih.2.2.1 _ _ _ _ hI (by omega) (by omega) (by omega) (by omega)
              · skip
                have f6 := dAddE (X := x4.toInt) (Y := (-1)) (x := x4) (y := (-1 : Int32)) rfl (by decide) (by omega) (by omega)
                have f7 := dSubE (X := (x4 + (-1 : Int32)).toInt) (Y := 1) (x := (x4 + (-1 : Int32))) (y := (1 : Int32)) rfl (by decide) (by omega) (by omega)
                refine ⟨by omega, ?_⟩
                refine ⟨by omega, ?_⟩
                refine Wp.deep (s_X4_worked_11 hG hI (by omega) (fun R8 M8 I8 => ?_)) (Nat.le_of_ble_eq_true rfl)
                refine ⟨by omega, ?_⟩
                have I9 : Inv g (dSet M8 19 ((x4 + (-1 : Int32)) - (1 : Int32)).toNatClampNeg R8) := (Inv.setA I8 rfl)
                exact ih.2.2.1 _ _ _ _ I9 (by omega) (by omega) (by omega) (by omega)
            · skip
              have f5 := dSubE (X := (m.1 12 x6.toNatClampNeg).toInt) (Y := 4) (x := (m.1 12 x6.toNatClampNeg)) (y := (4 : Int32)) rfl (by decide) (by omega) (by omega)
              refine ⟨by omega, ?_⟩
              refine ⟨by omega, ?_⟩
              have f6 := dAddE (X := x4.toInt) (Y := 1) (x := x4) (y := (1 : Int32)) rfl (by decide) (by omega) (by omega)
              have I7 : Inv g (dSet m 19 x4.toNatClampNeg (m.1 55 ((m.1 12 x6.toNatClampNeg) - (4 : Int32)).toNatClampNeg)) := (Inv.setA hI rfl)
              exact ih.2.2.1 _ _ _ _ I7 (by omega) (by omega) (by omega) (by omega)
          · skip
            refine ⟨by omega, ?_⟩
            have f4 := dAddE (X := x4.toInt) (Y := 1) (x := x4) (y := (1 : Int32)) rfl (by decide) (by omega) (by omega)
            have I5 : Inv g (dSet m 19 x4.toNatClampNeg ((m.1 12 x6.toNatClampNeg) - (13 : Int32))) := (Inv.setA hI rfl)
            exact ih.2.2.1 _ _ _ _ I5 (by omega) (by omega) (by omega) (by omega)
    · intro x4 x5 x6 m hI h4 h5 h6 hμ
      refine v_X4_pieceTells_11_55_150 ?_
      have f1 := dAddE (X := x6.toInt) (Y := 1) (x := x6) (y := (1 : Int32)) rfl (by decide) (by omega) (by omega)
      exact ih.2.1 _ _ _ _ hI (by omega) (by omega) (by omega) (by omega)
    · intro m hI hμ
      refine v_X4_pieceTells_11_55_156 ?_
      exact hQ _ _ hI
theorem s_X4_pieceTells_11_55 {g : gM} {x1 : Int32} {x2 : Int32} {m : dM} {Q : Int32 → dM → Prop} (hG : Gd g) (hI : Inv g m) (h1 : 0 ≤ x1.toInt ∧ x1.toInt ≤ 3) (h2 : -1 ≤ x2.toInt ∧ x2.toInt ≤ 12) (hQ : ∀ (r : Int32) (m' : dM), Inv g m' → Q r m') : c_X4_pieceTells_11_55 2 x1 x2 m Q := by
  refine v_X4_pieceTells_11_55 ?_
  refine ⟨fun hc1 => ?_, fun hc1 => ?_⟩
  · skip
    exact (s_X4_pieceTells_11_55_all hG hQ 817).1 _ hI (by omega)
  · skip
    refine ⟨fun hc2 => ?_, fun hc2 => ?_⟩
    · skip
      refine ⟨by omega, fun hc3 => ?_, fun hc4 => ?_, fun hc5 => ?_, fun hc6 => ?_⟩
      · skip
        have f7 := dAddE (X := x2.toInt) (Y := 1) (x := x2) (y := (1 : Int32)) rfl (by decide) (by omega) (by omega)
        refine ⟨by omega, ?_⟩
        refine ⟨by omega, fun hc8 => ?_, fun hc9 => ?_, fun hc10 => ?_, fun hc11 => ?_⟩
        · skip
          refine ⟨by omega, ?_⟩
          have f12 := ti_0
          have f13 := Inv.s hG hI (k := 14) (j := (x2 + (1 : Int32)).toNatClampNeg) rfl rfl
          have f14 := Inv.s hG hI (k := 14) (j := x2.toNatClampNeg) rfl rfl
          exact (s_X4_pieceTells_11_55_all hG hQ 817).2.1 _ _ _ _ hI (by omega) (by omega) (by omega) (by omega)
        · skip
          exfalso; omega
        · skip
          exfalso; omega
        · skip
          exfalso; omega
      · skip
        have f7 := dAddE (X := x2.toInt) (Y := 1) (x := x2) (y := (1 : Int32)) rfl (by decide) (by omega) (by omega)
        refine ⟨by omega, ?_⟩
        refine ⟨by omega, fun hc8 => ?_, fun hc9 => ?_, fun hc10 => ?_, fun hc11 => ?_⟩
        · skip
          exfalso; omega
        · skip
          refine ⟨by omega, ?_⟩
          have f12 := ti_0
          have f13 := Inv.s hG hI (k := 15) (j := (x2 + (1 : Int32)).toNatClampNeg) rfl rfl
          have f14 := Inv.s hG hI (k := 15) (j := x2.toNatClampNeg) rfl rfl
          exact (s_X4_pieceTells_11_55_all hG hQ 817).2.1 _ _ _ _ hI (by omega) (by omega) (by omega) (by omega)
        · skip
          exfalso; omega
        · skip
          exfalso; omega
      · skip
        have f7 := dAddE (X := x2.toInt) (Y := 1) (x := x2) (y := (1 : Int32)) rfl (by decide) (by omega) (by omega)
        refine ⟨by omega, ?_⟩
        refine ⟨by omega, fun hc8 => ?_, fun hc9 => ?_, fun hc10 => ?_, fun hc11 => ?_⟩
        · skip
          exfalso; omega
        · skip
          exfalso; omega
        · skip
          refine ⟨by omega, ?_⟩
          have f12 := ti_0
          have f13 := Inv.s hG hI (k := 16) (j := (x2 + (1 : Int32)).toNatClampNeg) rfl rfl
          have f14 := Inv.s hG hI (k := 16) (j := x2.toNatClampNeg) rfl rfl
          exact (s_X4_pieceTells_11_55_all hG hQ 817).2.1 _ _ _ _ hI (by omega) (by omega) (by omega) (by omega)
        · skip
          exfalso; omega
      · skip
        have f7 := dAddE (X := x2.toInt) (Y := 1) (x := x2) (y := (1 : Int32)) rfl (by decide) (by omega) (by omega)
        refine ⟨by omega, ?_⟩
        refine ⟨by omega, fun hc8 => ?_, fun hc9 => ?_, fun hc10 => ?_, fun hc11 => ?_⟩
        · skip
          exfalso; omega
        · skip
          exfalso; omega
        · skip
          exfalso; omega
        · skip
          refine ⟨by omega, ?_⟩
          have f12 := ti_0
          have f13 := Inv.s hG hI (k := 17) (j := (x2 + (1 : Int32)).toNatClampNeg) rfl rfl
          have f14 := Inv.s hG hI (k := 17) (j := x2.toNatClampNeg) rfl rfl
          exact (s_X4_pieceTells_11_55_all hG hQ 817).2.1 _ _ _ _ hI (by omega) (by omega) (by omega) (by omega)
    · skip
      exfalso; omega
theorem s_X4_tells_11_55_all {g : gM} {Q : Int32 → dM → Prop} (hG : Gd g) (hQ : ∀ (r : Int32) (m' : dM), Inv g m' → Q r m') : ∀ n : Nat, (∀ (x1 : Int32) (x3 : Int32) (x4 : Int32) (m : dM), Inv g m → (0 ≤ x1.toInt ∧ x1.toInt ≤ 3) → (-1 ≤ x3.toInt ∧ x3.toInt ≤ 12) → (0 ≤ x4.toInt ∧ x4.toInt ≤ 13) → 14 - 1 * x4.toInt < (n : Int) → j_X4_tells_11_55_17 3 x1 x3 x4 m Q) ∧ (∀ (x1 : Int32) (x3 : Int32) (m : dM), Inv g m → (0 ≤ x1.toInt ∧ x1.toInt ≤ 3) → (-1 ≤ x3.toInt ∧ x3.toInt ≤ 12) → 0 < (n : Int) → j_X4_tells_11_55_93 3 x1 x3 m Q) := by
  intro n
  induction n with
  | zero => exact ⟨fun x1 x3 x4 m hI h1 h3 h4 hμ => by exfalso; omega, fun x1 x3 m hI h1 h3 hμ => by exfalso; omega⟩
  | succ n ih =>
    refine ⟨?_, ?_⟩
    · intro x1 x3 x4 m hI h1 h3 h4 hμ
      refine v_X4_tells_11_55_17 ?_
      refine ⟨by omega, ?_⟩
      have f1 := dAddE (X := x4.toInt) (Y := 2) (x := x4) (y := (2 : Int32)) rfl (by decide) (by omega) (by omega)
      have f2 := Inv.s hG hI (k := 18) (j := x1.toNatClampNeg) rfl rfl
      refine ⟨fun hc3 => ?_, fun hc3 => ?_⟩
      · skip
        exact ih.2 _ _ _ hI (by omega) (by omega) (by omega)
      · skip
        refine Wp.deep (s_X4_pieceTells_11_55 hG hI (by omega) (by omega) (fun R4 M4 I4 => ?_)) (Nat.le_of_ble_eq_true rfl)
        refine ⟨fun hc5 => ?_, fun hc5 => ?_⟩
        · skip
          have f6 := dAddE (X := x4.toInt) (Y := 1) (x := x4) (y := (1 : Int32)) rfl (by decide) (by omega) (by omega)
          refine Wp.deep (s_X4_pieceTells_11_55 hG I4 (by omega) (by omega) (fun R7 M7 I7 => ?_)) (Nat.le_of_ble_eq_true rfl)
          refine ⟨fun hc8 => ?_, fun hc8 => ?_⟩
          · skip
            refine ⟨fun hc9 => ?_, fun hc9 => ?_⟩
            · skip
              have f10 := dAddE (X := x4.toInt) (Y := 3) (x := x4) (y := (3 : Int32)) rfl (by decide) (by omega) (by omega)
              exact ih.1 _ _ _ _ I7 (by omega) (by omega) (by omega) (by omega)
            · skip
              exact ih.2 _ _ _ I7 (by omega) (by omega) (by omega)
          · skip
            have f9 := ti_0
            exact hQ _ _ I7
        · skip
          refine ⟨fun hc6 => ?_, fun hc6 => ?_⟩
          · skip
            refine ⟨fun hc7 => ?_, fun hc7 => ?_⟩
            · skip
              have f8 := dAddE (X := x4.toInt) (Y := 3) (x := x4) (y := (3 : Int32)) rfl (by decide) (by omega) (by omega)
              exact ih.1 _ _ _ _ I4 (by omega) (by omega) (by omega) (by omega)
            · skip
              exact ih.2 _ _ _ I4 (by omega) (by omega) (by omega)
          · skip
            have f7 := ti_0
            exact hQ _ _ I4
    · intro x1 x3 m hI h1 h3 hμ
      refine v_X4_tells_11_55_93 ?_
      refine Wp.deep (s_X4_pieceTells_11_55 hG hI (by omega) (by omega) (fun R1 M1 I1 => ?_)) (Nat.le_of_ble_eq_true rfl)
      refine ⟨fun hc2 => ?_, fun hc2 => ?_⟩
      · skip
        exact hQ _ _ I1
      · skip
        have f3 := ti_0
        exact hQ _ _ I1
theorem s_X4_tells_11_55 {g : gM} {x1 : Int32} {m : dM} {Q : Int32 → dM → Prop} (hG : Gd g) (hI : Inv g m) (h1 : 0 ≤ x1.toInt ∧ x1.toInt ≤ 3) (hQ : ∀ (r : Int32) (m' : dM), Inv g m' → Q r m') : c_X4_tells_11_55 3 x1 m Q := by
  refine v_X4_tells_11_55 ?_
  refine ⟨by omega, ?_⟩
  have f1 := Inv.s hG hI (k := 18) (j := x1.toNatClampNeg) rfl rfl
  have f2 := dSubE (X := (m.1 18 x1.toNatClampNeg).toInt) (Y := 1) (x := (m.1 18 x1.toNatClampNeg)) (y := (1 : Int32)) rfl (by decide) (by omega) (by omega)
  have f3 := ti_0
  have I4 : Inv g (dSet m 11 5 (0 : Int32)) := (Inv.setA hI rfl)
  exact (s_X4_tells_11_55_all hG hQ 16).1 _ _ _ _ I4 (by omega) (by omega) (by omega) (by omega)
theorem s_X0_held {g : gM} {x0 : Int32} {m : dM} {Q : Int32 → dM → Prop} (hG : Gd g) (hI : Inv g m) (hQ : ∀ r : Int32, (0 ≤ r.toInt ∧ r.toInt ≤ 99) → Q r m) : c_X0_held 1 x0 m Q := by
  refine v_X0_held ?_
  have f1 := ti_0
  have f2 := ti_99
  have f3 := dMinE (99 : Int32) x0
  have f4 := dMaxE (0 : Int32) (if x0 < (99 : Int32) then x0 else (99 : Int32))
  exact hQ _ (by omega)
theorem s_X0_quarrelOf_54_47 {g : gM} {x2 : Int32} {m : dM} {Q : Int32 → dM → Prop} (hG : Gd g) (hI : Inv g m) (h2 : 0 ≤ x2.toInt ∧ x2.toInt ≤ 6) (hQ : ∀ (r : Int32) (m' : dM), Inv g m' → (0 ≤ r.toInt ∧ r.toInt ≤ 99) → Q r m') : c_X0_quarrelOf_54_47 4 x2 m Q := by
  refine v_X0_quarrelOf_54_47 ?_
  refine v_X7_hourOfDay_47 ?_
  refine v_X7_day_47 ?_
  have f1 := dRemE (x := (m.1 47 0)) (y := (24 : Int32)) (Y := 24) (by decide) (by decide)
  refine Wp.deep (s_X0_setVars_54 hG hI (by omega) (by omega) (fun M2 I2 => ?_)) (Nat.le_of_ble_eq_true rfl)
  refine ⟨by omega, ?_⟩
  refine ⟨by omega, ?_⟩
  have f3 := ti_1
  have I4 : Inv g (dSet M2 55 6 (M2.1 3 x2.toNatClampNeg)) := (Inv.setA I2 rfl)
  have I5 : Inv g (dSet (dSet M2 55 6 (M2.1 3 x2.toNatClampNeg)) 55 7 (M2.1 50 x2.toNatClampNeg)) := (Inv.setA I4 rfl)
  refine Wp.deep (s_X4_tells_11_55 hG I5 (by omega) (fun R6 M6 I6 => ?_)) (Nat.le_of_ble_eq_true rfl)
  refine Wp.deep (s_X0_held hG I6 (fun R7 hr7 => ?_)) (Nat.le_of_ble_eq_true rfl)
  exact hQ _ _ I6 (by omega)
theorem s_X0_usesAt_54_47_all {g : gM} {Q : Int32 → dM → Prop} (hG : Gd g) (hQ : ∀ (r : Int32) (m' : dM), Inv g m' → Q r m') : ∀ n : Nat, (∀ (x2 : Int32) (x3 : Int32) (x4 : Int32) (m : dM), Inv g m → (-23 ≤ x2.toInt ∧ x2.toInt ≤ 23) → (0 ≤ x4.toInt ∧ x4.toInt ≤ 8) → 26 - 3 * x4.toInt < (n : Int) → j_X0_usesAt_54_47_16 3 x2 x3 x4 m Q) ∧ (∀ (x2 : Int32) (x3 : Int32) (x4 : Int32) (m : dM), Inv g m → (-23 ≤ x2.toInt ∧ x2.toInt ≤ 23) → (0 ≤ x4.toInt ∧ x4.toInt ≤ 7) → 25 - 3 * x4.toInt < (n : Int) → j_X0_usesAt_54_47_60 3 x2 x3 x4 m Q) ∧ (∀ (x2 : Int32) (x3 : Int32) (x4 : Int32) (m : dM), Inv g m → (-23 ≤ x2.toInt ∧ x2.toInt ≤ 23) → (0 ≤ x4.toInt ∧ x4.toInt ≤ 7) → 24 - 3 * x4.toInt < (n : Int) → j_X0_usesAt_54_47_110 3 x2 x3 x4 m Q) := by
  intro n
  induction n with
  | zero => exact ⟨fun x2 x3 x4 m hI h2 h4 hμ => by exfalso; omega, fun x2 x3 x4 m hI h2 h4 hμ => by exfalso; omega, fun x2 x3 x4 m hI h2 h4 hμ => by exfalso; omega⟩
  | succ n ih =>
    refine ⟨?_, ?_, ?_⟩
    · intro x2 x3 x4 m hI h2 h4 hμ
      refine v_X0_usesAt_54_47_16 ?_
      have f1 := congrArg Int32.toInt (hI.2 2 2 rfl)
      have f2 := Inv.s hG hI (k := 2) (j := 2) rfl rfl
      refine ⟨fun hc3 => ?_, fun hc3 => ?_⟩
      · skip
        exact hQ _ _ hI
      · skip
        refine ⟨by omega, ?_⟩
        refine ⟨fun hc4 => ?_, fun hc4 => ?_⟩
        · skip
          exact ih.2.1 _ _ _ _ hI (by omega) (by omega) (by omega)
        · skip
          refine ⟨by omega, ?_⟩
          refine ⟨fun hc5 => ?_, fun hc5 => ?_⟩
          · skip
            exact ih.2.1 _ _ _ _ hI (by omega) (by omega) (by omega)
          · skip
            refine v_X11_has ?_
            have f6 := ti_1
            have f7 := dAndE (x := ((m.1 47 5).toUInt32 >>> (x4.toUInt32 &&& Int32.toUInt32 31)).toInt32) (y := (1 : Int32)) (by decide)
            refine ⟨fun hc8 => ?_, fun hc8 => ?_⟩
            · skip
              have f9 := ti_0
              refine ⟨fun hc10 => ?_, fun hc10 => ?_⟩
              · skip
                exact ih.2.2 _ _ _ _ hI (by omega) (by omega) (by omega)
              · skip
                exfalso; omega
            · skip
              refine ⟨fun hc9 => ?_, fun hc9 => ?_⟩
              · skip
                exfalso; omega
              · skip
                refine ⟨by omega, ?_⟩
                refine v_X11_has ?_
                have f10 := Inv.home hG hI (u := x4) (by omega) (by omega)
                have f11 := dAndE (x := ((m.1 57 5).toUInt32 >>> ((m.1 7 x4.toNatClampNeg).toUInt32 &&& Int32.toUInt32 31)).toInt32) (y := (1 : Int32)) (by decide)
                refine ⟨fun hc12 => ?_, fun hc12 => ?_⟩
                · skip
                  have f13 := ti_0
                  refine ⟨fun hc14 => ?_, fun hc14 => ?_⟩
                  · skip
                    exact ih.2.2 _ _ _ _ hI (by omega) (by omega) (by omega)
                  · skip
                    exfalso; omega
                · skip
                  refine ⟨fun hc13 => ?_, fun hc13 => ?_⟩
                  · skip
                    exfalso; omega
                  · skip
                    have f14 := dShl8 (x := x4) (by omega) (by omega)
                    exact ih.2.2 _ _ _ _ hI (by omega) (by omega) (by omega)
    · intro x2 x3 x4 m hI h2 h4 hμ
      refine v_X0_usesAt_54_47_60 ?_
      exact ih.2.2 _ _ _ _ hI (by omega) (by omega) (by omega)
    · intro x2 x3 x4 m hI h2 h4 hμ
      refine v_X0_usesAt_54_47_110 ?_
      have f1 := dAddE (X := x4.toInt) (Y := 1) (x := x4) (y := (1 : Int32)) rfl (by decide) (by omega) (by omega)
      exact ih.1 _ _ _ _ hI (by omega) (by omega) (by omega)
theorem s_X0_usesAt_54_47 {g : gM} {x2 : Int32} {m : dM} {Q : Int32 → dM → Prop} (hG : Gd g) (hI : Inv g m) (h2 : -23 ≤ x2.toInt ∧ x2.toInt ≤ 23) (hQ : ∀ (r : Int32) (m' : dM), Inv g m' → Q r m') : c_X0_usesAt_54_47 3 x2 m Q := by
  refine v_X0_usesAt_54_47 ?_
  refine Wp.deep (s_X10_lay_57 hG hI (fun M1 I1 => ?_)) (Nat.le_of_ble_eq_true rfl)
  have f2 := ti_0
  exact (s_X0_usesAt_54_47_all hG hQ 28).1 _ _ _ _ I1 (by omega) (by omega) (by omega)
theorem s_X0_usesNow_54_47 {g : gM} {m : dM} {Q : Int32 → dM → Prop} (hG : Gd g) (hI : Inv g m) (hQ : ∀ (r : Int32) (m' : dM), Inv g m' → Q r m') : c_X0_usesNow_54_47 4 m Q := by
  refine v_X0_usesNow_54_47 ?_
  refine v_X7_hourOfDay_47 ?_
  have f1 := dRemE (x := (m.1 47 0)) (y := (24 : Int32)) (Y := 24) (by decide) (by decide)
  refine Wp.deep (s_X0_usesAt_54_47 hG hI (by omega) (fun R2 M2 I2 => ?_)) (Nat.le_of_ble_eq_true rfl)
  exact hQ _ _ I2
theorem s_X0_ampsOf_54_all {g : gM} {Q : Int32 → dM → Prop} {m : dM} (hG : Gd g) (hI : Inv g m) (hQ : ∀ r : Int32, Q r m) : ∀ n : Nat, (∀ (x1 : Int32) (x2 : Int32) (x3 : Int32) (x4 : Int32), (0 ≤ x2.toInt ∧ x2.toInt ≤ 6) → (0 ≤ x4.toInt ∧ x4.toInt ≤ 8) → 8 - 1 * x4.toInt < (n : Int) → j_X0_ampsOf_54_5 2 x1 x2 x3 x4 m Q) := by
  intro n
  induction n with
  | zero => exact fun x1 x2 x3 x4 h2 h4 hμ => by exfalso; omega
  | succ n ih =>
    · intro x1 x2 x3 x4 h2 h4 hμ
      refine v_X0_ampsOf_54_5 ?_
      have f1 := congrArg Int32.toInt (hI.2 2 2 rfl)
      have f2 := Inv.s hG hI (k := 2) (j := 2) rfl rfl
      refine ⟨fun hc3 => ?_, fun hc3 => ?_⟩
      · skip
        exact hQ _
      · skip
        refine v_X11_has ?_
        have f4 := ti_1
        have f5 := dAndE (x := (x1.toUInt32 >>> (x4.toUInt32 &&& Int32.toUInt32 31)).toInt32) (y := (1 : Int32)) (by decide)
        refine ⟨fun hc6 => ?_, fun hc6 => ?_⟩
        · skip
          have f7 := ti_0
          refine ⟨fun hc8 => ?_, fun hc8 => ?_⟩
          · skip
            have f9 := dAddE (X := x4.toInt) (Y := 1) (x := x4) (y := (1 : Int32)) rfl (by decide) (by omega) (by omega)
            exact ih _ _ _ _ (by omega) (by omega) (by omega)
          · skip
            exfalso; omega
        · skip
          refine ⟨fun hc7 => ?_, fun hc7 => ?_⟩
          · skip
            exfalso; omega
          · skip
            refine ⟨by omega, ?_⟩
            have f8 := Inv.home hG hI (u := x4) (by omega) (by omega)
            refine ⟨fun hc9 => ?_, fun hc9 => ?_⟩
            · skip
              have f10 := dAddE (X := x4.toInt) (Y := 1) (x := x4) (y := (1 : Int32)) rfl (by decide) (by omega) (by omega)
              exact ih _ _ _ _ (by omega) (by omega) (by omega)
            · skip
              refine ⟨by omega, ?_⟩
              have f10 := dAddE (X := x4.toInt) (Y := 1) (x := x4) (y := (1 : Int32)) rfl (by decide) (by omega) (by omega)
              exact ih _ _ _ _ (by omega) (by omega) (by omega)
theorem s_X0_ampsOf_54 {g : gM} {x1 : Int32} {x2 : Int32} {m : dM} {Q : Int32 → dM → Prop} (hG : Gd g) (hI : Inv g m) (h2 : 0 ≤ x2.toInt ∧ x2.toInt ≤ 6) (hQ : ∀ r : Int32, Q r m) : c_X0_ampsOf_54 2 x1 x2 m Q := by
  refine v_X0_ampsOf_54 ?_
  have f1 := ti_0
  exact (s_X0_ampsOf_54_all hG hI hQ 10) _ _ _ _ (by omega) (by omega) (by omega)
theorem s_X11_flat_0 {g : gM} {x1 : Int32} {x2 : Int32} {m : dM} {Q : Int32 → dM → Prop} (hG : Gd g) (hI : Inv g m) (hQ : ∀ (r : Int32) (m' : dM), Inv g m' → Q r m') : c_X11_flat_0 5 x1 x2 m Q := by
  refine v_X11_flat_0 ?_
  refine v_X11_isFlat_0 ?_
  refine ⟨fun hc1 => ?_, fun hc1 => ?_⟩
  · skip
    refine v_X11_isFlat_0_19 ?_
    have f2 := ti_0
    refine ⟨fun hc3 => ?_, fun hc3 => ?_⟩
    · skip
      exfalso; omega
    · skip
      have f4 := ti_m1
      exact hQ _ _ hI
  · skip
    have f2 := congrArg Int32.toInt (hI.2 2 0 rfl)
    have f3 := Inv.s hG hI (k := 2) (j := 0) rfl rfl
    refine ⟨fun hc4 => ?_, fun hc4 => ?_⟩
    · skip
      refine v_X11_isFlat_0_19 ?_
      have f5 := ti_0
      refine ⟨fun hc6 => ?_, fun hc6 => ?_⟩
      · skip
        exfalso; omega
      · skip
        have f7 := ti_m1
        exact hQ _ _ hI
    · skip
      have f5 := ti_1
      refine ⟨fun hc6 => ?_, fun hc6 => ?_⟩
      · skip
        refine Wp.deep (s_X0_waysNow_54_47 hG hI (fun M7 I7 => ?_)) (Nat.le_of_ble_eq_true rfl)
        refine ⟨fun hc8 => ?_, fun hc8 => ?_, fun hc8 => ?_, fun hc8 => ?_, fun hc8 => ?_, fun hc8 => ?_, fun hc8 => ?_⟩
        · skip
          refine ⟨by omega, ?_⟩
          exact hQ _ _ I7
        · skip
          refine v_X11_has ?_
          have f9 := dAndE (x := ((M7.1 57 5).toUInt32 >>> (x1.toUInt32 &&& Int32.toUInt32 31)).toInt32) (y := (1 : Int32)) (by decide)
          refine ⟨fun hc10 => ?_, fun hc10 => ?_⟩
          · skip
            have f11 := ti_0
            refine ⟨fun hc12 => ?_, fun hc12 => ?_⟩
            · skip
              exact hQ _ _ I7
            · skip
              exfalso; omega
          · skip
            refine ⟨fun hc11 => ?_, fun hc11 => ?_⟩
            · skip
              exfalso; omega
            · skip
              exact hQ _ _ I7
        · skip
          refine ⟨by omega, ?_⟩
          exact hQ _ _ I7
        · skip
          refine v_X11_has ?_
          have f9 := dAndE (x := ((M7.1 57 5).toUInt32 >>> (x1.toUInt32 &&& Int32.toUInt32 31)).toInt32) (y := (1 : Int32)) (by decide)
          refine ⟨fun hc10 => ?_, fun hc10 => ?_⟩
          · skip
            have f11 := ti_0
            refine ⟨fun hc12 => ?_, fun hc12 => ?_⟩
            · skip
              have f13 := ti_m2
              exact hQ _ _ I7
            · skip
              exfalso; omega
          · skip
            refine ⟨fun hc11 => ?_, fun hc11 => ?_⟩
            · skip
              exfalso; omega
            · skip
              refine ⟨by omega, ?_⟩
              have f12 := Inv.w I7 (k := 59) (j := x1.toNatClampNeg) rfl
              exact hQ _ _ I7
        · skip
          refine Wp.deep (s_X0_quarrelOf_54_47 hG I7 (by omega) (fun R9 M9 I9 hr9 => ?_)) (Nat.le_of_ble_eq_true rfl)
          exact hQ _ _ I9
        · skip
          refine Wp.deep (s_X0_usesNow_54_47 hG I7 (fun R9 M9 I9 => ?_)) (Nat.le_of_ble_eq_true rfl)
          refine Wp.deep (s_X0_ampsOf_54 hG I9 (by omega) (fun R10 => ?_)) (Nat.le_of_ble_eq_true rfl)
          exact hQ _ _ I9
        · skip
          have f9 := ti_m1
          exact hQ _ _ I7
      · skip
        exfalso; omega
theorem s_X12_wireFrom_70_all {g : gM} {Q : Int32 → dM → Prop} {m : dM} (hG : Gd g) (hI : Inv g m) (hQ : ∀ r : Int32, (-1 ≤ r.toInt ∧ r.toInt ≤ 9) → Q r m) : ∀ n : Nat, (∀ (x1 : Int32) (x2 : Int32), (0 ≤ x1.toInt ∧ x1.toInt ≤ 6) → (0 ≤ x2.toInt ∧ x2.toInt ≤ 10) → 21 - 2 * x2.toInt < (n : Int) → j_X12_wireFrom_70_2 4 x1 x2 m Q) ∧ (∀ (x1 : Int32) (x2 : Int32), (0 ≤ x1.toInt ∧ x1.toInt ≤ 6) → (0 ≤ x2.toInt ∧ x2.toInt ≤ 9) → 20 - 2 * x2.toInt < (n : Int) → j_X12_wireFrom_70_56 4 x1 x2 m Q) := by
  intro n
  induction n with
  | zero => exact ⟨fun x1 x2 h1 h2 hμ => by exfalso; omega, fun x1 x2 h1 h2 hμ => by exfalso; omega⟩
  | succ n ih =>
    refine ⟨?_, ?_⟩
    · intro x1 x2 h1 h2 hμ
      refine v_X12_wireFrom_70_2 ?_
      have f1 := congrArg Int32.toInt (hI.2 70 18 rfl)
      have f2 := Inv.s hG hI (k := 70) (j := 18) rfl rfl
      refine ⟨by omega, ?_⟩
      have f3 := Inv.cnt82 hG hI
      have f4 := Inv.s hG hI (k := 82) (j := (m.1 70 18).toNatClampNeg) rfl rfl
      refine ⟨fun hc5 => ?_, fun hc5 => ?_⟩
      · skip
        have f6 := ti_m1
        exact hQ _ (by omega)
      · skip
        refine v_X12_isWhole_70 ?_
        refine v_X12_isWire_70 ?_
        refine ⟨by omega, ?_⟩
        refine v_X12_in ?_
        have f6 := ti_0
        refine ⟨fun hc7 => ?_, fun hc7 => ?_⟩
        · skip
          exfalso; omega
        · skip
          have f8 := dSubE (X := (m.1 82 (m.1 70 18).toNatClampNeg).toInt) (Y := 1) (x := (m.1 82 (m.1 70 18).toNatClampNeg)) (y := (1 : Int32)) rfl (by decide) (by omega) (by omega)
          refine ⟨fun hc9 => ?_, fun hc9 => ?_⟩
          · skip
            refine v_X12_in_14 ?_
            refine ⟨by decide, ?_⟩
            refine ⟨fun hc10 => ?_, fun hc10 => ?_⟩
            · skip
              refine v_X12_isWhole_70_24 ?_
              refine ⟨fun hc11 => ?_, fun hc11 => ?_⟩
              · skip
                exfalso; omega
              · skip
                exact ih.2 _ _ (by omega) (by omega) (by omega)
            · skip
              exfalso; omega
          · skip
            have f10 := ti_1
            refine ⟨by decide, ?_⟩
            refine ⟨fun hc11 => ?_, fun hc11 => ?_⟩
            · skip
              exfalso; omega
            · skip
              have f12 := dAddE (X := 10) (Y := x2.toInt) (x := (10 : Int32)) (y := x2) (by decide) rfl (by omega) (by omega)
              refine ⟨by omega, ?_⟩
              refine ⟨fun hc13 => ?_, fun hc13 => ?_⟩
              · skip
                refine v_X12_isWhole_70_24 ?_
                refine ⟨fun hc14 => ?_, fun hc14 => ?_⟩
                · skip
                  exfalso; omega
                · skip
                  exact ih.2 _ _ (by omega) (by omega) (by omega)
              · skip
                refine ⟨fun hc14 => ?_, fun hc14 => ?_⟩
                · skip
                  refine v_X12_otherEnd_70 ?_
                  have f15 := dMulE (X := 10) (Y := (m.1 70 18).toInt) (x := (10 : Int32)) (y := (m.1 70 18)) (by decide) rfl (by omega) (by omega)
                  have f16 := dAddE (X := ((10 : Int32) * (m.1 70 18)).toInt) (Y := x2.toInt) (x := ((10 : Int32) * (m.1 70 18))) (y := x2) rfl rfl (by omega) (by omega)
                  refine ⟨by omega, ?_⟩
                  have f17 := Inv.one hG hI (u := x2) (by omega) (by omega)
                  refine ⟨fun hc18 => ?_, fun hc18 => ?_⟩
                  · skip
                    refine ⟨by omega, ?_⟩
                    have f19 := Inv.two hG hI (u := x2) (by omega) (by omega)
                    refine ⟨fun hc20 => ?_, fun hc20 => ?_⟩
                    · skip
                      have f21 := ti_m1
                      refine ⟨fun hc22 => ?_, fun hc22 => ?_⟩
                      · skip
                        exact ih.2 _ _ (by omega) (by omega) (by omega)
                      · skip
                        exfalso; omega
                    · skip
                      refine ⟨by omega, ?_⟩
                      refine ⟨fun hc21 => ?_, fun hc21 => ?_⟩
                      · skip
                        exfalso; omega
                      · skip
                        refine ⟨by omega, ?_⟩
                        refine ⟨by omega, ?_⟩
                        refine ⟨fun hc22 => ?_, fun hc22 => ?_⟩
                        · skip
                          exact ih.2 _ _ (by omega) (by omega) (by omega)
                        · skip
                          exact hQ _ (by omega)
                  · skip
                    refine ⟨by omega, ?_⟩
                    have f19 := Inv.two hG hI (u := x2) (by omega) (by omega)
                    refine ⟨fun hc20 => ?_, fun hc20 => ?_⟩
                    · skip
                      exfalso; omega
                    · skip
                      refine ⟨by omega, ?_⟩
                      refine ⟨by omega, ?_⟩
                      refine ⟨fun hc21 => ?_, fun hc21 => ?_⟩
                      · skip
                        exact ih.2 _ _ (by omega) (by omega) (by omega)
                      · skip
                        exact hQ _ (by omega)
                · skip
                  exfalso; omega
    · intro x1 x2 h1 h2 hμ
      refine v_X12_wireFrom_70_56 ?_
      have f1 := dAddE (X := x2.toInt) (Y := 1) (x := x2) (y := (1 : Int32)) rfl (by decide) (by omega) (by omega)
      exact ih.1 _ _ (by omega) (by omega) (by omega)
theorem s_X12_wireFrom_70 {g : gM} {x1 : Int32} {m : dM} {Q : Int32 → dM → Prop} (hG : Gd g) (hI : Inv g m) (h1 : 0 ≤ x1.toInt ∧ x1.toInt ≤ 6) (hQ : ∀ r : Int32, (-1 ≤ r.toInt ∧ r.toInt ≤ 9) → Q r m) : c_X12_wireFrom_70 4 x1 m Q := by
  refine v_X12_wireFrom_70 ?_
  have f1 := ti_0
  exact (s_X12_wireFrom_70_all hG hI hQ 23).1 _ _ (by omega) (by omega) (by omega)
end
section
theorem s_X12_looks_70_all {g : gM} {Q : dM → Prop} (hG : Gd g) (hQ : ∀ m' : dM, Inv g m' → Q m') : ∀ n : Nat, (∀ (x1 : Int32) (x2 : Int32) (x3 : Int32) (m : dM), Inv g m → (-23 ≤ x1.toInt ∧ x1.toInt ≤ 20046) → (0 ≤ x2.toInt ∧ x2.toInt ≤ 9) → (0 ≤ x3.toInt ∧ x3.toInt ≤ 9) → 9 - 1 * x3.toInt < (n : Int) → j_X12_looks_70_2 1 x1 x2 x3 m Q) := by
  intro n
  induction n with
  | zero => exact fun x1 x2 x3 m hI h1 h2 h3 hμ => by exfalso; omega
  | succ n ih =>
    · intro x1 x2 x3 m hI h1 h2 h3 hμ
      refine v_X12_looks_70_2 ?_
      refine ⟨fun hc1 => ?_, fun hc1 => ?_⟩
      · skip
        have I2 : Inv g (dSet m 105 3 x1) := (Inv.setA hI rfl)
        have I3 : Inv g (dSet (dSet m 105 3 x1) 105 4 ((m.1 108 55) / (24 : Int32))) := (Inv.setA I2 rfl)
        have I4 : Inv g (dSet (dSet (dSet m 105 3 x1) 105 4 ((m.1 108 55) / (24 : Int32))) 105 8 x2) := (Inv.setA I3 rfl)
        exact hQ _ I4
      · skip
        refine ⟨by omega, ?_⟩
        have f2 := dAddE (X := x3.toInt) (Y := 1) (x := x3) (y := (1 : Int32)) rfl (by decide) (by omega) (by omega)
        have I3 : Inv g (dSet m 105 x3.toNatClampNeg (0 : Int32)) := (Inv.setA hI rfl)
        exact ih _ _ _ _ I3 (by omega) (by omega) (by omega) (by omega)
theorem s_X12_looks_70 {g : gM} {x1 : Int32} {x2 : Int32} {m : dM} {Q : dM → Prop} (hG : Gd g) (hI : Inv g m) (h1 : -23 ≤ x1.toInt ∧ x1.toInt ≤ 20046) (h2 : 0 ≤ x2.toInt ∧ x2.toInt ≤ 9) (hQ : ∀ m' : dM, Inv g m' → Q m') : c_X12_looks_70 1 x1 x2 m Q := by
  refine v_X12_looks_70 ?_
  have f1 := ti_0
  exact (s_X12_looks_70_all hG hQ 11) _ _ _ _ hI (by omega) (by omega) (by omega) (by omega)
theorem s_X12_onAt_70_all {g : gM} {Q : Int32 → dM → Prop} {m : dM} (hG : Gd g) (hI : Inv g m) (hQ : ∀ r : Int32, Q r m) : ∀ n : Nat, (∀ (x1 : Int32) (x2 : Int32) (x3 : Int32), (-23 ≤ x1.toInt ∧ x1.toInt ≤ 20046) → (0 ≤ x3.toInt ∧ x3.toInt ≤ 8) → 17 - 2 * x3.toInt < (n : Int) → j_X12_onAt_70_4 2 x1 x2 x3 m Q) ∧ (∀ (x1 : Int32) (x2 : Int32) (x3 : Int32), (-23 ≤ x1.toInt ∧ x1.toInt ≤ 20046) → (0 ≤ x3.toInt ∧ x3.toInt ≤ 7) → 16 - 2 * x3.toInt < (n : Int) → j_X12_onAt_70_83 2 x1 x2 x3 m Q) := by
  intro n
  induction n with
  | zero => exact ⟨fun x1 x2 x3 h1 h3 hμ => by exfalso; omega, fun x1 x2 x3 h1 h3 hμ => by exfalso; omega⟩
  | succ n ih =>
    refine ⟨?_, ?_⟩
    · intro x1 x2 x3 h1 h3 hμ
      refine v_X12_onAt_70_4 ?_
      have f1 := congrArg Int32.toInt (hI.2 70 18 rfl)
      have f2 := Inv.s hG hI (k := 70) (j := 18) rfl rfl
      refine ⟨by omega, ?_⟩
      have f3 := Inv.cnt86 hG hI
      have f4 := Inv.s hG hI (k := 86) (j := (m.1 70 18).toNatClampNeg) rfl rfl
      refine ⟨fun hc5 => ?_, fun hc5 => ?_⟩
      · skip
        exact hQ _
      · skip
        have f6 := dAddE (X := 47) (Y := x3.toInt) (x := (47 : Int32)) (y := x3) (by decide) rfl (by omega) (by omega)
        refine ⟨by omega, ?_⟩
        refine ⟨fun hc7 => ?_, fun hc7 => ?_⟩
        · skip
          exact ih.2 _ _ _ (by omega) (by omega) (by omega)
        · skip
          have f8 := dMulE (X := 8) (Y := (m.1 70 18).toInt) (x := (8 : Int32)) (y := (m.1 70 18)) (by decide) rfl (by omega) (by omega)
          have f9 := dAddE (X := ((8 : Int32) * (m.1 70 18)).toInt) (Y := x3.toInt) (x := ((8 : Int32) * (m.1 70 18))) (y := x3) rfl rfl (by omega) (by omega)
          refine ⟨by omega, ?_⟩
          refine ⟨by omega, ?_⟩
          refine v_X12_in ?_
          have f10 := Inv.s hG hI (k := 89) (j := (((8 : Int32) * (m.1 70 18)) + x3).toNatClampNeg) rfl rfl
          refine ⟨fun hc11 => ?_, fun hc11 => ?_⟩
          · skip
            refine v_X12_in_14 ?_
            have f12 := ti_0
            refine ⟨fun hc13 => ?_, fun hc13 => ?_⟩
            · skip
              exact ih.2 _ _ _ (by omega) (by omega) (by omega)
            · skip
              exfalso; omega
          · skip
            have f12 := Inv.s hG hI (k := 90) (j := (((8 : Int32) * (m.1 70 18)) + x3).toNatClampNeg) rfl rfl
            refine ⟨fun hc13 => ?_, fun hc13 => ?_⟩
            · skip
              refine v_X12_in_14 ?_
              have f14 := ti_0
              refine ⟨fun hc15 => ?_, fun hc15 => ?_⟩
              · skip
                exact ih.2 _ _ _ (by omega) (by omega) (by omega)
              · skip
                exfalso; omega
            · skip
              have f14 := ti_1
              refine ⟨fun hc15 => ?_, fun hc15 => ?_⟩
              · skip
                exfalso; omega
              · skip
                refine v_X12_flatAt_70 ?_
                refine ⟨by omega, ?_⟩
                refine v_X12_isLit_70 ?_
                have f16 := Inv.flat hG hI (u := x3) (by omega) (by omega)
                refine ⟨by omega, ?_⟩
                refine ⟨fun hc17 => ?_, fun hc17 => ?_⟩
                · skip
                  have f18 := ti_0
                  refine ⟨fun hc19 => ?_, fun hc19 => ?_⟩
                  · skip
                    exact ih.2 _ _ _ (by omega) (by omega) (by omega)
                  · skip
                    exfalso; omega
                · skip
                  refine ⟨fun hc18 => ?_, fun hc18 => ?_⟩
                  · skip
                    exfalso; omega
                  · skip
                    have f19 := dShl8 (x := x3) (by omega) (by omega)
                    exact ih.2 _ _ _ (by omega) (by omega) (by omega)
    · intro x1 x2 x3 h1 h3 hμ
      refine v_X12_onAt_70_83 ?_
      have f1 := dAddE (X := x3.toInt) (Y := 1) (x := x3) (y := (1 : Int32)) rfl (by decide) (by omega) (by omega)
      exact ih.1 _ _ _ (by omega) (by omega) (by omega)
theorem s_X12_onAt_70 {g : gM} {x1 : Int32} {m : dM} {Q : Int32 → dM → Prop} (hG : Gd g) (hI : Inv g m) (h1 : -23 ≤ x1.toInt ∧ x1.toInt ≤ 20046) (hQ : ∀ r : Int32, Q r m) : c_X12_onAt_70 2 x1 m Q := by
  refine v_X12_onAt_70 ?_
  have f1 := ti_0
  exact (s_X12_onAt_70_all hG hI hQ 19).1 _ _ _ (by omega) (by omega) (by omega)
theorem s_X12_onNow_70 {g : gM} {m : dM} {Q : Int32 → dM → Prop} (hG : Gd g) (hI : Inv g m) (hQ : ∀ r : Int32, Q r m) : c_X12_onNow_70 3 m Q := by
  refine v_X12_onNow_70 ?_
  have f1 := dRemE (x := (m.1 108 55)) (y := (24 : Int32)) (Y := 24) (by decide) (by decide)
  refine Wp.deep (s_X12_onAt_70 hG hI (by omega) (fun R2 => ?_)) (Nat.le_of_ble_eq_true rfl)
  exact hQ _
theorem s_X12_ampsOn_70_all {g : gM} {Q : Int32 → dM → Prop} {m : dM} (hG : Gd g) (hI : Inv g m) (hQ : ∀ r : Int32, Q r m) : ∀ n : Nat, (∀ (x1 : Int32) (x2 : Int32) (x3 : Int32) (x4 : Int32), (0 ≤ x1.toInt ∧ x1.toInt ≤ 6) → (0 ≤ x4.toInt ∧ x4.toInt ≤ 8) → 17 - 2 * x4.toInt < (n : Int) → j_X12_ampsOn_70_10 4 x1 x2 x3 x4 m Q) ∧ (∀ (x1 : Int32) (x2 : Int32) (x3 : Int32) (x4 : Int32), (0 ≤ x1.toInt ∧ x1.toInt ≤ 6) → (0 ≤ x4.toInt ∧ x4.toInt ≤ 7) → 16 - 2 * x4.toInt < (n : Int) → j_X12_ampsOn_70_53 4 x1 x2 x3 x4 m Q) := by
  intro n
  induction n with
  | zero => exact ⟨fun x1 x2 x3 x4 h1 h4 hμ => by exfalso; omega, fun x1 x2 x3 x4 h1 h4 hμ => by exfalso; omega⟩
  | succ n ih =>
    refine ⟨?_, ?_⟩
    · intro x1 x2 x3 x4 h1 h4 hμ
      refine v_X12_ampsOn_70_10 ?_
      have f1 := congrArg Int32.toInt (hI.2 70 18 rfl)
      have f2 := Inv.s hG hI (k := 70) (j := 18) rfl rfl
      refine ⟨by omega, ?_⟩
      have f3 := Inv.cnt86 hG hI
      have f4 := Inv.s hG hI (k := 86) (j := (m.1 70 18).toNatClampNeg) rfl rfl
      refine ⟨fun hc5 => ?_, fun hc5 => ?_⟩
      · skip
        exact hQ _
      · skip
        have f6 := ti_1
        have f7 := dAndE (x := (x2 >>> (x4 &&& 31))) (y := (1 : Int32)) (by decide)
        refine ⟨fun hc8 => ?_, fun hc8 => ?_⟩
        · skip
          exact ih.2 _ _ _ _ (by omega) (by omega) (by omega)
        · skip
          refine v_X12_flatAt_70 ?_
          have f9 := dMulE (X := 8) (Y := (m.1 70 18).toInt) (x := (8 : Int32)) (y := (m.1 70 18)) (by decide) rfl (by omega) (by omega)
          have f10 := dAddE (X := ((8 : Int32) * (m.1 70 18)).toInt) (Y := x4.toInt) (x := ((8 : Int32) * (m.1 70 18))) (y := x4) rfl rfl (by omega) (by omega)
          refine ⟨by omega, ?_⟩
          have f11 := Inv.flat hG hI (u := x4) (by omega) (by omega)
          refine ⟨fun hc12 => ?_, fun hc12 => ?_⟩
          · skip
            exact ih.2 _ _ _ _ (by omega) (by omega) (by omega)
          · skip
            refine v_X12_ampsAt_70 ?_
            refine ⟨by omega, ?_⟩
            exact ih.2 _ _ _ _ (by omega) (by omega) (by omega)
    · intro x1 x2 x3 x4 h1 h4 hμ
      refine v_X12_ampsOn_70_53 ?_
      have f1 := dAddE (X := x4.toInt) (Y := 1) (x := x4) (y := (1 : Int32)) rfl (by decide) (by omega) (by omega)
      exact ih.1 _ _ _ _ (by omega) (by omega) (by omega)
theorem s_X12_ampsOn_70 {g : gM} {x1 : Int32} {m : dM} {Q : Int32 → dM → Prop} (hG : Gd g) (hI : Inv g m) (h1 : 0 ≤ x1.toInt ∧ x1.toInt ≤ 6) (hQ : ∀ r : Int32, Q r m) : c_X12_ampsOn_70 4 x1 m Q := by
  refine v_X12_ampsOn_70 ?_
  refine Wp.deep (s_X12_onNow_70 hG hI (fun R1 => ?_)) (Nat.le_of_ble_eq_true rfl)
  have f2 := ti_0
  exact (s_X12_ampsOn_70_all hG hI hQ 19).1 _ _ _ _ (by omega) (by omega) (by omega)
theorem s_J7_fill_56_all {g : gM} {Q : dM → Prop} (hG : Gd g) (hQ : ∀ m' : dM, Inv g m' → Q m') : ∀ n : Nat, (∀ (x1 : Int32) (x2 : Int32) (x3 : Int32) (m : dM), Inv g m → (0 ≤ x1.toInt ∧ x1.toInt ≤ 0) → (0 ≤ x2.toInt ∧ x2.toInt ≤ 10) → (10 ≤ x3.toInt ∧ x3.toInt ≤ 10) → 10 - 1 * x2.toInt < (n : Int) → j_J7_fill_56_5 1 x1 x2 x3 m Q) := by
  intro n
  induction n with
  | zero => exact fun x1 x2 x3 m hI h1 h2 h3 hμ => by exfalso; omega
  | succ n ih =>
    · intro x1 x2 x3 m hI h1 h2 h3 hμ
      refine v_J7_fill_56_5 ?_
      refine ⟨fun hc1 => ?_, fun hc1 => ?_⟩
      · skip
        exact hQ _ hI
      · skip
        refine ⟨by omega, ?_⟩
        have f2 := dAddE (X := x2.toInt) (Y := 1) (x := x2) (y := (1 : Int32)) rfl (by decide) (by omega) (by omega)
        have I3 : Inv g (dSet m 56 x2.toNatClampNeg x1) := (Inv.setA hI rfl)
        exact ih _ _ _ _ I3 (by omega) (by omega) (by omega) (by omega)
theorem s_J7_fill_56 {g : gM} {x1 : Int32} {m : dM} {Q : dM → Prop} (hG : Gd g) (hI : Inv g m) (h1 : 0 ≤ x1.toInt ∧ x1.toInt ≤ 0) (hQ : ∀ m' : dM, Inv g m' → Q m') : c_J7_fill_56 1 x1 m Q := by
  refine v_J7_fill_56 ?_
  have f1 := ti_0
  have f2 := ti_10
  exact (s_J7_fill_56_all hG hQ 12) _ _ _ _ hI (by omega) (by omega) (by omega) (by omega)
theorem s_X0_putOn_54_47_all {g : gM} {Q : dM → Prop} (hG : Gd g) (hQ : ∀ m' : dM, Inv g m' → Q m') : ∀ n : Nat, (∀ (x2 : Int32) (x3 : Int32) (m : dM), Inv g m → (0 ≤ x3.toInt ∧ x3.toInt ≤ 8) → 116 - 13 * x3.toInt < (n : Int) → j_X0_putOn_54_47_21 3 x2 x3 m Q) ∧ (∀ (x2 : Int32) (x3 : Int32) (x4 : Int32) (x5 : Int32) (m : dM), Inv g m → (0 ≤ x3.toInt ∧ x3.toInt ≤ 7) → (0 ≤ x5.toInt ∧ x5.toInt ≤ 10) → 115 - 13 * x3.toInt - 1 * x5.toInt < (n : Int) → j_X0_putOn_54_47_66 3 x2 x3 x4 x5 m Q) ∧ (∀ (x2 : Int32) (x3 : Int32) (m : dM), Inv g m → (0 ≤ x3.toInt ∧ x3.toInt ≤ 7) → 104 - 13 * x3.toInt < (n : Int) → j_X0_putOn_54_47_125 3 x2 x3 m Q) := by
  intro n
  induction n with
  | zero => exact ⟨fun x2 x3 m hI h3 hμ => by exfalso; omega, fun x2 x3 x4 x5 m hI h3 h5 hμ => by exfalso; omega, fun x2 x3 m hI h3 hμ => by exfalso; omega⟩
  | succ n ih =>
    refine ⟨?_, ?_, ?_⟩
    · intro x2 x3 m hI h3 hμ
      refine v_X0_putOn_54_47_21 ?_
      have f1 := congrArg Int32.toInt (hI.2 2 2 rfl)
      have f2 := Inv.s hG hI (k := 2) (j := 2) rfl rfl
      refine ⟨fun hc3 => ?_, fun hc3 => ?_⟩
      · skip
        exact hQ _ hI
      · skip
        refine v_X11_has ?_
        have f4 := ti_1
        have f5 := dAndE (x := (x2.toUInt32 >>> (x3.toUInt32 &&& Int32.toUInt32 31)).toInt32) (y := (1 : Int32)) (by decide)
        refine ⟨fun hc6 => ?_, fun hc6 => ?_⟩
        · skip
          have f7 := ti_0
          refine ⟨fun hc8 => ?_, fun hc8 => ?_⟩
          · skip
            exact ih.2.1 _ _ _ _ _ hI (by omega) (by omega) (by omega)
          · skip
            exfalso; omega
        · skip
          refine ⟨fun hc7 => ?_, fun hc7 => ?_⟩
          · skip
            exfalso; omega
          · skip
            refine ⟨by omega, ?_⟩
            have f8 := Inv.home hG hI (u := x3) (by omega) (by omega)
            refine ⟨by omega, ?_⟩
            have f9 := ti_0
            exact ih.2.1 _ _ _ _ _ hI (by omega) (by omega) (by omega)
    · intro x2 x3 x4 x5 m hI h3 h5 hμ
      refine v_X0_putOn_54_47_66 ?_
      refine ⟨fun hc1 => ?_, fun hc1 => ?_⟩
      · skip
        exact ih.2.2 _ _ _ hI (by omega) (by omega)
      · skip
        have f2 := congrArg Int32.toInt (hI.2 2 1 rfl)
        have f3 := Inv.s hG hI (k := 2) (j := 1) rfl rfl
        refine ⟨fun hc4 => ?_, fun hc4 => ?_⟩
        · skip
          exact ih.2.2 _ _ _ hI (by omega) (by omega)
        · skip
          refine ⟨by omega, ?_⟩
          refine v_X11_has ?_
          have f5 := ti_1
          have f6 := dAndE (x := (x4.toUInt32 >>> (x5.toUInt32 &&& Int32.toUInt32 31)).toInt32) (y := (1 : Int32)) (by decide)
          refine ⟨fun hc7 => ?_, fun hc7 => ?_⟩
          · skip
            have f8 := ti_0
            refine ⟨fun hc9 => ?_, fun hc9 => ?_⟩
            · skip
              refine ⟨by omega, ?_⟩
              have f10 := dAddE (X := x5.toInt) (Y := 1) (x := x5) (y := (1 : Int32)) rfl (by decide) (by omega) (by omega)
              have I11 : Inv g (dSet m 56 x5.toNatClampNeg ((m.1 56 x5.toNatClampNeg) + (0 : Int32))) := (Inv.setA hI rfl)
              exact ih.2.1 _ _ _ _ _ I11 (by omega) (by omega) (by omega)
            · skip
              exfalso; omega
          · skip
            refine ⟨fun hc8 => ?_, fun hc8 => ?_⟩
            · skip
              exfalso; omega
            · skip
              refine ⟨by omega, ?_⟩
              refine ⟨by omega, ?_⟩
              have f9 := dAddE (X := x5.toInt) (Y := 1) (x := x5) (y := (1 : Int32)) rfl (by decide) (by omega) (by omega)
              have I10 : Inv g (dSet m 56 x5.toNatClampNeg ((m.1 56 x5.toNatClampNeg) + (m.1 8 x3.toNatClampNeg))) := (Inv.setA hI rfl)
              exact ih.2.1 _ _ _ _ _ I10 (by omega) (by omega) (by omega)
    · intro x2 x3 m hI h3 hμ
      refine v_X0_putOn_54_47_125 ?_
      have f1 := dAddE (X := x3.toInt) (Y := 1) (x := x3) (y := (1 : Int32)) rfl (by decide) (by omega) (by omega)
      exact ih.1 _ _ _ hI (by omega) (by omega)
theorem s_X0_putOn_54_47 {g : gM} {x2 : Int32} {m : dM} {Q : dM → Prop} (hG : Gd g) (hI : Inv g m) (hQ : ∀ m' : dM, Inv g m' → Q m') : c_X0_putOn_54_47 3 x2 m Q := by
  refine v_X0_putOn_54_47 ?_
  refine Wp.deep (s_X10_lay_57 hG hI (fun M1 I1 => ?_)) (Nat.le_of_ble_eq_true rfl)
  have f2 := ti_0
  refine Wp.deep (s_J7_fill_56 hG I1 (by omega) (fun M3 I3 => ?_)) (Nat.le_of_ble_eq_true rfl)
  exact (s_X0_putOn_54_47_all hG hQ 118).1 _ _ _ I3 (by omega) (by omega)
theorem s_X0_loadNow_54_47 {g : gM} {x2 : Int32} {m : dM} {Q : Int32 → dM → Prop} (hG : Gd g) (hI : Inv g m) (h2 : 0 ≤ x2.toInt ∧ x2.toInt ≤ 9) (hQ : ∀ (r : Int32) (m' : dM), Inv g m' → Q r m') : c_X0_loadNow_54_47 5 x2 m Q := by
  refine v_X0_loadNow_54_47 ?_
  refine Wp.deep (s_X0_usesNow_54_47 hG hI (fun R1 M1 I1 => ?_)) (Nat.le_of_ble_eq_true rfl)
  refine Wp.deep (s_X0_putOn_54_47 hG I1 (fun M2 I2 => ?_)) (Nat.le_of_ble_eq_true rfl)
  refine ⟨by omega, ?_⟩
  exact hQ _ _ I2
theorem s_X0_costOf_54_47 {g : gM} {x2 : Int32} {m : dM} {Q : Int32 → dM → Prop} (hG : Gd g) (hI : Inv g m) (h2 : 0 ≤ x2.toInt ∧ x2.toInt ≤ 9) (hQ : ∀ (r : Int32) (m' : dM), Inv g m' → (0 ≤ r.toInt ∧ r.toInt ≤ 99) → Q r m') : c_X0_costOf_54_47 4 x2 m Q := by
  refine v_X0_costOf_54_47 ?_
  refine v_X7_hourOfDay_47 ?_
  refine v_X7_day_47 ?_
  have f1 := dRemE (x := (m.1 47 0)) (y := (24 : Int32)) (Y := 24) (by decide) (by decide)
  refine Wp.deep (s_X0_setVars_54 hG hI (by omega) (by omega) (fun M2 I2 => ?_)) (Nat.le_of_ble_eq_true rfl)
  refine ⟨by omega, ?_⟩
  refine ⟨by omega, ?_⟩
  have f3 := ti_2
  have I4 : Inv g (dSet M2 55 1 (M2.1 48 x2.toNatClampNeg)) := (Inv.setA I2 rfl)
  have I5 : Inv g (dSet (dSet M2 55 1 (M2.1 48 x2.toNatClampNeg)) 55 2 (M2.1 49 x2.toNatClampNeg)) := (Inv.setA I4 rfl)
  refine Wp.deep (s_X4_tells_11_55 hG I5 (by omega) (fun R6 M6 I6 => ?_)) (Nat.le_of_ble_eq_true rfl)
  refine Wp.deep (s_X0_held hG I6 (fun R7 hr7 => ?_)) (Nat.le_of_ble_eq_true rfl)
  exact hQ _ _ I6 (by omega)
theorem s_X0_going_54_47_all {g : gM} {Q : Int32 → dM → Prop} (hG : Gd g) (hQ : ∀ (r : Int32) (m' : dM), Inv g m' → Q r m') : ∀ n : Nat, (∀ (x2 : Int32) (x3 : Int32) (x4 : Int32) (x5 : Int32) (m : dM), Inv g m → (-23 ≤ x2.toInt ∧ x2.toInt ≤ 23) → (0 ≤ x5.toInt ∧ x5.toInt ≤ 10) → 21 - 2 * x5.toInt < (n : Int) → j_X0_going_54_47_6 4 x2 x3 x4 x5 m Q) ∧ (∀ (x2 : Int32) (x3 : Int32) (x4 : Int32) (x5 : Int32) (m : dM), Inv g m → (-23 ≤ x2.toInt ∧ x2.toInt ≤ 23) → (0 ≤ x5.toInt ∧ x5.toInt ≤ 9) → 20 - 2 * x5.toInt < (n : Int) → j_X0_going_54_47_119 4 x2 x3 x4 x5 m Q) := by
  intro n
  induction n with
  | zero => exact ⟨fun x2 x3 x4 x5 m hI h2 h5 hμ => by exfalso; omega, fun x2 x3 x4 x5 m hI h2 h5 hμ => by exfalso; omega⟩
  | succ n ih =>
    refine ⟨?_, ?_⟩
    · intro x2 x3 x4 x5 m hI h2 h5 hμ
      refine v_X0_going_54_47_6 ?_
      have f1 := congrArg Int32.toInt (hI.2 2 1 rfl)
      have f2 := Inv.s hG hI (k := 2) (j := 1) rfl rfl
      refine ⟨fun hc3 => ?_, fun hc3 => ?_⟩
      · skip
        exact hQ _ _ hI
      · skip
        refine ⟨by omega, ?_⟩
        refine ⟨fun hc4 => ?_, fun hc4 => ?_⟩
        · skip
          exact ih.2 _ _ _ _ _ hI (by omega) (by omega) (by omega)
        · skip
          refine v_X11_has ?_
          have f5 := ti_1
          have f6 := dAndE (x := ((m.1 47 4).toUInt32 >>> (x5.toUInt32 &&& Int32.toUInt32 31)).toInt32) (y := (1 : Int32)) (by decide)
          refine ⟨fun hc7 => ?_, fun hc7 => ?_⟩
          · skip
            have f8 := ti_0
            refine ⟨fun hc9 => ?_, fun hc9 => ?_⟩
            · skip
              exfalso; omega
            · skip
              refine v_X7_day_47 ?_
              refine Wp.deep (s_X0_setVars_54 hG hI (by omega) (by omega) (fun M10 I10 => ?_)) (Nat.le_of_ble_eq_true rfl)
              refine ⟨by omega, ?_⟩
              refine ⟨by omega, ?_⟩
              refine ⟨by omega, ?_⟩
              have I11 : Inv g (dSet M10 55 0 ((M10.1 56 x5.toNatClampNeg) + x3)) := (Inv.setA I10 rfl)
              have I12 : Inv g (dSet (dSet M10 55 0 ((M10.1 56 x5.toNatClampNeg) + x3)) 55 1 (M10.1 48 x5.toNatClampNeg)) := (Inv.setA I11 rfl)
              have I13 : Inv g (dSet (dSet (dSet M10 55 0 ((M10.1 56 x5.toNatClampNeg) + x3)) 55 1 (M10.1 48 x5.toNatClampNeg)) 55 2 (M10.1 49 x5.toNatClampNeg)) := (Inv.setA I12 rfl)
              refine Wp.deep (s_X4_tells_11_55 hG I13 (by omega) (fun R14 M14 I14 => ?_)) (Nat.le_of_ble_eq_true rfl)
              refine ⟨fun hc15 => ?_, fun hc15 => ?_⟩
              · skip
                exact ih.2 _ _ _ _ _ I14 (by omega) (by omega) (by omega)
              · skip
                have f16 := dShl10 (x := x5) (by omega) (by omega)
                exact ih.2 _ _ _ _ _ I14 (by omega) (by omega) (by omega)
          · skip
            refine ⟨fun hc8 => ?_, fun hc8 => ?_⟩
            · skip
              exact ih.2 _ _ _ _ _ hI (by omega) (by omega) (by omega)
            · skip
              exfalso; omega
    · intro x2 x3 x4 x5 m hI h2 h5 hμ
      refine v_X0_going_54_47_119 ?_
      have f1 := dAddE (X := x5.toInt) (Y := 1) (x := x5) (y := (1 : Int32)) rfl (by decide) (by omega) (by omega)
      exact ih.1 _ _ _ _ _ hI (by omega) (by omega) (by omega)
theorem s_X0_going_54_47 {g : gM} {x2 : Int32} {x3 : Int32} {m : dM} {Q : Int32 → dM → Prop} (hG : Gd g) (hI : Inv g m) (h2 : -23 ≤ x2.toInt ∧ x2.toInt ≤ 23) (hQ : ∀ (r : Int32) (m' : dM), Inv g m' → Q r m') : c_X0_going_54_47 4 x2 x3 m Q := by
  refine v_X0_going_54_47 ?_
  have f1 := ti_0
  exact (s_X0_going_54_47_all hG hQ 23).1 _ _ _ _ _ hI (by omega) (by omega) (by omega)
theorem s_X0_goingWith_54_47 {g : gM} {x2 : Int32} {m : dM} {Q : Int32 → dM → Prop} (hG : Gd g) (hI : Inv g m) (hQ : ∀ (r : Int32) (m' : dM), Inv g m' → Q r m') : c_X0_goingWith_54_47 5 x2 m Q := by
  refine v_X0_goingWith_54_47 ?_
  refine Wp.deep (s_X0_putOn_54_47 hG hI (fun M1 I1 => ?_)) (Nat.le_of_ble_eq_true rfl)
  refine v_X7_hourOfDay_47 ?_
  have f2 := dRemE (x := (M1.1 47 0)) (y := (24 : Int32)) (Y := 24) (by decide) (by decide)
  have f3 := ti_0
  refine Wp.deep (s_X0_going_54_47 hG I1 (by omega) (fun R4 M4 I4 => ?_)) (Nat.le_of_ble_eq_true rfl)
  exact hQ _ _ I4
theorem s_X0_goingNow_54_47 {g : gM} {m : dM} {Q : Int32 → dM → Prop} (hG : Gd g) (hI : Inv g m) (hQ : ∀ (r : Int32) (m' : dM), Inv g m' → Q r m') : c_X0_goingNow_54_47 6 m Q := by
  refine v_X0_goingNow_54_47 ?_
  refine Wp.deep (s_X0_usesNow_54_47 hG hI (fun R1 M1 I1 => ?_)) (Nat.le_of_ble_eq_true rfl)
  refine Wp.deep (s_X0_goingWith_54_47 hG I1 (fun R2 M2 I2 => ?_)) (Nat.le_of_ble_eq_true rfl)
  exact hQ _ _ I2
theorem s_X11_wire_0 {g : gM} {x1 : Int32} {x2 : Int32} {m : dM} {Q : Int32 → dM → Prop} (hG : Gd g) (hI : Inv g m) (hQ : ∀ (r : Int32) (m' : dM), Inv g m' → Q r m') : c_X11_wire_0 7 x1 x2 m Q := by
  refine v_X11_wire_0 ?_
  refine v_X11_isWire_0 ?_
  refine ⟨fun hc1 => ?_, fun hc1 => ?_⟩
  · skip
    refine v_X11_isWire_0_19 ?_
    have f2 := ti_0
    refine ⟨fun hc3 => ?_, fun hc3 => ?_⟩
    · skip
      exfalso; omega
    · skip
      have f4 := ti_m1
      exact hQ _ _ hI
  · skip
    have f2 := congrArg Int32.toInt (hI.2 2 1 rfl)
    have f3 := Inv.s hG hI (k := 2) (j := 1) rfl rfl
    refine ⟨fun hc4 => ?_, fun hc4 => ?_⟩
    · skip
      refine v_X11_isWire_0_19 ?_
      have f5 := ti_0
      refine ⟨fun hc6 => ?_, fun hc6 => ?_⟩
      · skip
        exfalso; omega
      · skip
        have f7 := ti_m1
        exact hQ _ _ hI
    · skip
      have f5 := ti_1
      refine ⟨fun hc6 => ?_, fun hc6 => ?_⟩
      · skip
        refine ⟨fun hc7 => ?_, fun hc7 => ?_, fun hc7 => ?_, fun hc7 => ?_, fun hc7 => ?_, fun hc7 => ?_, fun hc7 => ?_, fun hc7 => ?_, fun hc7 => ?_, fun hc7 => ?_⟩
        · skip
          refine ⟨by omega, ?_⟩
          have f8 := Inv.s hG hI (k := 4) (j := x1.toNatClampNeg) rfl rfl
          exact hQ _ _ hI
        · skip
          refine ⟨by omega, ?_⟩
          have f8 := Inv.s hG hI (k := 5) (j := x1.toNatClampNeg) rfl rfl
          exact hQ _ _ hI
        · skip
          refine ⟨by omega, ?_⟩
          exact hQ _ _ hI
        · skip
          refine v_X11_has ?_
          have f8 := dAndE (x := ((m.1 47 3).toUInt32 >>> (x1.toUInt32 &&& Int32.toUInt32 31)).toInt32) (y := (1 : Int32)) (by decide)
          refine ⟨fun hc9 => ?_, fun hc9 => ?_⟩
          · skip
            have f10 := ti_0
            refine ⟨fun hc11 => ?_, fun hc11 => ?_⟩
            · skip
              exact hQ _ _ hI
            · skip
              exfalso; omega
          · skip
            refine ⟨fun hc10 => ?_, fun hc10 => ?_⟩
            · skip
              exfalso; omega
            · skip
              have f11 := ti_0
              exact hQ _ _ hI
        · skip
          refine ⟨by omega, ?_⟩
          exact hQ _ _ hI
        · skip
          refine v_X11_has ?_
          have f8 := dAndE (x := ((m.1 47 4).toUInt32 >>> (x1.toUInt32 &&& Int32.toUInt32 31)).toInt32) (y := (1 : Int32)) (by decide)
          refine ⟨fun hc9 => ?_, fun hc9 => ?_⟩
          · skip
            have f10 := ti_0
            refine ⟨fun hc11 => ?_, fun hc11 => ?_⟩
            · skip
              exact hQ _ _ hI
            · skip
              exfalso; omega
          · skip
            refine ⟨fun hc10 => ?_, fun hc10 => ?_⟩
            · skip
              exfalso; omega
            · skip
              exact hQ _ _ hI
        · skip
          refine Wp.deep (s_X0_loadNow_54_47 hG hI (by omega) (fun R8 M8 I8 => ?_)) (Nat.le_of_ble_eq_true rfl)
          exact hQ _ _ I8
        · skip
          refine Wp.deep (s_X0_costOf_54_47 hG hI (by omega) (fun R8 M8 I8 hr8 => ?_)) (Nat.le_of_ble_eq_true rfl)
          exact hQ _ _ I8
        · skip
          refine Wp.deep (s_X0_goingNow_54_47 hG hI (fun R8 M8 I8 => ?_)) (Nat.le_of_ble_eq_true rfl)
          refine v_X11_has ?_
          have f9 := dAndE (x := (R8.toUInt32 >>> (x1.toUInt32 &&& Int32.toUInt32 31)).toInt32) (y := (1 : Int32)) (by decide)
          refine ⟨fun hc10 => ?_, fun hc10 => ?_⟩
          · skip
            have f11 := ti_0
            refine ⟨fun hc12 => ?_, fun hc12 => ?_⟩
            · skip
              exact hQ _ _ I8
            · skip
              exfalso; omega
          · skip
            refine ⟨fun hc11 => ?_, fun hc11 => ?_⟩
            · skip
              exfalso; omega
            · skip
              exact hQ _ _ I8
        · skip
          have f8 := ti_m1
          exact hQ _ _ hI
      · skip
        exfalso; omega
theorem s_X12_loadBy_70_all {g : gM} {Q : Int32 → dM → Prop} {m : dM} (hG : Gd g) (hI : Inv g m) (hQ : ∀ r : Int32, Q r m) : ∀ n : Nat, (∀ (x1 : Int32) (x2 : Int32) (x3 : Int32) (x4 : Int32), (0 ≤ x1.toInt ∧ x1.toInt ≤ 9) → (0 ≤ x4.toInt ∧ x4.toInt ≤ 8) → 17 - 2 * x4.toInt < (n : Int) → j_X12_loadBy_70_5 2 x1 x2 x3 x4 m Q) ∧ (∀ (x1 : Int32) (x2 : Int32) (x3 : Int32) (x4 : Int32), (0 ≤ x1.toInt ∧ x1.toInt ≤ 9) → (0 ≤ x4.toInt ∧ x4.toInt ≤ 7) → 16 - 2 * x4.toInt < (n : Int) → j_X12_loadBy_70_57 2 x1 x2 x3 x4 m Q) := by
  intro n
  induction n with
  | zero => exact ⟨fun x1 x2 x3 x4 h1 h4 hμ => by exfalso; omega, fun x1 x2 x3 x4 h1 h4 hμ => by exfalso; omega⟩
  | succ n ih =>
    refine ⟨?_, ?_⟩
    · intro x1 x2 x3 x4 h1 h4 hμ
      refine v_X12_loadBy_70_5 ?_
      have f1 := congrArg Int32.toInt (hI.2 70 18 rfl)
      have f2 := Inv.s hG hI (k := 70) (j := 18) rfl rfl
      refine ⟨by omega, ?_⟩
      have f3 := Inv.cnt86 hG hI
      have f4 := Inv.s hG hI (k := 86) (j := (m.1 70 18).toNatClampNeg) rfl rfl
      refine ⟨fun hc5 => ?_, fun hc5 => ?_⟩
      · skip
        exact hQ _
      · skip
        have f6 := ti_1
        have f7 := dAndE (x := (x2 >>> (x4 &&& 31))) (y := (1 : Int32)) (by decide)
        refine ⟨fun hc8 => ?_, fun hc8 => ?_⟩
        · skip
          exact ih.2 _ _ _ _ (by omega) (by omega) (by omega)
        · skip
          refine v_X12_flatAt_70 ?_
          have f9 := dMulE (X := 8) (Y := (m.1 70 18).toInt) (x := (8 : Int32)) (y := (m.1 70 18)) (by decide) rfl (by omega) (by omega)
          have f10 := dAddE (X := ((8 : Int32) * (m.1 70 18)).toInt) (Y := x4.toInt) (x := ((8 : Int32) * (m.1 70 18))) (y := x4) rfl rfl (by omega) (by omega)
          refine ⟨by omega, ?_⟩
          have f11 := Inv.flat hG hI (u := x4) (by omega) (by omega)
          refine ⟨by omega, ?_⟩
          have f12 := dAndE (x := ((m.1 110 (m.1 87 (((8 : Int32) * (m.1 70 18)) + x4).toNatClampNeg).toNatClampNeg) >>> (x1 &&& 31))) (y := (1 : Int32)) (by decide)
          refine ⟨fun hc13 => ?_, fun hc13 => ?_⟩
          · skip
            exact ih.2 _ _ _ _ (by omega) (by omega) (by omega)
          · skip
            refine v_X12_ampsAt_70 ?_
            refine ⟨by omega, ?_⟩
            exact ih.2 _ _ _ _ (by omega) (by omega) (by omega)
    · intro x1 x2 x3 x4 h1 h4 hμ
      refine v_X12_loadBy_70_57 ?_
      have f1 := dAddE (X := x4.toInt) (Y := 1) (x := x4) (y := (1 : Int32)) rfl (by decide) (by omega) (by omega)
      exact ih.1 _ _ _ _ (by omega) (by omega) (by omega)
theorem s_X12_loadBy_70 {g : gM} {x1 : Int32} {x2 : Int32} {m : dM} {Q : Int32 → dM → Prop} (hG : Gd g) (hI : Inv g m) (h1 : 0 ≤ x1.toInt ∧ x1.toInt ≤ 9) (hQ : ∀ r : Int32, Q r m) : c_X12_loadBy_70 2 x1 x2 m Q := by
  refine v_X12_loadBy_70 ?_
  have f1 := ti_0
  exact (s_X12_loadBy_70_all hG hI hQ 19).1 _ _ _ _ (by omega) (by omega) (by omega)
theorem s_X0_payOf_54_47 {g : gM} {x2 : Int32} {m : dM} {Q : Int32 → dM → Prop} (hG : Gd g) (hI : Inv g m) (h2 : 0 ≤ x2.toInt ∧ x2.toInt ≤ 7) (hQ : ∀ (r : Int32) (m' : dM), Inv g m' → (0 ≤ r.toInt ∧ r.toInt ≤ 99) → Q r m') : c_X0_payOf_54_47 4 x2 m Q := by
  refine v_X0_payOf_54_47 ?_
  refine v_X7_hourOfDay_47 ?_
  refine v_X7_day_47 ?_
  have f1 := dRemE (x := (m.1 47 0)) (y := (24 : Int32)) (Y := 24) (by decide) (by decide)
  refine Wp.deep (s_X0_setVars_54 hG hI (by omega) (by omega) (fun M2 I2 => ?_)) (Nat.le_of_ble_eq_true rfl)
  refine ⟨by omega, ?_⟩
  have f3 := ti_3
  have I4 : Inv g (dSet M2 55 5 (M2.1 8 x2.toNatClampNeg)) := (Inv.setA I2 rfl)
  refine Wp.deep (s_X4_tells_11_55 hG I4 (by omega) (fun R5 M5 I5 => ?_)) (Nat.le_of_ble_eq_true rfl)
  refine Wp.deep (s_X0_held hG I5 (fun R6 hr6 => ?_)) (Nat.le_of_ble_eq_true rfl)
  exact hQ _ _ I5 (by omega)
theorem s_X11_use_0 {g : gM} {x1 : Int32} {x2 : Int32} {m : dM} {Q : Int32 → dM → Prop} (hG : Gd g) (hI : Inv g m) (hQ : ∀ (r : Int32) (m' : dM), Inv g m' → Q r m') : c_X11_use_0 5 x1 x2 m Q := by
  refine v_X11_use_0 ?_
  refine v_X11_isUse_0 ?_
  refine ⟨fun hc1 => ?_, fun hc1 => ?_⟩
  · skip
    refine v_X11_isUse_0_19 ?_
    have f2 := ti_0
    refine ⟨fun hc3 => ?_, fun hc3 => ?_⟩
    · skip
      exfalso; omega
    · skip
      have f4 := ti_m1
      exact hQ _ _ hI
  · skip
    have f2 := congrArg Int32.toInt (hI.2 2 2 rfl)
    have f3 := Inv.s hG hI (k := 2) (j := 2) rfl rfl
    refine ⟨fun hc4 => ?_, fun hc4 => ?_⟩
    · skip
      refine v_X11_isUse_0_19 ?_
      have f5 := ti_0
      refine ⟨fun hc6 => ?_, fun hc6 => ?_⟩
      · skip
        exfalso; omega
      · skip
        have f7 := ti_m1
        exact hQ _ _ hI
    · skip
      have f5 := ti_1
      refine ⟨fun hc6 => ?_, fun hc6 => ?_⟩
      · skip
        refine Wp.deep (s_X0_usesNow_54_47 hG hI (fun R7 M7 I7 => ?_)) (Nat.le_of_ble_eq_true rfl)
        refine v_X11_has ?_
        have f8 := dAndE (x := (R7.toUInt32 >>> (x1.toUInt32 &&& Int32.toUInt32 31)).toInt32) (y := (1 : Int32)) (by decide)
        refine ⟨fun hc9 => ?_, fun hc9 => ?_⟩
        · skip
          refine ⟨fun hc10 => ?_, fun hc10 => ?_, fun hc10 => ?_, fun hc10 => ?_, fun hc10 => ?_, fun hc10 => ?_, fun hc10 => ?_, fun hc10 => ?_⟩
          · skip
            refine ⟨by omega, ?_⟩
            have f11 := congrArg Int32.toInt (I7.2 2 2 rfl)
            have f12 := Inv.s hG I7 (k := 2) (j := 2) rfl rfl
            have f13 := Inv.home hG I7 (u := x1) (by omega) (by omega)
            exact hQ _ _ I7
          · skip
            refine ⟨by omega, ?_⟩
            exact hQ _ _ I7
          · skip
            refine ⟨by omega, ?_⟩
            exact hQ _ _ I7
          · skip
            refine ⟨by omega, ?_⟩
            exact hQ _ _ I7
          · skip
            refine v_X11_has ?_
            have f11 := dAndE (x := ((M7.1 47 5).toUInt32 >>> (x1.toUInt32 &&& Int32.toUInt32 31)).toInt32) (y := (1 : Int32)) (by decide)
            refine ⟨fun hc12 => ?_, fun hc12 => ?_⟩
            · skip
              have f13 := ti_0
              refine ⟨fun hc14 => ?_, fun hc14 => ?_⟩
              · skip
                exact hQ _ _ I7
              · skip
                exfalso; omega
            · skip
              refine ⟨fun hc13 => ?_, fun hc13 => ?_⟩
              · skip
                exfalso; omega
              · skip
                exact hQ _ _ I7
          · skip
            have f11 := ti_0
            refine ⟨fun hc12 => ?_, fun hc12 => ?_⟩
            · skip
              exact hQ _ _ I7
            · skip
              exfalso; omega
          · skip
            have f11 := ti_0
            refine ⟨fun hc12 => ?_, fun hc12 => ?_⟩
            · skip
              exact hQ _ _ I7
            · skip
              exfalso; omega
          · skip
            have f11 := ti_m1
            exact hQ _ _ I7
        · skip
          refine ⟨fun hc10 => ?_, fun hc10 => ?_, fun hc10 => ?_, fun hc10 => ?_, fun hc10 => ?_, fun hc10 => ?_, fun hc10 => ?_, fun hc10 => ?_⟩
          · skip
            refine ⟨by omega, ?_⟩
            have f11 := congrArg Int32.toInt (I7.2 2 2 rfl)
            have f12 := Inv.s hG I7 (k := 2) (j := 2) rfl rfl
            have f13 := Inv.home hG I7 (u := x1) (by omega) (by omega)
            exact hQ _ _ I7
          · skip
            refine ⟨by omega, ?_⟩
            exact hQ _ _ I7
          · skip
            refine ⟨by omega, ?_⟩
            exact hQ _ _ I7
          · skip
            refine ⟨by omega, ?_⟩
            exact hQ _ _ I7
          · skip
            refine v_X11_has ?_
            have f11 := dAndE (x := ((M7.1 47 5).toUInt32 >>> (x1.toUInt32 &&& Int32.toUInt32 31)).toInt32) (y := (1 : Int32)) (by decide)
            refine ⟨fun hc12 => ?_, fun hc12 => ?_⟩
            · skip
              have f13 := ti_0
              refine ⟨fun hc14 => ?_, fun hc14 => ?_⟩
              · skip
                exact hQ _ _ I7
              · skip
                exfalso; omega
            · skip
              refine ⟨fun hc13 => ?_, fun hc13 => ?_⟩
              · skip
                exfalso; omega
              · skip
                exact hQ _ _ I7
          · skip
            refine ⟨fun hc11 => ?_, fun hc11 => ?_⟩
            · skip
              exfalso; omega
            · skip
              exact hQ _ _ I7
          · skip
            refine ⟨fun hc11 => ?_, fun hc11 => ?_⟩
            · skip
              exfalso; omega
            · skip
              refine Wp.deep (s_X0_payOf_54_47 hG I7 (by omega) (fun R12 M12 I12 hr12 => ?_)) (Nat.le_of_ble_eq_true rfl)
              exact hQ _ _ I12
          · skip
            have f11 := ti_m1
            exact hQ _ _ I7
      · skip
        exfalso; omega
theorem s_X7_writeTo_47_52 {g : gM} {x2 : Int32} {m : dM} {Q : dM → Prop} (hG : Gd g) (hI : Inv g m) (hQ : ∀ m' : dM, Inv g m' → Q m') : c_X7_writeTo_47_52 1 x2 m Q := by
  refine v_X7_writeTo_47_52 ?_
  refine ⟨fun hc1 => ?_, fun hc1 => ?_⟩
  · skip
    refine v_X7_writeTo_47_52_13 ?_
    exact hQ _ hI
  · skip
    have f2 := dSubE (X := 1320) (Y := 33) (x := (1320 : Int32)) (y := (33 : Int32)) (by decide) (by decide) (by omega) (by omega)
    refine ⟨fun hc3 => ?_, fun hc3 => ?_⟩
    · skip
      refine ⟨by omega, ?_⟩
      have f4 := dAddE (X := x2.toInt) (Y := 1) (x := x2) (y := (1 : Int32)) rfl (by decide) (by omega) (by omega)
      refine ⟨by omega, ?_⟩
      have f5 := dAddE (X := x2.toInt) (Y := 2) (x := x2) (y := (2 : Int32)) rfl (by decide) (by omega) (by omega)
      refine ⟨by omega, ?_⟩
      have f6 := dAddE (X := x2.toInt) (Y := 3) (x := x2) (y := (3 : Int32)) rfl (by decide) (by omega) (by omega)
      refine ⟨by omega, ?_⟩
      have f7 := dAddE (X := x2.toInt) (Y := 4) (x := x2) (y := (4 : Int32)) rfl (by decide) (by omega) (by omega)
      refine ⟨by omega, ?_⟩
      have f8 := dAddE (X := x2.toInt) (Y := 5) (x := x2) (y := (5 : Int32)) rfl (by decide) (by omega) (by omega)
      refine ⟨by omega, ?_⟩
      have f9 := ti_10
      have f10 := dAddE (X := x2.toInt) (Y := 6) (x := x2) (y := (6 : Int32)) rfl (by decide) (by omega) (by omega)
      have f11 := ti_0
      refine ⟨by omega, ?_⟩
      have f12 := dAddE (X := (x2 + (6 : Int32)).toInt) (Y := 10) (x := (x2 + (6 : Int32))) (y := (10 : Int32)) rfl (by decide) (by omega) (by omega)
      refine ⟨by omega, ?_⟩
      have f13 := ti_7
      have f14 := dAddE (X := (x2 + (6 : Int32)).toInt) (Y := 20) (x := (x2 + (6 : Int32))) (y := (20 : Int32)) rfl (by decide) (by omega) (by omega)
      refine ⟨by omega, ?_⟩
      have I15 : Inv g (dSet m 52 x2.toNatClampNeg (m.1 47 0)) := (Inv.setA hI rfl)
      have I16 : Inv g (dSet (dSet m 52 x2.toNatClampNeg (m.1 47 0)) 52 (x2 + (1 : Int32)).toNatClampNeg (m.1 47 1)) := (Inv.setA I15 rfl)
      have I17 : Inv g (dSet (dSet (dSet m 52 x2.toNatClampNeg (m.1 47 0)) 52 (x2 + (1 : Int32)).toNatClampNeg (m.1 47 1)) 52 (x2 + (2 : Int32)).toNatClampNeg (m.1 47 2)) := (Inv.setA I16 rfl)
      have I18 : Inv g (dSet (dSet (dSet (dSet m 52 x2.toNatClampNeg (m.1 47 0)) 52 (x2 + (1 : Int32)).toNatClampNeg (m.1 47 1)) 52 (x2 + (2 : Int32)).toNatClampNeg (m.1 47 2)) 52 (x2 + (3 : Int32)).toNatClampNeg (m.1 47 3)) := (Inv.setA I17 rfl)
      have I19 : Inv g (dSet (dSet (dSet (dSet (dSet m 52 x2.toNatClampNeg (m.1 47 0)) 52 (x2 + (1 : Int32)).toNatClampNeg (m.1 47 1)) 52 (x2 + (2 : Int32)).toNatClampNeg (m.1 47 2)) 52 (x2 + (3 : Int32)).toNatClampNeg (m.1 47 3)) 52 (x2 + (4 : Int32)).toNatClampNeg (m.1 47 4)) := (Inv.setA I18 rfl)
      have I20 : Inv g (dSet (dSet (dSet (dSet (dSet (dSet m 52 x2.toNatClampNeg (m.1 47 0)) 52 (x2 + (1 : Int32)).toNatClampNeg (m.1 47 1)) 52 (x2 + (2 : Int32)).toNatClampNeg (m.1 47 2)) 52 (x2 + (3 : Int32)).toNatClampNeg (m.1 47 3)) 52 (x2 + (4 : Int32)).toNatClampNeg (m.1 47 4)) 52 (x2 + (5 : Int32)).toNatClampNeg (m.1 47 5)) := (Inv.setA I19 rfl)
      have I21 : Inv g (dCpy (dSet (dSet (dSet (dSet (dSet (dSet m 52 x2.toNatClampNeg (m.1 47 0)) 52 (x2 + (1 : Int32)).toNatClampNeg (m.1 47 1)) 52 (x2 + (2 : Int32)).toNatClampNeg (m.1 47 2)) 52 (x2 + (3 : Int32)).toNatClampNeg (m.1 47 3)) 52 (x2 + (4 : Int32)).toNatClampNeg (m.1 47 4)) 52 (x2 + (5 : Int32)).toNatClampNeg (m.1 47 5)) 48 (0 : Int).toNat 52 ((x2 + (6 : Int32)).toInt).toNat (10 : Int).toNat) := (Inv.cpy I20 (fun _ => rfl))
      have I22 : Inv g (dCpy (dCpy (dSet (dSet (dSet (dSet (dSet (dSet m 52 x2.toNatClampNeg (m.1 47 0)) 52 (x2 + (1 : Int32)).toNatClampNeg (m.1 47 1)) 52 (x2 + (2 : Int32)).toNatClampNeg (m.1 47 2)) 52 (x2 + (3 : Int32)).toNatClampNeg (m.1 47 3)) 52 (x2 + (4 : Int32)).toNatClampNeg (m.1 47 4)) 52 (x2 + (5 : Int32)).toNatClampNeg (m.1 47 5)) 48 (0 : Int).toNat 52 ((x2 + (6 : Int32)).toInt).toNat (10 : Int).toNat) 49 (0 : Int).toNat 52 (((x2 + (6 : Int32)) + (10 : Int32)).toInt).toNat (10 : Int).toNat) := (Inv.cpy I21 (fun _ => rfl))
      have I23 : Inv g (dCpy (dCpy (dCpy (dSet (dSet (dSet (dSet (dSet (dSet m 52 x2.toNatClampNeg (m.1 47 0)) 52 (x2 + (1 : Int32)).toNatClampNeg (m.1 47 1)) 52 (x2 + (2 : Int32)).toNatClampNeg (m.1 47 2)) 52 (x2 + (3 : Int32)).toNatClampNeg (m.1 47 3)) 52 (x2 + (4 : Int32)).toNatClampNeg (m.1 47 4)) 52 (x2 + (5 : Int32)).toNatClampNeg (m.1 47 5)) 48 (0 : Int).toNat 52 ((x2 + (6 : Int32)).toInt).toNat (10 : Int).toNat) 49 (0 : Int).toNat 52 (((x2 + (6 : Int32)) + (10 : Int32)).toInt).toNat (10 : Int).toNat) 50 (0 : Int).toNat 52 (((x2 + (6 : Int32)) + (20 : Int32)).toInt).toNat (7 : Int).toNat) := (Inv.cpy I22 (fun _ => rfl))
      exact hQ _ I23
    · skip
      refine v_X7_writeTo_47_52_13 ?_
      exact hQ _ hI
theorem s_X6_keep_51_47 {g : gM} {m : dM} {Q : dM → Prop} (hG : Gd g) (hI : Inv g m) (hQ : ∀ m' : dM, Inv g m' → Q m') : c_X6_keep_51_47 2 m Q := by
  refine v_X6_keep_51_47 ?_
  refine Wp.deep (s_X7_writeTo_47_52 hG hI (fun M1 I1 => ?_)) (Nat.le_of_ble_eq_true rfl)
  have I2 : Inv g (dSet M1 51 2 (((M1.1 51 2) + (1 : Int32)) - ((M1.1 51 2) + (1 : Int32)) / (40 : Int32) * (40 : Int32))) := (Inv.setA I1 rfl)
  have I3 : Inv g (dSet (dSet M1 51 2 (((M1.1 51 2) + (1 : Int32)) - ((M1.1 51 2) + (1 : Int32)) / (40 : Int32) * (40 : Int32))) 51 3 (if (40 : Int32) < ((M1.1 51 3) + (1 : Int32)) then (40 : Int32) else ((M1.1 51 3) + (1 : Int32)))) := (Inv.setA I2 rfl)
  exact hQ _ I3
theorem s_X11_agree_0 {g : gM} {x1 : Int32} {x2 : Int32} {m : dM} {Q : Int32 → dM → Prop} (hG : Gd g) (hI : Inv g m) (h2 : 0 ≤ x2.toInt ∧ x2.toInt ≤ 1) (hQ : ∀ (r : Int32) (m' : dM), Inv g m' → (0 ≤ r.toInt ∧ r.toInt ≤ 1) → Q r m') : c_X11_agree_0 3 x1 x2 m Q := by
  refine v_X11_agree_0 ?_
  refine v_X11_isUse_0 ?_
  refine ⟨fun hc1 => ?_, fun hc1 => ?_⟩
  · skip
    refine v_X11_isUse_0_19 ?_
    have f2 := ti_0
    refine ⟨fun hc3 => ?_, fun hc3 => ?_⟩
    · skip
      refine v_X11_agree_0_23 ?_
      exact hQ _ _ hI (by omega)
    · skip
      exfalso; omega
  · skip
    have f2 := congrArg Int32.toInt (hI.2 2 2 rfl)
    have f3 := Inv.s hG hI (k := 2) (j := 2) rfl rfl
    refine ⟨fun hc4 => ?_, fun hc4 => ?_⟩
    · skip
      refine v_X11_isUse_0_19 ?_
      have f5 := ti_0
      refine ⟨fun hc6 => ?_, fun hc6 => ?_⟩
      · skip
        refine v_X11_agree_0_23 ?_
        exact hQ _ _ hI (by omega)
      · skip
        exfalso; omega
    · skip
      have f5 := ti_1
      refine ⟨fun hc6 => ?_, fun hc6 => ?_⟩
      · skip
        exfalso; omega
      · skip
        refine v_X11_has ?_
        have f7 := dAndE (x := ((m.1 47 5).toUInt32 >>> (x1.toUInt32 &&& Int32.toUInt32 31)).toInt32) (y := (1 : Int32)) (by decide)
        refine ⟨fun hc8 => ?_, fun hc8 => ?_⟩
        · skip
          have f9 := ti_0
          refine ⟨fun hc10 => ?_, fun hc10 => ?_⟩
          · skip
            refine Wp.deep (s_X6_keep_51_47 hG hI (fun M11 I11 => ?_)) (Nat.le_of_ble_eq_true rfl)
            have I12 : Inv g (dSet M11 47 5 ((M11.1 47 5) ^^^ ((1 : Int32) <<< (x1 &&& 31)))) := (Inv.setA I11 rfl)
            exact hQ _ _ I12 (by omega)
          · skip
            refine v_X11_agree_0_23 ?_
            exact hQ _ _ hI (by omega)
        · skip
          refine ⟨fun hc9 => ?_, fun hc9 => ?_⟩
          · skip
            refine Wp.deep (s_X6_keep_51_47 hG hI (fun M10 I10 => ?_)) (Nat.le_of_ble_eq_true rfl)
            have I11 : Inv g (dSet M10 47 5 ((M10.1 47 5) ^^^ ((1 : Int32) <<< (x1 &&& 31)))) := (Inv.setA I10 rfl)
            exact hQ _ _ I11 (by omega)
          · skip
            refine v_X11_agree_0_23 ?_
            have f10 := ti_0
            exact hQ _ _ hI (by omega)
theorem s_X12_records_70_all {g : gM} {Q : dM → Prop} (hG : Gd g) (hQ : ∀ m' : dM, Inv g m' → Q m') : ∀ n : Nat, (∀ (x1 : Int32) (m : dM), Inv g m → (0 ≤ x1.toInt ∧ x1.toInt ≤ 2262) → (40 ≤ (m.1 70 61).toInt ∧ (m.1 70 61).toInt ≤ 40) → 2322 - 1 * x1.toInt < (n : Int) → j_X12_records_70_11 2 x1 m Q) ∧ (∀ (m : dM), Inv g m → (0 ≤ (m.1 70 61).toInt ∧ (m.1 70 61).toInt ≤ 39) → 59 < (n : Int) → j_X12_records_70_49 2 m Q) ∧ (∀ (x1 : Int32) (m : dM), Inv g m → (0 ≤ x1.toInt ∧ x1.toInt ≤ 58) → (0 ≤ (m.1 70 61).toInt ∧ (m.1 70 61).toInt ≤ 39) → 58 - 1 * x1.toInt < (n : Int) → j_X12_records_70_51 2 x1 m Q) := by
  intro n
  induction n with
  | zero => exact ⟨fun x1 m hI h1 hk70_61 hμ => by exfalso; omega, fun m hI hk70_61 hμ => by exfalso; omega, fun x1 m hI h1 hk70_61 hμ => by exfalso; omega⟩
  | succ n ih =>
    refine ⟨?_, ?_, ?_⟩
    · intro x1 m hI h1 hk70_61 hμ
      refine v_X12_records_70_11 ?_
      refine ⟨fun hc1 => ?_, fun hc1 => ?_⟩
      · skip
        have f2 := Inv.w hI (k := 70) (j := 61) rfl
        have f3 := dSubE (X := (m.1 70 61).toInt) (Y := 1) (x := (m.1 70 61)) (y := (1 : Int32)) rfl (by decide) (by omega) (by omega)
        have I4 : Inv g (dSet m 70 61 ((m.1 70 61) - (1 : Int32))) := (Inv.set hI rfl (by omega) (by omega))
        have f5 : ((dSet m 70 61 ((m.1 70 61) - (1 : Int32))).1 70 61).toInt = ((m.1 70 61) - (1 : Int32)).toInt := rfl
        exact ih.2.1 _ I4 (by omega) (by omega)
      · skip
        have f2 := dAddE (X := x1.toInt) (Y := 58) (x := x1) (y := (58 : Int32)) rfl (by decide) (by omega) (by omega)
        refine ⟨by omega, ?_⟩
        refine ⟨by omega, ?_⟩
        have f3 := dAddE (X := x1.toInt) (Y := 1) (x := x1) (y := (1 : Int32)) rfl (by decide) (by omega) (by omega)
        have I4 : Inv g (dSet m 111 x1.toNatClampNeg (m.1 111 (x1 + (58 : Int32)).toNatClampNeg)) := (Inv.setA hI rfl)
        have f5 := Inv.w hI (k := 70) (j := 61) rfl
        have f6 : ((dSet m 111 x1.toNatClampNeg (m.1 111 (x1 + (58 : Int32)).toNatClampNeg)).1 70 61).toInt = (m.1 70 61).toInt := rfl
        exact ih.1 _ _ I4 (by omega) (by omega) (by omega)
    · intro m hI hk70_61 hμ
      refine v_X12_records_70_49 ?_
      have f1 := ti_0
      have f2 := Inv.w hI (k := 70) (j := 61) rfl
      exact ih.2.2 _ _ hI (by omega) (by omega) (by omega)
    · intro x1 m hI h1 hk70_61 hμ
      refine v_X12_records_70_51 ?_
      refine ⟨fun hc1 => ?_, fun hc1 => ?_⟩
      · skip
        have f2 := Inv.w hI (k := 70) (j := 61) rfl
        have f3 := dAddE (X := (m.1 70 61).toInt) (Y := 1) (x := (m.1 70 61)) (y := (1 : Int32)) rfl (by decide) (by omega) (by omega)
        have I4 : Inv g (dSet m 70 61 ((m.1 70 61) + (1 : Int32))) := (Inv.set hI rfl (by omega) (by omega))
        refine Wp.deep (s_X12_keepsRow_70 hG I4 (fun M5 I5 => ?_)) (Nat.le_of_ble_eq_true rfl)
        exact hQ _ I5
      · skip
        refine ⟨by omega, ?_⟩
        have f2 := Inv.w hI (k := 70) (j := 61) rfl
        have f3 := dMulE (X := 58) (Y := (m.1 70 61).toInt) (x := (58 : Int32)) (y := (m.1 70 61)) (by decide) rfl (by omega) (by omega)
        have f4 := dAddE (X := ((58 : Int32) * (m.1 70 61)).toInt) (Y := x1.toInt) (x := ((58 : Int32) * (m.1 70 61))) (y := x1) rfl rfl (by omega) (by omega)
        refine ⟨by omega, ?_⟩
        have f5 := dAddE (X := x1.toInt) (Y := 1) (x := x1) (y := (1 : Int32)) rfl (by decide) (by omega) (by omega)
        have I6 : Inv g (dSet m 111 (((58 : Int32) * (m.1 70 61)) + x1).toNatClampNeg (m.1 107 x1.toNatClampNeg)) := (Inv.setA hI rfl)
        have f7 : ((dSet m 111 (((58 : Int32) * (m.1 70 61)) + x1).toNatClampNeg (m.1 107 x1.toNatClampNeg)).1 70 61).toInt = (m.1 70 61).toInt := rfl
        exact ih.2.2 _ _ I6 (by omega) (by omega) (by omega)
theorem s_X12_records_70 {g : gM} {m : dM} {Q : dM → Prop} (hG : Gd g) (hI : Inv g m) (hQ : ∀ m' : dM, Inv g m' → Q m') : c_X12_records_70 2 m Q := by
  have hz2 := e_lo (m.1 70 61)
  have hz3 := e_hi (m.1 70 61)
  refine v_X12_records_70 ?_
  have f1 := Inv.w hI (k := 70) (j := 61) rfl
  refine ⟨fun hc2 => ?_, fun hc2 => ?_⟩
  · skip
    exact (s_X12_records_70_all hG hQ 2324).2.1 _ hI (by omega) (by omega)
  · skip
    have f3 := ti_0
    exact (s_X12_records_70_all hG hQ 2324).1 _ _ hI (by omega) (by omega) (by omega)
theorem s_X11_mend_0 {g : gM} {x1 : Int32} {m : dM} {Q : Int32 → dM → Prop} (hG : Gd g) (hI : Inv g m) (hQ : ∀ (r : Int32) (m' : dM), Inv g m' → Q r m') : c_X11_mend_0 5 x1 m Q := by
  refine v_X11_mend_0 ?_
  refine v_X11_isWire_0 ?_
  refine ⟨fun hc1 => ?_, fun hc1 => ?_⟩
  · skip
    refine v_X11_isWire_0_19 ?_
    have f2 := ti_0
    refine ⟨fun hc3 => ?_, fun hc3 => ?_⟩
    · skip
      exfalso; omega
    · skip
      have f4 := ti_m1
      exact hQ _ _ hI
  · skip
    have f2 := congrArg Int32.toInt (hI.2 2 1 rfl)
    have f3 := Inv.s hG hI (k := 2) (j := 1) rfl rfl
    refine ⟨fun hc4 => ?_, fun hc4 => ?_⟩
    · skip
      refine v_X11_isWire_0_19 ?_
      have f5 := ti_0
      refine ⟨fun hc6 => ?_, fun hc6 => ?_⟩
      · skip
        exfalso; omega
      · skip
        have f7 := ti_m1
        exact hQ _ _ hI
    · skip
      have f5 := ti_1
      refine ⟨fun hc6 => ?_, fun hc6 => ?_⟩
      · skip
        refine Wp.deep (s_X0_costOf_54_47 hG hI (by omega) (fun R7 M7 I7 hr7 => ?_)) (Nat.le_of_ble_eq_true rfl)
        refine v_X11_has ?_
        have f8 := dAndE (x := ((M7.1 47 3).toUInt32 >>> (x1.toUInt32 &&& Int32.toUInt32 31)).toInt32) (y := (1 : Int32)) (by decide)
        refine ⟨fun hc9 => ?_, fun hc9 => ?_⟩
        · skip
          have f10 := ti_0
          refine ⟨fun hc11 => ?_, fun hc11 => ?_⟩
          · skip
            refine v_X11_mend_0_48 ?_
            have f12 := ti_m2
            exact hQ _ _ I7
          · skip
            exfalso; omega
        · skip
          refine ⟨fun hc10 => ?_, fun hc10 => ?_⟩
          · skip
            exfalso; omega
          · skip
            refine ⟨fun hc11 => ?_, fun hc11 => ?_⟩
            · skip
              refine Wp.deep (s_X6_keep_51_47 hG I7 (fun M12 I12 => ?_)) (Nat.le_of_ble_eq_true rfl)
              refine ⟨by omega, ?_⟩
              have I13 : Inv g (dSet M12 47 1 ((M12.1 47 1) - R7)) := (Inv.setA I12 rfl)
              have I14 : Inv g (dSet (dSet M12 47 1 ((M12.1 47 1) - R7)) 47 3 ((M12.1 47 3) &&& (((1 : Int32) <<< (x1 &&& 31)) ^^^ (-1 : Int32)))) := (Inv.setA I13 rfl)
              have I15 : Inv g (dSet (dSet (dSet M12 47 1 ((M12.1 47 1) - R7)) 47 3 ((M12.1 47 3) &&& (((1 : Int32) <<< (x1 &&& 31)) ^^^ (-1 : Int32)))) 47 4 ((M12.1 47 4) &&& (((1 : Int32) <<< (x1 &&& 31)) ^^^ (-1 : Int32)))) := (Inv.setA I14 rfl)
              have I16 : Inv g (dSet (dSet (dSet (dSet M12 47 1 ((M12.1 47 1) - R7)) 47 3 ((M12.1 47 3) &&& (((1 : Int32) <<< (x1 &&& 31)) ^^^ (-1 : Int32)))) 47 4 ((M12.1 47 4) &&& (((1 : Int32) <<< (x1 &&& 31)) ^^^ (-1 : Int32)))) 49 x1.toNatClampNeg (0 : Int32)) := (Inv.setA I15 rfl)
              exact hQ _ _ I16
            · skip
              refine v_X11_mend_0_48 ?_
              have f12 := ti_m2
              exact hQ _ _ I7
      · skip
        exfalso; omega
theorem s_X11_thicken_0 {g : gM} {x1 : Int32} {m : dM} {Q : Int32 → dM → Prop} (hG : Gd g) (hI : Inv g m) (hQ : ∀ (r : Int32) (m' : dM), Inv g m' → Q r m') : c_X11_thicken_0 5 x1 m Q := by
  refine v_X11_thicken_0 ?_
  refine v_X11_isWire_0 ?_
  refine ⟨fun hc1 => ?_, fun hc1 => ?_⟩
  · skip
    refine v_X11_isWire_0_19 ?_
    have f2 := ti_0
    refine ⟨fun hc3 => ?_, fun hc3 => ?_⟩
    · skip
      exfalso; omega
    · skip
      have f4 := ti_m1
      exact hQ _ _ hI
  · skip
    have f2 := congrArg Int32.toInt (hI.2 2 1 rfl)
    have f3 := Inv.s hG hI (k := 2) (j := 1) rfl rfl
    refine ⟨fun hc4 => ?_, fun hc4 => ?_⟩
    · skip
      refine v_X11_isWire_0_19 ?_
      have f5 := ti_0
      refine ⟨fun hc6 => ?_, fun hc6 => ?_⟩
      · skip
        exfalso; omega
      · skip
        have f7 := ti_m1
        exact hQ _ _ hI
    · skip
      have f5 := ti_1
      refine ⟨fun hc6 => ?_, fun hc6 => ?_⟩
      · skip
        refine Wp.deep (s_X0_costOf_54_47 hG hI (by omega) (fun R7 M7 I7 hr7 => ?_)) (Nat.le_of_ble_eq_true rfl)
        refine v_X11_has ?_
        have f8 := dAndE (x := ((M7.1 47 3).toUInt32 >>> (x1.toUInt32 &&& Int32.toUInt32 31)).toInt32) (y := (1 : Int32)) (by decide)
        refine ⟨fun hc9 => ?_, fun hc9 => ?_⟩
        · skip
          have f10 := ti_0
          refine ⟨fun hc11 => ?_, fun hc11 => ?_⟩
          · skip
            exfalso; omega
          · skip
            refine ⟨by omega, ?_⟩
            refine ⟨fun hc12 => ?_, fun hc12 => ?_⟩
            · skip
              refine v_X11_thicken_0_62 ?_
              have f13 := ti_m2
              exact hQ _ _ I7
            · skip
              refine ⟨fun hc13 => ?_, fun hc13 => ?_⟩
              · skip
                refine Wp.deep (s_X6_keep_51_47 hG I7 (fun M14 I14 => ?_)) (Nat.le_of_ble_eq_true rfl)
                refine ⟨by omega, ?_⟩
                refine ⟨by omega, ?_⟩
                have I15 : Inv g (dSet M14 47 1 ((M14.1 47 1) - R7)) := (Inv.setA I14 rfl)
                have I16 : Inv g (dSet (dSet M14 47 1 ((M14.1 47 1) - R7)) 48 x1.toNatClampNeg ((M14.1 48 x1.toNatClampNeg) + (1 : Int32))) := (Inv.setA I15 rfl)
                exact hQ _ _ I16
              · skip
                refine v_X11_thicken_0_62 ?_
                have f14 := ti_m2
                exact hQ _ _ I7
        · skip
          refine ⟨fun hc10 => ?_, fun hc10 => ?_⟩
          · skip
            refine v_X11_thicken_0_62 ?_
            have f11 := ti_m2
            exact hQ _ _ I7
          · skip
            exfalso; omega
      · skip
        exfalso; omega
end
section
theorem s_X11_pin_0 {g : gM} {x1 : Int32} {x2 : Int32} {m : dM} {Q : Int32 → dM → Prop} (hG : Gd g) (hI : Inv g m) (h2 : 0 ≤ x2.toInt ∧ x2.toInt ≤ 1) (hQ : ∀ (r : Int32) (m' : dM), Inv g m' → (0 ≤ r.toInt ∧ r.toInt ≤ 1) → Q r m') : c_X11_pin_0 3 x1 x2 m Q := by
  refine v_X11_pin_0 ?_
  refine v_X11_isWire_0 ?_
  refine ⟨fun hc1 => ?_, fun hc1 => ?_⟩
  · skip
    refine v_X11_isWire_0_19 ?_
    have f2 := ti_0
    refine ⟨fun hc3 => ?_, fun hc3 => ?_⟩
    · skip
      refine v_X11_pin_0_37 ?_
      exact hQ _ _ hI (by omega)
    · skip
      exfalso; omega
  · skip
    have f2 := congrArg Int32.toInt (hI.2 2 1 rfl)
    have f3 := Inv.s hG hI (k := 2) (j := 1) rfl rfl
    refine ⟨fun hc4 => ?_, fun hc4 => ?_⟩
    · skip
      refine v_X11_isWire_0_19 ?_
      have f5 := ti_0
      refine ⟨fun hc6 => ?_, fun hc6 => ?_⟩
      · skip
        refine v_X11_pin_0_37 ?_
        exact hQ _ _ hI (by omega)
      · skip
        exfalso; omega
    · skip
      have f5 := ti_1
      refine ⟨fun hc6 => ?_, fun hc6 => ?_⟩
      · skip
        exfalso; omega
      · skip
        refine v_X11_has ?_
        have f7 := dAndE (x := ((m.1 47 3).toUInt32 >>> (x1.toUInt32 &&& Int32.toUInt32 31)).toInt32) (y := (1 : Int32)) (by decide)
        refine ⟨fun hc8 => ?_, fun hc8 => ?_⟩
        · skip
          have f9 := ti_0
          refine ⟨fun hc10 => ?_, fun hc10 => ?_⟩
          · skip
            exfalso; omega
          · skip
            refine v_X11_has ?_
            have f11 := dAndE (x := ((m.1 47 4).toUInt32 >>> (x1.toUInt32 &&& Int32.toUInt32 31)).toInt32) (y := (1 : Int32)) (by decide)
            refine ⟨fun hc12 => ?_, fun hc12 => ?_⟩
            · skip
              refine ⟨fun hc13 => ?_, fun hc13 => ?_⟩
              · skip
                refine Wp.deep (s_X6_keep_51_47 hG hI (fun M14 I14 => ?_)) (Nat.le_of_ble_eq_true rfl)
                have I15 : Inv g (dSet M14 47 4 ((M14.1 47 4) ^^^ ((1 : Int32) <<< (x1 &&& 31)))) := (Inv.setA I14 rfl)
                exact hQ _ _ I15 (by omega)
              · skip
                refine v_X11_pin_0_37 ?_
                exact hQ _ _ hI (by omega)
            · skip
              refine ⟨fun hc13 => ?_, fun hc13 => ?_⟩
              · skip
                refine Wp.deep (s_X6_keep_51_47 hG hI (fun M14 I14 => ?_)) (Nat.le_of_ble_eq_true rfl)
                have I15 : Inv g (dSet M14 47 4 ((M14.1 47 4) ^^^ ((1 : Int32) <<< (x1 &&& 31)))) := (Inv.setA I14 rfl)
                exact hQ _ _ I15 (by omega)
              · skip
                refine v_X11_pin_0_37 ?_
                exact hQ _ _ hI (by omega)
        · skip
          refine ⟨fun hc9 => ?_, fun hc9 => ?_⟩
          · skip
            refine v_X11_pin_0_37 ?_
            have f10 := ti_0
            exact hQ _ _ hI (by omega)
          · skip
            exfalso; omega
theorem s_X0_takePay_54_47_all {g : gM} {Q : dM → Prop} (hG : Gd g) (hQ : ∀ m' : dM, Inv g m' → Q m') : ∀ n : Nat, (∀ (x2 : Int32) (x3 : Int32) (m : dM), Inv g m → (0 ≤ x3.toInt ∧ x3.toInt ≤ 8) → 17 - 2 * x3.toInt < (n : Int) → j_X0_takePay_54_47_12 5 x2 x3 m Q) ∧ (∀ (x2 : Int32) (x3 : Int32) (m : dM), Inv g m → (0 ≤ x3.toInt ∧ x3.toInt ≤ 7) → 16 - 2 * x3.toInt < (n : Int) → j_X0_takePay_54_47_51 5 x2 x3 m Q) := by
  intro n
  induction n with
  | zero => exact ⟨fun x2 x3 m hI h3 hμ => by exfalso; omega, fun x2 x3 m hI h3 hμ => by exfalso; omega⟩
  | succ n ih =>
    refine ⟨?_, ?_⟩
    · intro x2 x3 m hI h3 hμ
      refine v_X0_takePay_54_47_12 ?_
      have f1 := congrArg Int32.toInt (hI.2 2 2 rfl)
      have f2 := Inv.s hG hI (k := 2) (j := 2) rfl rfl
      refine ⟨fun hc3 => ?_, fun hc3 => ?_⟩
      · skip
        exact hQ _ hI
      · skip
        refine v_X11_has ?_
        have f4 := ti_1
        have f5 := dAndE (x := (x2.toUInt32 >>> (x3.toUInt32 &&& Int32.toUInt32 31)).toInt32) (y := (1 : Int32)) (by decide)
        refine ⟨fun hc6 => ?_, fun hc6 => ?_⟩
        · skip
          have f7 := ti_0
          refine ⟨fun hc8 => ?_, fun hc8 => ?_⟩
          · skip
            exact ih.2 _ _ _ hI (by omega) (by omega)
          · skip
            exfalso; omega
        · skip
          refine ⟨fun hc7 => ?_, fun hc7 => ?_⟩
          · skip
            exfalso; omega
          · skip
            refine Wp.deep (s_X0_payOf_54_47 hG hI (by omega) (fun R8 M8 I8 hr8 => ?_)) (Nat.le_of_ble_eq_true rfl)
            have I9 : Inv g (dSet M8 47 1 (if ((m.1 47 1) + R8) < (99999 : Int32) then ((m.1 47 1) + R8) else (99999 : Int32))) := (Inv.setA I8 rfl)
            exact ih.2 _ _ _ I9 (by omega) (by omega)
    · intro x2 x3 m hI h3 hμ
      refine v_X0_takePay_54_47_51 ?_
      have f1 := dAddE (X := x3.toInt) (Y := 1) (x := x3) (y := (1 : Int32)) rfl (by decide) (by omega) (by omega)
      exact ih.1 _ _ _ hI (by omega) (by omega)
theorem s_X0_takePay_54_47 {g : gM} {m : dM} {Q : dM → Prop} (hG : Gd g) (hI : Inv g m) (hQ : ∀ m' : dM, Inv g m' → Q m') : c_X0_takePay_54_47 5 m Q := by
  refine v_X0_takePay_54_47 ?_
  refine v_X7_hourOfDay_47 ?_
  have f1 := dRemE (x := (m.1 47 0)) (y := (24 : Int32)) (Y := 24) (by decide) (by decide)
  refine Wp.deep (s_X0_usesAt_54_47 hG hI (by omega) (fun R2 M2 I2 => ?_)) (Nat.le_of_ble_eq_true rfl)
  have f3 := ti_0
  exact (s_X0_takePay_54_47_all hG hQ 19).1 _ _ _ I2 (by omega) (by omega)
theorem s_X0_countQuarrels_54_47_all {g : gM} {Q : dM → Prop} (hG : Gd g) (hQ : ∀ m' : dM, Inv g m' → Q m') : ∀ n : Nat, (∀ (x2 : Int32) (m : dM), Inv g m → (0 ≤ x2.toInt ∧ x2.toInt ≤ 7) → 15 - 2 * x2.toInt < (n : Int) → j_X0_countQuarrels_54_47_13 5 x2 m Q) ∧ (∀ (x2 : Int32) (m : dM), Inv g m → (0 ≤ x2.toInt ∧ x2.toInt ≤ 6) → 14 - 2 * x2.toInt < (n : Int) → j_X0_countQuarrels_54_47_78 5 x2 m Q) := by
  intro n
  induction n with
  | zero => exact ⟨fun x2 m hI h2 hμ => by exfalso; omega, fun x2 m hI h2 hμ => by exfalso; omega⟩
  | succ n ih =>
    refine ⟨?_, ?_⟩
    · intro x2 m hI h2 hμ
      refine v_X0_countQuarrels_54_47_13 ?_
      have f1 := congrArg Int32.toInt (hI.2 2 0 rfl)
      have f2 := Inv.s hG hI (k := 2) (j := 0) rfl rfl
      refine ⟨fun hc3 => ?_, fun hc3 => ?_⟩
      · skip
        exact hQ _ hI
      · skip
        refine v_X11_has ?_
        have f4 := ti_1
        have f5 := dAndE (x := ((m.1 57 5).toUInt32 >>> (x2.toUInt32 &&& Int32.toUInt32 31)).toInt32) (y := (1 : Int32)) (by decide)
        refine ⟨fun hc6 => ?_, fun hc6 => ?_⟩
        · skip
          have f7 := ti_0
          refine ⟨fun hc8 => ?_, fun hc8 => ?_⟩
          · skip
            refine Wp.deep (s_X0_quarrelOf_54_47 hG hI (by omega) (fun R9 M9 I9 hr9 => ?_)) (Nat.le_of_ble_eq_true rfl)
            refine ⟨by omega, ?_⟩
            refine ⟨by omega, ?_⟩
            have I10 : Inv g (dSet M9 47 2 (if ((m.1 47 2) + R9) < (999999 : Int32) then ((m.1 47 2) + R9) else (999999 : Int32))) := (Inv.setA I9 rfl)
            have I11 : Inv g (dSet (dSet M9 47 2 (if ((m.1 47 2) + R9) < (999999 : Int32) then ((m.1 47 2) + R9) else (999999 : Int32))) 50 x2.toNatClampNeg ((M9.1 50 x2.toNatClampNeg) + (1 : Int32))) := (Inv.setA I10 rfl)
            exact ih.2 _ _ I11 (by omega) (by omega)
          · skip
            exfalso; omega
        · skip
          refine ⟨fun hc7 => ?_, fun hc7 => ?_⟩
          · skip
            exfalso; omega
          · skip
            refine ⟨by omega, ?_⟩
            have I8 : Inv g (dSet m 50 x2.toNatClampNeg (0 : Int32)) := (Inv.setA hI rfl)
            exact ih.2 _ _ I8 (by omega) (by omega)
    · intro x2 m hI h2 hμ
      refine v_X0_countQuarrels_54_47_78 ?_
      have f1 := dAddE (X := x2.toInt) (Y := 1) (x := x2) (y := (1 : Int32)) rfl (by decide) (by omega) (by omega)
      exact ih.1 _ _ hI (by omega) (by omega)
theorem s_X0_countQuarrels_54_47 {g : gM} {m : dM} {Q : dM → Prop} (hG : Gd g) (hI : Inv g m) (hQ : ∀ m' : dM, Inv g m' → Q m') : c_X0_countQuarrels_54_47 5 m Q := by
  refine v_X0_countQuarrels_54_47 ?_
  refine Wp.deep (s_X10_lay_57 hG hI (fun M1 I1 => ?_)) (Nat.le_of_ble_eq_true rfl)
  have f2 := ti_0
  exact (s_X0_countQuarrels_54_47_all hG hQ 17).1 _ _ I1 (by omega) (by omega)
theorem s_X0_stirred {g : gM} {x0 : Int32} {x1 : Int32} {m : dM} {Q : Int32 → dM → Prop} (hG : Gd g) (hI : Inv g m) (hQ : ∀ r : Int32, Q r m) : c_X0_stirred 1 x0 x1 m Q := by
  refine v_X0_stirred ?_
  exact hQ _
theorem s_X0_lot {g : gM} {x0 : Int32} {x1 : Int32} {x2 : Int32} {m : dM} {Q : Int32 → dM → Prop} (hG : Gd g) (hI : Inv g m) (h0 : 100 ≤ x0.toInt ∧ x0.toInt ≤ 100) (hQ : ∀ r : Int32, (-99 ≤ r.toInt ∧ r.toInt ≤ 99) → Q r m) : c_X0_lot 2 x0 x1 x2 m Q := by
  refine v_X0_lot ?_
  have f1 := ti_129
  refine Wp.deep (s_X0_stirred hG hI (fun R2 => ?_)) (Nat.le_of_ble_eq_true rfl)
  refine Wp.deep (s_X0_stirred hG hI (fun R3 => ?_)) (Nat.le_of_ble_eq_true rfl)
  refine ⟨fun hc4 => ?_, fun hc4 => ?_⟩
  · skip
    exfalso; omega
  · skip
    refine ⟨fun hz => by have := congrArg Int32.toInt hz; have e0 : (0 : Int32).toInt = 0 := rfl; omega, ?_⟩
    have f5 := dRemE (x := (R3.toUInt32 >>> ((1 : Int32).toUInt32 &&& Int32.toUInt32 31)).toInt32) (y := x0) (Y := 100) (by omega) (by decide)
    exact hQ _ (by omega)
theorem s_X0_isSurge_54 {g : gM} {x1 : Int32} {x2 : Int32} {m : dM} {Q : Int32 → dM → Prop} (hG : Gd g) (hI : Inv g m) (hQ : ∀ r : Int32, (0 ≤ r.toInt ∧ r.toInt ≤ 1) → Q r m) : c_X0_isSurge_54 3 x1 x2 m Q := by
  refine v_X0_isSurge_54 ?_
  have f1 := ti_100
  refine Wp.deep (s_X0_lot hG hI (by omega) (fun R2 hr2 => ?_)) (Nat.le_of_ble_eq_true rfl)
  have f3 := congrArg Int32.toInt (hI.2 2 3 rfl)
  refine ⟨fun hc4 => ?_, fun hc4 => ?_⟩
  · skip
    have f5 := ti_0
    exact hQ _ (by omega)
  · skip
    have f5 := ti_1
    exact hQ _ (by omega)
theorem s_X0_surgeOf_54 {g : gM} {x1 : Int32} {x2 : Int32} {m : dM} {Q : Int32 → dM → Prop} (hG : Gd g) (hI : Inv g m) (hQ : ∀ r : Int32, Q r m) : c_X0_surgeOf_54 4 x1 x2 m Q := by
  refine v_X0_surgeOf_54 ?_
  refine Wp.deep (s_X0_isSurge_54 hG hI (fun R1 hr1 => ?_)) (Nat.le_of_ble_eq_true rfl)
  refine ⟨fun hc2 => ?_, fun hc2 => ?_⟩
  · skip
    have f3 := ti_0
    exact hQ _
  · skip
    have f3 := congrArg Int32.toInt (hI.2 2 4 rfl)
    exact hQ _
theorem s_X0_passWires_54_47_all {g : gM} {Q : Int32 → dM → Prop} (hG : Gd g) (hQ : ∀ (r : Int32) (m' : dM), Inv g m' → Q r m') : ∀ n : Nat, (∀ (x3 : Int32) (x4 : Int32) (m : dM), Inv g m → (0 ≤ x4.toInt ∧ x4.toInt ≤ 10) → 21 - 2 * x4.toInt < (n : Int) → j_X0_passWires_54_47_38 5 x3 x4 m Q) ∧ (∀ (x3 : Int32) (x4 : Int32) (m : dM), Inv g m → (0 ≤ x4.toInt ∧ x4.toInt ≤ 9) → 20 - 2 * x4.toInt < (n : Int) → j_X0_passWires_54_47_84 5 x3 x4 m Q) := by
  intro n
  induction n with
  | zero => exact ⟨fun x3 x4 m hI h4 hμ => by exfalso; omega, fun x3 x4 m hI h4 hμ => by exfalso; omega⟩
  | succ n ih =>
    refine ⟨?_, ?_⟩
    · intro x3 x4 m hI h4 hμ
      refine v_X0_passWires_54_47_38 ?_
      have f1 := congrArg Int32.toInt (hI.2 2 1 rfl)
      have f2 := Inv.s hG hI (k := 2) (j := 1) rfl rfl
      refine ⟨fun hc3 => ?_, fun hc3 => ?_⟩
      · skip
        have I4 : Inv g (dSet m 47 0 ((m.1 47 0) + (1 : Int32))) := (Inv.setA hI rfl)
        exact hQ _ _ I4
      · skip
        refine v_X11_has ?_
        have f4 := ti_1
        have f5 := dAndE (x := ((m.1 47 3).toUInt32 >>> (x4.toUInt32 &&& Int32.toUInt32 31)).toInt32) (y := (1 : Int32)) (by decide)
        refine ⟨fun hc6 => ?_, fun hc6 => ?_⟩
        · skip
          have f7 := ti_0
          refine ⟨fun hc8 => ?_, fun hc8 => ?_⟩
          · skip
            exfalso; omega
          · skip
            refine ⟨by omega, ?_⟩
            refine ⟨by omega, ?_⟩
            have I9 : Inv g (dSet m 49 x4.toNatClampNeg (if ((m.1 49 x4.toNatClampNeg) + (1 : Int32)) < (999 : Int32) then ((m.1 49 x4.toNatClampNeg) + (1 : Int32)) else (999 : Int32))) := (Inv.setA hI rfl)
            exact ih.2 _ _ _ I9 (by omega) (by omega)
        · skip
          refine ⟨fun hc7 => ?_, fun hc7 => ?_⟩
          · skip
            exact ih.2 _ _ _ hI (by omega) (by omega)
          · skip
            exfalso; omega
    · intro x3 x4 m hI h4 hμ
      refine v_X0_passWires_54_47_84 ?_
      have f1 := dAddE (X := x4.toInt) (Y := 1) (x := x4) (y := (1 : Int32)) rfl (by decide) (by omega) (by omega)
      exact ih.1 _ _ _ hI (by omega) (by omega)
theorem s_X0_passWires_54_47 {g : gM} {x2 : Int32} {m : dM} {Q : Int32 → dM → Prop} (hG : Gd g) (hI : Inv g m) (hQ : ∀ (r : Int32) (m' : dM), Inv g m' → Q r m') : c_X0_passWires_54_47 5 x2 m Q := by
  refine v_X0_passWires_54_47 ?_
  refine v_X7_hourOfDay_47 ?_
  have f1 := dRemE (x := (m.1 47 0)) (y := (24 : Int32)) (Y := 24) (by decide) (by decide)
  refine Wp.deep (s_X0_usesAt_54_47 hG hI (by omega) (fun R2 M2 I2 => ?_)) (Nat.le_of_ble_eq_true rfl)
  refine Wp.deep (s_X0_putOn_54_47 hG I2 (fun M3 I3 => ?_)) (Nat.le_of_ble_eq_true rfl)
  refine v_X7_hourOfDay_47 ?_
  have f4 := dRemE (x := (M3.1 47 0)) (y := (24 : Int32)) (Y := 24) (by decide) (by decide)
  refine Wp.deep (s_X0_going_54_47 hG I3 (by omega) (fun R5 M5 I5 => ?_)) (Nat.le_of_ble_eq_true rfl)
  have f6 := ti_0
  have I7 : Inv g (dSet M5 47 3 ((M5.1 47 3) ||| R5)) := (Inv.setA I5 rfl)
  exact (s_X0_passWires_54_47_all hG hQ 23).1 _ _ _ I7 (by omega) (by omega)
theorem s_X0_passHour_54_47 {g : gM} {m : dM} {Q : dM → Prop} (hG : Gd g) (hI : Inv g m) (hQ : ∀ m' : dM, Inv g m' → Q m') : c_X0_passHour_54_47 6 m Q := by
  refine v_X0_passHour_54_47 ?_
  refine Wp.deep (s_X0_takePay_54_47 hG hI (fun M1 I1 => ?_)) (Nat.le_of_ble_eq_true rfl)
  refine Wp.deep (s_X0_countQuarrels_54_47 hG I1 (fun M2 I2 => ?_)) (Nat.le_of_ble_eq_true rfl)
  have f3 := congrArg Int32.toInt (I2.2 2 6 rfl)
  refine Wp.deep (s_X0_surgeOf_54 hG I2 (fun R4 => ?_)) (Nat.le_of_ble_eq_true rfl)
  refine Wp.deep (s_X0_passWires_54_47 hG I2 (fun R5 M5 I5 => ?_)) (Nat.le_of_ble_eq_true rfl)
  exact hQ _ I5
theorem s_X11_hours_0_all {g : gM} {Q : Int32 → dM → Prop} (hG : Gd g) (hQ : ∀ (r : Int32) (m' : dM), Inv g m' → Q r m') : ∀ n : Nat, (∀ (m : dM), Inv g m → 0 < (n : Int) → j_X11_hours_0_10 7 m Q) ∧ (∀ (x1 : Int32) (m : dM), Inv g m → (0 ≤ x1.toInt ∧ x1.toInt ≤ 72) → 74 < (n : Int) → j_X11_hours_0_27 7 x1 m Q) ∧ (∀ (x1 : Int32) (x2 : Int32) (m : dM), Inv g m → (0 ≤ x1.toInt ∧ x1.toInt ≤ 72) → (0 ≤ x2.toInt ∧ x2.toInt ≤ 72) → 73 - 1 * x2.toInt < (n : Int) → j_X11_hours_0_29 7 x1 x2 m Q) := by
  intro n
  induction n with
  | zero => exact ⟨fun m hI hμ => by exfalso; omega, fun x1 m hI h1 hμ => by exfalso; omega, fun x1 x2 m hI h1 h2 hμ => by exfalso; omega⟩
  | succ n ih =>
    refine ⟨?_, ?_, ?_⟩
    · intro m hI hμ
      refine v_X11_hours_0_10 ?_
      have f1 := ti_m1
      exact hQ _ _ hI
    · intro x1 m hI h1 hμ
      refine v_X11_hours_0_27 ?_
      have f1 := ti_0
      exact ih.2.2 _ _ _ hI (by omega) (by omega) (by omega)
    · intro x1 x2 m hI h1 h2 hμ
      refine v_X11_hours_0_29 ?_
      refine ⟨fun hc1 => ?_, fun hc1 => ?_⟩
      · skip
        exact hQ _ _ hI
      · skip
        refine Wp.deep (s_X0_passHour_54_47 hG hI (fun M2 I2 => ?_)) (Nat.le_of_ble_eq_true rfl)
        have f3 := dAddE (X := x2.toInt) (Y := 1) (x := x2) (y := (1 : Int32)) rfl (by decide) (by omega) (by omega)
        exact ih.2.2 _ _ _ I2 (by omega) (by omega) (by omega)
theorem s_X11_hours_0 {g : gM} {x1 : Int32} {m : dM} {Q : Int32 → dM → Prop} (hG : Gd g) (hI : Inv g m) (hQ : ∀ (r : Int32) (m' : dM), Inv g m' → Q r m') : c_X11_hours_0 7 x1 m Q := by
  refine v_X11_hours_0 ?_
  refine ⟨fun hc1 => ?_, fun hc1 => ?_⟩
  · skip
    exact (s_X11_hours_0_all hG hQ 76).1 _ hI (by omega)
  · skip
    refine ⟨fun hc2 => ?_, fun hc2 => ?_⟩
    · skip
      refine ⟨fun hc3 => ?_, fun hc3 => ?_⟩
      · skip
        exact (s_X11_hours_0_all hG hQ 76).2.1 _ _ hI (by omega) (by omega)
      · skip
        refine Wp.deep (s_X6_keep_51_47 hG hI (fun M4 I4 => ?_)) (Nat.le_of_ble_eq_true rfl)
        exact (s_X11_hours_0_all hG hQ 76).2.1 _ _ I4 (by omega) (by omega)
    · skip
      exact (s_X11_hours_0_all hG hQ 76).1 _ hI (by omega)
theorem s_X12_mixed {g : gM} {x0 : Int32} {x1 : Int32} {m : dM} {Q : Int32 → dM → Prop} (hG : Gd g) (hI : Inv g m) (hQ : ∀ r : Int32, Q r m) : c_X12_mixed 1 x0 x1 m Q := by
  refine v_X12_mixed ?_
  exact hQ _
theorem s_X12_isSurge_70 {g : gM} {m : dM} {Q : Int32 → dM → Prop} (hG : Gd g) (hI : Inv g m) (hQ : ∀ r : Int32, (0 ≤ r.toInt ∧ r.toInt ≤ 1) → Q r m) : c_X12_isSurge_70 2 m Q := by
  refine v_X12_isSurge_70 ?_
  have f1 := ti_129
  refine Wp.deep (s_X12_mixed hG hI (fun R2 => ?_)) (Nat.le_of_ble_eq_true rfl)
  refine Wp.deep (s_X12_mixed hG hI (fun R3 => ?_)) (Nat.le_of_ble_eq_true rfl)
  have f4 := congrArg Int32.toInt (hI.2 70 18 rfl)
  have f5 := Inv.s hG hI (k := 70) (j := 18) rfl rfl
  refine ⟨by omega, ?_⟩
  have f6 := dRemE (x := (R3.toUInt32 >>> ((1 : Int32).toUInt32 &&& Int32.toUInt32 31)).toInt32) (y := (100 : Int32)) (Y := 100) (by decide) (by decide)
  refine ⟨fun hc7 => ?_, fun hc7 => ?_⟩
  · skip
    have f8 := ti_0
    exact hQ _ (by omega)
  · skip
    have f8 := ti_1
    exact hQ _ (by omega)
theorem s_X7_readFrom_47_52 {g : gM} {x2 : Int32} {m : dM} {Q : dM → Prop} (hG : Gd g) (hI : Inv g m) (h2 : -1287 ≤ x2.toInt ∧ x2.toInt ≤ 1287) (hQ : ∀ m' : dM, Inv g m' → Q m') : c_X7_readFrom_47_52 1 x2 m Q := by
  refine v_X7_readFrom_47_52 ?_
  refine ⟨fun hc1 => ?_, fun hc1 => ?_⟩
  · skip
    refine v_X7_readFrom_47_52_13 ?_
    exact hQ _ hI
  · skip
    have f2 := dSubE (X := 1320) (Y := 33) (x := (1320 : Int32)) (y := (33 : Int32)) (by decide) (by decide) (by omega) (by omega)
    refine ⟨fun hc3 => ?_, fun hc3 => ?_⟩
    · skip
      refine ⟨by omega, ?_⟩
      have f4 := dAddE (X := x2.toInt) (Y := 1) (x := x2) (y := (1 : Int32)) rfl (by decide) (by omega) (by omega)
      refine ⟨by omega, ?_⟩
      have f5 := dAddE (X := x2.toInt) (Y := 2) (x := x2) (y := (2 : Int32)) rfl (by decide) (by omega) (by omega)
      refine ⟨by omega, ?_⟩
      have f6 := dAddE (X := x2.toInt) (Y := 3) (x := x2) (y := (3 : Int32)) rfl (by decide) (by omega) (by omega)
      refine ⟨by omega, ?_⟩
      have f7 := dAddE (X := x2.toInt) (Y := 4) (x := x2) (y := (4 : Int32)) rfl (by decide) (by omega) (by omega)
      refine ⟨by omega, ?_⟩
      have f8 := dAddE (X := x2.toInt) (Y := 5) (x := x2) (y := (5 : Int32)) rfl (by decide) (by omega) (by omega)
      refine ⟨by omega, ?_⟩
      have f9 := ti_10
      have f10 := ti_0
      have f11 := dAddE (X := x2.toInt) (Y := 6) (x := x2) (y := (6 : Int32)) rfl (by decide) (by omega) (by omega)
      refine ⟨by omega, ?_⟩
      have f12 := dAddE (X := (x2 + (6 : Int32)).toInt) (Y := 10) (x := (x2 + (6 : Int32))) (y := (10 : Int32)) rfl (by decide) (by omega) (by omega)
      refine ⟨by omega, ?_⟩
      have f13 := ti_7
      have f14 := dAddE (X := (x2 + (6 : Int32)).toInt) (Y := 20) (x := (x2 + (6 : Int32))) (y := (20 : Int32)) rfl (by decide) (by omega) (by omega)
      refine ⟨by omega, ?_⟩
      have I15 : Inv g (dSet m 47 0 (m.1 52 x2.toNatClampNeg)) := (Inv.setA hI rfl)
      have I16 : Inv g (dSet (dSet m 47 0 (m.1 52 x2.toNatClampNeg)) 47 1 (m.1 52 (x2 + (1 : Int32)).toNatClampNeg)) := (Inv.setA I15 rfl)
      have I17 : Inv g (dSet (dSet (dSet m 47 0 (m.1 52 x2.toNatClampNeg)) 47 1 (m.1 52 (x2 + (1 : Int32)).toNatClampNeg)) 47 2 (m.1 52 (x2 + (2 : Int32)).toNatClampNeg)) := (Inv.setA I16 rfl)
      have I18 : Inv g (dSet (dSet (dSet (dSet m 47 0 (m.1 52 x2.toNatClampNeg)) 47 1 (m.1 52 (x2 + (1 : Int32)).toNatClampNeg)) 47 2 (m.1 52 (x2 + (2 : Int32)).toNatClampNeg)) 47 3 (m.1 52 (x2 + (3 : Int32)).toNatClampNeg)) := (Inv.setA I17 rfl)
      have I19 : Inv g (dSet (dSet (dSet (dSet (dSet m 47 0 (m.1 52 x2.toNatClampNeg)) 47 1 (m.1 52 (x2 + (1 : Int32)).toNatClampNeg)) 47 2 (m.1 52 (x2 + (2 : Int32)).toNatClampNeg)) 47 3 (m.1 52 (x2 + (3 : Int32)).toNatClampNeg)) 47 4 (m.1 52 (x2 + (4 : Int32)).toNatClampNeg)) := (Inv.setA I18 rfl)
      have I20 : Inv g (dSet (dSet (dSet (dSet (dSet (dSet m 47 0 (m.1 52 x2.toNatClampNeg)) 47 1 (m.1 52 (x2 + (1 : Int32)).toNatClampNeg)) 47 2 (m.1 52 (x2 + (2 : Int32)).toNatClampNeg)) 47 3 (m.1 52 (x2 + (3 : Int32)).toNatClampNeg)) 47 4 (m.1 52 (x2 + (4 : Int32)).toNatClampNeg)) 47 5 (m.1 52 (x2 + (5 : Int32)).toNatClampNeg)) := (Inv.setA I19 rfl)
      have I21 : Inv g (dCpy (dSet (dSet (dSet (dSet (dSet (dSet m 47 0 (m.1 52 x2.toNatClampNeg)) 47 1 (m.1 52 (x2 + (1 : Int32)).toNatClampNeg)) 47 2 (m.1 52 (x2 + (2 : Int32)).toNatClampNeg)) 47 3 (m.1 52 (x2 + (3 : Int32)).toNatClampNeg)) 47 4 (m.1 52 (x2 + (4 : Int32)).toNatClampNeg)) 47 5 (m.1 52 (x2 + (5 : Int32)).toNatClampNeg)) 52 ((x2 + (6 : Int32)).toInt).toNat 48 (0 : Int).toNat (10 : Int).toNat) := (Inv.cpy I20 (fun _ => rfl))
      have I22 : Inv g (dCpy (dCpy (dSet (dSet (dSet (dSet (dSet (dSet m 47 0 (m.1 52 x2.toNatClampNeg)) 47 1 (m.1 52 (x2 + (1 : Int32)).toNatClampNeg)) 47 2 (m.1 52 (x2 + (2 : Int32)).toNatClampNeg)) 47 3 (m.1 52 (x2 + (3 : Int32)).toNatClampNeg)) 47 4 (m.1 52 (x2 + (4 : Int32)).toNatClampNeg)) 47 5 (m.1 52 (x2 + (5 : Int32)).toNatClampNeg)) 52 ((x2 + (6 : Int32)).toInt).toNat 48 (0 : Int).toNat (10 : Int).toNat) 52 (((x2 + (6 : Int32)) + (10 : Int32)).toInt).toNat 49 (0 : Int).toNat (10 : Int).toNat) := (Inv.cpy I21 (fun _ => rfl))
      have I23 : Inv g (dCpy (dCpy (dCpy (dSet (dSet (dSet (dSet (dSet (dSet m 47 0 (m.1 52 x2.toNatClampNeg)) 47 1 (m.1 52 (x2 + (1 : Int32)).toNatClampNeg)) 47 2 (m.1 52 (x2 + (2 : Int32)).toNatClampNeg)) 47 3 (m.1 52 (x2 + (3 : Int32)).toNatClampNeg)) 47 4 (m.1 52 (x2 + (4 : Int32)).toNatClampNeg)) 47 5 (m.1 52 (x2 + (5 : Int32)).toNatClampNeg)) 52 ((x2 + (6 : Int32)).toInt).toNat 48 (0 : Int).toNat (10 : Int).toNat) 52 (((x2 + (6 : Int32)) + (10 : Int32)).toInt).toNat 49 (0 : Int).toNat (10 : Int).toNat) 52 (((x2 + (6 : Int32)) + (20 : Int32)).toInt).toNat 50 (0 : Int).toNat (7 : Int).toNat) := (Inv.cpy I22 (fun _ => rfl))
      exact hQ _ I23
    · skip
      exfalso; omega
theorem s_X6_takeBack_51_47 {g : gM} {m : dM} {Q : Int32 → dM → Prop} (hG : Gd g) (hI : Inv g m) (hQ : ∀ (r : Int32) (m' : dM), Inv g m' → (0 ≤ r.toInt ∧ r.toInt ≤ 1) → Q r m') : c_X6_takeBack_51_47 2 m Q := by
  refine v_X6_takeBack_51_47 ?_
  refine ⟨fun hc1 => ?_, fun hc1 => ?_⟩
  · skip
    have f2 := dRemE (x := (((m.1 51 2) + (40 : Int32)) - (1 : Int32))) (y := (40 : Int32)) (Y := 40) (by decide) (by decide)
    have f3 := dMulE (X := ((((m.1 51 2) + (40 : Int32)) - (1 : Int32)) - (((m.1 51 2) + (40 : Int32)) - (1 : Int32)) / (40 : Int32) * (40 : Int32)).toInt) (Y := 33) (x := ((((m.1 51 2) + (40 : Int32)) - (1 : Int32)) - (((m.1 51 2) + (40 : Int32)) - (1 : Int32)) / (40 : Int32) * (40 : Int32))) (y := (33 : Int32)) rfl (by decide) (by omega) (by omega)
    have I4 : Inv g (dSet m 51 2 ((((m.1 51 2) + (40 : Int32)) - (1 : Int32)) - (((m.1 51 2) + (40 : Int32)) - (1 : Int32)) / (40 : Int32) * (40 : Int32))) := (Inv.setA hI rfl)
    have I5 : Inv g (dSet (dSet m 51 2 ((((m.1 51 2) + (40 : Int32)) - (1 : Int32)) - (((m.1 51 2) + (40 : Int32)) - (1 : Int32)) / (40 : Int32) * (40 : Int32))) 51 3 ((m.1 51 3) - (1 : Int32))) := (Inv.setA I4 rfl)
    refine Wp.deep (s_X7_readFrom_47_52 hG I5 (by omega) (fun M6 I6 => ?_)) (Nat.le_of_ble_eq_true rfl)
    have f7 := ti_1
    exact hQ _ _ I6 (by omega)
  · skip
    have f2 := ti_0
    exact hQ _ _ hI (by omega)
theorem s_X11_undo_0 {g : gM} {m : dM} {Q : Int32 → dM → Prop} (hG : Gd g) (hI : Inv g m) (hQ : ∀ (r : Int32) (m' : dM), Inv g m' → (0 ≤ r.toInt ∧ r.toInt ≤ 1) → Q r m') : c_X11_undo_0 3 m Q := by
  refine v_X11_undo_0 ?_
  refine Wp.deep (s_X6_takeBack_51_47 hG hI (fun R1 M1 I1 hr1 => ?_)) (Nat.le_of_ble_eq_true rfl)
  refine ⟨dB01 (by omega), ?_⟩
  exact hQ _ _ I1 (by omega)
theorem s_X12_undo_70_all {g : gM} {Q : Int32 → dM → Prop} (hG : Gd g) (hQ : ∀ (r : Int32) (m' : dM), Inv g m' → (0 ≤ r.toInt ∧ r.toInt ≤ 1) → Q r m') : ∀ n : Nat, (∀ (x1 : Int32) (m : dM), Inv g m → (0 ≤ x1.toInt ∧ x1.toInt ≤ 58) → (0 ≤ (m.1 70 61).toInt ∧ (m.1 70 61).toInt ≤ 39) → 58 - 1 * x1.toInt < (n : Int) → j_X12_undo_70_21 1 x1 m Q) := by
  intro n
  induction n with
  | zero => exact fun x1 m hI h1 hk70_61 hμ => by exfalso; omega
  | succ n ih =>
    · intro x1 m hI h1 hk70_61 hμ
      refine v_X12_undo_70_21 ?_
      refine ⟨fun hc1 => ?_, fun hc1 => ?_⟩
      · skip
        have f2 := ti_1
        exact hQ _ _ hI (by omega)
      · skip
        have f2 := Inv.w hI (k := 70) (j := 61) rfl
        have f3 := dMulE (X := 58) (Y := (m.1 70 61).toInt) (x := (58 : Int32)) (y := (m.1 70 61)) (by decide) rfl (by omega) (by omega)
        have f4 := dAddE (X := ((58 : Int32) * (m.1 70 61)).toInt) (Y := x1.toInt) (x := ((58 : Int32) * (m.1 70 61))) (y := x1) rfl rfl (by omega) (by omega)
        refine ⟨by omega, ?_⟩
        refine ⟨by omega, ?_⟩
        have f5 := dAddE (X := x1.toInt) (Y := 1) (x := x1) (y := (1 : Int32)) rfl (by decide) (by omega) (by omega)
        have I6 : Inv g (dSet m 107 x1.toNatClampNeg (m.1 111 (((58 : Int32) * (m.1 70 61)) + x1).toNatClampNeg)) := (Inv.setA hI rfl)
        have f7 : ((dSet m 107 x1.toNatClampNeg (m.1 111 (((58 : Int32) * (m.1 70 61)) + x1).toNatClampNeg)).1 70 61).toInt = (m.1 70 61).toInt := rfl
        exact ih _ _ I6 (by omega) (by omega) (by omega)
theorem s_X12_undo_70 {g : gM} {m : dM} {Q : Int32 → dM → Prop} (hG : Gd g) (hI : Inv g m) (hQ : ∀ (r : Int32) (m' : dM), Inv g m' → (0 ≤ r.toInt ∧ r.toInt ≤ 1) → Q r m') : c_X12_undo_70 1 m Q := by
  have hz2 := e_lo (m.1 70 61)
  have hz3 := e_hi (m.1 70 61)
  refine v_X12_undo_70 ?_
  have f1 := Inv.w hI (k := 70) (j := 61) rfl
  refine ⟨fun hc2 => ?_, fun hc2 => ?_⟩
  · skip
    have f3 := ti_0
    have f4 := dSubE (X := (m.1 70 61).toInt) (Y := 1) (x := (m.1 70 61)) (y := (1 : Int32)) rfl (by decide) (by omega) (by omega)
    have I5 : Inv g (dSet m 70 61 ((m.1 70 61) - (1 : Int32))) := (Inv.set hI rfl (by omega) (by omega))
    have f6 : ((dSet m 70 61 ((m.1 70 61) - (1 : Int32))).1 70 61).toInt = ((m.1 70 61) - (1 : Int32)).toInt := rfl
    exact (s_X12_undo_70_all hG hQ 60) _ _ I5 (by omega) (by omega) (by omega)
  · skip
    have f3 := ti_0
    exact hQ _ _ hI (by omega)
theorem s_X10_wireAt_57_all {g : gM} {Q : Int32 → dM → Prop} {m : dM} (hG : Gd g) (hI : Inv g m) (hQ : ∀ r : Int32, (-1 ≤ r.toInt ∧ r.toInt ≤ 9) → Q r m) : ∀ n : Nat, (0 < (n : Int) → j_X10_wireAt_57_14 1 m Q) ∧ (∀ (x2 : Int32) (x3 : Int32) (x4 : Int32), (0 ≤ x2.toInt ∧ x2.toInt ≤ 6) → (0 ≤ x3.toInt ∧ x3.toInt ≤ 6) → (0 ≤ x4.toInt ∧ x4.toInt ≤ 6) → 7 - 1 * x4.toInt < (n : Int) → j_X10_wireAt_57_21 1 x2 x3 x4 m Q) := by
  intro n
  induction n with
  | zero => exact ⟨fun hμ => by exfalso; omega, fun x2 x3 x4 h2 h3 h4 hμ => by exfalso; omega⟩
  | succ n ih =>
    refine ⟨?_, ?_⟩
    · intro hμ
      refine v_X10_wireAt_57_14 ?_
      have f1 := ti_m1
      exact hQ _ (by omega)
    · intro x2 x3 x4 h2 h3 h4 hμ
      refine v_X10_wireAt_57_21 ?_
      refine ⟨fun hc1 => ?_, fun hc1 => ?_⟩
      · skip
        refine ⟨by omega, ?_⟩
        have f2 := Inv.w hI (k := 58) (j := x3.toNatClampNeg) rfl
        exact hQ _ (by omega)
      · skip
        refine ⟨by omega, ?_⟩
        have f2 := Inv.w hI (k := 58) (j := x3.toNatClampNeg) rfl
        refine ⟨by omega, ?_⟩
        have f3 := Inv.s hG hI (k := 4) (j := (m.1 58 x3.toNatClampNeg).toNatClampNeg) rfl rfl
        refine ⟨fun hc4 => ?_, fun hc4 => ?_⟩
        · skip
          refine ⟨by omega, ?_⟩
          have f5 := dAddE (X := x4.toInt) (Y := 1) (x := x4) (y := (1 : Int32)) rfl (by decide) (by omega) (by omega)
          exact ih.2 _ _ _ (by omega) (by omega) (by omega) (by omega)
        · skip
          refine ⟨by omega, ?_⟩
          have f5 := Inv.s hG hI (k := 5) (j := (m.1 58 x3.toNatClampNeg).toNatClampNeg) rfl rfl
          have f6 := dAddE (X := x4.toInt) (Y := 1) (x := x4) (y := (1 : Int32)) rfl (by decide) (by omega) (by omega)
          exact ih.2 _ _ _ (by omega) (by omega) (by omega) (by omega)
theorem s_X10_wireAt_57 {g : gM} {x1 : Int32} {x2 : Int32} {m : dM} {Q : Int32 → dM → Prop} (hG : Gd g) (hI : Inv g m) (h1 : 0 ≤ x1.toInt ∧ x1.toInt ≤ 6) (h2 : 0 ≤ x2.toInt) (hQ : ∀ r : Int32, (-1 ≤ r.toInt ∧ r.toInt ≤ 9) → Q r m) : c_X10_wireAt_57 1 x1 x2 m Q := by
  refine v_X10_wireAt_57 ?_
  refine ⟨fun hc1 => ?_, fun hc1 => ?_⟩
  · skip
    exfalso; omega
  · skip
    refine ⟨by omega, ?_⟩
    have f2 := Inv.w hI (k := 59) (j := x1.toNatClampNeg) rfl
    refine ⟨fun hc3 => ?_, fun hc3 => ?_⟩
    · skip
      have f4 := ti_0
      exact (s_X10_wireAt_57_all hG hI hQ 9).2 _ _ _ (by omega) (by omega) (by omega) (by omega)
    · skip
      exact (s_X10_wireAt_57_all hG hI hQ 9).1 (by omega)
theorem s_X11_way_0 {g : gM} {x1 : Int32} {x2 : Int32} {m : dM} {Q : Int32 → dM → Prop} (hG : Gd g) (hI : Inv g m) (hQ : ∀ (r : Int32) (m' : dM), Inv g m' → (-2 ≤ r.toInt ∧ r.toInt ≤ 9) → Q r m') : c_X11_way_0 4 x1 x2 m Q := by
  refine v_X11_way_0 ?_
  refine v_X11_isFlat_0 ?_
  refine ⟨fun hc1 => ?_, fun hc1 => ?_⟩
  · skip
    refine v_X11_isFlat_0_19 ?_
    have f2 := ti_0
    refine ⟨fun hc3 => ?_, fun hc3 => ?_⟩
    · skip
      refine v_X11_way_0_12 ?_
      have f4 := ti_m1
      exact hQ _ _ hI (by omega)
    · skip
      exfalso; omega
  · skip
    have f2 := congrArg Int32.toInt (hI.2 2 0 rfl)
    have f3 := Inv.s hG hI (k := 2) (j := 0) rfl rfl
    refine ⟨fun hc4 => ?_, fun hc4 => ?_⟩
    · skip
      refine v_X11_isFlat_0_19 ?_
      have f5 := ti_0
      refine ⟨fun hc6 => ?_, fun hc6 => ?_⟩
      · skip
        refine v_X11_way_0_12 ?_
        have f7 := ti_m1
        exact hQ _ _ hI (by omega)
      · skip
        exfalso; omega
    · skip
      have f5 := ti_1
      refine ⟨fun hc6 => ?_, fun hc6 => ?_⟩
      · skip
        exfalso; omega
      · skip
        refine ⟨fun hc7 => ?_, fun hc7 => ?_⟩
        · skip
          refine Wp.deep (s_X0_waysNow_54_47 hG hI (fun M8 I8 => ?_)) (Nat.le_of_ble_eq_true rfl)
          refine v_X11_has ?_
          have f9 := dAndE (x := ((M8.1 57 5).toUInt32 >>> (x1.toUInt32 &&& Int32.toUInt32 31)).toInt32) (y := (1 : Int32)) (by decide)
          refine ⟨fun hc10 => ?_, fun hc10 => ?_⟩
          · skip
            have f11 := ti_0
            refine ⟨fun hc12 => ?_, fun hc12 => ?_⟩
            · skip
              have f13 := ti_m2
              exact hQ _ _ I8 (by omega)
            · skip
              exfalso; omega
          · skip
            refine ⟨fun hc11 => ?_, fun hc11 => ?_⟩
            · skip
              exfalso; omega
            · skip
              refine Wp.deep (s_X10_wireAt_57 hG I8 (by omega) (by omega) (fun R12 hr12 => ?_)) (Nat.le_of_ble_eq_true rfl)
              exact hQ _ _ I8 (by omega)
        · skip
          refine v_X11_way_0_12 ?_
          have f8 := ti_m1
          exact hQ _ _ hI (by omega)
theorem s_X7_copy_62_47 {g : gM} {m : dM} {Q : dM → Prop} (hG : Gd g) (hI : Inv g m) (hQ : ∀ m' : dM, Inv g m' → Q m') : c_X7_copy_62_47 1 m Q := by
  refine v_X7_copy_62_47 ?_
  have I1 : Inv g (dSet m 62 0 (m.1 47 0)) := (Inv.setA hI rfl)
  have I2 : Inv g (dSet (dSet m 62 0 (m.1 47 0)) 62 1 (m.1 47 1)) := (Inv.setA I1 rfl)
  have I3 : Inv g (dSet (dSet (dSet m 62 0 (m.1 47 0)) 62 1 (m.1 47 1)) 62 2 (m.1 47 2)) := (Inv.setA I2 rfl)
  have I4 : Inv g (dSet (dSet (dSet (dSet m 62 0 (m.1 47 0)) 62 1 (m.1 47 1)) 62 2 (m.1 47 2)) 62 3 (m.1 47 3)) := (Inv.setA I3 rfl)
  have I5 : Inv g (dSet (dSet (dSet (dSet (dSet m 62 0 (m.1 47 0)) 62 1 (m.1 47 1)) 62 2 (m.1 47 2)) 62 3 (m.1 47 3)) 62 4 (m.1 47 4)) := (Inv.setA I4 rfl)
  have I6 : Inv g (dSet (dSet (dSet (dSet (dSet (dSet m 62 0 (m.1 47 0)) 62 1 (m.1 47 1)) 62 2 (m.1 47 2)) 62 3 (m.1 47 3)) 62 4 (m.1 47 4)) 62 5 (m.1 47 5)) := (Inv.setA I5 rfl)
  have I7 : Inv g (dCpy (dSet (dSet (dSet (dSet (dSet (dSet m 62 0 (m.1 47 0)) 62 1 (m.1 47 1)) 62 2 (m.1 47 2)) 62 3 (m.1 47 3)) 62 4 (m.1 47 4)) 62 5 (m.1 47 5)) 48 (0 : Int).toNat 63 (0 : Int).toNat (10 : Int).toNat) := (Inv.cpy I6 (fun _ => rfl))
  have I8 : Inv g (dCpy (dCpy (dSet (dSet (dSet (dSet (dSet (dSet m 62 0 (m.1 47 0)) 62 1 (m.1 47 1)) 62 2 (m.1 47 2)) 62 3 (m.1 47 3)) 62 4 (m.1 47 4)) 62 5 (m.1 47 5)) 48 (0 : Int).toNat 63 (0 : Int).toNat (10 : Int).toNat) 49 (0 : Int).toNat 64 (0 : Int).toNat (10 : Int).toNat) := (Inv.cpy I7 (fun _ => rfl))
  have I9 : Inv g (dCpy (dCpy (dCpy (dSet (dSet (dSet (dSet (dSet (dSet m 62 0 (m.1 47 0)) 62 1 (m.1 47 1)) 62 2 (m.1 47 2)) 62 3 (m.1 47 3)) 62 4 (m.1 47 4)) 62 5 (m.1 47 5)) 48 (0 : Int).toNat 63 (0 : Int).toNat (10 : Int).toNat) 49 (0 : Int).toNat 64 (0 : Int).toNat (10 : Int).toNat) 50 (0 : Int).toNat 65 (0 : Int).toNat (7 : Int).toNat) := (Inv.cpy I8 (fun _ => rfl))
  exact hQ _ I9
theorem s_X0_usesAt_54_62_all {g : gM} {Q : Int32 → dM → Prop} (hG : Gd g) (hQ : ∀ (r : Int32) (m' : dM), Inv g m' → Q r m') : ∀ n : Nat, (∀ (x2 : Int32) (x3 : Int32) (x4 : Int32) (m : dM), Inv g m → (-23 ≤ x2.toInt ∧ x2.toInt ≤ 23) → (0 ≤ x4.toInt ∧ x4.toInt ≤ 8) → 26 - 3 * x4.toInt < (n : Int) → j_X0_usesAt_54_62_16 3 x2 x3 x4 m Q) ∧ (∀ (x2 : Int32) (x3 : Int32) (x4 : Int32) (m : dM), Inv g m → (-23 ≤ x2.toInt ∧ x2.toInt ≤ 23) → (0 ≤ x4.toInt ∧ x4.toInt ≤ 7) → 25 - 3 * x4.toInt < (n : Int) → j_X0_usesAt_54_62_60 3 x2 x3 x4 m Q) ∧ (∀ (x2 : Int32) (x3 : Int32) (x4 : Int32) (m : dM), Inv g m → (-23 ≤ x2.toInt ∧ x2.toInt ≤ 23) → (0 ≤ x4.toInt ∧ x4.toInt ≤ 7) → 24 - 3 * x4.toInt < (n : Int) → j_X0_usesAt_54_62_110 3 x2 x3 x4 m Q) := by
  intro n
  induction n with
  | zero => exact ⟨fun x2 x3 x4 m hI h2 h4 hμ => by exfalso; omega, fun x2 x3 x4 m hI h2 h4 hμ => by exfalso; omega, fun x2 x3 x4 m hI h2 h4 hμ => by exfalso; omega⟩
  | succ n ih =>
    refine ⟨?_, ?_, ?_⟩
    · intro x2 x3 x4 m hI h2 h4 hμ
      refine v_X0_usesAt_54_62_16 ?_
      have f1 := congrArg Int32.toInt (hI.2 2 2 rfl)
      have f2 := Inv.s hG hI (k := 2) (j := 2) rfl rfl
      refine ⟨fun hc3 => ?_, fun hc3 => ?_⟩
      · skip
        exact hQ _ _ hI
      · skip
        refine ⟨by omega, ?_⟩
        refine ⟨fun hc4 => ?_, fun hc4 => ?_⟩
        · skip
          exact ih.2.1 _ _ _ _ hI (by omega) (by omega) (by omega)
        · skip
          refine ⟨by omega, ?_⟩
          refine ⟨fun hc5 => ?_, fun hc5 => ?_⟩
          · skip
            exact ih.2.1 _ _ _ _ hI (by omega) (by omega) (by omega)
          · skip
            refine v_X11_has ?_
            have f6 := ti_1
            have f7 := dAndE (x := ((m.1 62 5).toUInt32 >>> (x4.toUInt32 &&& Int32.toUInt32 31)).toInt32) (y := (1 : Int32)) (by decide)
            refine ⟨fun hc8 => ?_, fun hc8 => ?_⟩
            · skip
              have f9 := ti_0
              refine ⟨fun hc10 => ?_, fun hc10 => ?_⟩
              · skip
                exact ih.2.2 _ _ _ _ hI (by omega) (by omega) (by omega)
              · skip
                exfalso; omega
            · skip
              refine ⟨fun hc9 => ?_, fun hc9 => ?_⟩
              · skip
                exfalso; omega
              · skip
                refine ⟨by omega, ?_⟩
                refine v_X11_has ?_
                have f10 := Inv.home hG hI (u := x4) (by omega) (by omega)
                have f11 := dAndE (x := ((m.1 57 5).toUInt32 >>> ((m.1 7 x4.toNatClampNeg).toUInt32 &&& Int32.toUInt32 31)).toInt32) (y := (1 : Int32)) (by decide)
                refine ⟨fun hc12 => ?_, fun hc12 => ?_⟩
                · skip
                  have f13 := ti_0
                  refine ⟨fun hc14 => ?_, fun hc14 => ?_⟩
                  · skip
                    exact ih.2.2 _ _ _ _ hI (by omega) (by omega) (by omega)
                  · skip
                    exfalso; omega
                · skip
                  refine ⟨fun hc13 => ?_, fun hc13 => ?_⟩
                  · skip
                    exfalso; omega
                  · skip
                    have f14 := dShl8 (x := x4) (by omega) (by omega)
                    exact ih.2.2 _ _ _ _ hI (by omega) (by omega) (by omega)
    · intro x2 x3 x4 m hI h2 h4 hμ
      refine v_X0_usesAt_54_62_60 ?_
      exact ih.2.2 _ _ _ _ hI (by omega) (by omega) (by omega)
    · intro x2 x3 x4 m hI h2 h4 hμ
      refine v_X0_usesAt_54_62_110 ?_
      have f1 := dAddE (X := x4.toInt) (Y := 1) (x := x4) (y := (1 : Int32)) rfl (by decide) (by omega) (by omega)
      exact ih.1 _ _ _ _ hI (by omega) (by omega) (by omega)
theorem s_X0_usesAt_54_62 {g : gM} {x2 : Int32} {m : dM} {Q : Int32 → dM → Prop} (hG : Gd g) (hI : Inv g m) (h2 : -23 ≤ x2.toInt ∧ x2.toInt ≤ 23) (hQ : ∀ (r : Int32) (m' : dM), Inv g m' → Q r m') : c_X0_usesAt_54_62 3 x2 m Q := by
  refine v_X0_usesAt_54_62 ?_
  refine Wp.deep (s_X10_lay_57 hG hI (fun M1 I1 => ?_)) (Nat.le_of_ble_eq_true rfl)
  have f2 := ti_0
  exact (s_X0_usesAt_54_62_all hG hQ 28).1 _ _ _ _ I1 (by omega) (by omega) (by omega)
theorem s_X0_putOn_54_62_all {g : gM} {Q : dM → Prop} (hG : Gd g) (hQ : ∀ m' : dM, Inv g m' → Q m') : ∀ n : Nat, (∀ (x2 : Int32) (x3 : Int32) (m : dM), Inv g m → (0 ≤ x3.toInt ∧ x3.toInt ≤ 8) → 116 - 13 * x3.toInt < (n : Int) → j_X0_putOn_54_62_21 3 x2 x3 m Q) ∧ (∀ (x2 : Int32) (x3 : Int32) (x4 : Int32) (x5 : Int32) (m : dM), Inv g m → (0 ≤ x3.toInt ∧ x3.toInt ≤ 7) → (0 ≤ x5.toInt ∧ x5.toInt ≤ 10) → 115 - 13 * x3.toInt - 1 * x5.toInt < (n : Int) → j_X0_putOn_54_62_66 3 x2 x3 x4 x5 m Q) ∧ (∀ (x2 : Int32) (x3 : Int32) (m : dM), Inv g m → (0 ≤ x3.toInt ∧ x3.toInt ≤ 7) → 104 - 13 * x3.toInt < (n : Int) → j_X0_putOn_54_62_125 3 x2 x3 m Q) := by
  intro n
  induction n with
  | zero => exact ⟨fun x2 x3 m hI h3 hμ => by exfalso; omega, fun x2 x3 x4 x5 m hI h3 h5 hμ => by exfalso; omega, fun x2 x3 m hI h3 hμ => by exfalso; omega⟩
  | succ n ih =>
    refine ⟨?_, ?_, ?_⟩
    · intro x2 x3 m hI h3 hμ
      refine v_X0_putOn_54_62_21 ?_
      have f1 := congrArg Int32.toInt (hI.2 2 2 rfl)
      have f2 := Inv.s hG hI (k := 2) (j := 2) rfl rfl
      refine ⟨fun hc3 => ?_, fun hc3 => ?_⟩
      · skip
        exact hQ _ hI
      · skip
        refine v_X11_has ?_
        have f4 := ti_1
        have f5 := dAndE (x := (x2.toUInt32 >>> (x3.toUInt32 &&& Int32.toUInt32 31)).toInt32) (y := (1 : Int32)) (by decide)
        refine ⟨fun hc6 => ?_, fun hc6 => ?_⟩
        · skip
          have f7 := ti_0
          refine ⟨fun hc8 => ?_, fun hc8 => ?_⟩
          · skip
            exact ih.2.1 _ _ _ _ _ hI (by omega) (by omega) (by omega)
          · skip
            exfalso; omega
        · skip
          refine ⟨fun hc7 => ?_, fun hc7 => ?_⟩
          · skip
            exfalso; omega
          · skip
            refine ⟨by omega, ?_⟩
            have f8 := Inv.home hG hI (u := x3) (by omega) (by omega)
            refine ⟨by omega, ?_⟩
            have f9 := ti_0
            exact ih.2.1 _ _ _ _ _ hI (by omega) (by omega) (by omega)
    · intro x2 x3 x4 x5 m hI h3 h5 hμ
      refine v_X0_putOn_54_62_66 ?_
      refine ⟨fun hc1 => ?_, fun hc1 => ?_⟩
      · skip
        exact ih.2.2 _ _ _ hI (by omega) (by omega)
      · skip
        have f2 := congrArg Int32.toInt (hI.2 2 1 rfl)
        have f3 := Inv.s hG hI (k := 2) (j := 1) rfl rfl
        refine ⟨fun hc4 => ?_, fun hc4 => ?_⟩
        · skip
          exact ih.2.2 _ _ _ hI (by omega) (by omega)
        · skip
          refine ⟨by omega, ?_⟩
          refine v_X11_has ?_
          have f5 := ti_1
          have f6 := dAndE (x := (x4.toUInt32 >>> (x5.toUInt32 &&& Int32.toUInt32 31)).toInt32) (y := (1 : Int32)) (by decide)
          refine ⟨fun hc7 => ?_, fun hc7 => ?_⟩
          · skip
            have f8 := ti_0
            refine ⟨fun hc9 => ?_, fun hc9 => ?_⟩
            · skip
              refine ⟨by omega, ?_⟩
              have f10 := dAddE (X := x5.toInt) (Y := 1) (x := x5) (y := (1 : Int32)) rfl (by decide) (by omega) (by omega)
              have I11 : Inv g (dSet m 56 x5.toNatClampNeg ((m.1 56 x5.toNatClampNeg) + (0 : Int32))) := (Inv.setA hI rfl)
              exact ih.2.1 _ _ _ _ _ I11 (by omega) (by omega) (by omega)
            · skip
              exfalso; omega
          · skip
            refine ⟨fun hc8 => ?_, fun hc8 => ?_⟩
            · skip
              exfalso; omega
            · skip
              refine ⟨by omega, ?_⟩
              refine ⟨by omega, ?_⟩
              have f9 := dAddE (X := x5.toInt) (Y := 1) (x := x5) (y := (1 : Int32)) rfl (by decide) (by omega) (by omega)
              have I10 : Inv g (dSet m 56 x5.toNatClampNeg ((m.1 56 x5.toNatClampNeg) + (m.1 8 x3.toNatClampNeg))) := (Inv.setA hI rfl)
              exact ih.2.1 _ _ _ _ _ I10 (by omega) (by omega) (by omega)
    · intro x2 x3 m hI h3 hμ
      refine v_X0_putOn_54_62_125 ?_
      have f1 := dAddE (X := x3.toInt) (Y := 1) (x := x3) (y := (1 : Int32)) rfl (by decide) (by omega) (by omega)
      exact ih.1 _ _ _ hI (by omega) (by omega)
theorem s_X0_putOn_54_62 {g : gM} {x2 : Int32} {m : dM} {Q : dM → Prop} (hG : Gd g) (hI : Inv g m) (hQ : ∀ m' : dM, Inv g m' → Q m') : c_X0_putOn_54_62 3 x2 m Q := by
  refine v_X0_putOn_54_62 ?_
  refine Wp.deep (s_X10_lay_57 hG hI (fun M1 I1 => ?_)) (Nat.le_of_ble_eq_true rfl)
  have f2 := ti_0
  refine Wp.deep (s_J7_fill_56 hG I1 (by omega) (fun M3 I3 => ?_)) (Nat.le_of_ble_eq_true rfl)
  exact (s_X0_putOn_54_62_all hG hQ 118).1 _ _ _ I3 (by omega) (by omega)
theorem s_X0_going_54_62_all {g : gM} {Q : Int32 → dM → Prop} (hG : Gd g) (hQ : ∀ (r : Int32) (m' : dM), Inv g m' → Q r m') : ∀ n : Nat, (∀ (x2 : Int32) (x3 : Int32) (x4 : Int32) (x5 : Int32) (m : dM), Inv g m → (-23 ≤ x2.toInt ∧ x2.toInt ≤ 23) → (0 ≤ x5.toInt ∧ x5.toInt ≤ 10) → 21 - 2 * x5.toInt < (n : Int) → j_X0_going_54_62_6 4 x2 x3 x4 x5 m Q) ∧ (∀ (x2 : Int32) (x3 : Int32) (x4 : Int32) (x5 : Int32) (m : dM), Inv g m → (-23 ≤ x2.toInt ∧ x2.toInt ≤ 23) → (0 ≤ x5.toInt ∧ x5.toInt ≤ 9) → 20 - 2 * x5.toInt < (n : Int) → j_X0_going_54_62_119 4 x2 x3 x4 x5 m Q) := by
  intro n
  induction n with
  | zero => exact ⟨fun x2 x3 x4 x5 m hI h2 h5 hμ => by exfalso; omega, fun x2 x3 x4 x5 m hI h2 h5 hμ => by exfalso; omega⟩
  | succ n ih =>
    refine ⟨?_, ?_⟩
    · intro x2 x3 x4 x5 m hI h2 h5 hμ
      refine v_X0_going_54_62_6 ?_
      have f1 := congrArg Int32.toInt (hI.2 2 1 rfl)
      have f2 := Inv.s hG hI (k := 2) (j := 1) rfl rfl
      refine ⟨fun hc3 => ?_, fun hc3 => ?_⟩
      · skip
        exact hQ _ _ hI
      · skip
        refine ⟨by omega, ?_⟩
        refine ⟨fun hc4 => ?_, fun hc4 => ?_⟩
        · skip
          exact ih.2 _ _ _ _ _ hI (by omega) (by omega) (by omega)
        · skip
          refine v_X11_has ?_
          have f5 := ti_1
          have f6 := dAndE (x := ((m.1 62 4).toUInt32 >>> (x5.toUInt32 &&& Int32.toUInt32 31)).toInt32) (y := (1 : Int32)) (by decide)
          refine ⟨fun hc7 => ?_, fun hc7 => ?_⟩
          · skip
            have f8 := ti_0
            refine ⟨fun hc9 => ?_, fun hc9 => ?_⟩
            · skip
              exfalso; omega
            · skip
              refine v_X7_day_62 ?_
              refine Wp.deep (s_X0_setVars_54 hG hI (by omega) (by omega) (fun M10 I10 => ?_)) (Nat.le_of_ble_eq_true rfl)
              refine ⟨by omega, ?_⟩
              refine ⟨by omega, ?_⟩
              refine ⟨by omega, ?_⟩
              have I11 : Inv g (dSet M10 55 0 ((M10.1 56 x5.toNatClampNeg) + x3)) := (Inv.setA I10 rfl)
              have I12 : Inv g (dSet (dSet M10 55 0 ((M10.1 56 x5.toNatClampNeg) + x3)) 55 1 (M10.1 63 x5.toNatClampNeg)) := (Inv.setA I11 rfl)
              have I13 : Inv g (dSet (dSet (dSet M10 55 0 ((M10.1 56 x5.toNatClampNeg) + x3)) 55 1 (M10.1 63 x5.toNatClampNeg)) 55 2 (M10.1 64 x5.toNatClampNeg)) := (Inv.setA I12 rfl)
              refine Wp.deep (s_X4_tells_11_55 hG I13 (by omega) (fun R14 M14 I14 => ?_)) (Nat.le_of_ble_eq_true rfl)
              refine ⟨fun hc15 => ?_, fun hc15 => ?_⟩
              · skip
                exact ih.2 _ _ _ _ _ I14 (by omega) (by omega) (by omega)
              · skip
                have f16 := dShl10 (x := x5) (by omega) (by omega)
                exact ih.2 _ _ _ _ _ I14 (by omega) (by omega) (by omega)
          · skip
            refine ⟨fun hc8 => ?_, fun hc8 => ?_⟩
            · skip
              exact ih.2 _ _ _ _ _ hI (by omega) (by omega) (by omega)
            · skip
              exfalso; omega
    · intro x2 x3 x4 x5 m hI h2 h5 hμ
      refine v_X0_going_54_62_119 ?_
      have f1 := dAddE (X := x5.toInt) (Y := 1) (x := x5) (y := (1 : Int32)) rfl (by decide) (by omega) (by omega)
      exact ih.1 _ _ _ _ _ hI (by omega) (by omega) (by omega)
theorem s_X0_going_54_62 {g : gM} {x2 : Int32} {x3 : Int32} {m : dM} {Q : Int32 → dM → Prop} (hG : Gd g) (hI : Inv g m) (h2 : -23 ≤ x2.toInt ∧ x2.toInt ≤ 23) (hQ : ∀ (r : Int32) (m' : dM), Inv g m' → Q r m') : c_X0_going_54_62 4 x2 x3 m Q := by
  refine v_X0_going_54_62 ?_
  have f1 := ti_0
  exact (s_X0_going_54_62_all hG hQ 23).1 _ _ _ _ _ hI (by omega) (by omega) (by omega)
theorem s_X0_passWires_54_62_all {g : gM} {Q : Int32 → dM → Prop} (hG : Gd g) (hQ : ∀ (r : Int32) (m' : dM), Inv g m' → Q r m') : ∀ n : Nat, (∀ (x3 : Int32) (x4 : Int32) (m : dM), Inv g m → (0 ≤ x4.toInt ∧ x4.toInt ≤ 10) → 21 - 2 * x4.toInt < (n : Int) → j_X0_passWires_54_62_38 5 x3 x4 m Q) ∧ (∀ (x3 : Int32) (x4 : Int32) (m : dM), Inv g m → (0 ≤ x4.toInt ∧ x4.toInt ≤ 9) → 20 - 2 * x4.toInt < (n : Int) → j_X0_passWires_54_62_84 5 x3 x4 m Q) := by
  intro n
  induction n with
  | zero => exact ⟨fun x3 x4 m hI h4 hμ => by exfalso; omega, fun x3 x4 m hI h4 hμ => by exfalso; omega⟩
  | succ n ih =>
    refine ⟨?_, ?_⟩
    · intro x3 x4 m hI h4 hμ
      refine v_X0_passWires_54_62_38 ?_
      have f1 := congrArg Int32.toInt (hI.2 2 1 rfl)
      have f2 := Inv.s hG hI (k := 2) (j := 1) rfl rfl
      refine ⟨fun hc3 => ?_, fun hc3 => ?_⟩
      · skip
        have I4 : Inv g (dSet m 62 0 ((m.1 62 0) + (1 : Int32))) := (Inv.setA hI rfl)
        exact hQ _ _ I4
      · skip
        refine v_X11_has ?_
        have f4 := ti_1
        have f5 := dAndE (x := ((m.1 62 3).toUInt32 >>> (x4.toUInt32 &&& Int32.toUInt32 31)).toInt32) (y := (1 : Int32)) (by decide)
        refine ⟨fun hc6 => ?_, fun hc6 => ?_⟩
        · skip
          have f7 := ti_0
          refine ⟨fun hc8 => ?_, fun hc8 => ?_⟩
          · skip
            exfalso; omega
          · skip
            refine ⟨by omega, ?_⟩
            refine ⟨by omega, ?_⟩
            have I9 : Inv g (dSet m 64 x4.toNatClampNeg (if ((m.1 64 x4.toNatClampNeg) + (1 : Int32)) < (999 : Int32) then ((m.1 64 x4.toNatClampNeg) + (1 : Int32)) else (999 : Int32))) := (Inv.setA hI rfl)
            exact ih.2 _ _ _ I9 (by omega) (by omega)
        · skip
          refine ⟨fun hc7 => ?_, fun hc7 => ?_⟩
          · skip
            exact ih.2 _ _ _ hI (by omega) (by omega)
          · skip
            exfalso; omega
    · intro x3 x4 m hI h4 hμ
      refine v_X0_passWires_54_62_84 ?_
      have f1 := dAddE (X := x4.toInt) (Y := 1) (x := x4) (y := (1 : Int32)) rfl (by decide) (by omega) (by omega)
      exact ih.1 _ _ _ hI (by omega) (by omega)
theorem s_X0_passWires_54_62 {g : gM} {x2 : Int32} {m : dM} {Q : Int32 → dM → Prop} (hG : Gd g) (hI : Inv g m) (hQ : ∀ (r : Int32) (m' : dM), Inv g m' → Q r m') : c_X0_passWires_54_62 5 x2 m Q := by
  refine v_X0_passWires_54_62 ?_
  refine v_X7_hourOfDay_62 ?_
  have f1 := dRemE (x := (m.1 62 0)) (y := (24 : Int32)) (Y := 24) (by decide) (by decide)
  refine Wp.deep (s_X0_usesAt_54_62 hG hI (by omega) (fun R2 M2 I2 => ?_)) (Nat.le_of_ble_eq_true rfl)
  refine Wp.deep (s_X0_putOn_54_62 hG I2 (fun M3 I3 => ?_)) (Nat.le_of_ble_eq_true rfl)
  refine v_X7_hourOfDay_62 ?_
  have f4 := dRemE (x := (M3.1 62 0)) (y := (24 : Int32)) (Y := 24) (by decide) (by decide)
  refine Wp.deep (s_X0_going_54_62 hG I3 (by omega) (fun R5 M5 I5 => ?_)) (Nat.le_of_ble_eq_true rfl)
  have f6 := ti_0
  have I7 : Inv g (dSet M5 62 3 ((M5.1 62 3) ||| R5)) := (Inv.setA I5 rfl)
  exact (s_X0_passWires_54_62_all hG hQ 23).1 _ _ _ I7 (by omega) (by omega)
theorem s_X1_peakOf_61_47_all {g : gM} {Q : Int32 → dM → Prop} (hG : Gd g) (hQ : ∀ (r : Int32) (m' : dM), Inv g m' → (0 ≤ r.toInt) → Q r m') : ∀ n : Nat, (∀ (x2 : Int32) (x3 : Int32) (x4 : Int32) (x5 : Int32) (x6 : Int32) (x7 : Int32) (m : dM), Inv g m → (0 ≤ x2.toInt ∧ x2.toInt ≤ 9) → (1 ≤ x3.toInt ∧ x3.toInt ≤ 48) → (0 ≤ x4.toInt ∧ x4.toInt ≤ 1) → (0 ≤ x5.toInt) → (0 ≤ x6.toInt ∧ x6.toInt ≤ 47) → (0 ≤ x7.toInt ∧ x7.toInt ≤ 48) → 97 - 2 * x7.toInt < (n : Int) → j_X1_peakOf_61_47_17 6 x2 x3 x4 x5 x6 x7 m Q) ∧ (∀ (x2 : Int32) (x3 : Int32) (x4 : Int32) (x5 : Int32) (x6 : Int32) (x7 : Int32) (m : dM), Inv g m → (0 ≤ x2.toInt ∧ x2.toInt ≤ 9) → (1 ≤ x3.toInt ∧ x3.toInt ≤ 48) → (0 ≤ x4.toInt ∧ x4.toInt ≤ 1) → (0 ≤ x5.toInt) → (0 ≤ x6.toInt ∧ x6.toInt ≤ 47) → (0 ≤ x7.toInt ∧ x7.toInt ≤ 47) → 96 - 2 * x7.toInt < (n : Int) → j_X1_peakOf_61_47_65 6 x2 x3 x4 x5 x6 x7 m Q) := by
  intro n
  induction n with
  | zero => exact ⟨fun x2 x3 x4 x5 x6 x7 m hI h2 h3 h4 h5 h6 h7 hμ => by exfalso; omega, fun x2 x3 x4 x5 x6 x7 m hI h2 h3 h4 h5 h6 h7 hμ => by exfalso; omega⟩
  | succ n ih =>
    refine ⟨?_, ?_⟩
    · intro x2 x3 x4 x5 x6 x7 m hI h2 h3 h4 h5 h6 h7 hμ
      refine v_X1_peakOf_61_47_17 ?_
      refine ⟨fun hc1 => ?_, fun hc1 => ?_⟩
      · skip
        refine ⟨fun hc2 => ?_, fun hc2 => ?_⟩
        · skip
          exact hQ _ _ hI (by omega)
        · skip
          exact hQ _ _ hI (by omega)
      · skip
        have f2 := ti_0
        refine Wp.deep (s_X0_passWires_54_62 hG hI (fun R3 M3 I3 => ?_)) (Nat.le_of_ble_eq_true rfl)
        refine ⟨by omega, ?_⟩
        refine ⟨fun hc4 => ?_, fun hc4 => ?_⟩
        · skip
          exact ih.2 _ _ _ _ _ _ _ I3 (by omega) (by omega) (by omega) (by omega) (by omega) (by omega) (by omega)
        · skip
          refine ⟨by omega, ?_⟩
          exact ih.2 _ _ _ _ _ _ _ I3 (by omega) (by omega) (by omega) (by omega) (by omega) (by omega) (by omega)
    · intro x2 x3 x4 x5 x6 x7 m hI h2 h3 h4 h5 h6 h7 hμ
      refine v_X1_peakOf_61_47_65 ?_
      have f1 := dAddE (X := x7.toInt) (Y := 1) (x := x7) (y := (1 : Int32)) rfl (by decide) (by omega) (by omega)
      exact ih.1 _ _ _ _ _ _ _ hI (by omega) (by omega) (by omega) (by omega) (by omega) (by omega) (by omega)
theorem s_X1_peakOf_61_47 {g : gM} {x2 : Int32} {x3 : Int32} {x4 : Int32} {m : dM} {Q : Int32 → dM → Prop} (hG : Gd g) (hI : Inv g m) (h2 : 0 ≤ x2.toInt ∧ x2.toInt ≤ 9) (h3 : 1 ≤ x3.toInt ∧ x3.toInt ≤ 48) (h4 : 0 ≤ x4.toInt ∧ x4.toInt ≤ 1) (hQ : ∀ (r : Int32) (m' : dM), Inv g m' → (0 ≤ r.toInt) → Q r m') : c_X1_peakOf_61_47 6 x2 x3 x4 m Q := by
  refine v_X1_peakOf_61_47 ?_
  refine Wp.deep (s_X7_copy_62_47 hG hI (fun M1 I1 => ?_)) (Nat.le_of_ble_eq_true rfl)
  have f2 := ti_0
  exact (s_X1_peakOf_61_47_all hG hQ 99).1 _ _ _ _ _ _ _ I1 (by omega) (by omega) (by omega) (by omega) (by omega) (by omega) (by omega)
theorem s_X11_peak_0 {g : gM} {x1 : Int32} {x2 : Int32} {x3 : Int32} {m : dM} {Q : Int32 → dM → Prop} (hG : Gd g) (hI : Inv g m) (hQ : ∀ (r : Int32) (m' : dM), Inv g m' → (-1 ≤ r.toInt) → Q r m') : c_X11_peak_0 7 x1 x2 x3 m Q := by
  refine v_X11_peak_0 ?_
  refine v_X11_isWire_0 ?_
  refine ⟨fun hc1 => ?_, fun hc1 => ?_⟩
  · skip
    refine v_X11_isWire_0_19 ?_
    have f2 := ti_0
    refine ⟨fun hc3 => ?_, fun hc3 => ?_⟩
    · skip
      refine v_X11_peak_0_28 ?_
      have f4 := ti_m1
      exact hQ _ _ hI (by omega)
    · skip
      exfalso; omega
  · skip
    have f2 := congrArg Int32.toInt (hI.2 2 1 rfl)
    have f3 := Inv.s hG hI (k := 2) (j := 1) rfl rfl
    refine ⟨fun hc4 => ?_, fun hc4 => ?_⟩
    · skip
      refine v_X11_isWire_0_19 ?_
      have f5 := ti_0
      refine ⟨fun hc6 => ?_, fun hc6 => ?_⟩
      · skip
        refine v_X11_peak_0_28 ?_
        have f7 := ti_m1
        exact hQ _ _ hI (by omega)
      · skip
        exfalso; omega
    · skip
      have f5 := ti_1
      refine ⟨fun hc6 => ?_, fun hc6 => ?_⟩
      · skip
        exfalso; omega
      · skip
        refine ⟨fun hc7 => ?_, fun hc7 => ?_⟩
        · skip
          refine v_X11_peak_0_28 ?_
          have f8 := ti_m1
          exact hQ _ _ hI (by omega)
        · skip
          refine ⟨fun hc8 => ?_, fun hc8 => ?_⟩
          · skip
            refine v_X11_peak_0_28 ?_
            have f9 := ti_m1
            exact hQ _ _ hI (by omega)
          · skip
            refine ⟨fun hc9 => ?_, fun hc9 => ?_⟩
            · skip
              refine v_X11_peak_0_28 ?_
              have f10 := ti_m1
              exact hQ _ _ hI (by omega)
            · skip
              refine ⟨fun hc10 => ?_, fun hc10 => ?_⟩
              · skip
                refine ⟨fun hc11 => ?_, fun hc11 => ?_⟩
                · skip
                  have f12 := ti_0
                  refine Wp.deep (s_X1_peakOf_61_47 hG hI (by omega) (by omega) (by omega) (fun R13 M13 I13 hr13 => ?_)) (Nat.le_of_ble_eq_true rfl)
                  exact hQ _ _ I13 (by omega)
                · skip
                  refine Wp.deep (s_X1_peakOf_61_47 hG hI (by omega) (by omega) (by omega) (fun R12 M12 I12 hr12 => ?_)) (Nat.le_of_ble_eq_true rfl)
                  exact hQ _ _ I12 (by omega)
              · skip
                refine v_X11_peak_0_28 ?_
                have f11 := ti_m1
                exact hQ _ _ hI (by omega)
theorem s_X1_trialTillGone_61_all {g : gM} {Q : Int32 → dM → Prop} (hG : Gd g) (hQ : ∀ (r : Int32) (m' : dM), Inv g m' → (1 ≤ r.toInt ∧ r.toInt ≤ 201) → Q r m') : ∀ n : Nat, (∀ (x1 : Int32) (m : dM), Inv g m → (1 ≤ x1.toInt ∧ x1.toInt ≤ 201) → 201 - 1 * x1.toInt < (n : Int) → j_X1_trialTillGone_61_7 6 x1 m Q) := by
  intro n
  induction n with
  | zero => exact fun x1 m hI h1 hμ => by exfalso; omega
  | succ n ih =>
    · intro x1 m hI h1 hμ
      refine v_X1_trialTillGone_61_7 ?_
      refine ⟨fun hc1 => ?_, fun hc1 => ?_⟩
      · skip
        have f2 := ti_201
        exact hQ _ _ hI (by omega)
      · skip
        have f2 := ti_0
        refine Wp.deep (s_X0_passWires_54_62 hG hI (fun R3 M3 I3 => ?_)) (Nat.le_of_ble_eq_true rfl)
        refine ⟨fun hc4 => ?_, fun hc4 => ?_⟩
        · skip
          have f5 := dAddE (X := x1.toInt) (Y := 1) (x := x1) (y := (1 : Int32)) rfl (by decide) (by omega) (by omega)
          have I6 : Inv g (dSet M3 61 4 R3) := (Inv.setA I3 rfl)
          exact ih _ _ I6 (by omega) (by omega)
        · skip
          have I5 : Inv g (dSet M3 61 4 R3) := (Inv.setA I3 rfl)
          exact hQ _ _ I5 (by omega)
theorem s_X1_trialTillGone_61 {g : gM} {m : dM} {Q : Int32 → dM → Prop} (hG : Gd g) (hI : Inv g m) (hQ : ∀ (r : Int32) (m' : dM), Inv g m' → (1 ≤ r.toInt ∧ r.toInt ≤ 201) → Q r m') : c_X1_trialTillGone_61 6 m Q := by
  refine v_X1_trialTillGone_61 ?_
  have f1 := ti_1
  have I2 : Inv g (dSet m 61 4 (0 : Int32)) := (Inv.setA hI rfl)
  exact (s_X1_trialTillGone_61_all hG hQ 202) _ _ I2 (by omega) (by omega)
end
section
theorem s_X1_firstGone_61_47 {g : gM} {m : dM} {Q : Int32 → dM → Prop} (hG : Gd g) (hI : Inv g m) (hQ : ∀ (r : Int32) (m' : dM), Inv g m' → (1 ≤ r.toInt ∧ r.toInt ≤ 201) → Q r m') : c_X1_firstGone_61_47 7 m Q := by
  refine v_X1_firstGone_61_47 ?_
  refine Wp.deep (s_X7_copy_62_47 hG hI (fun M1 I1 => ?_)) (Nat.le_of_ble_eq_true rfl)
  refine Wp.deep (s_X1_trialTillGone_61 hG I1 (fun R2 M2 I2 hr2 => ?_)) (Nat.le_of_ble_eq_true rfl)
  exact hQ _ _ I2 (by omega)
theorem s_X11_bitAt_all {g : gM} {Q : Int32 → dM → Prop} {m : dM} (hG : Gd g) (hI : Inv g m) (hQ : ∀ r : Int32, (-1 ≤ r.toInt ∧ r.toInt ≤ 31) → Q r m) : ∀ n : Nat, (∀ (x0 : Int32) (x1 : Int32) (x2 : Int32) (x3 : Int32), (0 ≤ x1.toInt ∧ x1.toInt ≤ 2) → (0 ≤ x3.toInt ∧ x3.toInt ≤ 32) → 65 - 2 * x3.toInt < (n : Int) → j_X11_bitAt_4 2 x0 x1 x2 x3 m Q) ∧ (∀ (x0 : Int32) (x1 : Int32) (x2 : Int32) (x3 : Int32), (0 ≤ x1.toInt ∧ x1.toInt ≤ 2) → (0 ≤ x3.toInt ∧ x3.toInt ≤ 31) → 64 - 2 * x3.toInt < (n : Int) → j_X11_bitAt_28 2 x0 x1 x2 x3 m Q) := by
  intro n
  induction n with
  | zero => exact ⟨fun x0 x1 x2 x3 h1 h3 hμ => by exfalso; omega, fun x0 x1 x2 x3 h1 h3 hμ => by exfalso; omega⟩
  | succ n ih =>
    refine ⟨?_, ?_⟩
    · intro x0 x1 x2 x3 h1 h3 hμ
      refine v_X11_bitAt_4 ?_
      refine ⟨fun hc1 => ?_, fun hc1 => ?_⟩
      · skip
        have f2 := ti_m1
        exact hQ _ (by omega)
      · skip
        refine v_X11_has ?_
        have f2 := ti_1
        have f3 := dAndE (x := (x0.toUInt32 >>> (x3.toUInt32 &&& Int32.toUInt32 31)).toInt32) (y := (1 : Int32)) (by decide)
        refine ⟨fun hc4 => ?_, fun hc4 => ?_⟩
        · skip
          have f5 := ti_0
          refine ⟨fun hc6 => ?_, fun hc6 => ?_⟩
          · skip
            exact ih.2 _ _ _ _ (by omega) (by omega) (by omega)
          · skip
            exfalso; omega
        · skip
          refine ⟨fun hc5 => ?_, fun hc5 => ?_⟩
          · skip
            exfalso; omega
          · skip
            refine ⟨fun hc6 => ?_, fun hc6 => ?_⟩
            · skip
              exact ih.2 _ _ _ _ (by omega) (by omega) (by omega)
            · skip
              exact hQ _ (by omega)
    · intro x0 x1 x2 x3 h1 h3 hμ
      refine v_X11_bitAt_28 ?_
      have f1 := dAddE (X := x3.toInt) (Y := 1) (x := x3) (y := (1 : Int32)) rfl (by decide) (by omega) (by omega)
      exact ih.1 _ _ _ _ (by omega) (by omega) (by omega)
theorem s_X11_bitAt {g : gM} {x0 : Int32} {x1 : Int32} {m : dM} {Q : Int32 → dM → Prop} (hG : Gd g) (hI : Inv g m) (h1 : 0 ≤ x1.toInt ∧ x1.toInt ≤ 2) (hQ : ∀ r : Int32, (-1 ≤ r.toInt ∧ r.toInt ≤ 31) → Q r m) : c_X11_bitAt 2 x0 x1 m Q := by
  refine v_X11_bitAt ?_
  have f1 := ti_0
  exact (s_X11_bitAt_all hG hI hQ 67).1 _ _ _ _ (by omega) (by omega) (by omega)
theorem s_X1_firstWire_61 {g : gM} {m : dM} {Q : Int32 → dM → Prop} (hG : Gd g) (hI : Inv g m) (hQ : ∀ r : Int32, (-1 ≤ r.toInt ∧ r.toInt ≤ 31) → Q r m) : c_X1_firstWire_61 3 m Q := by
  refine v_X1_firstWire_61 ?_
  have f1 := ti_0
  refine Wp.deep (s_X11_bitAt hG hI (by omega) (fun R2 hr2 => ?_)) (Nat.le_of_ble_eq_true rfl)
  exact hQ _ (by omega)
theorem s_X11_first_0 {g : gM} {x1 : Int32} {m : dM} {Q : Int32 → dM → Prop} (hG : Gd g) (hI : Inv g m) (hQ : ∀ (r : Int32) (m' : dM), Inv g m' → (-2 ≤ r.toInt ∧ r.toInt ≤ 200) → Q r m') : c_X11_first_0 8 x1 m Q := by
  refine v_X11_first_0 ?_
  refine ⟨fun hc1 => ?_, fun hc1 => ?_⟩
  · skip
    refine v_X11_first_0_9 ?_
    have f2 := ti_m1
    exact hQ _ _ hI (by omega)
  · skip
    refine ⟨fun hc2 => ?_, fun hc2 => ?_⟩
    · skip
      refine Wp.deep (s_X1_firstGone_61_47 hG hI (fun R3 M3 I3 hr3 => ?_)) (Nat.le_of_ble_eq_true rfl)
      refine ⟨fun hc4 => ?_, fun hc4 => ?_⟩
      · skip
        refine ⟨fun hc5 => ?_, fun hc5 => ?_⟩
        · skip
          refine Wp.deep (s_X1_firstWire_61 hG I3 (fun R6 hr6 => ?_)) (Nat.le_of_ble_eq_true rfl)
          exact hQ _ _ I3 (by omega)
        · skip
          exact hQ _ _ I3 (by omega)
      · skip
        have f5 := ti_m2
        exact hQ _ _ I3 (by omega)
    · skip
      refine v_X11_first_0_9 ?_
      have f3 := ti_m1
      exact hQ _ _ hI (by omega)
theorem s_X12_lowestOf_all {g : gM} {Q : Int32 → dM → Prop} {m : dM} (hG : Gd g) (hI : Inv g m) (hQ : ∀ r : Int32, (0 ≤ r.toInt ∧ r.toInt ≤ 10) → Q r m) : ∀ n : Nat, (∀ (x0 : Int32) (x1 : Int32), (0 ≤ x1.toInt ∧ x1.toInt ≤ 10) → 11 - 1 * x1.toInt < (n : Int) → j_X12_lowestOf_2 1 x0 x1 m Q) ∧ (∀ (x1 : Int32), (0 ≤ x1.toInt ∧ x1.toInt ≤ 10) → 0 < (n : Int) → j_X12_lowestOf_22 1 x1 m Q) := by
  intro n
  induction n with
  | zero => exact ⟨fun x0 x1 h1 hμ => by exfalso; omega, fun x1 h1 hμ => by exfalso; omega⟩
  | succ n ih =>
    refine ⟨?_, ?_⟩
    · intro x0 x1 h1 hμ
      refine v_X12_lowestOf_2 ?_
      refine ⟨fun hc1 => ?_, fun hc1 => ?_⟩
      · skip
        exact ih.2 _ (by omega) (by omega)
      · skip
        have f2 := ti_1
        have f3 := dAndE (x := (x0 >>> (x1 &&& 31))) (y := (1 : Int32)) (by decide)
        refine ⟨fun hc4 => ?_, fun hc4 => ?_⟩
        · skip
          exact ih.2 _ (by omega) (by omega)
        · skip
          have f5 := dAddE (X := x1.toInt) (Y := 1) (x := x1) (y := (1 : Int32)) rfl (by decide) (by omega) (by omega)
          exact ih.1 _ _ (by omega) (by omega)
    · intro x1 h1 hμ
      refine v_X12_lowestOf_22 ?_
      exact hQ _ (by omega)
theorem s_X12_lowestOf {g : gM} {x0 : Int32} {m : dM} {Q : Int32 → dM → Prop} (hG : Gd g) (hI : Inv g m) (hQ : ∀ r : Int32, (0 ≤ r.toInt ∧ r.toInt ≤ 10) → Q r m) : c_X12_lowestOf 1 x0 m Q := by
  refine v_X12_lowestOf ?_
  have f1 := ti_0
  exact (s_X12_lowestOf_all hG hI hQ 13).1 _ _ (by omega) (by omega)
theorem s_X1_payOfAll_61_all {g : gM} {Q : Int32 → dM → Prop} {m : dM} (hG : Gd g) (hI : Inv g m) (hQ : ∀ r : Int32, Q r m) : ∀ n : Nat, (∀ (x1 : Int32) (x2 : Int32) (x3 : Int32), (0 ≤ x1.toInt ∧ x1.toInt ≤ 255) → (0 ≤ x3.toInt ∧ x3.toInt ≤ 8) → 8 - 1 * x3.toInt < (n : Int) → j_X1_payOfAll_61_4 2 x1 x2 x3 m Q) := by
  intro n
  induction n with
  | zero => exact fun x1 x2 x3 h1 h3 hμ => by exfalso; omega
  | succ n ih =>
    · intro x1 x2 x3 h1 h3 hμ
      refine v_X1_payOfAll_61_4 ?_
      have f1 := congrArg Int32.toInt (hI.2 2 2 rfl)
      have f2 := Inv.s hG hI (k := 2) (j := 2) rfl rfl
      refine ⟨fun hc3 => ?_, fun hc3 => ?_⟩
      · skip
        exact hQ _
      · skip
        refine v_X11_has ?_
        have f4 := ti_1
        have f5 := dAndE (x := (x1.toUInt32 >>> (x3.toUInt32 &&& Int32.toUInt32 31)).toInt32) (y := (1 : Int32)) (by decide)
        refine ⟨fun hc6 => ?_, fun hc6 => ?_⟩
        · skip
          have f7 := ti_0
          refine ⟨fun hc8 => ?_, fun hc8 => ?_⟩
          · skip
            have f9 := dAddE (X := x3.toInt) (Y := 1) (x := x3) (y := (1 : Int32)) rfl (by decide) (by omega) (by omega)
            exact ih _ _ _ (by omega) (by omega) (by omega)
          · skip
            exfalso; omega
        · skip
          refine ⟨fun hc7 => ?_, fun hc7 => ?_⟩
          · skip
            exfalso; omega
          · skip
            refine ⟨by omega, ?_⟩
            have f8 := dAddE (X := x3.toInt) (Y := 1) (x := x3) (y := (1 : Int32)) rfl (by decide) (by omega) (by omega)
            exact ih _ _ _ (by omega) (by omega) (by omega)
theorem s_X1_payOfAll_61 {g : gM} {x1 : Int32} {m : dM} {Q : Int32 → dM → Prop} (hG : Gd g) (hI : Inv g m) (h1 : 0 ≤ x1.toInt ∧ x1.toInt ≤ 255) (hQ : ∀ r : Int32, Q r m) : c_X1_payOfAll_61 2 x1 m Q := by
  refine v_X1_payOfAll_61 ?_
  have f1 := ti_0
  exact (s_X1_payOfAll_61_all hG hI hQ 10) _ _ _ (by omega) (by omega) (by omega)
theorem s_X1_bestTogether_61_47_all {g : gM} {Q : Int32 → dM → Prop} (hG : Gd g) (hQ : ∀ (r : Int32) (m' : dM), Inv g m' → (0 ≤ r.toInt ∧ r.toInt ≤ 255) → Q r m') : ∀ n : Nat, (∀ (x2 : Int32) (x3 : Int32) (x4 : Int32) (m : dM), Inv g m → (0 ≤ x4.toInt ∧ x4.toInt ≤ 8) → 520 - 1 * x4.toInt < (n : Int) → j_X1_bestTogether_61_47_17 6 x2 x3 x4 m Q) ∧ (∀ (x3 : Int32) (x4 : Int32) (x5 : Int32) (x6 : Int32) (m : dM), Inv g m → (0 ≤ x4.toInt ∧ x4.toInt ≤ 255) → (1 ≤ x6.toInt ∧ x6.toInt ≤ 256) → 513 - 2 * x6.toInt < (n : Int) → j_X1_bestTogether_61_47_89 6 x3 x4 x5 x6 m Q) ∧ (∀ (x3 : Int32) (x4 : Int32) (x5 : Int32) (x6 : Int32) (m : dM), Inv g m → (0 ≤ x4.toInt ∧ x4.toInt ≤ 255) → (1 ≤ x6.toInt ∧ x6.toInt ≤ 255) → 512 - 2 * x6.toInt < (n : Int) → j_X1_bestTogether_61_47_148 6 x3 x4 x5 x6 m Q) := by
  intro n
  induction n with
  | zero => exact ⟨fun x2 x3 x4 m hI h4 hμ => by exfalso; omega, fun x3 x4 x5 x6 m hI h4 h6 hμ => by exfalso; omega, fun x3 x4 x5 x6 m hI h4 h6 hμ => by exfalso; omega⟩
  | succ n ih =>
    refine ⟨?_, ?_, ?_⟩
    · intro x2 x3 x4 m hI h4 hμ
      refine v_X1_bestTogether_61_47_17 ?_
      have f1 := congrArg Int32.toInt (hI.2 2 2 rfl)
      have f2 := Inv.s hG hI (k := 2) (j := 2) rfl rfl
      refine ⟨fun hc3 => ?_, fun hc3 => ?_⟩
      · skip
        have f4 := ti_0
        have f5 := ti_1
        exact ih.2.1 _ _ _ _ _ hI (by omega) (by omega) (by omega)
      · skip
        refine Wp.deep (s_X0_payOf_54_47 hG hI (by omega) (fun R4 M4 I4 hr4 => ?_)) (Nat.le_of_ble_eq_true rfl)
        refine ⟨by omega, ?_⟩
        refine ⟨by omega, ?_⟩
        refine v_X11_has ?_
        have f5 := congrArg Int32.toInt (I4.2 2 2 rfl)
        have f6 := Inv.s hG I4 (k := 2) (j := 2) rfl rfl
        have f7 := Inv.home hG I4 (u := x4) (by omega) (by omega)
        have f8 := ti_1
        have f9 := dAndE (x := (x2.toUInt32 >>> ((M4.1 7 x4.toNatClampNeg).toUInt32 &&& Int32.toUInt32 31)).toInt32) (y := (1 : Int32)) (by decide)
        refine ⟨fun hc10 => ?_, fun hc10 => ?_⟩
        · skip
          have f11 := ti_0
          refine ⟨fun hc12 => ?_, fun hc12 => ?_⟩
          · skip
            have f13 := dAddE (X := x4.toInt) (Y := 1) (x := x4) (y := (1 : Int32)) rfl (by decide) (by omega) (by omega)
            have I14 : Inv g (dSet M4 66 x4.toNatClampNeg R4) := (Inv.setA I4 rfl)
            exact ih.1 _ _ _ _ I14 (by omega) (by omega)
          · skip
            exfalso; omega
        · skip
          refine ⟨fun hc11 => ?_, fun hc11 => ?_⟩
          · skip
            exfalso; omega
          · skip
            have f12 := dShl8 (x := x4) (by omega) (by omega)
            have f13 := dAddE (X := x4.toInt) (Y := 1) (x := x4) (y := (1 : Int32)) rfl (by decide) (by omega) (by omega)
            have I14 : Inv g (dSet M4 66 x4.toNatClampNeg R4) := (Inv.setA I4 rfl)
            exact ih.1 _ _ _ _ I14 (by omega) (by omega)
    · intro x3 x4 x5 x6 m hI h4 h6 hμ
      refine v_X1_bestTogether_61_47_89 ?_
      have f1 := congrArg Int32.toInt (hI.2 2 2 rfl)
      have f2 := Inv.s hG hI (k := 2) (j := 2) rfl rfl
      have f3 := dShl8 (x := (m.1 2 2)) (by omega) (by omega)
      refine ⟨fun hc4 => ?_, fun hc4 => ?_⟩
      · skip
        exact hQ _ _ hI (by omega)
      · skip
        refine ⟨fun hc5 => ?_, fun hc5 => ?_⟩
        · skip
          exact ih.2.2 _ _ _ _ _ hI (by omega) (by omega) (by omega)
        · skip
          refine Wp.deep (s_X1_payOfAll_61 hG hI (by omega) (fun R6 => ?_)) (Nat.le_of_ble_eq_true rfl)
          refine ⟨fun hc7 => ?_, fun hc7 => ?_⟩
          · skip
            exact ih.2.2 _ _ _ _ _ hI (by omega) (by omega) (by omega)
          · skip
            refine Wp.deep (s_X0_goingWith_54_47 hG hI (fun R8 M8 I8 => ?_)) (Nat.le_of_ble_eq_true rfl)
            refine ⟨fun hc9 => ?_, fun hc9 => ?_⟩
            · skip
              exact ih.2.2 _ _ _ _ _ I8 (by omega) (by omega) (by omega)
            · skip
              refine Wp.deep (s_X1_payOfAll_61 hG I8 (by omega) (fun R10 => ?_)) (Nat.le_of_ble_eq_true rfl)
              exact ih.2.2 _ _ _ _ _ I8 (by omega) (by omega) (by omega)
    · intro x3 x4 x5 x6 m hI h4 h6 hμ
      refine v_X1_bestTogether_61_47_148 ?_
      have f1 := dAddE (X := x6.toInt) (Y := 1) (x := x6) (y := (1 : Int32)) rfl (by decide) (by omega) (by omega)
      exact ih.2.1 _ _ _ _ _ hI (by omega) (by omega) (by omega)
theorem s_X1_bestTogether_61_47 {g : gM} {m : dM} {Q : Int32 → dM → Prop} (hG : Gd g) (hI : Inv g m) (hQ : ∀ (r : Int32) (m' : dM), Inv g m' → (0 ≤ r.toInt ∧ r.toInt ≤ 255) → Q r m') : c_X1_bestTogether_61_47 6 m Q := by
  refine v_X1_bestTogether_61_47 ?_
  refine Wp.deep (s_X0_waysNow_54_47 hG hI (fun M1 I1 => ?_)) (Nat.le_of_ble_eq_true rfl)
  have f2 := ti_0
  exact (s_X1_bestTogether_61_47_all hG hQ 522).1 _ _ _ _ I1 (by omega) (by omega)
theorem s_X11_together_0 {g : gM} {x1 : Int32} {m : dM} {Q : Int32 → dM → Prop} (hG : Gd g) (hI : Inv g m) (hQ : ∀ (r : Int32) (m' : dM), Inv g m' → Q r m') : c_X11_together_0 7 x1 m Q := by
  refine v_X11_together_0 ?_
  refine ⟨fun hc1 => ?_, fun hc1 => ?_⟩
  · skip
    refine v_X11_together_0_9 ?_
    have f2 := ti_m1
    exact hQ _ _ hI
  · skip
    refine ⟨fun hc2 => ?_, fun hc2 => ?_⟩
    · skip
      refine Wp.deep (s_X1_bestTogether_61_47 hG hI (fun R3 M3 I3 hr3 => ?_)) (Nat.le_of_ble_eq_true rfl)
      refine ⟨fun hc4 => ?_, fun hc4 => ?_⟩
      · skip
        exact hQ _ _ I3
      · skip
        refine Wp.deep (s_X1_payOfAll_61 hG I3 (by omega) (fun R5 => ?_)) (Nat.le_of_ble_eq_true rfl)
        exact hQ _ _ I3
    · skip
      refine v_X11_together_0_9 ?_
      have f3 := ti_m1
      exact hQ _ _ hI
theorem s_X12_usesLit_70_all {g : gM} {Q : Int32 → dM → Prop} {m : dM} (hG : Gd g) (hI : Inv g m) (hQ : ∀ r : Int32, Q r m) : ∀ n : Nat, (∀ (x1 : Int32) (x2 : Int32), (0 ≤ x2.toInt ∧ x2.toInt ≤ 8) → 17 - 2 * x2.toInt < (n : Int) → j_X12_usesLit_70_4 2 x1 x2 m Q) ∧ (∀ (x1 : Int32) (x2 : Int32), (0 ≤ x2.toInt ∧ x2.toInt ≤ 7) → 16 - 2 * x2.toInt < (n : Int) → j_X12_usesLit_70_35 2 x1 x2 m Q) := by
  intro n
  induction n with
  | zero => exact ⟨fun x1 x2 h2 hμ => by exfalso; omega, fun x1 x2 h2 hμ => by exfalso; omega⟩
  | succ n ih =>
    refine ⟨?_, ?_⟩
    · intro x1 x2 h2 hμ
      refine v_X12_usesLit_70_4 ?_
      have f1 := congrArg Int32.toInt (hI.2 70 18 rfl)
      have f2 := Inv.s hG hI (k := 70) (j := 18) rfl rfl
      refine ⟨by omega, ?_⟩
      have f3 := Inv.cnt86 hG hI
      have f4 := Inv.s hG hI (k := 86) (j := (m.1 70 18).toNatClampNeg) rfl rfl
      refine ⟨fun hc5 => ?_, fun hc5 => ?_⟩
      · skip
        exact hQ _
      · skip
        refine v_X12_flatAt_70 ?_
        have f6 := dMulE (X := 8) (Y := (m.1 70 18).toInt) (x := (8 : Int32)) (y := (m.1 70 18)) (by decide) rfl (by omega) (by omega)
        have f7 := dAddE (X := ((8 : Int32) * (m.1 70 18)).toInt) (Y := x2.toInt) (x := ((8 : Int32) * (m.1 70 18))) (y := x2) rfl rfl (by omega) (by omega)
        refine ⟨by omega, ?_⟩
        refine v_X12_isLit_70 ?_
        have f8 := Inv.flat hG hI (u := x2) (by omega) (by omega)
        refine ⟨by omega, ?_⟩
        refine ⟨fun hc9 => ?_, fun hc9 => ?_⟩
        · skip
          have f10 := ti_0
          refine ⟨fun hc11 => ?_, fun hc11 => ?_⟩
          · skip
            exact ih.2 _ _ (by omega) (by omega)
          · skip
            exfalso; omega
        · skip
          have f10 := ti_1
          refine ⟨fun hc11 => ?_, fun hc11 => ?_⟩
          · skip
            exfalso; omega
          · skip
            have f12 := dShl8 (x := x2) (by omega) (by omega)
            exact ih.2 _ _ (by omega) (by omega)
    · intro x1 x2 h2 hμ
      refine v_X12_usesLit_70_35 ?_
      have f1 := dAddE (X := x2.toInt) (Y := 1) (x := x2) (y := (1 : Int32)) rfl (by decide) (by omega) (by omega)
      exact ih.1 _ _ (by omega) (by omega)
theorem s_X12_usesLit_70 {g : gM} {m : dM} {Q : Int32 → dM → Prop} (hG : Gd g) (hI : Inv g m) (hQ : ∀ r : Int32, Q r m) : c_X12_usesLit_70 2 m Q := by
  refine v_X12_usesLit_70 ?_
  have f1 := ti_0
  exact (s_X12_usesLit_70_all hG hI hQ 19).1 _ _ (by omega) (by omega)
theorem s_X1_firstStart_61_47_all {g : gM} {Q : Int32 → dM → Prop} (hG : Gd g) (hQ : ∀ (r : Int32) (m' : dM), Inv g m' → Q r m') : ∀ n : Nat, (∀ (x2 : Int32) (x3 : Int32) (x4 : Int32) (x5 : Int32) (m : dM), Inv g m → (0 ≤ x2.toInt ∧ x2.toInt ≤ 7) → (0 ≤ x5.toInt ∧ x5.toInt ≤ 24) → 24 - 1 * x5.toInt < (n : Int) → j_X1_firstStart_61_47_28 5 x2 x3 x4 x5 m Q) := by
  intro n
  induction n with
  | zero => exact fun x2 x3 x4 x5 m hI h2 h5 hμ => by exfalso; omega
  | succ n ih =>
    · intro x2 x3 x4 x5 m hI h2 h5 hμ
      refine v_X1_firstStart_61_47_28 ?_
      refine ⟨fun hc1 => ?_, fun hc1 => ?_⟩
      · skip
        have f2 := ti_m2
        exact hQ _ _ hI
      · skip
        refine Wp.deep (s_X0_usesAt_54_47 hG hI (by omega) (fun R2 M2 I2 => ?_)) (Nat.le_of_ble_eq_true rfl)
        have f3 := dShl8 (x := x2) (by omega) (by omega)
        refine Wp.deep (s_X0_putOn_54_47 hG I2 (fun M4 I4 => ?_)) (Nat.le_of_ble_eq_true rfl)
        have f5 := ti_0
        refine Wp.deep (s_X0_going_54_47 hG I4 (by omega) (fun R6 M6 I6 => ?_)) (Nat.le_of_ble_eq_true rfl)
        refine ⟨fun hc7 => ?_, fun hc7 => ?_⟩
        · skip
          refine ⟨fun hc8 => ?_, fun hc8 => ?_⟩
          · skip
            have f9 := dAddE (X := x5.toInt) (Y := 1) (x := x5) (y := (1 : Int32)) rfl (by decide) (by omega) (by omega)
            exact ih _ _ _ _ _ I6 (by omega) (by omega) (by omega)
          · skip
            exact hQ _ _ I6
        · skip
          refine ⟨fun hc8 => ?_, fun hc8 => ?_⟩
          · skip
            have f9 := dAddE (X := x5.toInt) (Y := 1) (x := x5) (y := (1 : Int32)) rfl (by decide) (by omega) (by omega)
            exact ih _ _ _ _ _ I6 (by omega) (by omega) (by omega)
          · skip
            exact hQ _ _ I6
theorem s_X1_firstStart_61_47 {g : gM} {x2 : Int32} {m : dM} {Q : Int32 → dM → Prop} (hG : Gd g) (hI : Inv g m) (h2 : 0 ≤ x2.toInt ∧ x2.toInt ≤ 7) (hQ : ∀ (r : Int32) (m' : dM), Inv g m' → Q r m') : c_X1_firstStart_61_47 5 x2 m Q := by
  refine v_X1_firstStart_61_47 ?_
  refine ⟨by omega, ?_⟩
  refine ⟨by omega, ?_⟩
  have f1 := ti_0
  exact (s_X1_firstStart_61_47_all hG hQ 26) _ _ _ _ _ hI (by omega) (by omega) (by omega)
theorem s_X11_when_0 {g : gM} {x1 : Int32} {m : dM} {Q : Int32 → dM → Prop} (hG : Gd g) (hI : Inv g m) (hQ : ∀ (r : Int32) (m' : dM), Inv g m' → Q r m') : c_X11_when_0 6 x1 m Q := by
  refine v_X11_when_0 ?_
  refine v_X11_isUse_0 ?_
  refine ⟨fun hc1 => ?_, fun hc1 => ?_⟩
  · skip
    refine v_X11_isUse_0_19 ?_
    have f2 := ti_0
    refine ⟨fun hc3 => ?_, fun hc3 => ?_⟩
    · skip
      have f4 := ti_m1
      exact hQ _ _ hI
    · skip
      exfalso; omega
  · skip
    have f2 := congrArg Int32.toInt (hI.2 2 2 rfl)
    have f3 := Inv.s hG hI (k := 2) (j := 2) rfl rfl
    refine ⟨fun hc4 => ?_, fun hc4 => ?_⟩
    · skip
      refine v_X11_isUse_0_19 ?_
      have f5 := ti_0
      refine ⟨fun hc6 => ?_, fun hc6 => ?_⟩
      · skip
        have f7 := ti_m1
        exact hQ _ _ hI
      · skip
        exfalso; omega
    · skip
      have f5 := ti_1
      refine ⟨fun hc6 => ?_, fun hc6 => ?_⟩
      · skip
        exfalso; omega
      · skip
        refine Wp.deep (s_X1_firstStart_61_47 hG hI (by omega) (fun R7 M7 I7 => ?_)) (Nat.le_of_ble_eq_true rfl)
        exact hQ _ _ I7
theorem s_X1_bestThicker_61_47_all {g : gM} {Q : Int32 → dM → Prop} (hG : Gd g) (hQ : ∀ (r : Int32) (m' : dM), Inv g m' → (-2 ≤ r.toInt ∧ r.toInt ≤ 9) → Q r m') : ∀ n : Nat, (∀ (x2 : Int32) (x3 : Int32) (x4 : Int32) (x5 : Int32) (m : dM), Inv g m → (1 ≤ x2.toInt ∧ x2.toInt ≤ 20) → (1 ≤ x3.toInt ∧ x3.toInt ≤ 201) → (-2 ≤ x4.toInt ∧ x4.toInt ≤ 9) → (0 ≤ x5.toInt ∧ x5.toInt ≤ 10) → 22 - 2 * x5.toInt < (n : Int) → j_X1_bestThicker_61_47_20 7 x2 x3 x4 x5 m Q) ∧ (∀ (x2 : Int32) (x3 : Int32) (x4 : Int32) (x5 : Int32) (m : dM), Inv g m → (1 ≤ x2.toInt ∧ x2.toInt ≤ 20) → (1 ≤ x3.toInt ∧ x3.toInt ≤ 201) → (-2 ≤ x4.toInt ∧ x4.toInt ≤ 9) → (0 ≤ x5.toInt ∧ x5.toInt ≤ 9) → 21 - 2 * x5.toInt < (n : Int) → j_X1_bestThicker_61_47_105 7 x2 x3 x4 x5 m Q) ∧ (∀ (x4 : Int32) (m : dM), Inv g m → (-2 ≤ x4.toInt ∧ x4.toInt ≤ 9) → 0 < (n : Int) → j_X1_bestThicker_61_47_111 7 x4 m Q) := by
  intro n
  induction n with
  | zero => exact ⟨fun x2 x3 x4 x5 m hI h2 h3 h4 h5 hμ => by exfalso; omega, fun x2 x3 x4 x5 m hI h2 h3 h4 h5 hμ => by exfalso; omega, fun x4 m hI h4 hμ => by exfalso; omega⟩
  | succ n ih =>
    refine ⟨?_, ?_, ?_⟩
    · intro x2 x3 x4 x5 m hI h2 h3 h4 h5 hμ
      refine v_X1_bestThicker_61_47_20 ?_
      have f1 := congrArg Int32.toInt (hI.2 2 1 rfl)
      have f2 := Inv.s hG hI (k := 2) (j := 1) rfl rfl
      refine ⟨fun hc3 => ?_, fun hc3 => ?_⟩
      · skip
        exact ih.2.2 _ _ hI (by omega) (by omega)
      · skip
        refine ⟨fun hc4 => ?_, fun hc4 => ?_⟩
        · skip
          exact ih.2.2 _ _ hI (by omega) (by omega)
        · skip
          refine v_X11_has ?_
          have f5 := ti_1
          have f6 := dAndE (x := ((m.1 47 3).toUInt32 >>> (x5.toUInt32 &&& Int32.toUInt32 31)).toInt32) (y := (1 : Int32)) (by decide)
          refine ⟨fun hc7 => ?_, fun hc7 => ?_⟩
          · skip
            have f8 := ti_0
            refine ⟨fun hc9 => ?_, fun hc9 => ?_⟩
            · skip
              exfalso; omega
            · skip
              refine Wp.deep (s_X7_copy_62_47 hG hI (fun M10 I10 => ?_)) (Nat.le_of_ble_eq_true rfl)
              refine ⟨by omega, ?_⟩
              refine ⟨by omega, ?_⟩
              have I11 : Inv g (dSet M10 63 x5.toNatClampNeg (if ((M10.1 63 x5.toNatClampNeg) + x2) < (99 : Int32) then ((M10.1 63 x5.toNatClampNeg) + x2) else (99 : Int32))) := (Inv.setA I10 rfl)
              refine Wp.deep (s_X1_trialTillGone_61 hG I11 (fun R12 M12 I12 hr12 => ?_)) (Nat.le_of_ble_eq_true rfl)
              refine ⟨fun hc13 => ?_, fun hc13 => ?_⟩
              · skip
                exact ih.2.1 _ _ _ _ _ I12 (by omega) (by omega) (by omega) (by omega) (by omega)
              · skip
                exact ih.2.1 _ _ _ _ _ I12 (by omega) (by omega) (by omega) (by omega) (by omega)
          · skip
            refine ⟨fun hc8 => ?_, fun hc8 => ?_⟩
            · skip
              exact ih.2.1 _ _ _ _ _ hI (by omega) (by omega) (by omega) (by omega) (by omega)
            · skip
              exfalso; omega
    · intro x2 x3 x4 x5 m hI h2 h3 h4 h5 hμ
      refine v_X1_bestThicker_61_47_105 ?_
      have f1 := dAddE (X := x5.toInt) (Y := 1) (x := x5) (y := (1 : Int32)) rfl (by decide) (by omega) (by omega)
      exact ih.1 _ _ _ _ _ hI (by omega) (by omega) (by omega) (by omega) (by omega)
    · intro x4 m hI h4 hμ
      refine v_X1_bestThicker_61_47_111 ?_
      exact hQ _ _ hI (by omega)
theorem s_X1_bestThicker_61_47 {g : gM} {x2 : Int32} {m : dM} {Q : Int32 → dM → Prop} (hG : Gd g) (hI : Inv g m) (h2 : 1 ≤ x2.toInt ∧ x2.toInt ≤ 20) (hQ : ∀ (r : Int32) (m' : dM), Inv g m' → (-2 ≤ r.toInt ∧ r.toInt ≤ 9) → Q r m') : c_X1_bestThicker_61_47 7 x2 m Q := by
  refine v_X1_bestThicker_61_47 ?_
  refine Wp.deep (s_X7_copy_62_47 hG hI (fun M1 I1 => ?_)) (Nat.le_of_ble_eq_true rfl)
  refine Wp.deep (s_X1_trialTillGone_61 hG I1 (fun R2 M2 I2 hr2 => ?_)) (Nat.le_of_ble_eq_true rfl)
  have f3 := ti_m2
  have f4 := ti_0
  exact (s_X1_bestThicker_61_47_all hG hQ 24).1 _ _ _ _ _ I2 (by omega) (by omega) (by omega) (by omega) (by omega)
theorem s_X11_thick_0 {g : gM} {x1 : Int32} {m : dM} {Q : Int32 → dM → Prop} (hG : Gd g) (hI : Inv g m) (hQ : ∀ (r : Int32) (m' : dM), Inv g m' → (-2 ≤ r.toInt ∧ r.toInt ≤ 9) → Q r m') : c_X11_thick_0 8 x1 m Q := by
  refine v_X11_thick_0 ?_
  refine ⟨fun hc1 => ?_, fun hc1 => ?_⟩
  · skip
    refine v_X11_thick_0_11 ?_
    have f2 := ti_m1
    exact hQ _ _ hI (by omega)
  · skip
    refine ⟨fun hc2 => ?_, fun hc2 => ?_⟩
    · skip
      refine Wp.deep (s_X1_bestThicker_61_47 hG hI (by omega) (fun R3 M3 I3 hr3 => ?_)) (Nat.le_of_ble_eq_true rfl)
      exact hQ _ _ I3 (by omega)
    · skip
      refine v_X11_thick_0_11 ?_
      have f3 := ti_m1
      exact hQ _ _ hI (by omega)
theorem s_X3_litWithout_2_all {g : gM} {Q : Int32 → dM → Prop} {m : dM} (hG : Gd g) (hI : Inv g m) (hQ : ∀ r : Int32, Q r m) : ∀ n : Nat, (∀ (x1 : Int32) (x2 : Int32) (x3 : Int32), (1 ≤ x3.toInt ∧ x3.toInt ≤ 7) → 184 - 23 * x3.toInt < (n : Int) → j_X3_litWithout_2_15 2 x1 x2 x3 m Q) ∧ (∀ (x1 : Int32) (x2 : Int32) (x3 : Int32) (x4 : Int32) (x5 : Int32), (1 ≤ x3.toInt ∧ x3.toInt ≤ 6) → (0 ≤ x5.toInt ∧ x5.toInt ≤ 10) → 183 - 23 * x3.toInt - 2 * x5.toInt < (n : Int) → j_X3_litWithout_2_29 2 x1 x2 x3 x4 x5 m Q) ∧ (∀ (x1 : Int32) (x2 : Int32) (x3 : Int32) (x4 : Int32) (x5 : Int32), (1 ≤ x3.toInt ∧ x3.toInt ≤ 6) → (0 ≤ x5.toInt ∧ x5.toInt ≤ 9) → 182 - 23 * x3.toInt - 2 * x5.toInt < (n : Int) → j_X3_litWithout_2_67 2 x1 x2 x3 x4 x5 m Q) ∧ (∀ (x2 : Int32), 0 < (n : Int) → j_X3_litWithout_2_88 2 x2 m Q) := by
  intro n
  induction n with
  | zero => exact ⟨fun x1 x2 x3 h3 hμ => by exfalso; omega, fun x1 x2 x3 x4 x5 h3 h5 hμ => by exfalso; omega, fun x1 x2 x3 x4 x5 h3 h5 hμ => by exfalso; omega, fun x2 hμ => by exfalso; omega⟩
  | succ n ih =>
    refine ⟨?_, ?_, ?_, ?_⟩
    · intro x1 x2 x3 h3 hμ
      refine v_X3_litWithout_2_15 ?_
      have f1 := congrArg Int32.toInt (hI.2 2 0 rfl)
      have f2 := Inv.s hG hI (k := 2) (j := 0) rfl rfl
      refine ⟨fun hc3 => ?_, fun hc3 => ?_⟩
      · skip
        exact ih.2.2.2 _ (by omega)
      · skip
        have f4 := ti_0
        exact ih.2.1 _ _ _ _ _ (by omega) (by omega) (by omega)
    · intro x1 x2 x3 x4 x5 h3 h5 hμ
      refine v_X3_litWithout_2_29 ?_
      have f1 := congrArg Int32.toInt (hI.2 2 1 rfl)
      have f2 := Inv.s hG hI (k := 2) (j := 1) rfl rfl
      refine ⟨fun hc3 => ?_, fun hc3 => ?_⟩
      · skip
        refine ⟨fun hc4 => ?_, fun hc4 => ?_⟩
        · skip
          have f5 := dAddE (X := x3.toInt) (Y := 1) (x := x3) (y := (1 : Int32)) rfl (by decide) (by omega) (by omega)
          exact ih.1 _ _ _ (by omega) (by omega)
        · skip
          exact ih.2.2.2 _ (by omega)
      · skip
        refine v_X3_endsOf_2 ?_
        refine ⟨by omega, ?_⟩
        refine ⟨by omega, ?_⟩
        refine v_X11_has ?_
        have f4 := ti_1
        have f5 := dAndE (x := (x1.toUInt32 >>> (x5.toUInt32 &&& Int32.toUInt32 31)).toInt32) (y := (1 : Int32)) (by decide)
        refine ⟨fun hc6 => ?_, fun hc6 => ?_⟩
        · skip
          have f7 := ti_0
          refine ⟨fun hc8 => ?_, fun hc8 => ?_⟩
          · skip
            exfalso; omega
          · skip
            have f9 := Inv.s hG hI (k := 4) (j := x5.toNatClampNeg) rfl rfl
            have f10 := dShl8 (x := (m.1 4 x5.toNatClampNeg)) (by omega) (by omega)
            have f11 := Inv.s hG hI (k := 5) (j := x5.toNatClampNeg) rfl rfl
            have f12 := dShl8 (x := (m.1 5 x5.toNatClampNeg)) (by omega) (by omega)
            refine ⟨fun hc13 => ?_, fun hc13 => ?_⟩
            · skip
              exact ih.2.2.1 _ _ _ _ _ (by omega) (by omega) (by omega)
            · skip
              exact ih.2.2.1 _ _ _ _ _ (by omega) (by omega) (by omega)
        · skip
          refine ⟨fun hc7 => ?_, fun hc7 => ?_⟩
          · skip
            exact ih.2.2.1 _ _ _ _ _ (by omega) (by omega) (by omega)
          · skip
            exfalso; omega
    · intro x1 x2 x3 x4 x5 h3 h5 hμ
      refine v_X3_litWithout_2_67 ?_
      have f1 := dAddE (X := x5.toInt) (Y := 1) (x := x5) (y := (1 : Int32)) rfl (by decide) (by omega) (by omega)
      exact ih.2.1 _ _ _ _ _ (by omega) (by omega) (by omega)
    · intro x2 hμ
      refine v_X3_litWithout_2_88 ?_
      exact hQ _
theorem s_X3_litWithout_2 {g : gM} {x1 : Int32} {m : dM} {Q : Int32 → dM → Prop} (hG : Gd g) (hI : Inv g m) (hQ : ∀ r : Int32, Q r m) : c_X3_litWithout_2 2 x1 m Q := by
  refine v_X3_litWithout_2 ?_
  have f1 := congrArg Int32.toInt (hI.2 2 0 rfl)
  have f2 := Inv.s hG hI (k := 2) (j := 0) rfl rfl
  refine ⟨fun hc3 => ?_, fun hc3 => ?_⟩
  · skip
    have f4 := ti_0
    have f5 := ti_1
    exact (s_X3_litWithout_2_all hG hI hQ 163).1 _ _ _ (by omega) (by omega)
  · skip
    have f4 := ti_1
    exact (s_X3_litWithout_2_all hG hI hQ 163).1 _ _ _ (by omega) (by omega)
theorem s_J6_bitCount {g : gM} {x0 : Int32} {m : dM} {Q : Int32 → dM → Prop} (hG : Gd g) (hI : Inv g m) (hQ : ∀ r : Int32, (0 ≤ r.toInt ∧ r.toInt ≤ 63) → Q r m) : c_J6_bitCount 1 x0 m Q := by
  refine v_J6_bitCount ?_
  have f1 := ti_1431655765
  have f2 := dAndE (x := (x0.toUInt32 >>> ((1 : Int32).toUInt32 &&& Int32.toUInt32 31)).toInt32) (y := (1431655765 : Int32)) (by decide)
  have f3 := ti_858993459
  have f4 := dAndE (x := (x0 - ((x0.toUInt32 >>> ((1 : Int32).toUInt32 &&& Int32.toUInt32 31)).toInt32 &&& (1431655765 : Int32)))) (y := (858993459 : Int32)) (by decide)
  have f5 := dAndE (x := ((x0 - ((x0.toUInt32 >>> ((1 : Int32).toUInt32 &&& Int32.toUInt32 31)).toInt32 &&& (1431655765 : Int32))).toUInt32 >>> ((2 : Int32).toUInt32 &&& Int32.toUInt32 31)).toInt32) (y := (858993459 : Int32)) (by decide)
  have f6 := dAddE (X := ((x0 - ((x0.toUInt32 >>> ((1 : Int32).toUInt32 &&& Int32.toUInt32 31)).toInt32 &&& (1431655765 : Int32))) &&& (858993459 : Int32)).toInt) (Y := (((x0 - ((x0.toUInt32 >>> ((1 : Int32).toUInt32 &&& Int32.toUInt32 31)).toInt32 &&& (1431655765 : Int32))).toUInt32 >>> ((2 : Int32).toUInt32 &&& Int32.toUInt32 31)).toInt32 &&& (858993459 : Int32)).toInt) (x := ((x0 - ((x0.toUInt32 >>> ((1 : Int32).toUInt32 &&& Int32.toUInt32 31)).toInt32 &&& (1431655765 : Int32))) &&& (858993459 : Int32))) (y := (((x0 - ((x0.toUInt32 >>> ((1 : Int32).toUInt32 &&& Int32.toUInt32 31)).toInt32 &&& (1431655765 : Int32))).toUInt32 >>> ((2 : Int32).toUInt32 &&& Int32.toUInt32 31)).toInt32 &&& (858993459 : Int32))) rfl rfl (by omega) (by omega)
  have f7 := ti_252645135
  have f8 := dAndE (x := ((((x0 - ((x0.toUInt32 >>> ((1 : Int32).toUInt32 &&& Int32.toUInt32 31)).toInt32 &&& (1431655765 : Int32))) &&& (858993459 : Int32)) + (((x0 - ((x0.toUInt32 >>> ((1 : Int32).toUInt32 &&& Int32.toUInt32 31)).toInt32 &&& (1431655765 : Int32))).toUInt32 >>> ((2 : Int32).toUInt32 &&& Int32.toUInt32 31)).toInt32 &&& (858993459 : Int32))) + ((((x0 - ((x0.toUInt32 >>> ((1 : Int32).toUInt32 &&& Int32.toUInt32 31)).toInt32 &&& (1431655765 : Int32))) &&& (858993459 : Int32)) + (((x0 - ((x0.toUInt32 >>> ((1 : Int32).toUInt32 &&& Int32.toUInt32 31)).toInt32 &&& (1431655765 : Int32))).toUInt32 >>> ((2 : Int32).toUInt32 &&& Int32.toUInt32 31)).toInt32 &&& (858993459 : Int32))).toUInt32 >>> ((4 : Int32).toUInt32 &&& Int32.toUInt32 31)).toInt32)) (y := (252645135 : Int32)) (by decide)
  have f9 := ti_63
  have f10 := dAndE (x := (((((((x0 - ((x0.toUInt32 >>> ((1 : Int32).toUInt32 &&& Int32.toUInt32 31)).toInt32 &&& (1431655765 : Int32))) &&& (858993459 : Int32)) + (((x0 - ((x0.toUInt32 >>> ((1 : Int32).toUInt32 &&& Int32.toUInt32 31)).toInt32 &&& (1431655765 : Int32))).toUInt32 >>> ((2 : Int32).toUInt32 &&& Int32.toUInt32 31)).toInt32 &&& (858993459 : Int32))) + ((((x0 - ((x0.toUInt32 >>> ((1 : Int32).toUInt32 &&& Int32.toUInt32 31)).toInt32 &&& (1431655765 : Int32))) &&& (858993459 : Int32)) + (((x0 - ((x0.toUInt32 >>> ((1 : Int32).toUInt32 &&& Int32.toUInt32 31)).toInt32 &&& (1431655765 : Int32))).toUInt32 >>> ((2 : Int32).toUInt32 &&& Int32.toUInt32 31)).toInt32 &&& (858993459 : Int32))).toUInt32 >>> ((4 : Int32).toUInt32 &&& Int32.toUInt32 31)).toInt32) &&& (252645135 : Int32)) + ((((((x0 - ((x0.toUInt32 >>> ((1 : Int32).toUInt32 &&& Int32.toUInt32 31)).toInt32 &&& (1431655765 : Int32))) &&& (858993459 : Int32)) + (((x0 - ((x0.toUInt32 >>> ((1 : Int32).toUInt32 &&& Int32.toUInt32 31)).toInt32 &&& (1431655765 : Int32))).toUInt32 >>> ((2 : Int32).toUInt32 &&& Int32.toUInt32 31)).toInt32 &&& (858993459 : Int32))) + ((((x0 - ((x0.toUInt32 >>> ((1 : Int32).toUInt32 &&& Int32.toUInt32 31)).toInt32 &&& (1431655765 : Int32))) &&& (858993459 : Int32)) + (((x0 - ((x0.toUInt32 >>> ((1 : Int32).toUInt32 &&& Int32.toUInt32 31)).toInt32 &&& (1431655765 : Int32))).toUInt32 >>> ((2 : Int32).toUInt32 &&& Int32.toUInt32 31)).toInt32 &&& (858993459 : Int32))).toUInt32 >>> ((4 : Int32).toUInt32 &&& Int32.toUInt32 31)).toInt32) &&& (252645135 : Int32)).toUInt32 >>> ((8 : Int32).toUInt32 &&& Int32.toUInt32 31)).toInt32) + (((((((x0 - ((x0.toUInt32 >>> ((1 : Int32).toUInt32 &&& Int32.toUInt32 31)).toInt32 &&& (1431655765 : Int32))) &&& (858993459 : Int32)) + (((x0 - ((x0.toUInt32 >>> ((1 : Int32).toUInt32 &&& Int32.toUInt32 31)).toInt32 &&& (1431655765 : Int32))).toUInt32 >>> ((2 : Int32).toUInt32 &&& Int32.toUInt32 31)).toInt32 &&& (858993459 : Int32))) + ((((x0 - ((x0.toUInt32 >>> ((1 : Int32).toUInt32 &&& Int32.toUInt32 31)).toInt32 &&& (1431655765 : Int32))) &&& (858993459 : Int32)) + (((x0 - ((x0.toUInt32 >>> ((1 : Int32).toUInt32 &&& Int32.toUInt32 31)).toInt32 &&& (1431655765 : Int32))).toUInt32 >>> ((2 : Int32).toUInt32 &&& Int32.toUInt32 31)).toInt32 &&& (858993459 : Int32))).toUInt32 >>> ((4 : Int32).toUInt32 &&& Int32.toUInt32 31)).toInt32) &&& (252645135 : Int32)) + ((((((x0 - ((x0.toUInt32 >>> ((1 : Int32).toUInt32 &&& Int32.toUInt32 31)).toInt32 &&& (1431655765 : Int32))) &&& (858993459 : Int32)) + (((x0 - ((x0.toUInt32 >>> ((1 : Int32).toUInt32 &&& Int32.toUInt32 31)).toInt32 &&& (1431655765 : Int32))).toUInt32 >>> ((2 : Int32).toUInt32 &&& Int32.toUInt32 31)).toInt32 &&& (858993459 : Int32))) + ((((x0 - ((x0.toUInt32 >>> ((1 : Int32).toUInt32 &&& Int32.toUInt32 31)).toInt32 &&& (1431655765 : Int32))) &&& (858993459 : Int32)) + (((x0 - ((x0.toUInt32 >>> ((1 : Int32).toUInt32 &&& Int32.toUInt32 31)).toInt32 &&& (1431655765 : Int32))).toUInt32 >>> ((2 : Int32).toUInt32 &&& Int32.toUInt32 31)).toInt32 &&& (858993459 : Int32))).toUInt32 >>> ((4 : Int32).toUInt32 &&& Int32.toUInt32 31)).toInt32) &&& (252645135 : Int32)).toUInt32 >>> ((8 : Int32).toUInt32 &&& Int32.toUInt32 31)).toInt32).toUInt32 >>> ((16 : Int32).toUInt32 &&& Int32.toUInt32 31)).toInt32)) (y := (63 : Int32)) (by decide)
  exact hQ _ (by omega)
theorem s_X12_goneBits_70_all {g : gM} {Q : Int32 → dM → Prop} {m : dM} (hG : Gd g) (hI : Inv g m) (hQ : ∀ r : Int32, Q r m) : ∀ n : Nat, (∀ (x1 : Int32) (x2 : Int32), (0 ≤ x2.toInt ∧ x2.toInt ≤ 10) → 21 - 2 * x2.toInt < (n : Int) → j_X12_goneBits_70_4 1 x1 x2 m Q) ∧ (∀ (x1 : Int32) (x2 : Int32), (0 ≤ x2.toInt ∧ x2.toInt ≤ 9) → 20 - 2 * x2.toInt < (n : Int) → j_X12_goneBits_70_36 1 x1 x2 m Q) := by
  intro n
  induction n with
  | zero => exact ⟨fun x1 x2 h2 hμ => by exfalso; omega, fun x1 x2 h2 hμ => by exfalso; omega⟩
  | succ n ih =>
    refine ⟨?_, ?_⟩
    · intro x1 x2 h2 hμ
      refine v_X12_goneBits_70_4 ?_
      have f1 := congrArg Int32.toInt (hI.2 70 18 rfl)
      have f2 := Inv.s hG hI (k := 70) (j := 18) rfl rfl
      refine ⟨by omega, ?_⟩
      have f3 := Inv.cnt82 hG hI
      have f4 := Inv.s hG hI (k := 82) (j := (m.1 70 18).toNatClampNeg) rfl rfl
      refine ⟨fun hc5 => ?_, fun hc5 => ?_⟩
      · skip
        exact hQ _
      · skip
        have f6 := dAddE (X := 10) (Y := x2.toInt) (x := (10 : Int32)) (y := x2) (by decide) rfl (by omega) (by omega)
        refine ⟨by omega, ?_⟩
        refine ⟨fun hc7 => ?_, fun hc7 => ?_⟩
        · skip
          exact ih.2 _ _ (by omega) (by omega)
        · skip
          have f8 := dShl10 (x := x2) (by omega) (by omega)
          exact ih.2 _ _ (by omega) (by omega)
    · intro x1 x2 h2 hμ
      refine v_X12_goneBits_70_36 ?_
      have f1 := dAddE (X := x2.toInt) (Y := 1) (x := x2) (y := (1 : Int32)) rfl (by decide) (by omega) (by omega)
      exact ih.1 _ _ (by omega) (by omega)
theorem s_X12_goneBits_70 {g : gM} {m : dM} {Q : Int32 → dM → Prop} (hG : Gd g) (hI : Inv g m) (hQ : ∀ r : Int32, Q r m) : c_X12_goneBits_70 1 m Q := by
  refine v_X12_goneBits_70 ?_
  have f1 := ti_0
  exact (s_X12_goneBits_70_all hG hI hQ 23).1 _ _ (by omega) (by omega)
theorem s_X12_ithOf_all {g : gM} {Q : Int32 → dM → Prop} {m : dM} (hG : Gd g) (hI : Inv g m) (hQ : ∀ r : Int32, (-1 ≤ r.toInt ∧ r.toInt ≤ 9) → Q r m) : ∀ n : Nat, (∀ (x0 : Int32) (x1 : Int32) (x2 : Int32) (x3 : Int32), (0 ≤ x0.toInt ∧ x0.toInt ≤ 1023) → (0 ≤ x1.toInt ∧ x1.toInt ≤ 2) → (0 ≤ x3.toInt ∧ x3.toInt ≤ 10) → 21 - 2 * x3.toInt < (n : Int) → j_X12_ithOf_4 1 x0 x1 x2 x3 m Q) ∧ (∀ (x0 : Int32) (x1 : Int32) (x2 : Int32) (x3 : Int32), (0 ≤ x0.toInt ∧ x0.toInt ≤ 1023) → (0 ≤ x1.toInt ∧ x1.toInt ≤ 2) → (0 ≤ x3.toInt ∧ x3.toInt ≤ 9) → 20 - 2 * x3.toInt < (n : Int) → j_X12_ithOf_31 1 x0 x1 x2 x3 m Q) := by
  intro n
  induction n with
  | zero => exact ⟨fun x0 x1 x2 x3 h0 h1 h3 hμ => by exfalso; omega, fun x0 x1 x2 x3 h0 h1 h3 hμ => by exfalso; omega⟩
  | succ n ih =>
    refine ⟨?_, ?_⟩
    · intro x0 x1 x2 x3 h0 h1 h3 hμ
      refine v_X12_ithOf_4 ?_
      refine ⟨fun hc1 => ?_, fun hc1 => ?_⟩
      · skip
        have f2 := ti_m1
        exact hQ _ (by omega)
      · skip
        have f2 := ti_1
        have f3 := dAndE (x := (x0 >>> (x3 &&& 31))) (y := (1 : Int32)) (by decide)
        refine ⟨fun hc4 => ?_, fun hc4 => ?_⟩
        · skip
          refine ⟨fun hc5 => ?_, fun hc5 => ?_⟩
          · skip
            exact ih.2 _ _ _ _ (by omega) (by omega) (by omega) (by omega)
          · skip
            exact hQ _ (by omega)
        · skip
          exact ih.2 _ _ _ _ (by omega) (by omega) (by omega) (by omega)
    · intro x0 x1 x2 x3 h0 h1 h3 hμ
      refine v_X12_ithOf_31 ?_
      have f1 := dAddE (X := x3.toInt) (Y := 1) (x := x3) (y := (1 : Int32)) rfl (by decide) (by omega) (by omega)
      exact ih.1 _ _ _ _ (by omega) (by omega) (by omega) (by omega)
theorem s_X12_ithOf {g : gM} {x0 : Int32} {x1 : Int32} {m : dM} {Q : Int32 → dM → Prop} (hG : Gd g) (hI : Inv g m) (h0 : 0 ≤ x0.toInt ∧ x0.toInt ≤ 1023) (h1 : 0 ≤ x1.toInt ∧ x1.toInt ≤ 2) (hQ : ∀ r : Int32, (-1 ≤ r.toInt ∧ r.toInt ≤ 9) → Q r m) : c_X12_ithOf 1 x0 x1 m Q := by
  refine v_X12_ithOf ?_
  have f1 := ti_0
  exact (s_X12_ithOf_all hG hI hQ 23).1 _ _ _ _ (by omega) (by omega) (by omega) (by omega)
theorem s_X12_bits_all {g : gM} {Q : Int32 → dM → Prop} {m : dM} (hG : Gd g) (hI : Inv g m) (hQ : ∀ r : Int32, Q r m) : ∀ n : Nat, (∀ (x0 : Int32) (x1 : Int32) (x2 : Int32), (0 ≤ x2.toInt ∧ x2.toInt ≤ 10) → 10 - 1 * x2.toInt < (n : Int) → j_X12_bits_4 1 x0 x1 x2 m Q) := by
  intro n
  induction n with
  | zero => exact fun x0 x1 x2 h2 hμ => by exfalso; omega
  | succ n ih =>
    · intro x0 x1 x2 h2 hμ
      refine v_X12_bits_4 ?_
      refine ⟨fun hc1 => ?_, fun hc1 => ?_⟩
      · skip
        exact hQ _
      · skip
        have f2 := ti_1
        have f3 := dAndE (x := (x0 >>> (x2 &&& 31))) (y := (1 : Int32)) (by decide)
        have f4 := dAddE (X := x2.toInt) (Y := 1) (x := x2) (y := (1 : Int32)) rfl (by decide) (by omega) (by omega)
        exact ih _ _ _ (by omega) (by omega)
theorem s_X12_bits {g : gM} {x0 : Int32} {m : dM} {Q : Int32 → dM → Prop} (hG : Gd g) (hI : Inv g m) (hQ : ∀ r : Int32, Q r m) : c_X12_bits 1 x0 m Q := by
  refine v_X12_bits ?_
  have f1 := ti_0
  exact (s_X12_bits_all hG hI hQ 12) _ _ _ (by omega) (by omega)
theorem s_X12_isEarlier_all {g : gM} {Q : Int32 → dM → Prop} {m : dM} (hG : Gd g) (hI : Inv g m) (hQ : ∀ r : Int32, (0 ≤ r.toInt ∧ r.toInt ≤ 1) → Q r m) : ∀ n : Nat, (∀ (x0 : Int32) (x1 : Int32) (x2 : Int32), (0 ≤ x0.toInt ∧ x0.toInt ≤ 1023) → (0 ≤ x1.toInt ∧ x1.toInt ≤ 1023) → (0 ≤ x2.toInt ∧ x2.toInt ≤ 3) → 3 - 1 * x2.toInt < (n : Int) → j_X12_isEarlier_2 2 x0 x1 x2 m Q) := by
  intro n
  induction n with
  | zero => exact fun x0 x1 x2 h0 h1 h2 hμ => by exfalso; omega
  | succ n ih =>
    · intro x0 x1 x2 h0 h1 h2 hμ
      refine v_X12_isEarlier_2 ?_
      refine ⟨fun hc1 => ?_, fun hc1 => ?_⟩
      · skip
        have f2 := ti_0
        exact hQ _ (by omega)
      · skip
        refine Wp.deep (s_X12_ithOf hG hI (by omega) (by omega) (fun R2 hr2 => ?_)) (Nat.le_of_ble_eq_true rfl)
        refine Wp.deep (s_X12_ithOf hG hI (by omega) (by omega) (fun R3 hr3 => ?_)) (Nat.le_of_ble_eq_true rfl)
        refine ⟨fun hc4 => ?_, fun hc4 => ?_⟩
        · skip
          have f5 := dAddE (X := x2.toInt) (Y := 1) (x := x2) (y := (1 : Int32)) rfl (by decide) (by omega) (by omega)
          exact ih _ _ _ (by omega) (by omega) (by omega) (by omega)
        · skip
          refine Wp.deep (s_X12_ithOf hG hI (by omega) (by omega) (fun R5 hr5 => ?_)) (Nat.le_of_ble_eq_true rfl)
          refine Wp.deep (s_X12_ithOf hG hI (by omega) (by omega) (fun R6 hr6 => ?_)) (Nat.le_of_ble_eq_true rfl)
          refine ⟨fun hc7 => ?_, fun hc7 => ?_⟩
          · skip
            have f8 := ti_0
            exact hQ _ (by omega)
          · skip
            have f8 := ti_1
            exact hQ _ (by omega)
theorem s_X12_isEarlier {g : gM} {x0 : Int32} {x1 : Int32} {m : dM} {Q : Int32 → dM → Prop} (hG : Gd g) (hI : Inv g m) (h0 : 0 ≤ x0.toInt ∧ x0.toInt ≤ 1023) (h1 : 0 ≤ x1.toInt ∧ x1.toInt ≤ 1023) (hQ : ∀ r : Int32, (0 ≤ r.toInt ∧ r.toInt ≤ 1) → Q r m) : c_X12_isEarlier 2 x0 x1 m Q := by
  refine v_X12_isEarlier ?_
  have f1 := ti_0
  exact (s_X12_isEarlier_all hG hI hQ 5) _ _ _ (by omega) (by omega) (by omega) (by omega)
theorem s_X11_share_0 {g : gM} {x1 : Int32} {x2 : Int32} {m : dM} {Q : Int32 → dM → Prop} (hG : Gd g) (hI : Inv g m) (hQ : ∀ (r : Int32) (m' : dM), Inv g m' → Q r m') : c_X11_share_0 5 x1 x2 m Q := by
  refine v_X11_share_0 ?_
  refine v_X11_isFlat_0 ?_
  refine ⟨fun hc1 => ?_, fun hc1 => ?_⟩
  · skip
    refine v_X11_isFlat_0_19 ?_
    have f2 := ti_0
    refine ⟨fun hc3 => ?_, fun hc3 => ?_⟩
    · skip
      refine v_X11_share_0_16 ?_
      have f4 := ti_m1
      exact hQ _ _ hI
    · skip
      exfalso; omega
  · skip
    have f2 := congrArg Int32.toInt (hI.2 2 0 rfl)
    have f3 := Inv.s hG hI (k := 2) (j := 0) rfl rfl
    refine ⟨fun hc4 => ?_, fun hc4 => ?_⟩
    · skip
      refine v_X11_isFlat_0_19 ?_
      have f5 := ti_0
      refine ⟨fun hc6 => ?_, fun hc6 => ?_⟩
      · skip
        refine v_X11_share_0_16 ?_
        have f7 := ti_m1
        exact hQ _ _ hI
      · skip
        exfalso; omega
    · skip
      have f5 := ti_1
      refine ⟨fun hc6 => ?_, fun hc6 => ?_⟩
      · skip
        exfalso; omega
      · skip
        refine v_X11_isWire_0 ?_
        refine ⟨fun hc7 => ?_, fun hc7 => ?_⟩
        · skip
          refine v_X11_isWire_0_19 ?_
          have f8 := ti_0
          refine ⟨fun hc9 => ?_, fun hc9 => ?_⟩
          · skip
            exfalso; omega
          · skip
            refine v_X11_share_0_16 ?_
            have f10 := ti_m1
            exact hQ _ _ hI
        · skip
          have f8 := congrArg Int32.toInt (hI.2 2 1 rfl)
          have f9 := Inv.s hG hI (k := 2) (j := 1) rfl rfl
          refine ⟨fun hc10 => ?_, fun hc10 => ?_⟩
          · skip
            refine v_X11_isWire_0_19 ?_
            have f11 := ti_0
            refine ⟨fun hc12 => ?_, fun hc12 => ?_⟩
            · skip
              exfalso; omega
            · skip
              refine v_X11_share_0_16 ?_
              have f13 := ti_m1
              exact hQ _ _ hI
          · skip
            refine ⟨fun hc11 => ?_, fun hc11 => ?_⟩
            · skip
              refine Wp.deep (s_X0_waysNow_54_47 hG hI (fun M12 I12 => ?_)) (Nat.le_of_ble_eq_true rfl)
              refine ⟨by omega, ?_⟩
              refine v_X11_has ?_
              have f13 := dAndE (x := ((M12.1 60 x1.toNatClampNeg).toUInt32 >>> (x2.toUInt32 &&& Int32.toUInt32 31)).toInt32) (y := (1 : Int32)) (by decide)
              refine ⟨fun hc14 => ?_, fun hc14 => ?_⟩
              · skip
                have f15 := ti_0
                refine ⟨fun hc16 => ?_, fun hc16 => ?_⟩
                · skip
                  exact hQ _ _ I12
                · skip
                  exfalso; omega
              · skip
                refine ⟨fun hc15 => ?_, fun hc15 => ?_⟩
                · skip
                  exfalso; omega
                · skip
                  refine Wp.deep (s_X0_usesNow_54_47 hG I12 (fun R16 M16 I16 => ?_)) (Nat.le_of_ble_eq_true rfl)
                  refine Wp.deep (s_X0_ampsOf_54 hG I16 (by omega) (fun R17 => ?_)) (Nat.le_of_ble_eq_true rfl)
                  exact hQ _ _ I16
            · skip
              exfalso; omega
theorem s_X11_without_0 {g : gM} {x1 : Int32} {m : dM} {Q : Int32 → dM → Prop} (hG : Gd g) (hI : Inv g m) (hQ : ∀ r : Int32, Q r m) : c_X11_without_0 3 x1 m Q := by
  refine v_X11_without_0 ?_
  refine v_X11_isWire_0 ?_
  refine ⟨fun hc1 => ?_, fun hc1 => ?_⟩
  · skip
    refine v_X11_isWire_0_19 ?_
    have f2 := ti_0
    refine ⟨fun hc3 => ?_, fun hc3 => ?_⟩
    · skip
      have f4 := ti_m1
      exact hQ _
    · skip
      exfalso; omega
  · skip
    have f2 := congrArg Int32.toInt (hI.2 2 1 rfl)
    have f3 := Inv.s hG hI (k := 2) (j := 1) rfl rfl
    refine ⟨fun hc4 => ?_, fun hc4 => ?_⟩
    · skip
      refine v_X11_isWire_0_19 ?_
      have f5 := ti_0
      refine ⟨fun hc6 => ?_, fun hc6 => ?_⟩
      · skip
        have f7 := ti_m1
        exact hQ _
      · skip
        exfalso; omega
    · skip
      have f5 := ti_1
      refine ⟨fun hc6 => ?_, fun hc6 => ?_⟩
      · skip
        exfalso; omega
      · skip
        refine v_X3_allFlats_2 ?_
        have f7 := dShl10 (x := x1) (by omega) (by omega)
        refine Wp.deep (s_X3_litWithout_2 hG hI (fun R8 => ?_)) (Nat.le_of_ble_eq_true rfl)
        have f9 := congrArg Int32.toInt (hI.2 2 0 rfl)
        have f10 := Inv.s hG hI (k := 2) (j := 0) rfl rfl
        have f11 := dShl8 (x := (m.1 2 0)) (by omega) (by omega)
        have f12 := dSubE (X := ((1 : Int32) <<< ((m.1 2 0) &&& 31)).toInt) (Y := 1) (x := ((1 : Int32) <<< ((m.1 2 0) &&& 31))) (y := (1 : Int32)) rfl (by decide) (by omega) (by omega)
        exact hQ _
theorem s_X12_litBits_70_all {g : gM} {Q : Int32 → dM → Prop} {m : dM} (hG : Gd g) (hI : Inv g m) (hQ : ∀ r : Int32, Q r m) : ∀ n : Nat, (∀ (x1 : Int32) (x2 : Int32), (0 ≤ x2.toInt ∧ x2.toInt ≤ 7) → 15 - 2 * x2.toInt < (n : Int) → j_X12_litBits_70_4 2 x1 x2 m Q) ∧ (∀ (x1 : Int32) (x2 : Int32), (0 ≤ x2.toInt ∧ x2.toInt ≤ 6) → 14 - 2 * x2.toInt < (n : Int) → j_X12_litBits_70_31 2 x1 x2 m Q) := by
  intro n
  induction n with
  | zero => exact ⟨fun x1 x2 h2 hμ => by exfalso; omega, fun x1 x2 h2 hμ => by exfalso; omega⟩
  | succ n ih =>
    refine ⟨?_, ?_⟩
    · intro x1 x2 h2 hμ
      refine v_X12_litBits_70_4 ?_
      have f1 := congrArg Int32.toInt (hI.2 70 18 rfl)
      have f2 := Inv.s hG hI (k := 70) (j := 18) rfl rfl
      refine ⟨by omega, ?_⟩
      have f3 := Inv.cnt80 hG hI
      have f4 := Inv.s hG hI (k := 80) (j := (m.1 70 18).toNatClampNeg) rfl rfl
      refine ⟨fun hc5 => ?_, fun hc5 => ?_⟩
      · skip
        exact hQ _
      · skip
        refine v_X12_isLit_70 ?_
        refine ⟨by omega, ?_⟩
        refine ⟨fun hc6 => ?_, fun hc6 => ?_⟩
        · skip
          have f7 := ti_0
          refine ⟨fun hc8 => ?_, fun hc8 => ?_⟩
          · skip
            exact ih.2 _ _ (by omega) (by omega)
          · skip
            exfalso; omega
        · skip
          have f7 := ti_1
          refine ⟨fun hc8 => ?_, fun hc8 => ?_⟩
          · skip
            exfalso; omega
          · skip
            have f9 := dShl8 (x := x2) (by omega) (by omega)
            exact ih.2 _ _ (by omega) (by omega)
    · intro x1 x2 h2 hμ
      refine v_X12_litBits_70_31 ?_
      have f1 := dAddE (X := x2.toInt) (Y := 1) (x := x2) (y := (1 : Int32)) rfl (by decide) (by omega) (by omega)
      exact ih.1 _ _ (by omega) (by omega)
theorem s_X12_litBits_70 {g : gM} {m : dM} {Q : Int32 → dM → Prop} (hG : Gd g) (hI : Inv g m) (hQ : ∀ r : Int32, Q r m) : c_X12_litBits_70 2 m Q := by
  refine v_X12_litBits_70 ?_
  have f1 := ti_0
  exact (s_X12_litBits_70_all hG hI hQ 17).1 _ _ (by omega) (by omega)
theorem s_X12_darkBits_70 {g : gM} {m : dM} {Q : Int32 → dM → Prop} (hG : Gd g) (hI : Inv g m) (hQ : ∀ r : Int32, Q r m) : c_X12_darkBits_70 3 m Q := by
  refine v_X12_darkBits_70 ?_
  have f1 := congrArg Int32.toInt (hI.2 70 18 rfl)
  have f2 := Inv.s hG hI (k := 70) (j := 18) rfl rfl
  refine ⟨by omega, ?_⟩
  refine Wp.deep (s_X12_litBits_70 hG hI (fun R3 => ?_)) (Nat.le_of_ble_eq_true rfl)
  have f4 := Inv.cnt80 hG hI
  have f5 := Inv.s hG hI (k := 80) (j := (m.1 70 18).toNatClampNeg) rfl rfl
  have f6 := dShl8 (x := (m.1 80 (m.1 70 18).toNatClampNeg)) (by omega) (by omega)
  have f7 := dSubE (X := ((1 : Int32) <<< ((m.1 80 (m.1 70 18).toNatClampNeg) &&& 31)).toInt) (Y := 1) (x := ((1 : Int32) <<< ((m.1 80 (m.1 70 18).toNatClampNeg) &&& 31))) (y := (1 : Int32)) rfl (by decide) (by omega) (by omega)
  exact hQ _
theorem s_X11_needed_0_all {g : gM} {Q : Int32 → dM → Prop} {m : dM} (hG : Gd g) (hI : Inv g m) (hQ : ∀ r : Int32, Q r m) : ∀ n : Nat, (∀ (x1 : Int32) (x2 : Int32) (x3 : Int32), (0 ≤ x3.toInt ∧ x3.toInt ≤ 10) → 21 - 2 * x3.toInt < (n : Int) → j_X11_needed_0_19 3 x1 x2 x3 m Q) ∧ (∀ (x1 : Int32) (x2 : Int32) (x3 : Int32), (0 ≤ x3.toInt ∧ x3.toInt ≤ 9) → 20 - 2 * x3.toInt < (n : Int) → j_X11_needed_0_72 3 x1 x2 x3 m Q) := by
  intro n
  induction n with
  | zero => exact ⟨fun x1 x2 x3 h3 hμ => by exfalso; omega, fun x1 x2 x3 h3 hμ => by exfalso; omega⟩
  | succ n ih =>
    refine ⟨?_, ?_⟩
    · intro x1 x2 x3 h3 hμ
      refine v_X11_needed_0_19 ?_
      have f1 := congrArg Int32.toInt (hI.2 2 1 rfl)
      have f2 := Inv.s hG hI (k := 2) (j := 1) rfl rfl
      refine ⟨fun hc3 => ?_, fun hc3 => ?_⟩
      · skip
        exact hQ _
      · skip
        refine v_X11_has ?_
        have f4 := ti_1
        have f5 := dAndE (x := ((m.1 47 3).toUInt32 >>> (x3.toUInt32 &&& Int32.toUInt32 31)).toInt32) (y := (1 : Int32)) (by decide)
        refine ⟨fun hc6 => ?_, fun hc6 => ?_⟩
        · skip
          have f7 := ti_0
          refine ⟨fun hc8 => ?_, fun hc8 => ?_⟩
          · skip
            exfalso; omega
          · skip
            have f9 := dShl10 (x := x3) (by omega) (by omega)
            refine Wp.deep (s_X3_litWithout_2 hG hI (fun R10 => ?_)) (Nat.le_of_ble_eq_true rfl)
            refine ⟨fun hc11 => ?_, fun hc11 => ?_⟩
            · skip
              exact ih.2 _ _ _ (by omega) (by omega)
            · skip
              exact ih.2 _ _ _ (by omega) (by omega)
        · skip
          refine ⟨fun hc7 => ?_, fun hc7 => ?_⟩
          · skip
            exact ih.2 _ _ _ (by omega) (by omega)
          · skip
            exfalso; omega
    · intro x1 x2 x3 h3 hμ
      refine v_X11_needed_0_72 ?_
      have f1 := dAddE (X := x3.toInt) (Y := 1) (x := x3) (y := (1 : Int32)) rfl (by decide) (by omega) (by omega)
      exact ih.1 _ _ _ (by omega) (by omega)
theorem s_X11_needed_0 {g : gM} {m : dM} {Q : Int32 → dM → Prop} (hG : Gd g) (hI : Inv g m) (hQ : ∀ r : Int32, Q r m) : c_X11_needed_0 3 m Q := by
  refine v_X11_needed_0 ?_
  refine Wp.deep (s_X3_litWithout_2 hG hI (fun R1 => ?_)) (Nat.le_of_ble_eq_true rfl)
  have f2 := ti_0
  exact (s_X11_needed_0_all hG hI hQ 23).1 _ _ _ (by omega) (by omega)
theorem s_X11_hottest_0_all {g : gM} {Q : Int32 → dM → Prop} (hG : Gd g) (hQ : ∀ (r : Int32) (m' : dM), Inv g m' → Q r m') : ∀ n : Nat, (∀ (m : dM), Inv g m → 0 < (n : Int) → j_X11_hottest_0_9 5 m Q) ∧ (∀ (x1 : Int32) (x2 : Int32) (x3 : Int32) (x4 : Int32) (m : dM), Inv g m → (0 ≤ x1.toInt ∧ x1.toInt ≤ 1) → (-1 ≤ x2.toInt ∧ x2.toInt ≤ 9) → (0 ≤ x4.toInt ∧ x4.toInt ≤ 10) → 33 - 3 * x4.toInt < (n : Int) → j_X11_hottest_0_42 5 x1 x2 x3 x4 m Q) ∧ (∀ (x1 : Int32) (x4 : Int32) (x5 : Int32) (m : dM), Inv g m → (0 ≤ x1.toInt ∧ x1.toInt ≤ 1) → (0 ≤ x4.toInt ∧ x4.toInt ≤ 9) → 32 - 3 * x4.toInt < (n : Int) → j_X11_hottest_0_103 5 x1 x4 x5 m Q) ∧ (∀ (x1 : Int32) (x2 : Int32) (x3 : Int32) (x4 : Int32) (m : dM), Inv g m → (0 ≤ x1.toInt ∧ x1.toInt ≤ 1) → (-1 ≤ x2.toInt ∧ x2.toInt ≤ 9) → (0 ≤ x4.toInt ∧ x4.toInt ≤ 9) → 31 - 3 * x4.toInt < (n : Int) → j_X11_hottest_0_109 5 x1 x2 x3 x4 m Q) := by
  intro n
  induction n with
  | zero => exact ⟨fun m hI hμ => by exfalso; omega, fun x1 x2 x3 x4 m hI h1 h2 h4 hμ => by exfalso; omega, fun x1 x4 x5 m hI h1 h4 hμ => by exfalso; omega, fun x1 x2 x3 x4 m hI h1 h2 h4 hμ => by exfalso; omega⟩
  | succ n ih =>
    refine ⟨?_, ?_, ?_, ?_⟩
    · intro m hI hμ
      refine v_X11_hottest_0_9 ?_
      have f1 := ti_m1000
      exact hQ _ _ hI
    · intro x1 x2 x3 x4 m hI h1 h2 h4 hμ
      refine v_X11_hottest_0_42 ?_
      have f1 := congrArg Int32.toInt (hI.2 2 1 rfl)
      have f2 := Inv.s hG hI (k := 2) (j := 1) rfl rfl
      refine ⟨fun hc3 => ?_, fun hc3 => ?_⟩
      · skip
        refine ⟨fun hc4 => ?_, fun hc4 => ?_⟩
        · skip
          refine ⟨fun hc5 => ?_, fun hc5 => ?_⟩
          · skip
            exact hQ _ _ hI
          · skip
            exact hQ _ _ hI
        · skip
          have f5 := ti_m2000
          exact hQ _ _ hI
      · skip
        refine ⟨by omega, ?_⟩
        refine ⟨by omega, ?_⟩
        refine v_X11_has ?_
        have f4 := ti_1
        have f5 := dAndE (x := ((m.1 47 3).toUInt32 >>> (x4.toUInt32 &&& Int32.toUInt32 31)).toInt32) (y := (1 : Int32)) (by decide)
        refine ⟨fun hc6 => ?_, fun hc6 => ?_⟩
        · skip
          have f7 := ti_0
          refine ⟨fun hc8 => ?_, fun hc8 => ?_⟩
          · skip
            exfalso; omega
          · skip
            refine ⟨fun hc9 => ?_, fun hc9 => ?_⟩
            · skip
              exact ih.2.2.1 _ _ _ _ hI (by omega) (by omega) (by omega)
            · skip
              refine ⟨fun hc10 => ?_, fun hc10 => ?_⟩
              · skip
                exact ih.2.2.2 _ _ _ _ _ hI (by omega) (by omega) (by omega) (by omega)
              · skip
                exact ih.2.2.1 _ _ _ _ hI (by omega) (by omega) (by omega)
        · skip
          refine ⟨fun hc7 => ?_, fun hc7 => ?_⟩
          · skip
            exact ih.2.2.2 _ _ _ _ _ hI (by omega) (by omega) (by omega) (by omega)
          · skip
            exfalso; omega
    · intro x1 x4 x5 m hI h1 h4 hμ
      refine v_X11_hottest_0_103 ?_
      exact ih.2.2.2 _ _ _ _ _ hI (by omega) (by omega) (by omega) (by omega)
    · intro x1 x2 x3 x4 m hI h1 h2 h4 hμ
      refine v_X11_hottest_0_109 ?_
      have f1 := dAddE (X := x4.toInt) (Y := 1) (x := x4) (y := (1 : Int32)) rfl (by decide) (by omega) (by omega)
      exact ih.2.1 _ _ _ _ _ hI (by omega) (by omega) (by omega) (by omega)
theorem s_X11_hottest_0 {g : gM} {x1 : Int32} {m : dM} {Q : Int32 → dM → Prop} (hG : Gd g) (hI : Inv g m) (hQ : ∀ (r : Int32) (m' : dM), Inv g m' → Q r m') : c_X11_hottest_0 5 x1 m Q := by
  refine v_X11_hottest_0 ?_
  refine ⟨fun hc1 => ?_, fun hc1 => ?_⟩
  · skip
    exact (s_X11_hottest_0_all hG hQ 35).1 _ hI (by omega)
  · skip
    refine ⟨fun hc2 => ?_, fun hc2 => ?_⟩
    · skip
      refine Wp.deep (s_X0_usesNow_54_47 hG hI (fun R3 M3 I3 => ?_)) (Nat.le_of_ble_eq_true rfl)
      refine Wp.deep (s_X0_putOn_54_47 hG I3 (fun M4 I4 => ?_)) (Nat.le_of_ble_eq_true rfl)
      have f5 := ti_m1
      have f6 := ti_0
      exact (s_X11_hottest_0_all hG hQ 35).2.1 _ _ _ _ _ I4 (by omega) (by omega) (by omega) (by omega)
    · skip
      exact (s_X11_hottest_0_all hG hQ 35).1 _ hI (by omega)
end
section
theorem s_X1_clashOf_61_47 {g : gM} {x2 : Int32} {x3 : Int32} {m : dM} {Q : Int32 → dM → Prop} (hG : Gd g) (hI : Inv g m) (h2 : 0 ≤ x2.toInt ∧ x2.toInt ≤ 7) (h3 : 0 ≤ x3.toInt ∧ x3.toInt ≤ 7) (hb2 : x2.toInt < (g 2 2).toInt) (hb3 : x3.toInt < (g 2 2).toInt) (hQ : ∀ (r : Int32) (m' : dM), Inv g m' → (0 ≤ r.toInt ∧ r.toInt ≤ 63) → Q r m') : c_X1_clashOf_61_47 6 x2 x3 m Q := by
  refine v_X1_clashOf_61_47 ?_
  refine Wp.deep (s_X0_waysNow_54_47 hG hI (fun M1 I1 => ?_)) (Nat.le_of_ble_eq_true rfl)
  refine ⟨by omega, ?_⟩
  refine v_X11_has ?_
  have f2 := congrArg Int32.toInt (I1.2 2 2 rfl)
  have f3 := Inv.s hG I1 (k := 2) (j := 2) rfl rfl
  have f4 := Inv.home hG I1 (u := x2) (by omega) (by omega)
  have f5 := ti_1
  have f6 := dAndE (x := ((M1.1 57 5).toUInt32 >>> ((M1.1 7 x2.toNatClampNeg).toUInt32 &&& Int32.toUInt32 31)).toInt32) (y := (1 : Int32)) (by decide)
  refine ⟨fun hc7 => ?_, fun hc7 => ?_⟩
  · skip
    have f8 := ti_0
    refine ⟨fun hc9 => ?_, fun hc9 => ?_⟩
    · skip
      refine v_X1_clashOf_61_47_47 ?_
      exact hQ _ _ I1 (by omega)
    · skip
      exfalso; omega
  · skip
    refine ⟨fun hc8 => ?_, fun hc8 => ?_⟩
    · skip
      exfalso; omega
    · skip
      refine ⟨by omega, ?_⟩
      refine v_X11_has ?_
      have f9 := Inv.home hG I1 (u := x3) (by omega) (by omega)
      have f10 := dAndE (x := ((M1.1 57 5).toUInt32 >>> ((M1.1 7 x3.toNatClampNeg).toUInt32 &&& Int32.toUInt32 31)).toInt32) (y := (1 : Int32)) (by decide)
      refine ⟨fun hc11 => ?_, fun hc11 => ?_⟩
      · skip
        have f12 := ti_0
        refine ⟨fun hc13 => ?_, fun hc13 => ?_⟩
        · skip
          exfalso; omega
        · skip
          refine v_X1_clashOf_61_47_47 ?_
          exact hQ _ _ I1 (by omega)
      · skip
        refine ⟨fun hc12 => ?_, fun hc12 => ?_⟩
        · skip
          have f13 := dShl8 (x := x2) (by omega) (by omega)
          refine Wp.deep (s_X0_goingWith_54_47 hG I1 (fun R14 M14 I14 => ?_)) (Nat.le_of_ble_eq_true rfl)
          have f15 := dShl8 (x := x3) (by omega) (by omega)
          refine Wp.deep (s_X0_goingWith_54_47 hG I14 (fun R16 M16 I16 => ?_)) (Nat.le_of_ble_eq_true rfl)
          refine Wp.deep (s_X0_goingWith_54_47 hG I16 (fun R17 M17 I17 => ?_)) (Nat.le_of_ble_eq_true rfl)
          refine Wp.deep (s_J6_bitCount hG I17 (fun R18 hr18 => ?_)) (Nat.le_of_ble_eq_true rfl)
          exact hQ _ _ I17 (by omega)
        · skip
          exfalso; omega
theorem s_X11_clash_0 {g : gM} {x1 : Int32} {x2 : Int32} {m : dM} {Q : Int32 → dM → Prop} (hG : Gd g) (hI : Inv g m) (hQ : ∀ (r : Int32) (m' : dM), Inv g m' → (-1 ≤ r.toInt ∧ r.toInt ≤ 63) → Q r m') : c_X11_clash_0 7 x1 x2 m Q := by
  refine v_X11_clash_0 ?_
  refine v_X11_isUse_0 ?_
  refine ⟨fun hc1 => ?_, fun hc1 => ?_⟩
  · skip
    refine v_X11_isUse_0_19 ?_
    have f2 := ti_0
    refine ⟨fun hc3 => ?_, fun hc3 => ?_⟩
    · skip
      refine v_X11_clash_0_37 ?_
      have f4 := ti_m1
      exact hQ _ _ hI (by omega)
    · skip
      exfalso; omega
  · skip
    have f2 := congrArg Int32.toInt (hI.2 2 2 rfl)
    have f3 := Inv.s hG hI (k := 2) (j := 2) rfl rfl
    refine ⟨fun hc4 => ?_, fun hc4 => ?_⟩
    · skip
      refine v_X11_isUse_0_19 ?_
      have f5 := ti_0
      refine ⟨fun hc6 => ?_, fun hc6 => ?_⟩
      · skip
        refine v_X11_clash_0_37 ?_
        have f7 := ti_m1
        exact hQ _ _ hI (by omega)
      · skip
        exfalso; omega
    · skip
      have f5 := ti_1
      refine ⟨fun hc6 => ?_, fun hc6 => ?_⟩
      · skip
        exfalso; omega
      · skip
        refine v_X11_isUse_0 ?_
        refine ⟨fun hc7 => ?_, fun hc7 => ?_⟩
        · skip
          refine v_X11_isUse_0_19 ?_
          have f8 := ti_0
          refine ⟨fun hc9 => ?_, fun hc9 => ?_⟩
          · skip
            refine v_X11_clash_0_37 ?_
            have f10 := ti_m1
            exact hQ _ _ hI (by omega)
          · skip
            exfalso; omega
        · skip
          refine ⟨fun hc8 => ?_, fun hc8 => ?_⟩
          · skip
            refine v_X11_isUse_0_19 ?_
            have f9 := ti_0
            refine ⟨fun hc10 => ?_, fun hc10 => ?_⟩
            · skip
              refine v_X11_clash_0_37 ?_
              have f11 := ti_m1
              exact hQ _ _ hI (by omega)
            · skip
              exfalso; omega
          · skip
            refine ⟨fun hc9 => ?_, fun hc9 => ?_⟩
            · skip
              exfalso; omega
            · skip
              refine ⟨fun hc10 => ?_, fun hc10 => ?_⟩
              · skip
                refine v_X11_clash_0_37 ?_
                have f11 := ti_m1
                exact hQ _ _ hI (by omega)
              · skip
                refine Wp.deep (s_X1_clashOf_61_47 hG hI (by omega) (by omega) (by omega) (by omega) (fun R11 M11 I11 hr11 => ?_)) (Nat.le_of_ble_eq_true rfl)
                exact hQ _ _ I11 (by omega)
theorem s_X0_payOf_54_62 {g : gM} {x2 : Int32} {m : dM} {Q : Int32 → dM → Prop} (hG : Gd g) (hI : Inv g m) (h2 : 0 ≤ x2.toInt ∧ x2.toInt ≤ 7) (hQ : ∀ (r : Int32) (m' : dM), Inv g m' → (0 ≤ r.toInt ∧ r.toInt ≤ 99) → Q r m') : c_X0_payOf_54_62 4 x2 m Q := by
  refine v_X0_payOf_54_62 ?_
  refine v_X7_hourOfDay_62 ?_
  refine v_X7_day_62 ?_
  have f1 := dRemE (x := (m.1 62 0)) (y := (24 : Int32)) (Y := 24) (by decide) (by decide)
  refine Wp.deep (s_X0_setVars_54 hG hI (by omega) (by omega) (fun M2 I2 => ?_)) (Nat.le_of_ble_eq_true rfl)
  refine ⟨by omega, ?_⟩
  have f3 := ti_3
  have I4 : Inv g (dSet M2 55 5 (M2.1 8 x2.toNatClampNeg)) := (Inv.setA I2 rfl)
  refine Wp.deep (s_X4_tells_11_55 hG I4 (by omega) (fun R5 M5 I5 => ?_)) (Nat.le_of_ble_eq_true rfl)
  refine Wp.deep (s_X0_held hG I5 (fun R6 hr6 => ?_)) (Nat.le_of_ble_eq_true rfl)
  exact hQ _ _ I5 (by omega)
theorem s_X0_takePay_54_62_all {g : gM} {Q : dM → Prop} (hG : Gd g) (hQ : ∀ m' : dM, Inv g m' → Q m') : ∀ n : Nat, (∀ (x2 : Int32) (x3 : Int32) (m : dM), Inv g m → (0 ≤ x3.toInt ∧ x3.toInt ≤ 8) → 17 - 2 * x3.toInt < (n : Int) → j_X0_takePay_54_62_12 5 x2 x3 m Q) ∧ (∀ (x2 : Int32) (x3 : Int32) (m : dM), Inv g m → (0 ≤ x3.toInt ∧ x3.toInt ≤ 7) → 16 - 2 * x3.toInt < (n : Int) → j_X0_takePay_54_62_51 5 x2 x3 m Q) := by
  intro n
  induction n with
  | zero => exact ⟨fun x2 x3 m hI h3 hμ => by exfalso; omega, fun x2 x3 m hI h3 hμ => by exfalso; omega⟩
  | succ n ih =>
    refine ⟨?_, ?_⟩
    · intro x2 x3 m hI h3 hμ
      refine v_X0_takePay_54_62_12 ?_
      have f1 := congrArg Int32.toInt (hI.2 2 2 rfl)
      have f2 := Inv.s hG hI (k := 2) (j := 2) rfl rfl
      refine ⟨fun hc3 => ?_, fun hc3 => ?_⟩
      · skip
        exact hQ _ hI
      · skip
        refine v_X11_has ?_
        have f4 := ti_1
        have f5 := dAndE (x := (x2.toUInt32 >>> (x3.toUInt32 &&& Int32.toUInt32 31)).toInt32) (y := (1 : Int32)) (by decide)
        refine ⟨fun hc6 => ?_, fun hc6 => ?_⟩
        · skip
          have f7 := ti_0
          refine ⟨fun hc8 => ?_, fun hc8 => ?_⟩
          · skip
            exact ih.2 _ _ _ hI (by omega) (by omega)
          · skip
            exfalso; omega
        · skip
          refine ⟨fun hc7 => ?_, fun hc7 => ?_⟩
          · skip
            exfalso; omega
          · skip
            refine Wp.deep (s_X0_payOf_54_62 hG hI (by omega) (fun R8 M8 I8 hr8 => ?_)) (Nat.le_of_ble_eq_true rfl)
            have I9 : Inv g (dSet M8 62 1 (if ((m.1 62 1) + R8) < (99999 : Int32) then ((m.1 62 1) + R8) else (99999 : Int32))) := (Inv.setA I8 rfl)
            exact ih.2 _ _ _ I9 (by omega) (by omega)
    · intro x2 x3 m hI h3 hμ
      refine v_X0_takePay_54_62_51 ?_
      have f1 := dAddE (X := x3.toInt) (Y := 1) (x := x3) (y := (1 : Int32)) rfl (by decide) (by omega) (by omega)
      exact ih.1 _ _ _ hI (by omega) (by omega)
theorem s_X0_takePay_54_62 {g : gM} {m : dM} {Q : dM → Prop} (hG : Gd g) (hI : Inv g m) (hQ : ∀ m' : dM, Inv g m' → Q m') : c_X0_takePay_54_62 5 m Q := by
  refine v_X0_takePay_54_62 ?_
  refine v_X7_hourOfDay_62 ?_
  have f1 := dRemE (x := (m.1 62 0)) (y := (24 : Int32)) (Y := 24) (by decide) (by decide)
  refine Wp.deep (s_X0_usesAt_54_62 hG hI (by omega) (fun R2 M2 I2 => ?_)) (Nat.le_of_ble_eq_true rfl)
  have f3 := ti_0
  exact (s_X0_takePay_54_62_all hG hQ 19).1 _ _ _ I2 (by omega) (by omega)
theorem s_X0_quarrelOf_54_62 {g : gM} {x2 : Int32} {m : dM} {Q : Int32 → dM → Prop} (hG : Gd g) (hI : Inv g m) (h2 : 0 ≤ x2.toInt ∧ x2.toInt ≤ 6) (hQ : ∀ (r : Int32) (m' : dM), Inv g m' → (0 ≤ r.toInt ∧ r.toInt ≤ 99) → Q r m') : c_X0_quarrelOf_54_62 4 x2 m Q := by
  refine v_X0_quarrelOf_54_62 ?_
  refine v_X7_hourOfDay_62 ?_
  refine v_X7_day_62 ?_
  have f1 := dRemE (x := (m.1 62 0)) (y := (24 : Int32)) (Y := 24) (by decide) (by decide)
  refine Wp.deep (s_X0_setVars_54 hG hI (by omega) (by omega) (fun M2 I2 => ?_)) (Nat.le_of_ble_eq_true rfl)
  refine ⟨by omega, ?_⟩
  refine ⟨by omega, ?_⟩
  have f3 := ti_1
  have I4 : Inv g (dSet M2 55 6 (M2.1 3 x2.toNatClampNeg)) := (Inv.setA I2 rfl)
  have I5 : Inv g (dSet (dSet M2 55 6 (M2.1 3 x2.toNatClampNeg)) 55 7 (M2.1 65 x2.toNatClampNeg)) := (Inv.setA I4 rfl)
  refine Wp.deep (s_X4_tells_11_55 hG I5 (by omega) (fun R6 M6 I6 => ?_)) (Nat.le_of_ble_eq_true rfl)
  refine Wp.deep (s_X0_held hG I6 (fun R7 hr7 => ?_)) (Nat.le_of_ble_eq_true rfl)
  exact hQ _ _ I6 (by omega)
theorem s_X0_countQuarrels_54_62_all {g : gM} {Q : dM → Prop} (hG : Gd g) (hQ : ∀ m' : dM, Inv g m' → Q m') : ∀ n : Nat, (∀ (x2 : Int32) (m : dM), Inv g m → (0 ≤ x2.toInt ∧ x2.toInt ≤ 7) → 15 - 2 * x2.toInt < (n : Int) → j_X0_countQuarrels_54_62_13 5 x2 m Q) ∧ (∀ (x2 : Int32) (m : dM), Inv g m → (0 ≤ x2.toInt ∧ x2.toInt ≤ 6) → 14 - 2 * x2.toInt < (n : Int) → j_X0_countQuarrels_54_62_78 5 x2 m Q) := by
  intro n
  induction n with
  | zero => exact ⟨fun x2 m hI h2 hμ => by exfalso; omega, fun x2 m hI h2 hμ => by exfalso; omega⟩
  | succ n ih =>
    refine ⟨?_, ?_⟩
    · intro x2 m hI h2 hμ
      refine v_X0_countQuarrels_54_62_13 ?_
      have f1 := congrArg Int32.toInt (hI.2 2 0 rfl)
      have f2 := Inv.s hG hI (k := 2) (j := 0) rfl rfl
      refine ⟨fun hc3 => ?_, fun hc3 => ?_⟩
      · skip
        exact hQ _ hI
      · skip
        refine v_X11_has ?_
        have f4 := ti_1
        have f5 := dAndE (x := ((m.1 57 5).toUInt32 >>> (x2.toUInt32 &&& Int32.toUInt32 31)).toInt32) (y := (1 : Int32)) (by decide)
        refine ⟨fun hc6 => ?_, fun hc6 => ?_⟩
        · skip
          have f7 := ti_0
          refine ⟨fun hc8 => ?_, fun hc8 => ?_⟩
          · skip
            refine Wp.deep (s_X0_quarrelOf_54_62 hG hI (by omega) (fun R9 M9 I9 hr9 => ?_)) (Nat.le_of_ble_eq_true rfl)
            refine ⟨by omega, ?_⟩
            refine ⟨by omega, ?_⟩
            have I10 : Inv g (dSet M9 62 2 (if ((m.1 62 2) + R9) < (999999 : Int32) then ((m.1 62 2) + R9) else (999999 : Int32))) := (Inv.setA I9 rfl)
            have I11 : Inv g (dSet (dSet M9 62 2 (if ((m.1 62 2) + R9) < (999999 : Int32) then ((m.1 62 2) + R9) else (999999 : Int32))) 65 x2.toNatClampNeg ((M9.1 65 x2.toNatClampNeg) + (1 : Int32))) := (Inv.setA I10 rfl)
            exact ih.2 _ _ I11 (by omega) (by omega)
          · skip
            exfalso; omega
        · skip
          refine ⟨fun hc7 => ?_, fun hc7 => ?_⟩
          · skip
            exfalso; omega
          · skip
            refine ⟨by omega, ?_⟩
            have I8 : Inv g (dSet m 65 x2.toNatClampNeg (0 : Int32)) := (Inv.setA hI rfl)
            exact ih.2 _ _ I8 (by omega) (by omega)
    · intro x2 m hI h2 hμ
      refine v_X0_countQuarrels_54_62_78 ?_
      have f1 := dAddE (X := x2.toInt) (Y := 1) (x := x2) (y := (1 : Int32)) rfl (by decide) (by omega) (by omega)
      exact ih.1 _ _ hI (by omega) (by omega)
theorem s_X0_countQuarrels_54_62 {g : gM} {m : dM} {Q : dM → Prop} (hG : Gd g) (hI : Inv g m) (hQ : ∀ m' : dM, Inv g m' → Q m') : c_X0_countQuarrels_54_62 5 m Q := by
  refine v_X0_countQuarrels_54_62 ?_
  refine Wp.deep (s_X10_lay_57 hG hI (fun M1 I1 => ?_)) (Nat.le_of_ble_eq_true rfl)
  have f2 := ti_0
  exact (s_X0_countQuarrels_54_62_all hG hQ 17).1 _ _ I1 (by omega) (by omega)
theorem s_X0_passHour_54_62 {g : gM} {m : dM} {Q : dM → Prop} (hG : Gd g) (hI : Inv g m) (hQ : ∀ m' : dM, Inv g m' → Q m') : c_X0_passHour_54_62 6 m Q := by
  refine v_X0_passHour_54_62 ?_
  refine Wp.deep (s_X0_takePay_54_62 hG hI (fun M1 I1 => ?_)) (Nat.le_of_ble_eq_true rfl)
  refine Wp.deep (s_X0_countQuarrels_54_62 hG I1 (fun M2 I2 => ?_)) (Nat.le_of_ble_eq_true rfl)
  have f3 := congrArg Int32.toInt (I2.2 2 6 rfl)
  refine Wp.deep (s_X0_surgeOf_54 hG I2 (fun R4 => ?_)) (Nat.le_of_ble_eq_true rfl)
  refine Wp.deep (s_X0_passWires_54_62 hG I2 (fun R5 M5 I5 => ?_)) (Nat.le_of_ble_eq_true rfl)
  exact hQ _ I5
theorem s_X1_after_61_47_all {g : gM} {Q : dM → Prop} (hG : Gd g) (hQ : ∀ m' : dM, Inv g m' → Q m') : ∀ n : Nat, (∀ (x2 : Int32) (x3 : Int32) (m : dM), Inv g m → (0 ≤ x2.toInt ∧ x2.toInt ≤ 72) → (0 ≤ x3.toInt ∧ x3.toInt ≤ 72) → 72 - 1 * x3.toInt < (n : Int) → j_X1_after_61_47_10 7 x2 x3 m Q) := by
  intro n
  induction n with
  | zero => exact fun x2 x3 m hI h2 h3 hμ => by exfalso; omega
  | succ n ih =>
    · intro x2 x3 m hI h2 h3 hμ
      refine v_X1_after_61_47_10 ?_
      refine ⟨fun hc1 => ?_, fun hc1 => ?_⟩
      · skip
        exact hQ _ hI
      · skip
        refine Wp.deep (s_X0_passHour_54_62 hG hI (fun M2 I2 => ?_)) (Nat.le_of_ble_eq_true rfl)
        have f3 := dAddE (X := x3.toInt) (Y := 1) (x := x3) (y := (1 : Int32)) rfl (by decide) (by omega) (by omega)
        exact ih _ _ _ I2 (by omega) (by omega) (by omega)
theorem s_X1_after_61_47 {g : gM} {x2 : Int32} {m : dM} {Q : dM → Prop} (hG : Gd g) (hI : Inv g m) (h2 : 0 ≤ x2.toInt ∧ x2.toInt ≤ 72) (hQ : ∀ m' : dM, Inv g m' → Q m') : c_X1_after_61_47 7 x2 m Q := by
  refine v_X1_after_61_47 ?_
  refine Wp.deep (s_X7_copy_62_47 hG hI (fun M1 I1 => ?_)) (Nat.le_of_ble_eq_true rfl)
  have f2 := ti_0
  exact (s_X1_after_61_47_all hG hQ 74) _ _ _ I1 (by omega) (by omega) (by omega)
theorem s_X11_then_0 {g : gM} {x1 : Int32} {x2 : Int32} {m : dM} {Q : Int32 → dM → Prop} (hG : Gd g) (hI : Inv g m) (hQ : ∀ (r : Int32) (m' : dM), Inv g m' → Q r m') : c_X11_then_0 8 x1 x2 m Q := by
  refine v_X11_then_0 ?_
  refine ⟨fun hc1 => ?_, fun hc1 => ?_⟩
  · skip
    refine v_X11_then_0_19 ?_
    have f2 := ti_m1
    exact hQ _ _ hI
  · skip
    refine ⟨fun hc2 => ?_, fun hc2 => ?_⟩
    · skip
      refine v_X11_then_0_19 ?_
      have f3 := ti_m1
      exact hQ _ _ hI
    · skip
      refine ⟨fun hc3 => ?_, fun hc3 => ?_⟩
      · skip
        refine v_X11_then_0_19 ?_
        have f4 := ti_m1
        exact hQ _ _ hI
      · skip
        refine ⟨fun hc4 => ?_, fun hc4 => ?_⟩
        · skip
          refine Wp.deep (s_X1_after_61_47 hG hI (by omega) (fun M5 I5 => ?_)) (Nat.le_of_ble_eq_true rfl)
          refine ⟨fun hc6 => ?_, fun hc6 => ?_⟩
          · skip
            refine ⟨fun hc7 => ?_, fun hc7 => ?_⟩
            · skip
              refine Wp.deep (s_J6_bitCount hG I5 (fun R8 hr8 => ?_)) (Nat.le_of_ble_eq_true rfl)
              exact hQ _ _ I5
            · skip
              exact hQ _ _ I5
          · skip
            exact hQ _ _ I5
        · skip
          refine v_X11_then_0_19 ?_
          have f5 := ti_m1
          exact hQ _ _ hI
theorem s_X11_litIn_0 {g : gM} {x1 : Int32} {x2 : Int32} {m : dM} {Q : Int32 → dM → Prop} (hG : Gd g) (hI : Inv g m) (hQ : ∀ (r : Int32) (m' : dM), Inv g m' → (-1 ≤ r.toInt ∧ r.toInt ≤ 1) → Q r m') : c_X11_litIn_0 8 x1 x2 m Q := by
  refine v_X11_litIn_0 ?_
  refine v_X11_isFlat_0 ?_
  refine ⟨fun hc1 => ?_, fun hc1 => ?_⟩
  · skip
    refine v_X11_isFlat_0_19 ?_
    have f2 := ti_0
    refine ⟨fun hc3 => ?_, fun hc3 => ?_⟩
    · skip
      refine v_X11_litIn_0_18 ?_
      have f4 := ti_m1
      exact hQ _ _ hI (by omega)
    · skip
      exfalso; omega
  · skip
    have f2 := congrArg Int32.toInt (hI.2 2 0 rfl)
    have f3 := Inv.s hG hI (k := 2) (j := 0) rfl rfl
    refine ⟨fun hc4 => ?_, fun hc4 => ?_⟩
    · skip
      refine v_X11_isFlat_0_19 ?_
      have f5 := ti_0
      refine ⟨fun hc6 => ?_, fun hc6 => ?_⟩
      · skip
        refine v_X11_litIn_0_18 ?_
        have f7 := ti_m1
        exact hQ _ _ hI (by omega)
      · skip
        exfalso; omega
    · skip
      have f5 := ti_1
      refine ⟨fun hc6 => ?_, fun hc6 => ?_⟩
      · skip
        exfalso; omega
      · skip
        refine ⟨fun hc7 => ?_, fun hc7 => ?_⟩
        · skip
          refine v_X11_litIn_0_18 ?_
          have f8 := ti_m1
          exact hQ _ _ hI (by omega)
        · skip
          refine ⟨fun hc8 => ?_, fun hc8 => ?_⟩
          · skip
            refine Wp.deep (s_X1_after_61_47 hG hI (by omega) (fun M9 I9 => ?_)) (Nat.le_of_ble_eq_true rfl)
            refine Wp.deep (s_X3_litWithout_2 hG I9 (fun R10 => ?_)) (Nat.le_of_ble_eq_true rfl)
            refine v_X11_has ?_
            have f11 := dAndE (x := (R10.toUInt32 >>> (x1.toUInt32 &&& Int32.toUInt32 31)).toInt32) (y := (1 : Int32)) (by decide)
            refine ⟨fun hc12 => ?_, fun hc12 => ?_⟩
            · skip
              have f13 := ti_0
              refine ⟨fun hc14 => ?_, fun hc14 => ?_⟩
              · skip
                exact hQ _ _ I9 (by omega)
              · skip
                exfalso; omega
            · skip
              refine ⟨fun hc13 => ?_, fun hc13 => ?_⟩
              · skip
                exfalso; omega
              · skip
                exact hQ _ _ I9 (by omega)
          · skip
            refine v_X11_litIn_0_18 ?_
            have f9 := ti_m1
            exact hQ _ _ hI (by omega)
theorem s_X1_isCalm_61_47_all {g : gM} {Q : Int32 → dM → Prop} (hG : Gd g) (hQ : ∀ (r : Int32) (m' : dM), Inv g m' → (0 ≤ r.toInt ∧ r.toInt ≤ 1) → Q r m') : ∀ n : Nat, (∀ (x2 : Int32) (x3 : Int32) (x4 : Int32) (m : dM), Inv g m → (0 ≤ x2.toInt ∧ x2.toInt ≤ 72) → (0 ≤ x4.toInt ∧ x4.toInt ≤ 72) → 72 - 1 * x4.toInt < (n : Int) → j_X1_isCalm_61_47_11 6 x2 x3 x4 m Q) := by
  intro n
  induction n with
  | zero => exact fun x2 x3 x4 m hI h2 h4 hμ => by exfalso; omega
  | succ n ih =>
    · intro x2 x3 x4 m hI h2 h4 hμ
      refine v_X1_isCalm_61_47_11 ?_
      refine ⟨fun hc1 => ?_, fun hc1 => ?_⟩
      · skip
        have f2 := ti_1
        exact hQ _ _ hI (by omega)
      · skip
        refine Wp.deep (s_X0_surgeOf_54 hG hI (fun R2 => ?_)) (Nat.le_of_ble_eq_true rfl)
        refine Wp.deep (s_X0_passWires_54_62 hG hI (fun R3 M3 I3 => ?_)) (Nat.le_of_ble_eq_true rfl)
        refine ⟨fun hc4 => ?_, fun hc4 => ?_⟩
        · skip
          have f5 := dAddE (X := x4.toInt) (Y := 1) (x := x4) (y := (1 : Int32)) rfl (by decide) (by omega) (by omega)
          exact ih _ _ _ _ I3 (by omega) (by omega) (by omega)
        · skip
          have f5 := ti_0
          exact hQ _ _ I3 (by omega)
theorem s_X1_isCalm_61_47 {g : gM} {x2 : Int32} {x3 : Int32} {m : dM} {Q : Int32 → dM → Prop} (hG : Gd g) (hI : Inv g m) (h2 : 0 ≤ x2.toInt ∧ x2.toInt ≤ 72) (hQ : ∀ (r : Int32) (m' : dM), Inv g m' → (0 ≤ r.toInt ∧ r.toInt ≤ 1) → Q r m') : c_X1_isCalm_61_47 6 x2 x3 m Q := by
  refine v_X1_isCalm_61_47 ?_
  refine Wp.deep (s_X7_copy_62_47 hG hI (fun M1 I1 => ?_)) (Nat.le_of_ble_eq_true rfl)
  have f2 := ti_0
  exact (s_X1_isCalm_61_47_all hG hQ 74) _ _ _ _ I1 (by omega) (by omega) (by omega)
theorem s_X1_calmSeeds_61_47_all {g : gM} {Q : Int32 → dM → Prop} (hG : Gd g) (hQ : ∀ (r : Int32) (m' : dM), Inv g m' → Q r m') : ∀ n : Nat, (∀ (x2 : Int32) (x3 : Int32) (x4 : Int32) (x5 : Int32) (m : dM), Inv g m → (0 ≤ x2.toInt ∧ x2.toInt ≤ 72) → (1 ≤ x3.toInt ∧ x3.toInt ≤ 20) → (0 ≤ x5.toInt ∧ x5.toInt ≤ 20) → 20 - 1 * x5.toInt < (n : Int) → j_X1_calmSeeds_61_47_6 7 x2 x3 x4 x5 m Q) := by
  intro n
  induction n with
  | zero => exact fun x2 x3 x4 x5 m hI h2 h3 h5 hμ => by exfalso; omega
  | succ n ih =>
    · intro x2 x3 x4 x5 m hI h2 h3 h5 hμ
      refine v_X1_calmSeeds_61_47_6 ?_
      refine ⟨fun hc1 => ?_, fun hc1 => ?_⟩
      · skip
        exact hQ _ _ hI
      · skip
        have f2 := congrArg Int32.toInt (hI.2 2 6 rfl)
        refine Wp.deep (s_X1_isCalm_61_47 hG hI (by omega) (fun R3 M3 I3 hr3 => ?_)) (Nat.le_of_ble_eq_true rfl)
        refine ⟨fun hc4 => ?_, fun hc4 => ?_⟩
        · skip
          have f5 := dAddE (X := x5.toInt) (Y := 1) (x := x5) (y := (1 : Int32)) rfl (by decide) (by omega) (by omega)
          exact ih _ _ _ _ _ I3 (by omega) (by omega) (by omega) (by omega)
        · skip
          have f5 := dAddE (X := x5.toInt) (Y := 1) (x := x5) (y := (1 : Int32)) rfl (by decide) (by omega) (by omega)
          exact ih _ _ _ _ _ I3 (by omega) (by omega) (by omega) (by omega)
theorem s_X1_calmSeeds_61_47 {g : gM} {x2 : Int32} {x3 : Int32} {m : dM} {Q : Int32 → dM → Prop} (hG : Gd g) (hI : Inv g m) (h2 : 0 ≤ x2.toInt ∧ x2.toInt ≤ 72) (h3 : 1 ≤ x3.toInt ∧ x3.toInt ≤ 20) (hQ : ∀ (r : Int32) (m' : dM), Inv g m' → Q r m') : c_X1_calmSeeds_61_47 7 x2 x3 m Q := by
  refine v_X1_calmSeeds_61_47 ?_
  have f1 := ti_0
  exact (s_X1_calmSeeds_61_47_all hG hQ 22) _ _ _ _ _ hI (by omega) (by omega) (by omega) (by omega)
theorem s_X11_year_0 {g : gM} {x1 : Int32} {x2 : Int32} {m : dM} {Q : Int32 → dM → Prop} (hG : Gd g) (hI : Inv g m) (hQ : ∀ (r : Int32) (m' : dM), Inv g m' → Q r m') : c_X11_year_0 8 x1 x2 m Q := by
  refine v_X11_year_0 ?_
  refine ⟨fun hc1 => ?_, fun hc1 => ?_⟩
  · skip
    refine v_X11_year_0_21 ?_
    have f2 := ti_m1
    exact hQ _ _ hI
  · skip
    refine ⟨fun hc2 => ?_, fun hc2 => ?_⟩
    · skip
      refine v_X11_year_0_21 ?_
      have f3 := ti_m1
      exact hQ _ _ hI
    · skip
      refine ⟨fun hc3 => ?_, fun hc3 => ?_⟩
      · skip
        refine v_X11_year_0_21 ?_
        have f4 := ti_m1
        exact hQ _ _ hI
      · skip
        refine ⟨fun hc4 => ?_, fun hc4 => ?_⟩
        · skip
          refine Wp.deep (s_X1_calmSeeds_61_47 hG hI (by omega) (by omega) (fun R5 M5 I5 => ?_)) (Nat.le_of_ble_eq_true rfl)
          exact hQ _ _ I5
        · skip
          refine v_X11_year_0_21 ?_
          have f5 := ti_m1
          exact hQ _ _ hI
theorem s_X9_isSo_67_all {g : gM} {Q : Int32 → dM → Prop} {m : dM} (hG : Gd g) (hI : Inv g m) (hQ : ∀ r : Int32, (0 ≤ r.toInt ∧ r.toInt ≤ 1) → Q r m) : ∀ n : Nat, (∀ (x1 : Int32) (x2 : Int32) (x3 : Int32), (0 ≤ x2.toInt ∧ x2.toInt ≤ 20) → (0 ≤ x3.toInt ∧ x3.toInt ≤ 20) → 21 - 1 * x3.toInt < (n : Int) → j_X9_isSo_67_2 2 x1 x2 x3 m Q) ∧ (0 < (n : Int) → j_X9_isSo_67_42 2 m Q) := by
  intro n
  induction n with
  | zero => exact ⟨fun x1 x2 x3 h2 h3 hμ => by exfalso; omega, fun hμ => by exfalso; omega⟩
  | succ n ih =>
    refine ⟨?_, ?_⟩
    · intro x1 x2 x3 h2 h3 hμ
      refine v_X9_isSo_67_2 ?_
      refine ⟨fun hc1 => ?_, fun hc1 => ?_⟩
      · skip
        exact ih.2 (by omega)
      · skip
        have f2 := congrArg Int32.toInt (hI.2 67 3 rfl)
        have f3 := Inv.s hG hI (k := 67) (j := 3) rfl rfl
        refine ⟨fun hc4 => ?_, fun hc4 => ?_⟩
        · skip
          exact ih.2 (by omega)
        · skip
          refine ⟨by omega, ?_⟩
          refine v_X11_has ?_
          have f5 := ti_1
          have f6 := dAndE (x := (x1.toUInt32 >>> ((m.1 68 x3.toNatClampNeg).toUInt32 &&& Int32.toUInt32 31)).toInt32) (y := (1 : Int32)) (by decide)
          refine ⟨fun hc7 => ?_, fun hc7 => ?_⟩
          · skip
            refine ⟨by omega, ?_⟩
            have f8 := ti_0
            refine ⟨fun hc9 => ?_, fun hc9 => ?_⟩
            · skip
              have f10 := dAddE (X := x3.toInt) (Y := 1) (x := x3) (y := (1 : Int32)) rfl (by decide) (by omega) (by omega)
              exact ih.1 _ _ _ (by omega) (by omega) (by omega)
            · skip
              exact hQ _ (by omega)
          · skip
            refine ⟨by omega, ?_⟩
            refine ⟨fun hc8 => ?_, fun hc8 => ?_⟩
            · skip
              have f9 := dAddE (X := x3.toInt) (Y := 1) (x := x3) (y := (1 : Int32)) rfl (by decide) (by omega) (by omega)
              exact ih.1 _ _ _ (by omega) (by omega) (by omega)
            · skip
              have f9 := ti_0
              exact hQ _ (by omega)
    · intro hμ
      refine v_X9_isSo_67_42 ?_
      have f1 := ti_1
      exact hQ _ (by omega)
theorem s_X9_isSo_67 {g : gM} {x1 : Int32} {x2 : Int32} {m : dM} {Q : Int32 → dM → Prop} (hG : Gd g) (hI : Inv g m) (h2 : 0 ≤ x2.toInt ∧ x2.toInt ≤ 20) (hQ : ∀ r : Int32, (0 ≤ r.toInt ∧ r.toInt ≤ 1) → Q r m) : c_X9_isSo_67 2 x1 x2 m Q := by
  refine v_X9_isSo_67 ?_
  have f1 := ti_0
  exact (s_X9_isSo_67_all hG hI hQ 23).1 _ _ _ (by omega) (by omega) (by omega)
theorem s_X9_suspects_67_all {g : gM} {Q : Int32 → dM → Prop} {m : dM} (hG : Gd g) (hI : Inv g m) (hQ : ∀ r : Int32, Q r m) : ∀ n : Nat, (∀ (x1 : Int32) (x2 : Int32) (x3 : Int32) (x4 : Int32), (0 ≤ x2.toInt ∧ x2.toInt ≤ 20) → (0 ≤ x4.toInt ∧ x4.toInt ≤ 10) → 21 - 2 * x4.toInt < (n : Int) → j_X9_suspects_67_5 3 x1 x2 x3 x4 m Q) ∧ (∀ (x1 : Int32) (x2 : Int32) (x3 : Int32) (x4 : Int32), (0 ≤ x2.toInt ∧ x2.toInt ≤ 20) → (0 ≤ x4.toInt ∧ x4.toInt ≤ 9) → 20 - 2 * x4.toInt < (n : Int) → j_X9_suspects_67_54 3 x1 x2 x3 x4 m Q) := by
  intro n
  induction n with
  | zero => exact ⟨fun x1 x2 x3 x4 h2 h4 hμ => by exfalso; omega, fun x1 x2 x3 x4 h2 h4 hμ => by exfalso; omega⟩
  | succ n ih =>
    refine ⟨?_, ?_⟩
    · intro x1 x2 x3 x4 h2 h4 hμ
      refine v_X9_suspects_67_5 ?_
      have f1 := congrArg Int32.toInt (hI.2 2 1 rfl)
      have f2 := Inv.s hG hI (k := 2) (j := 1) rfl rfl
      refine ⟨fun hc3 => ?_, fun hc3 => ?_⟩
      · skip
        exact hQ _
      · skip
        refine v_X11_has ?_
        have f4 := ti_1
        have f5 := dAndE (x := (x1.toUInt32 >>> (x4.toUInt32 &&& Int32.toUInt32 31)).toInt32) (y := (1 : Int32)) (by decide)
        refine ⟨fun hc6 => ?_, fun hc6 => ?_⟩
        · skip
          have f7 := ti_0
          refine ⟨fun hc8 => ?_, fun hc8 => ?_⟩
          · skip
            exfalso; omega
          · skip
            have f9 := dShl10 (x := x4) (by omega) (by omega)
            refine Wp.deep (s_X3_litWithout_2 hG hI (fun R10 => ?_)) (Nat.le_of_ble_eq_true rfl)
            refine Wp.deep (s_X9_isSo_67 hG hI (by omega) (fun R11 hr11 => ?_)) (Nat.le_of_ble_eq_true rfl)
            refine ⟨fun hc12 => ?_, fun hc12 => ?_⟩
            · skip
              exact ih.2 _ _ _ _ (by omega) (by omega) (by omega)
            · skip
              exact ih.2 _ _ _ _ (by omega) (by omega) (by omega)
        · skip
          refine ⟨fun hc7 => ?_, fun hc7 => ?_⟩
          · skip
            exact ih.2 _ _ _ _ (by omega) (by omega) (by omega)
          · skip
            exfalso; omega
    · intro x1 x2 x3 x4 h2 h4 hμ
      refine v_X9_suspects_67_54 ?_
      have f1 := dAddE (X := x4.toInt) (Y := 1) (x := x4) (y := (1 : Int32)) rfl (by decide) (by omega) (by omega)
      exact ih.1 _ _ _ _ (by omega) (by omega) (by omega)
theorem s_X9_suspects_67 {g : gM} {x1 : Int32} {x2 : Int32} {m : dM} {Q : Int32 → dM → Prop} (hG : Gd g) (hI : Inv g m) (h2 : 0 ≤ x2.toInt ∧ x2.toInt ≤ 20) (hQ : ∀ r : Int32, Q r m) : c_X9_suspects_67 3 x1 x2 m Q := by
  refine v_X9_suspects_67 ?_
  have f1 := ti_0
  exact (s_X9_suspects_67_all hG hI hQ 23).1 _ _ _ _ (by omega) (by omega) (by omega)
theorem s_X11_went_0 {g : gM} {x1 : Int32} {x2 : Int32} {m : dM} {Q : Int32 → dM → Prop} (hG : Gd g) (hI : Inv g m) (hQ : ∀ r : Int32, Q r m) : c_X11_went_0 4 x1 x2 m Q := by
  refine v_X11_went_0 ?_
  refine ⟨fun hc1 => ?_, fun hc1 => ?_⟩
  · skip
    refine v_X11_went_0_24 ?_
    have f2 := ti_m1
    exact hQ _
  · skip
    have f2 := congrArg Int32.toInt (hI.2 67 3 rfl)
    have f3 := Inv.s hG hI (k := 67) (j := 3) rfl rfl
    refine ⟨fun hc4 => ?_, fun hc4 => ?_⟩
    · skip
      refine v_X11_went_0_24 ?_
      have f5 := ti_m1
      exact hQ _
    · skip
      refine ⟨fun hc5 => ?_, fun hc5 => ?_⟩
      · skip
        refine v_X11_went_0_24 ?_
        have f6 := ti_m1
        exact hQ _
      · skip
        refine ⟨fun hc6 => ?_, fun hc6 => ?_⟩
        · skip
          refine Wp.deep (s_X9_suspects_67 hG hI (by omega) (fun R7 => ?_)) (Nat.le_of_ble_eq_true rfl)
          refine ⟨fun hc8 => ?_, fun hc8 => ?_⟩
          · skip
            exact hQ _
          · skip
            refine Wp.deep (s_J6_bitCount hG hI (fun R9 hr9 => ?_)) (Nat.le_of_ble_eq_true rfl)
            exact hQ _
        · skip
          refine v_X11_went_0_24 ?_
          have f7 := ti_m1
          exact hQ _
theorem s_X9_leftAtWorst_67_all {g : gM} {Q : Int32 → dM → Prop} {m : dM} (hG : Gd g) (hI : Inv g m) (hQ : ∀ r : Int32, Q r m) : ∀ n : Nat, (∀ (x1 : Int32) (x2 : Int32) (x3 : Int32) (x4 : Int32) (x5 : Int32), (0 ≤ x3.toInt ∧ x3.toInt ≤ 6) → (0 ≤ x5.toInt ∧ x5.toInt ≤ 10) → 10 - 1 * x5.toInt < (n : Int) → j_X9_leftAtWorst_67_6 3 x1 x2 x3 x4 x5 m Q) := by
  intro n
  induction n with
  | zero => exact fun x1 x2 x3 x4 x5 h3 h5 hμ => by exfalso; omega
  | succ n ih =>
    · intro x1 x2 x3 x4 x5 h3 h5 hμ
      refine v_X9_leftAtWorst_67_6 ?_
      have f1 := congrArg Int32.toInt (hI.2 2 1 rfl)
      have f2 := Inv.s hG hI (k := 2) (j := 1) rfl rfl
      refine ⟨fun hc3 => ?_, fun hc3 => ?_⟩
      · skip
        refine Wp.deep (s_J6_bitCount hG hI (fun R4 hr4 => ?_)) (Nat.le_of_ble_eq_true rfl)
        have f5 := dMaxE x4 (R4 - x4)
        exact hQ _
      · skip
        refine v_X11_has ?_
        have f4 := ti_1
        have f5 := dAndE (x := (x2.toUInt32 >>> (x5.toUInt32 &&& Int32.toUInt32 31)).toInt32) (y := (1 : Int32)) (by decide)
        refine ⟨fun hc6 => ?_, fun hc6 => ?_⟩
        · skip
          have f7 := ti_0
          refine ⟨fun hc8 => ?_, fun hc8 => ?_⟩
          · skip
            have f9 := dAddE (X := x5.toInt) (Y := 1) (x := x5) (y := (1 : Int32)) rfl (by decide) (by omega) (by omega)
            exact ih _ _ _ _ _ (by omega) (by omega) (by omega)
          · skip
            exfalso; omega
        · skip
          refine ⟨fun hc7 => ?_, fun hc7 => ?_⟩
          · skip
            exfalso; omega
          · skip
            have f8 := dShl10 (x := x5) (by omega) (by omega)
            refine Wp.deep (s_X3_litWithout_2 hG hI (fun R9 => ?_)) (Nat.le_of_ble_eq_true rfl)
            refine v_X11_has ?_
            have f10 := dAndE (x := (R9.toUInt32 >>> (x3.toUInt32 &&& Int32.toUInt32 31)).toInt32) (y := (1 : Int32)) (by decide)
            refine ⟨fun hc11 => ?_, fun hc11 => ?_⟩
            · skip
              have f12 := ti_0
              refine ⟨fun hc13 => ?_, fun hc13 => ?_⟩
              · skip
                have f14 := dAddE (X := x5.toInt) (Y := 1) (x := x5) (y := (1 : Int32)) rfl (by decide) (by omega) (by omega)
                exact ih _ _ _ _ _ (by omega) (by omega) (by omega)
              · skip
                exfalso; omega
            · skip
              refine ⟨fun hc12 => ?_, fun hc12 => ?_⟩
              · skip
                exfalso; omega
              · skip
                have f13 := dAddE (X := x5.toInt) (Y := 1) (x := x5) (y := (1 : Int32)) rfl (by decide) (by omega) (by omega)
                exact ih _ _ _ _ _ (by omega) (by omega) (by omega)
theorem s_X9_leftAtWorst_67 {g : gM} {x1 : Int32} {x2 : Int32} {x3 : Int32} {m : dM} {Q : Int32 → dM → Prop} (hG : Gd g) (hI : Inv g m) (h3 : 0 ≤ x3.toInt ∧ x3.toInt ≤ 6) (hQ : ∀ r : Int32, Q r m) : c_X9_leftAtWorst_67 3 x1 x2 x3 m Q := by
  refine v_X9_leftAtWorst_67 ?_
  have f1 := ti_0
  exact (s_X9_leftAtWorst_67_all hG hI hQ 12) _ _ _ _ _ (by omega) (by omega) (by omega)
theorem s_X9_bestQuestion_67_all {g : gM} {Q : Int32 → dM → Prop} {m : dM} (hG : Gd g) (hI : Inv g m) (hQ : ∀ r : Int32, (-2 ≤ r.toInt ∧ r.toInt ≤ 6) → Q r m) : ∀ n : Nat, (∀ (x1 : Int32) (x3 : Int32) (x4 : Int32) (x5 : Int32) (x6 : Int32), (-2 ≤ x4.toInt ∧ x4.toInt ≤ 6) → (0 ≤ x6.toInt ∧ x6.toInt ≤ 7) → 16 - 2 * x6.toInt < (n : Int) → j_X9_bestQuestion_67_18 4 x1 x3 x4 x5 x6 m Q) ∧ (∀ (x1 : Int32) (x3 : Int32) (x4 : Int32) (x5 : Int32) (x6 : Int32), (-2 ≤ x4.toInt ∧ x4.toInt ≤ 6) → (0 ≤ x6.toInt ∧ x6.toInt ≤ 6) → 15 - 2 * x6.toInt < (n : Int) → j_X9_bestQuestion_67_59 4 x1 x3 x4 x5 x6 m Q) ∧ (∀ (x4 : Int32), (-2 ≤ x4.toInt ∧ x4.toInt ≤ 6) → 0 < (n : Int) → j_X9_bestQuestion_67_65 4 x4 m Q) := by
  intro n
  induction n with
  | zero => exact ⟨fun x1 x3 x4 x5 x6 h4 h6 hμ => by exfalso; omega, fun x1 x3 x4 x5 x6 h4 h6 hμ => by exfalso; omega, fun x4 h4 hμ => by exfalso; omega⟩
  | succ n ih =>
    refine ⟨?_, ?_, ?_⟩
    · intro x1 x3 x4 x5 x6 h4 h6 hμ
      refine v_X9_bestQuestion_67_18 ?_
      have f1 := congrArg Int32.toInt (hI.2 2 0 rfl)
      have f2 := Inv.s hG hI (k := 2) (j := 0) rfl rfl
      refine ⟨fun hc3 => ?_, fun hc3 => ?_⟩
      · skip
        exact ih.2.2 _ (by omega) (by omega)
      · skip
        refine ⟨fun hc4 => ?_, fun hc4 => ?_⟩
        · skip
          exact ih.2.2 _ (by omega) (by omega)
        · skip
          refine Wp.deep (s_X9_leftAtWorst_67 hG hI (by omega) (fun R5 => ?_)) (Nat.le_of_ble_eq_true rfl)
          refine ⟨fun hc6 => ?_, fun hc6 => ?_⟩
          · skip
            exact ih.2.1 _ _ _ _ _ (by omega) (by omega) (by omega)
          · skip
            exact ih.2.1 _ _ _ _ _ (by omega) (by omega) (by omega)
    · intro x1 x3 x4 x5 x6 h4 h6 hμ
      refine v_X9_bestQuestion_67_59 ?_
      have f1 := dAddE (X := x6.toInt) (Y := 1) (x := x6) (y := (1 : Int32)) rfl (by decide) (by omega) (by omega)
      exact ih.1 _ _ _ _ _ (by omega) (by omega) (by omega)
    · intro x4 h4 hμ
      refine v_X9_bestQuestion_67_65 ?_
      exact hQ _ (by omega)
theorem s_X9_bestQuestion_67 {g : gM} {x1 : Int32} {x2 : Int32} {m : dM} {Q : Int32 → dM → Prop} (hG : Gd g) (hI : Inv g m) (h2 : 0 ≤ x2.toInt ∧ x2.toInt ≤ 20) (hQ : ∀ r : Int32, (-2 ≤ r.toInt ∧ r.toInt ≤ 6) → Q r m) : c_X9_bestQuestion_67 4 x1 x2 m Q := by
  refine v_X9_bestQuestion_67 ?_
  refine Wp.deep (s_X9_suspects_67 hG hI (by omega) (fun R1 => ?_)) (Nat.le_of_ble_eq_true rfl)
  have f2 := ti_m2
  have f3 := ti_2147483647
  have f4 := ti_0
  exact (s_X9_bestQuestion_67_all hG hI hQ 18).1 _ _ _ _ _ (by omega) (by omega) (by omega)
theorem s_X11_ask_0 {g : gM} {x1 : Int32} {m : dM} {Q : Int32 → dM → Prop} (hG : Gd g) (hI : Inv g m) (hQ : ∀ r : Int32, (-2 ≤ r.toInt ∧ r.toInt ≤ 6) → Q r m) : c_X11_ask_0 5 x1 m Q := by
  refine v_X11_ask_0 ?_
  refine ⟨fun hc1 => ?_, fun hc1 => ?_⟩
  · skip
    refine v_X11_ask_0_15 ?_
    have f2 := ti_m1
    exact hQ _ (by omega)
  · skip
    have f2 := congrArg Int32.toInt (hI.2 67 3 rfl)
    have f3 := Inv.s hG hI (k := 67) (j := 3) rfl rfl
    refine ⟨fun hc4 => ?_, fun hc4 => ?_⟩
    · skip
      refine Wp.deep (s_X9_bestQuestion_67 hG hI (by omega) (fun R5 hr5 => ?_)) (Nat.le_of_ble_eq_true rfl)
      exact hQ _ (by omega)
    · skip
      refine v_X11_ask_0_15 ?_
      have f5 := ti_m1
      exact hQ _ (by omega)
theorem s_X7_writeTo_47_53 {g : gM} {x2 : Int32} {m : dM} {Q : dM → Prop} (hG : Gd g) (hI : Inv g m) (h2 : 0 ≤ x2.toInt ∧ x2.toInt ≤ 66) (hQ : ∀ m' : dM, Inv g m' → Q m') : c_X7_writeTo_47_53 1 x2 m Q := by
  refine v_X7_writeTo_47_53 ?_
  refine ⟨fun hc1 => ?_, fun hc1 => ?_⟩
  · skip
    exfalso; omega
  · skip
    have f2 := dSubE (X := 99) (Y := 33) (x := (99 : Int32)) (y := (33 : Int32)) (by decide) (by decide) (by omega) (by omega)
    refine ⟨fun hc3 => ?_, fun hc3 => ?_⟩
    · skip
      refine ⟨by omega, ?_⟩
      have f4 := dAddE (X := x2.toInt) (Y := 1) (x := x2) (y := (1 : Int32)) rfl (by decide) (by omega) (by omega)
      refine ⟨by omega, ?_⟩
      have f5 := dAddE (X := x2.toInt) (Y := 2) (x := x2) (y := (2 : Int32)) rfl (by decide) (by omega) (by omega)
      refine ⟨by omega, ?_⟩
      have f6 := dAddE (X := x2.toInt) (Y := 3) (x := x2) (y := (3 : Int32)) rfl (by decide) (by omega) (by omega)
      refine ⟨by omega, ?_⟩
      have f7 := dAddE (X := x2.toInt) (Y := 4) (x := x2) (y := (4 : Int32)) rfl (by decide) (by omega) (by omega)
      refine ⟨by omega, ?_⟩
      have f8 := dAddE (X := x2.toInt) (Y := 5) (x := x2) (y := (5 : Int32)) rfl (by decide) (by omega) (by omega)
      refine ⟨by omega, ?_⟩
      have f9 := ti_10
      have f10 := dAddE (X := x2.toInt) (Y := 6) (x := x2) (y := (6 : Int32)) rfl (by decide) (by omega) (by omega)
      have f11 := ti_0
      refine ⟨by omega, ?_⟩
      have f12 := dAddE (X := (x2 + (6 : Int32)).toInt) (Y := 10) (x := (x2 + (6 : Int32))) (y := (10 : Int32)) rfl (by decide) (by omega) (by omega)
      refine ⟨by omega, ?_⟩
      have f13 := ti_7
      have f14 := dAddE (X := (x2 + (6 : Int32)).toInt) (Y := 20) (x := (x2 + (6 : Int32))) (y := (20 : Int32)) rfl (by decide) (by omega) (by omega)
      refine ⟨by omega, ?_⟩
      have I15 : Inv g (dSet m 53 x2.toNatClampNeg (m.1 47 0)) := (Inv.setA hI rfl)
      have I16 : Inv g (dSet (dSet m 53 x2.toNatClampNeg (m.1 47 0)) 53 (x2 + (1 : Int32)).toNatClampNeg (m.1 47 1)) := (Inv.setA I15 rfl)
      have I17 : Inv g (dSet (dSet (dSet m 53 x2.toNatClampNeg (m.1 47 0)) 53 (x2 + (1 : Int32)).toNatClampNeg (m.1 47 1)) 53 (x2 + (2 : Int32)).toNatClampNeg (m.1 47 2)) := (Inv.setA I16 rfl)
      have I18 : Inv g (dSet (dSet (dSet (dSet m 53 x2.toNatClampNeg (m.1 47 0)) 53 (x2 + (1 : Int32)).toNatClampNeg (m.1 47 1)) 53 (x2 + (2 : Int32)).toNatClampNeg (m.1 47 2)) 53 (x2 + (3 : Int32)).toNatClampNeg (m.1 47 3)) := (Inv.setA I17 rfl)
      have I19 : Inv g (dSet (dSet (dSet (dSet (dSet m 53 x2.toNatClampNeg (m.1 47 0)) 53 (x2 + (1 : Int32)).toNatClampNeg (m.1 47 1)) 53 (x2 + (2 : Int32)).toNatClampNeg (m.1 47 2)) 53 (x2 + (3 : Int32)).toNatClampNeg (m.1 47 3)) 53 (x2 + (4 : Int32)).toNatClampNeg (m.1 47 4)) := (Inv.setA I18 rfl)
      have I20 : Inv g (dSet (dSet (dSet (dSet (dSet (dSet m 53 x2.toNatClampNeg (m.1 47 0)) 53 (x2 + (1 : Int32)).toNatClampNeg (m.1 47 1)) 53 (x2 + (2 : Int32)).toNatClampNeg (m.1 47 2)) 53 (x2 + (3 : Int32)).toNatClampNeg (m.1 47 3)) 53 (x2 + (4 : Int32)).toNatClampNeg (m.1 47 4)) 53 (x2 + (5 : Int32)).toNatClampNeg (m.1 47 5)) := (Inv.setA I19 rfl)
      have I21 : Inv g (dCpy (dSet (dSet (dSet (dSet (dSet (dSet m 53 x2.toNatClampNeg (m.1 47 0)) 53 (x2 + (1 : Int32)).toNatClampNeg (m.1 47 1)) 53 (x2 + (2 : Int32)).toNatClampNeg (m.1 47 2)) 53 (x2 + (3 : Int32)).toNatClampNeg (m.1 47 3)) 53 (x2 + (4 : Int32)).toNatClampNeg (m.1 47 4)) 53 (x2 + (5 : Int32)).toNatClampNeg (m.1 47 5)) 48 (0 : Int).toNat 53 ((x2 + (6 : Int32)).toInt).toNat (10 : Int).toNat) := (Inv.cpy I20 (fun _ => rfl))
      have I22 : Inv g (dCpy (dCpy (dSet (dSet (dSet (dSet (dSet (dSet m 53 x2.toNatClampNeg (m.1 47 0)) 53 (x2 + (1 : Int32)).toNatClampNeg (m.1 47 1)) 53 (x2 + (2 : Int32)).toNatClampNeg (m.1 47 2)) 53 (x2 + (3 : Int32)).toNatClampNeg (m.1 47 3)) 53 (x2 + (4 : Int32)).toNatClampNeg (m.1 47 4)) 53 (x2 + (5 : Int32)).toNatClampNeg (m.1 47 5)) 48 (0 : Int).toNat 53 ((x2 + (6 : Int32)).toInt).toNat (10 : Int).toNat) 49 (0 : Int).toNat 53 (((x2 + (6 : Int32)) + (10 : Int32)).toInt).toNat (10 : Int).toNat) := (Inv.cpy I21 (fun _ => rfl))
      have I23 : Inv g (dCpy (dCpy (dCpy (dSet (dSet (dSet (dSet (dSet (dSet m 53 x2.toNatClampNeg (m.1 47 0)) 53 (x2 + (1 : Int32)).toNatClampNeg (m.1 47 1)) 53 (x2 + (2 : Int32)).toNatClampNeg (m.1 47 2)) 53 (x2 + (3 : Int32)).toNatClampNeg (m.1 47 3)) 53 (x2 + (4 : Int32)).toNatClampNeg (m.1 47 4)) 53 (x2 + (5 : Int32)).toNatClampNeg (m.1 47 5)) 48 (0 : Int).toNat 53 ((x2 + (6 : Int32)).toInt).toNat (10 : Int).toNat) 49 (0 : Int).toNat 53 (((x2 + (6 : Int32)) + (10 : Int32)).toInt).toNat (10 : Int).toNat) 50 (0 : Int).toNat 53 (((x2 + (6 : Int32)) + (20 : Int32)).toInt).toNat (7 : Int).toNat) := (Inv.cpy I22 (fun _ => rfl))
      exact hQ _ I23
    · skip
      exfalso; omega
theorem s_X7_readFrom_47_53 {g : gM} {x2 : Int32} {m : dM} {Q : dM → Prop} (hG : Gd g) (hI : Inv g m) (h2 : 0 ≤ x2.toInt ∧ x2.toInt ≤ 66) (hQ : ∀ m' : dM, Inv g m' → Q m') : c_X7_readFrom_47_53 1 x2 m Q := by
  refine v_X7_readFrom_47_53 ?_
  refine ⟨fun hc1 => ?_, fun hc1 => ?_⟩
  · skip
    exfalso; omega
  · skip
    have f2 := dSubE (X := 99) (Y := 33) (x := (99 : Int32)) (y := (33 : Int32)) (by decide) (by decide) (by omega) (by omega)
    refine ⟨fun hc3 => ?_, fun hc3 => ?_⟩
    · skip
      refine ⟨by omega, ?_⟩
      have f4 := dAddE (X := x2.toInt) (Y := 1) (x := x2) (y := (1 : Int32)) rfl (by decide) (by omega) (by omega)
      refine ⟨by omega, ?_⟩
      have f5 := dAddE (X := x2.toInt) (Y := 2) (x := x2) (y := (2 : Int32)) rfl (by decide) (by omega) (by omega)
      refine ⟨by omega, ?_⟩
      have f6 := dAddE (X := x2.toInt) (Y := 3) (x := x2) (y := (3 : Int32)) rfl (by decide) (by omega) (by omega)
      refine ⟨by omega, ?_⟩
      have f7 := dAddE (X := x2.toInt) (Y := 4) (x := x2) (y := (4 : Int32)) rfl (by decide) (by omega) (by omega)
      refine ⟨by omega, ?_⟩
      have f8 := dAddE (X := x2.toInt) (Y := 5) (x := x2) (y := (5 : Int32)) rfl (by decide) (by omega) (by omega)
      refine ⟨by omega, ?_⟩
      have f9 := ti_10
      have f10 := ti_0
      have f11 := dAddE (X := x2.toInt) (Y := 6) (x := x2) (y := (6 : Int32)) rfl (by decide) (by omega) (by omega)
      refine ⟨by omega, ?_⟩
      have f12 := dAddE (X := (x2 + (6 : Int32)).toInt) (Y := 10) (x := (x2 + (6 : Int32))) (y := (10 : Int32)) rfl (by decide) (by omega) (by omega)
      refine ⟨by omega, ?_⟩
      have f13 := ti_7
      have f14 := dAddE (X := (x2 + (6 : Int32)).toInt) (Y := 20) (x := (x2 + (6 : Int32))) (y := (20 : Int32)) rfl (by decide) (by omega) (by omega)
      refine ⟨by omega, ?_⟩
      have I15 : Inv g (dSet m 47 0 (m.1 53 x2.toNatClampNeg)) := (Inv.setA hI rfl)
      have I16 : Inv g (dSet (dSet m 47 0 (m.1 53 x2.toNatClampNeg)) 47 1 (m.1 53 (x2 + (1 : Int32)).toNatClampNeg)) := (Inv.setA I15 rfl)
      have I17 : Inv g (dSet (dSet (dSet m 47 0 (m.1 53 x2.toNatClampNeg)) 47 1 (m.1 53 (x2 + (1 : Int32)).toNatClampNeg)) 47 2 (m.1 53 (x2 + (2 : Int32)).toNatClampNeg)) := (Inv.setA I16 rfl)
      have I18 : Inv g (dSet (dSet (dSet (dSet m 47 0 (m.1 53 x2.toNatClampNeg)) 47 1 (m.1 53 (x2 + (1 : Int32)).toNatClampNeg)) 47 2 (m.1 53 (x2 + (2 : Int32)).toNatClampNeg)) 47 3 (m.1 53 (x2 + (3 : Int32)).toNatClampNeg)) := (Inv.setA I17 rfl)
      have I19 : Inv g (dSet (dSet (dSet (dSet (dSet m 47 0 (m.1 53 x2.toNatClampNeg)) 47 1 (m.1 53 (x2 + (1 : Int32)).toNatClampNeg)) 47 2 (m.1 53 (x2 + (2 : Int32)).toNatClampNeg)) 47 3 (m.1 53 (x2 + (3 : Int32)).toNatClampNeg)) 47 4 (m.1 53 (x2 + (4 : Int32)).toNatClampNeg)) := (Inv.setA I18 rfl)
      have I20 : Inv g (dSet (dSet (dSet (dSet (dSet (dSet m 47 0 (m.1 53 x2.toNatClampNeg)) 47 1 (m.1 53 (x2 + (1 : Int32)).toNatClampNeg)) 47 2 (m.1 53 (x2 + (2 : Int32)).toNatClampNeg)) 47 3 (m.1 53 (x2 + (3 : Int32)).toNatClampNeg)) 47 4 (m.1 53 (x2 + (4 : Int32)).toNatClampNeg)) 47 5 (m.1 53 (x2 + (5 : Int32)).toNatClampNeg)) := (Inv.setA I19 rfl)
      have I21 : Inv g (dCpy (dSet (dSet (dSet (dSet (dSet (dSet m 47 0 (m.1 53 x2.toNatClampNeg)) 47 1 (m.1 53 (x2 + (1 : Int32)).toNatClampNeg)) 47 2 (m.1 53 (x2 + (2 : Int32)).toNatClampNeg)) 47 3 (m.1 53 (x2 + (3 : Int32)).toNatClampNeg)) 47 4 (m.1 53 (x2 + (4 : Int32)).toNatClampNeg)) 47 5 (m.1 53 (x2 + (5 : Int32)).toNatClampNeg)) 53 ((x2 + (6 : Int32)).toInt).toNat 48 (0 : Int).toNat (10 : Int).toNat) := (Inv.cpy I20 (fun _ => rfl))
      have I22 : Inv g (dCpy (dCpy (dSet (dSet (dSet (dSet (dSet (dSet m 47 0 (m.1 53 x2.toNatClampNeg)) 47 1 (m.1 53 (x2 + (1 : Int32)).toNatClampNeg)) 47 2 (m.1 53 (x2 + (2 : Int32)).toNatClampNeg)) 47 3 (m.1 53 (x2 + (3 : Int32)).toNatClampNeg)) 47 4 (m.1 53 (x2 + (4 : Int32)).toNatClampNeg)) 47 5 (m.1 53 (x2 + (5 : Int32)).toNatClampNeg)) 53 ((x2 + (6 : Int32)).toInt).toNat 48 (0 : Int).toNat (10 : Int).toNat) 53 (((x2 + (6 : Int32)) + (10 : Int32)).toInt).toNat 49 (0 : Int).toNat (10 : Int).toNat) := (Inv.cpy I21 (fun _ => rfl))
      have I23 : Inv g (dCpy (dCpy (dCpy (dSet (dSet (dSet (dSet (dSet (dSet m 47 0 (m.1 53 x2.toNatClampNeg)) 47 1 (m.1 53 (x2 + (1 : Int32)).toNatClampNeg)) 47 2 (m.1 53 (x2 + (2 : Int32)).toNatClampNeg)) 47 3 (m.1 53 (x2 + (3 : Int32)).toNatClampNeg)) 47 4 (m.1 53 (x2 + (4 : Int32)).toNatClampNeg)) 47 5 (m.1 53 (x2 + (5 : Int32)).toNatClampNeg)) 53 ((x2 + (6 : Int32)).toInt).toNat 48 (0 : Int).toNat (10 : Int).toNat) 53 (((x2 + (6 : Int32)) + (10 : Int32)).toInt).toNat 49 (0 : Int).toNat (10 : Int).toNat) 53 (((x2 + (6 : Int32)) + (20 : Int32)).toInt).toNat 50 (0 : Int).toNat (7 : Int).toNat) := (Inv.cpy I22 (fun _ => rfl))
      exact hQ _ I23
    · skip
      exfalso; omega
theorem s_X6_fetch_51_47 {g : gM} {x1 : Int32} {m : dM} {Q : Int32 → dM → Prop} (hG : Gd g) (hI : Inv g m) (hQ : ∀ (r : Int32) (m' : dM), Inv g m' → (0 ≤ r.toInt ∧ r.toInt ≤ 1) → Q r m') : c_X6_fetch_51_47 2 x1 m Q := by
  refine v_X6_fetch_51_47 ?_
  refine ⟨fun hc1 => ?_, fun hc1 => ?_⟩
  · skip
    refine v_X6_fetch_51_47_20 ?_
    have f2 := ti_0
    exact hQ _ _ hI (by omega)
  · skip
    refine ⟨fun hc2 => ?_, fun hc2 => ?_⟩
    · skip
      refine v_X6_fetch_51_47_20 ?_
      have f3 := ti_0
      exact hQ _ _ hI (by omega)
    · skip
      refine v_X11_has ?_
      have f3 := congrArg Int32.toInt (hI.2 51 4 rfl)
      have f4 := ti_1
      have f5 := dAndE (x := ((m.1 51 4).toUInt32 >>> (x1.toUInt32 &&& Int32.toUInt32 31)).toInt32) (y := (1 : Int32)) (by decide)
      refine ⟨fun hc6 => ?_, fun hc6 => ?_⟩
      · skip
        have f7 := ti_0
        refine ⟨fun hc8 => ?_, fun hc8 => ?_⟩
        · skip
          exfalso; omega
        · skip
          refine v_X6_fetch_51_47_20 ?_
          exact hQ _ _ hI (by omega)
      · skip
        refine ⟨fun hc7 => ?_, fun hc7 => ?_⟩
        · skip
          have f8 := dMulE (X := x1.toInt) (Y := 33) (x := x1) (y := (33 : Int32)) rfl (by decide) (by omega) (by omega)
          refine Wp.deep (s_X7_readFrom_47_53 hG hI (by omega) (fun M9 I9 => ?_)) (Nat.le_of_ble_eq_true rfl)
          refine Wp.deep (s_X6_clear_51 hG I9 (fun M10 I10 => ?_)) (Nat.le_of_ble_eq_true rfl)
          exact hQ _ _ I10 (by omega)
        · skip
          exfalso; omega
theorem s_X11_restore_0 {g : gM} {x1 : Int32} {m : dM} {Q : Int32 → dM → Prop} (hG : Gd g) (hI : Inv g m) (hQ : ∀ (r : Int32) (m' : dM), Inv g m' → (0 ≤ r.toInt ∧ r.toInt ≤ 1) → Q r m') : c_X11_restore_0 3 x1 m Q := by
  refine v_X11_restore_0 ?_
  refine Wp.deep (s_X6_fetch_51_47 hG hI (fun R1 M1 I1 hr1 => ?_)) (Nat.le_of_ble_eq_true rfl)
  refine ⟨dB01 (by omega), ?_⟩
  exact hQ _ _ I1 (by omega)
theorem s_X12_restore_70_all {g : gM} {Q : Int32 → dM → Prop} (hG : Gd g) (hQ : ∀ (r : Int32) (m' : dM), Inv g m' → (0 ≤ r.toInt ∧ r.toInt ≤ 1) → Q r m') : ∀ n : Nat, (∀ (m : dM), Inv g m → 0 < (n : Int) → j_X12_restore_70_18 2 m Q) ∧ (∀ (x1 : Int32) (x2 : Int32) (m : dM), Inv g m → (0 ≤ x1.toInt ∧ x1.toInt ≤ 2) → (0 ≤ x2.toInt ∧ x2.toInt ≤ 58) → 59 - 1 * x2.toInt < (n : Int) → j_X12_restore_70_22 2 x1 x2 m Q) := by
  intro n
  induction n with
  | zero => exact ⟨fun m hI hμ => by exfalso; omega, fun x1 x2 m hI h1 h2 hμ => by exfalso; omega⟩
  | succ n ih =>
    refine ⟨?_, ?_⟩
    · intro m hI hμ
      refine v_X12_restore_70_18 ?_
      have f1 := ti_0
      exact hQ _ _ hI (by omega)
    · intro x1 x2 m hI h1 h2 hμ
      refine v_X12_restore_70_22 ?_
      refine ⟨fun hc1 => ?_, fun hc1 => ?_⟩
      · skip
        have f2 := ti_1
        have f3 := ti_0
        have I4 : Inv g (dSet m 70 61 (0 : Int32)) := (Inv.set hI rfl (by omega) (by omega))
        exact hQ _ _ I4 (by omega)
      · skip
        have f2 := dMulE (X := 58) (Y := x1.toInt) (x := (58 : Int32)) (y := x1) (by decide) rfl (by omega) (by omega)
        have f3 := dAddE (X := ((58 : Int32) * x1).toInt) (Y := x2.toInt) (x := ((58 : Int32) * x1)) (y := x2) rfl rfl (by omega) (by omega)
        refine ⟨by omega, ?_⟩
        refine ⟨by omega, ?_⟩
        have f4 := dAddE (X := x2.toInt) (Y := 1) (x := x2) (y := (1 : Int32)) rfl (by decide) (by omega) (by omega)
        have I5 : Inv g (dSet m 107 x2.toNatClampNeg (m.1 116 (((58 : Int32) * x1) + x2).toNatClampNeg)) := (Inv.setA hI rfl)
        exact ih.2 _ _ _ I5 (by omega) (by omega) (by omega)
theorem s_X12_restore_70 {g : gM} {x1 : Int32} {m : dM} {Q : Int32 → dM → Prop} (hG : Gd g) (hI : Inv g m) (hQ : ∀ (r : Int32) (m' : dM), Inv g m' → (0 ≤ r.toInt ∧ r.toInt ≤ 1) → Q r m') : c_X12_restore_70 2 x1 m Q := by
  refine v_X12_restore_70 ?_
  refine v_X12_in ?_
  have f1 := ti_0
  refine ⟨fun hc2 => ?_, fun hc2 => ?_⟩
  · skip
    refine v_X12_in_14 ?_
    refine ⟨fun hc3 => ?_, fun hc3 => ?_⟩
    · skip
      exact (s_X12_restore_70_all hG hQ 61).1 _ hI (by omega)
    · skip
      exfalso; omega
  · skip
    have f3 := ti_2
    refine ⟨fun hc4 => ?_, fun hc4 => ?_⟩
    · skip
      refine v_X12_in_14 ?_
      refine ⟨fun hc5 => ?_, fun hc5 => ?_⟩
      · skip
        exact (s_X12_restore_70_all hG hQ 61).1 _ hI (by omega)
      · skip
        exfalso; omega
    · skip
      have f5 := ti_1
      refine ⟨fun hc6 => ?_, fun hc6 => ?_⟩
      · skip
        exfalso; omega
      · skip
        refine ⟨by omega, ?_⟩
        refine ⟨fun hc7 => ?_, fun hc7 => ?_⟩
        · skip
          exact (s_X12_restore_70_all hG hQ 61).2 _ _ _ hI (by omega) (by omega) (by omega)
        · skip
          exact (s_X12_restore_70_all hG hQ 61).1 _ hI (by omega)
theorem s_X11_wholeRatings_0_all {g : gM} {Q : Int32 → dM → Prop} {m : dM} (hG : Gd g) (hI : Inv g m) (hQ : ∀ r : Int32, Q r m) : ∀ n : Nat, (∀ (x1 : Int32) (x2 : Int32), (0 ≤ x2.toInt ∧ x2.toInt ≤ 10) → 10 - 1 * x2.toInt < (n : Int) → j_X11_wholeRatings_0_4 2 x1 x2 m Q) := by
  intro n
  induction n with
  | zero => exact fun x1 x2 h2 hμ => by exfalso; omega
  | succ n ih =>
    · intro x1 x2 h2 hμ
      refine v_X11_wholeRatings_0_4 ?_
      have f1 := congrArg Int32.toInt (hI.2 2 1 rfl)
      have f2 := Inv.s hG hI (k := 2) (j := 1) rfl rfl
      refine ⟨fun hc3 => ?_, fun hc3 => ?_⟩
      · skip
        exact hQ _
      · skip
        refine v_X11_has ?_
        have f4 := ti_1
        have f5 := dAndE (x := ((m.1 47 3).toUInt32 >>> (x2.toUInt32 &&& Int32.toUInt32 31)).toInt32) (y := (1 : Int32)) (by decide)
        refine ⟨fun hc6 => ?_, fun hc6 => ?_⟩
        · skip
          have f7 := ti_0
          refine ⟨fun hc8 => ?_, fun hc8 => ?_⟩
          · skip
            refine ⟨by omega, ?_⟩
            have f9 := dAddE (X := x2.toInt) (Y := 1) (x := x2) (y := (1 : Int32)) rfl (by decide) (by omega) (by omega)
            exact ih _ _ (by omega) (by omega)
          · skip
            exfalso; omega
        · skip
          refine ⟨fun hc7 => ?_, fun hc7 => ?_⟩
          · skip
            exfalso; omega
          · skip
            have f8 := dAddE (X := x2.toInt) (Y := 1) (x := x2) (y := (1 : Int32)) rfl (by decide) (by omega) (by omega)
            exact ih _ _ (by omega) (by omega)
theorem s_X11_wholeRatings_0 {g : gM} {m : dM} {Q : Int32 → dM → Prop} (hG : Gd g) (hI : Inv g m) (hQ : ∀ r : Int32, Q r m) : c_X11_wholeRatings_0 2 m Q := by
  refine v_X11_wholeRatings_0 ?_
  have f1 := ti_0
  exact (s_X11_wholeRatings_0_all hG hI hQ 12) _ _ (by omega) (by omega)
end
section
theorem s_X11_count_0 {g : gM} {x1 : Int32} {m : dM} {Q : Int32 → dM → Prop} (hG : Gd g) (hI : Inv g m) (hQ : ∀ (r : Int32) (m' : dM), Inv g m' → Q r m') : c_X11_count_0 5 x1 m Q := by
  refine v_X11_count_0 ?_
  refine ⟨fun hc1 => ?_, fun hc1 => ?_, fun hc1 => ?_, fun hc1 => ?_, fun hc1 => ?_, fun hc1 => ?_, fun hc1 => ?_, fun hc1 => ?_, fun hc1 => ?_, fun hc1 => ?_, fun hc1 => ?_, fun hc1 => ?_, fun hc1 => ?_, fun hc1 => ?_, fun hc1 => ?_, fun hc1 => ?_, fun hc1 => ?_⟩
  · skip
    have f2 := congrArg Int32.toInt (hI.2 2 0 rfl)
    have f3 := Inv.s hG hI (k := 2) (j := 0) rfl rfl
    exact hQ _ _ hI
  · skip
    have f2 := congrArg Int32.toInt (hI.2 2 1 rfl)
    have f3 := Inv.s hG hI (k := 2) (j := 1) rfl rfl
    exact hQ _ _ hI
  · skip
    have f2 := congrArg Int32.toInt (hI.2 2 2 rfl)
    have f3 := Inv.s hG hI (k := 2) (j := 2) rfl rfl
    exact hQ _ _ hI
  · skip
    exact hQ _ _ hI
  · skip
    exact hQ _ _ hI
  · skip
    exact hQ _ _ hI
  · skip
    exact hQ _ _ hI
  · skip
    refine Wp.deep (s_X3_litWithout_2 hG hI (fun R2 => ?_)) (Nat.le_of_ble_eq_true rfl)
    exact hQ _ _ hI
  · skip
    refine Wp.deep (s_X0_usesNow_54_47 hG hI (fun R2 M2 I2 => ?_)) (Nat.le_of_ble_eq_true rfl)
    exact hQ _ _ I2
  · skip
    have f2 := congrArg Int32.toInt (hI.2 0 1 rfl)
    have f3 := Inv.s hG hI (k := 0) (j := 1) rfl rfl
    exact hQ _ _ hI
  · skip
    exact hQ _ _ hI
  · skip
    have f2 := congrArg Int32.toInt (hI.2 67 3 rfl)
    have f3 := Inv.s hG hI (k := 67) (j := 3) rfl rfl
    exact hQ _ _ hI
  · skip
    have f2 := congrArg Int32.toInt (hI.2 51 4 rfl)
    refine Wp.deep (s_J6_bitCount hG hI (fun R3 hr3 => ?_)) (Nat.le_of_ble_eq_true rfl)
    exact hQ _ _ hI
  · skip
    have f2 := congrArg Int32.toInt (hI.2 2 6 rfl)
    refine Wp.deep (s_X0_isSurge_54 hG hI (fun R3 hr3 => ?_)) (Nat.le_of_ble_eq_true rfl)
    refine ⟨fun hc4 => ?_, fun hc4 => ?_⟩
    · skip
      have f5 := ti_0
      exact hQ _ _ hI
    · skip
      have f5 := ti_1
      exact hQ _ _ hI
  · skip
    exact hQ _ _ hI
  · skip
    refine Wp.deep (s_X11_wholeRatings_0 hG hI (fun R2 => ?_)) (Nat.le_of_ble_eq_true rfl)
    exact hQ _ _ hI
  · skip
    have f2 := ti_m1
    exact hQ _ _ hI
end
section
theorem s_X1_cutBy_2_L0 {g : gM} {x1 : Int32} {x2 : Int32} {x3 : Int32} {x4 : Int32} {m : dM} {Q : Int32 → dM → Prop} (hG : Gd g) (hI : Inv g m) (h1 : 0 ≤ x1.toInt ∧ x1.toInt ≤ 6) (h3 : 0 ≤ x3.toInt ∧ x3.toInt ≤ 11) (h4 : 0 ≤ x4.toInt ∧ x4.toInt ≤ 0) (hQ : ∀ r : Int32, Q r m) : c_X1_cutBy_2 12 x1 x2 x3 x4 m Q := by
  refine v_X1_cutBy_2 ?_
  refine ⟨fun hc1 => ?_, fun hc1 => ?_⟩
  · skip
    exfalso; omega
  · skip
    refine Wp.deep (s_X3_litWithout_2 hG hI (fun R2 => ?_)) (Nat.le_of_ble_eq_true rfl)
    refine v_X11_has ?_
    have f3 := ti_1
    have f4 := dAndE (x := (R2.toUInt32 >>> (x1.toUInt32 &&& Int32.toUInt32 31)).toInt32) (y := (1 : Int32)) (by decide)
    refine ⟨fun hc5 => ?_, fun hc5 => ?_⟩
    · skip
      have f6 := ti_0
      refine ⟨fun hc7 => ?_, fun hc7 => ?_⟩
      · skip
        exact hQ _
      · skip
        exfalso; omega
    · skip
      refine ⟨fun hc6 => ?_, fun hc6 => ?_⟩
      · skip
        exfalso; omega
      · skip
        have f7 := ti_m1
        exact hQ _
theorem s_X1_cutBy_2_L1_all {g : gM} {Q : Int32 → dM → Prop} {m : dM} (hG : Gd g) (hI : Inv g m) (hQ : ∀ r : Int32, Q r m) : ∀ n : Nat, (∀ (x1 : Int32) (x2 : Int32) (x4 : Int32) (x5 : Int32), (0 ≤ x1.toInt ∧ x1.toInt ≤ 6) → (1 ≤ x4.toInt ∧ x4.toInt ≤ 1) → (0 ≤ x5.toInt ∧ x5.toInt ≤ 11) → 23 - 2 * x5.toInt < (n : Int) → j_X1_cutBy_2_26 13 x1 x2 x4 x5 m Q) ∧ (∀ (x1 : Int32) (x2 : Int32) (x4 : Int32) (x5 : Int32), (0 ≤ x1.toInt ∧ x1.toInt ≤ 6) → (1 ≤ x4.toInt ∧ x4.toInt ≤ 1) → (0 ≤ x5.toInt ∧ x5.toInt ≤ 9) → 22 - 2 * x5.toInt < (n : Int) → j_X1_cutBy_2_79 13 x1 x2 x4 x5 m Q) := by
  intro n
  induction n with
  | zero => exact ⟨fun x1 x2 x4 x5 h1 h4 h5 hμ => by exfalso; omega, fun x1 x2 x4 x5 h1 h4 h5 hμ => by exfalso; omega⟩
  | succ n ih =>
    refine ⟨?_, ?_⟩
    · intro x1 x2 x4 x5 h1 h4 h5 hμ
      refine v_X1_cutBy_2_26 ?_
      have f1 := congrArg Int32.toInt (hI.2 2 1 rfl)
      have f2 := Inv.s hG hI (k := 2) (j := 1) rfl rfl
      refine ⟨fun hc3 => ?_, fun hc3 => ?_⟩
      · skip
        have f4 := ti_m1
        exact hQ _
      · skip
        refine v_X11_has ?_
        have f4 := ti_1
        have f5 := dAndE (x := (x2.toUInt32 >>> (x5.toUInt32 &&& Int32.toUInt32 31)).toInt32) (y := (1 : Int32)) (by decide)
        refine ⟨fun hc6 => ?_, fun hc6 => ?_⟩
        · skip
          have f7 := ti_0
          refine ⟨fun hc8 => ?_, fun hc8 => ?_⟩
          · skip
            exfalso; omega
          · skip
            have f9 := dShl10 (x := x5) (by omega) (by omega)
            have f10 := dAddE (X := x5.toInt) (Y := 1) (x := x5) (y := (1 : Int32)) rfl (by decide) (by omega) (by omega)
            have f11 := dSubE (X := x4.toInt) (Y := 1) (x := x4) (y := (1 : Int32)) rfl (by decide) (by omega) (by omega)
            refine Wp.deep (s_X1_cutBy_2_L0 hG hI (by omega) (by omega) (by omega) (fun R12 => ?_)) (Nat.le_of_ble_eq_true rfl)
            refine ⟨fun hc13 => ?_, fun hc13 => ?_⟩
            · skip
              exact ih.2 _ _ _ _ (by omega) (by omega) (by omega) (by omega)
            · skip
              exact hQ _
        · skip
          refine ⟨fun hc7 => ?_, fun hc7 => ?_⟩
          · skip
            exact ih.2 _ _ _ _ (by omega) (by omega) (by omega) (by omega)
          · skip
            exfalso; omega
    · intro x1 x2 x4 x5 h1 h4 h5 hμ
      refine v_X1_cutBy_2_79 ?_
      have f1 := dAddE (X := x5.toInt) (Y := 1) (x := x5) (y := (1 : Int32)) rfl (by decide) (by omega) (by omega)
      exact ih.1 _ _ _ _ (by omega) (by omega) (by omega) (by omega)
theorem s_X1_cutBy_2_L1 {g : gM} {x1 : Int32} {x2 : Int32} {x3 : Int32} {x4 : Int32} {m : dM} {Q : Int32 → dM → Prop} (hG : Gd g) (hI : Inv g m) (h1 : 0 ≤ x1.toInt ∧ x1.toInt ≤ 6) (h3 : 0 ≤ x3.toInt ∧ x3.toInt ≤ 11) (h4 : 1 ≤ x4.toInt ∧ x4.toInt ≤ 1) (hQ : ∀ r : Int32, Q r m) : c_X1_cutBy_2 13 x1 x2 x3 x4 m Q := by
  refine v_X1_cutBy_2 ?_
  refine ⟨fun hc1 => ?_, fun hc1 => ?_⟩
  · skip
    exact (s_X1_cutBy_2_L1_all hG hI hQ 25).1 _ _ _ _ (by omega) (by omega) (by omega) (by omega)
  · skip
    exfalso; omega
theorem s_X1_cutBy_2_L2_all {g : gM} {Q : Int32 → dM → Prop} {m : dM} (hG : Gd g) (hI : Inv g m) (hQ : ∀ r : Int32, Q r m) : ∀ n : Nat, (∀ (x1 : Int32) (x2 : Int32) (x4 : Int32) (x5 : Int32), (0 ≤ x1.toInt ∧ x1.toInt ≤ 6) → (2 ≤ x4.toInt ∧ x4.toInt ≤ 2) → (0 ≤ x5.toInt ∧ x5.toInt ≤ 11) → 23 - 2 * x5.toInt < (n : Int) → j_X1_cutBy_2_26 14 x1 x2 x4 x5 m Q) ∧ (∀ (x1 : Int32) (x2 : Int32) (x4 : Int32) (x5 : Int32), (0 ≤ x1.toInt ∧ x1.toInt ≤ 6) → (2 ≤ x4.toInt ∧ x4.toInt ≤ 2) → (0 ≤ x5.toInt ∧ x5.toInt ≤ 9) → 22 - 2 * x5.toInt < (n : Int) → j_X1_cutBy_2_79 14 x1 x2 x4 x5 m Q) := by
  intro n
  induction n with
  | zero => exact ⟨fun x1 x2 x4 x5 h1 h4 h5 hμ => by exfalso; omega, fun x1 x2 x4 x5 h1 h4 h5 hμ => by exfalso; omega⟩
  | succ n ih =>
    refine ⟨?_, ?_⟩
    · intro x1 x2 x4 x5 h1 h4 h5 hμ
      refine v_X1_cutBy_2_26 ?_
      have f1 := congrArg Int32.toInt (hI.2 2 1 rfl)
      have f2 := Inv.s hG hI (k := 2) (j := 1) rfl rfl
      refine ⟨fun hc3 => ?_, fun hc3 => ?_⟩
      · skip
        have f4 := ti_m1
        exact hQ _
      · skip
        refine v_X11_has ?_
        have f4 := ti_1
        have f5 := dAndE (x := (x2.toUInt32 >>> (x5.toUInt32 &&& Int32.toUInt32 31)).toInt32) (y := (1 : Int32)) (by decide)
        refine ⟨fun hc6 => ?_, fun hc6 => ?_⟩
        · skip
          have f7 := ti_0
          refine ⟨fun hc8 => ?_, fun hc8 => ?_⟩
          · skip
            exfalso; omega
          · skip
            have f9 := dShl10 (x := x5) (by omega) (by omega)
            have f10 := dAddE (X := x5.toInt) (Y := 1) (x := x5) (y := (1 : Int32)) rfl (by decide) (by omega) (by omega)
            have f11 := dSubE (X := x4.toInt) (Y := 1) (x := x4) (y := (1 : Int32)) rfl (by decide) (by omega) (by omega)
            refine Wp.deep (s_X1_cutBy_2_L1 hG hI (by omega) (by omega) (by omega) (fun R12 => ?_)) (Nat.le_of_ble_eq_true rfl)
            refine ⟨fun hc13 => ?_, fun hc13 => ?_⟩
            · skip
              exact ih.2 _ _ _ _ (by omega) (by omega) (by omega) (by omega)
            · skip
              exact hQ _
        · skip
          refine ⟨fun hc7 => ?_, fun hc7 => ?_⟩
          · skip
            exact ih.2 _ _ _ _ (by omega) (by omega) (by omega) (by omega)
          · skip
            exfalso; omega
    · intro x1 x2 x4 x5 h1 h4 h5 hμ
      refine v_X1_cutBy_2_79 ?_
      have f1 := dAddE (X := x5.toInt) (Y := 1) (x := x5) (y := (1 : Int32)) rfl (by decide) (by omega) (by omega)
      exact ih.1 _ _ _ _ (by omega) (by omega) (by omega) (by omega)
theorem s_X1_cutBy_2_L2 {g : gM} {x1 : Int32} {x2 : Int32} {x3 : Int32} {x4 : Int32} {m : dM} {Q : Int32 → dM → Prop} (hG : Gd g) (hI : Inv g m) (h1 : 0 ≤ x1.toInt ∧ x1.toInt ≤ 6) (h3 : 0 ≤ x3.toInt ∧ x3.toInt ≤ 11) (h4 : 2 ≤ x4.toInt ∧ x4.toInt ≤ 2) (hQ : ∀ r : Int32, Q r m) : c_X1_cutBy_2 14 x1 x2 x3 x4 m Q := by
  refine v_X1_cutBy_2 ?_
  refine ⟨fun hc1 => ?_, fun hc1 => ?_⟩
  · skip
    exact (s_X1_cutBy_2_L2_all hG hI hQ 25).1 _ _ _ _ (by omega) (by omega) (by omega) (by omega)
  · skip
    exfalso; omega
theorem s_X1_cutBy_2_L3_all {g : gM} {Q : Int32 → dM → Prop} {m : dM} (hG : Gd g) (hI : Inv g m) (hQ : ∀ r : Int32, Q r m) : ∀ n : Nat, (∀ (x1 : Int32) (x2 : Int32) (x4 : Int32) (x5 : Int32), (0 ≤ x1.toInt ∧ x1.toInt ≤ 6) → (3 ≤ x4.toInt ∧ x4.toInt ≤ 3) → (0 ≤ x5.toInt ∧ x5.toInt ≤ 11) → 23 - 2 * x5.toInt < (n : Int) → j_X1_cutBy_2_26 15 x1 x2 x4 x5 m Q) ∧ (∀ (x1 : Int32) (x2 : Int32) (x4 : Int32) (x5 : Int32), (0 ≤ x1.toInt ∧ x1.toInt ≤ 6) → (3 ≤ x4.toInt ∧ x4.toInt ≤ 3) → (0 ≤ x5.toInt ∧ x5.toInt ≤ 9) → 22 - 2 * x5.toInt < (n : Int) → j_X1_cutBy_2_79 15 x1 x2 x4 x5 m Q) := by
  intro n
  induction n with
  | zero => exact ⟨fun x1 x2 x4 x5 h1 h4 h5 hμ => by exfalso; omega, fun x1 x2 x4 x5 h1 h4 h5 hμ => by exfalso; omega⟩
  | succ n ih =>
    refine ⟨?_, ?_⟩
    · intro x1 x2 x4 x5 h1 h4 h5 hμ
      refine v_X1_cutBy_2_26 ?_
      have f1 := congrArg Int32.toInt (hI.2 2 1 rfl)
      have f2 := Inv.s hG hI (k := 2) (j := 1) rfl rfl
      refine ⟨fun hc3 => ?_, fun hc3 => ?_⟩
      · skip
        have f4 := ti_m1
        exact hQ _
      · skip
        refine v_X11_has ?_
        have f4 := ti_1
        have f5 := dAndE (x := (x2.toUInt32 >>> (x5.toUInt32 &&& Int32.toUInt32 31)).toInt32) (y := (1 : Int32)) (by decide)
        refine ⟨fun hc6 => ?_, fun hc6 => ?_⟩
        · skip
          have f7 := ti_0
          refine ⟨fun hc8 => ?_, fun hc8 => ?_⟩
          · skip
            exfalso; omega
          · skip
            have f9 := dShl10 (x := x5) (by omega) (by omega)
            have f10 := dAddE (X := x5.toInt) (Y := 1) (x := x5) (y := (1 : Int32)) rfl (by decide) (by omega) (by omega)
            have f11 := dSubE (X := x4.toInt) (Y := 1) (x := x4) (y := (1 : Int32)) rfl (by decide) (by omega) (by omega)
            refine Wp.deep (s_X1_cutBy_2_L2 hG hI (by omega) (by omega) (by omega) (fun R12 => ?_)) (Nat.le_of_ble_eq_true rfl)
            refine ⟨fun hc13 => ?_, fun hc13 => ?_⟩
            · skip
              exact ih.2 _ _ _ _ (by omega) (by omega) (by omega) (by omega)
            · skip
              exact hQ _
        · skip
          refine ⟨fun hc7 => ?_, fun hc7 => ?_⟩
          · skip
            exact ih.2 _ _ _ _ (by omega) (by omega) (by omega) (by omega)
          · skip
            exfalso; omega
    · intro x1 x2 x4 x5 h1 h4 h5 hμ
      refine v_X1_cutBy_2_79 ?_
      have f1 := dAddE (X := x5.toInt) (Y := 1) (x := x5) (y := (1 : Int32)) rfl (by decide) (by omega) (by omega)
      exact ih.1 _ _ _ _ (by omega) (by omega) (by omega) (by omega)
theorem s_X1_cutBy_2_L3 {g : gM} {x1 : Int32} {x2 : Int32} {x3 : Int32} {x4 : Int32} {m : dM} {Q : Int32 → dM → Prop} (hG : Gd g) (hI : Inv g m) (h1 : 0 ≤ x1.toInt ∧ x1.toInt ≤ 6) (h3 : 0 ≤ x3.toInt ∧ x3.toInt ≤ 11) (h4 : 3 ≤ x4.toInt ∧ x4.toInt ≤ 3) (hQ : ∀ r : Int32, Q r m) : c_X1_cutBy_2 15 x1 x2 x3 x4 m Q := by
  refine v_X1_cutBy_2 ?_
  refine ⟨fun hc1 => ?_, fun hc1 => ?_⟩
  · skip
    exact (s_X1_cutBy_2_L3_all hG hI hQ 25).1 _ _ _ _ (by omega) (by omega) (by omega) (by omega)
  · skip
    exfalso; omega
theorem s_X2_unit_43_L6 {g : gM} {x1 : Int32} {m : dM} {Q : Int32 → dM → Prop} (hG : Gd g) (hI : Inv g m) (h1 : 6 ≤ x1.toInt ∧ x1.toInt ≤ 6) (hQ : ∀ (r : Int32) (m' : dM), Inv g m' → (0 ≤ r.toInt ∧ r.toInt ≤ 1) → Q r m') : c_X2_unit_43 6 x1 m Q := by
  refine v_X2_unit_43 ?_
  refine v_X2_kind_43 ?_
  refine ⟨fun hc1 => ?_, fun hc1 => ?_⟩
  · skip
    refine v_X2_kind_43_32 ?_
    have f2 := ti_24
    refine ⟨fun hc3 => ?_, fun hc3 => ?_⟩
    · skip
      refine ⟨fun hc4 => ?_, fun hc4 => ?_⟩
      · skip
        exfalso; omega
      · skip
        refine ⟨fun hc5 => ?_, fun hc5 => ?_⟩
        · skip
          refine v_X2_unit_43_67 ?_
          refine ⟨fun hc6 => ?_, fun hc6 => ?_⟩
          · skip
            exfalso; omega
          · skip
            have f7 := ti_1
            refine Wp.deep (s_X2_fail_43 hG hI (fun R8 M8 I8 hr8 => ?_)) (Nat.le_of_ble_eq_true rfl)
            refine ⟨dB01 (by omega), ?_⟩
            exact hQ _ _ I8 (by omega)
        · skip
          exfalso; omega
    · skip
      exfalso; omega
  · skip
    refine ⟨fun hc2 => ?_, fun hc2 => ?_⟩
    · skip
      refine v_X2_kind_43_32 ?_
      have f3 := ti_24
      refine ⟨fun hc4 => ?_, fun hc4 => ?_⟩
      · skip
        refine ⟨fun hc5 => ?_, fun hc5 => ?_⟩
        · skip
          exfalso; omega
        · skip
          refine ⟨fun hc6 => ?_, fun hc6 => ?_⟩
          · skip
            refine v_X2_unit_43_67 ?_
            refine ⟨fun hc7 => ?_, fun hc7 => ?_⟩
            · skip
              exfalso; omega
            · skip
              have f8 := ti_1
              refine Wp.deep (s_X2_fail_43 hG hI (fun R9 M9 I9 hr9 => ?_)) (Nat.le_of_ble_eq_true rfl)
              refine ⟨dB01 (by omega), ?_⟩
              exact hQ _ _ I9 (by omega)
          · skip
            exfalso; omega
      · skip
        exfalso; omega
    · skip
      refine ⟨by omega, ?_⟩
      refine ⟨fun hc3 => ?_, fun hc3 => ?_⟩
      · skip
        refine ⟨fun hc4 => ?_, fun hc4 => ?_⟩
        · skip
          refine v_X2_unit_43_67 ?_
          refine ⟨fun hc5 => ?_, fun hc5 => ?_⟩
          · skip
            exfalso; omega
          · skip
            have f6 := ti_1
            refine Wp.deep (s_X2_fail_43 hG hI (fun R7 M7 I7 hr7 => ?_)) (Nat.le_of_ble_eq_true rfl)
            refine ⟨dB01 (by omega), ?_⟩
            exact hQ _ _ I7 (by omega)
        · skip
          refine ⟨fun hc5 => ?_, fun hc5 => ?_⟩
          · skip
            refine v_X2_unit_43_67 ?_
            refine ⟨fun hc6 => ?_, fun hc6 => ?_⟩
            · skip
              refine ⟨fun hc7 => ?_, fun hc7 => ?_⟩
              · skip
                exfalso; omega
              · skip
                have f8 := ti_2
                refine Wp.deep (s_X2_fail_43 hG hI (fun R9 M9 I9 hr9 => ?_)) (Nat.le_of_ble_eq_true rfl)
                refine ⟨dB01 (by omega), ?_⟩
                exact hQ _ _ I9 (by omega)
            · skip
              have f7 := ti_1
              refine Wp.deep (s_X2_fail_43 hG hI (fun R8 M8 I8 hr8 => ?_)) (Nat.le_of_ble_eq_true rfl)
              refine ⟨dB01 (by omega), ?_⟩
              exact hQ _ _ I8 (by omega)
          · skip
            have f6 := dAddE (X := 4) (Y := (m.1 39 (m.1 43 2).toNatClampNeg).toInt) (x := (4 : Int32)) (y := (m.1 39 (m.1 43 2).toNatClampNeg)) (by decide) rfl (by omega) (by omega)
            have f7 := dSubE (X := ((4 : Int32) + (m.1 39 (m.1 43 2).toNatClampNeg)).toInt) (Y := 13) (x := ((4 : Int32) + (m.1 39 (m.1 43 2).toNatClampNeg))) (y := (13 : Int32)) rfl (by decide) (by omega) (by omega)
            refine Wp.deep (s_X4_put_29 hG hI (fun M8 I8 => ?_)) (Nat.le_of_ble_eq_true rfl)
            refine Wp.deep (s_X2_step_43 hG I8 (fun R9 M9 I9 hr9 => ?_)) (Nat.le_of_ble_eq_true rfl)
            refine ⟨dB01 (by omega), ?_⟩
            exact hQ _ _ I9 (by omega)
      · skip
        refine Wp.deep (s_X8_numberAt_38 hG hI (fun R4 => ?_)) (Nat.le_of_ble_eq_true rfl)
        refine Wp.deep (s_X4_put_29 hG hI (fun M5 I5 => ?_)) (Nat.le_of_ble_eq_true rfl)
        refine Wp.deep (s_X2_step_43 hG I5 (fun R6 M6 I6 hr6 => ?_)) (Nat.le_of_ble_eq_true rfl)
        refine ⟨dB01 (by omega), ?_⟩
        exact hQ _ _ I6 (by omega)
theorem s_X2_product_43_L6_all {g : gM} {Q : Int32 → dM → Prop} (hG : Gd g) (hQ : ∀ (r : Int32) (m' : dM), Inv g m' → (0 ≤ r.toInt ∧ r.toInt ≤ 1) → Q r m') : ∀ n : Nat, (∀ (x1 : Int32) (x2 : Int32) (m : dM), Inv g m → (6 ≤ x1.toInt ∧ x1.toInt ≤ 6) → (0 ≤ x2.toInt ∧ x2.toInt ≤ 401) → 805 - 2 * x2.toInt < (n : Int) → j_X2_product_43_12 7 x1 x2 m Q) ∧ (∀ (x1 : Int32) (x2 : Int32) (m : dM), Inv g m → (6 ≤ x1.toInt ∧ x1.toInt ≤ 6) → (0 ≤ x2.toInt ∧ x2.toInt ≤ 400) → 804 - 2 * x2.toInt < (n : Int) → j_X2_product_43_37 7 x1 x2 m Q) ∧ (∀ (m : dM), Inv g m → 1 < (n : Int) → j_X2_product_43_67 7 m Q) ∧ (∀ (m : dM), Inv g m → 0 < (n : Int) → j_X2_product_43_83 7 m Q) := by
  intro n
  induction n with
  | zero => exact ⟨fun x1 x2 m hI h1 h2 hμ => by exfalso; omega, fun x1 x2 m hI h1 h2 hμ => by exfalso; omega, fun m hI hμ => by exfalso; omega, fun m hI hμ => by exfalso; omega⟩
  | succ n ih =>
    refine ⟨?_, ?_, ?_, ?_⟩
    · intro x1 x2 m hI h1 h2 hμ
      refine v_X2_product_43_12 ?_
      refine ⟨fun hc1 => ?_, fun hc1 => ?_⟩
      · skip
        exact ih.2.2.2 _ hI (by omega)
      · skip
        refine v_X2_kind_43 ?_
        refine ⟨fun hc2 => ?_, fun hc2 => ?_⟩
        · skip
          refine v_X2_kind_43_32 ?_
          have f3 := ti_24
          refine ⟨fun hc4 => ?_, fun hc4 => ?_⟩
          · skip
            exfalso; omega
          · skip
            refine v_X2_kind_43 ?_
            refine ⟨fun hc5 => ?_, fun hc5 => ?_⟩
            · skip
              refine v_X2_kind_43_32 ?_
              refine ⟨fun hc6 => ?_, fun hc6 => ?_⟩
              · skip
                exact ih.2.2.2 _ hI (by omega)
              · skip
                exfalso; omega
            · skip
              exfalso; omega
        · skip
          refine ⟨fun hc3 => ?_, fun hc3 => ?_⟩
          · skip
            refine v_X2_kind_43_32 ?_
            have f4 := ti_24
            refine ⟨fun hc5 => ?_, fun hc5 => ?_⟩
            · skip
              exfalso; omega
            · skip
              refine v_X2_kind_43 ?_
              refine ⟨fun hc6 => ?_, fun hc6 => ?_⟩
              · skip
                exfalso; omega
              · skip
                refine ⟨fun hc7 => ?_, fun hc7 => ?_⟩
                · skip
                  refine v_X2_kind_43_32 ?_
                  refine ⟨fun hc8 => ?_, fun hc8 => ?_⟩
                  · skip
                    exact ih.2.2.2 _ hI (by omega)
                  · skip
                    exfalso; omega
                · skip
                  exfalso; omega
          · skip
            refine ⟨by omega, ?_⟩
            refine ⟨fun hc4 => ?_, fun hc4 => ?_⟩
            · skip
              exact ih.2.1 _ _ _ hI (by omega) (by omega) (by omega)
            · skip
              refine v_X2_kind_43 ?_
              refine ⟨fun hc5 => ?_, fun hc5 => ?_⟩
              · skip
                exfalso; omega
              · skip
                refine ⟨fun hc6 => ?_, fun hc6 => ?_⟩
                · skip
                  exfalso; omega
                · skip
                  refine ⟨by omega, ?_⟩
                  refine ⟨fun hc7 => ?_, fun hc7 => ?_⟩
                  · skip
                    exact ih.2.2.2 _ hI (by omega)
                  · skip
                    exact ih.2.1 _ _ _ hI (by omega) (by omega) (by omega)
    · intro x1 x2 m hI h1 h2 hμ
      refine v_X2_product_43_37 ?_
      refine v_X2_kind_43 ?_
      refine ⟨fun hc1 => ?_, fun hc1 => ?_⟩
      · skip
        refine v_X2_kind_43_32 ?_
        have f2 := ti_24
        refine ⟨fun hc3 => ?_, fun hc3 => ?_⟩
        · skip
          refine Wp.deep (s_X2_step_43 hG hI (fun R4 M4 I4 hr4 => ?_)) (Nat.le_of_ble_eq_true rfl)
          refine ⟨fun hc5 => ?_, fun hc5 => ?_⟩
          · skip
            exact ih.2.2.1 _ I4 (by omega)
          · skip
            refine Wp.deep (s_X2_unit_43_L6 hG I4 (by omega) (fun R6 M6 I6 hr6 => ?_)) (Nat.le_of_ble_eq_true rfl)
            refine ⟨fun hc7 => ?_, fun hc7 => ?_⟩
            · skip
              have f8 := ti_3
              refine Wp.deep (s_X4_put_29 hG I6 (fun M9 I9 => ?_)) (Nat.le_of_ble_eq_true rfl)
              have f10 := dAddE (X := x2.toInt) (Y := 1) (x := x2) (y := (1 : Int32)) rfl (by decide) (by omega) (by omega)
              exact ih.1 _ _ _ I9 (by omega) (by omega) (by omega)
            · skip
              exact ih.2.2.1 _ I6 (by omega)
        · skip
          exfalso; omega
      · skip
        refine ⟨fun hc2 => ?_, fun hc2 => ?_⟩
        · skip
          refine v_X2_kind_43_32 ?_
          have f3 := ti_24
          refine ⟨fun hc4 => ?_, fun hc4 => ?_⟩
          · skip
            refine Wp.deep (s_X2_step_43 hG hI (fun R5 M5 I5 hr5 => ?_)) (Nat.le_of_ble_eq_true rfl)
            refine ⟨fun hc6 => ?_, fun hc6 => ?_⟩
            · skip
              exact ih.2.2.1 _ I5 (by omega)
            · skip
              refine Wp.deep (s_X2_unit_43_L6 hG I5 (by omega) (fun R7 M7 I7 hr7 => ?_)) (Nat.le_of_ble_eq_true rfl)
              refine ⟨fun hc8 => ?_, fun hc8 => ?_⟩
              · skip
                have f9 := ti_3
                refine Wp.deep (s_X4_put_29 hG I7 (fun M10 I10 => ?_)) (Nat.le_of_ble_eq_true rfl)
                have f11 := dAddE (X := x2.toInt) (Y := 1) (x := x2) (y := (1 : Int32)) rfl (by decide) (by omega) (by omega)
                exact ih.1 _ _ _ I10 (by omega) (by omega) (by omega)
              · skip
                exact ih.2.2.1 _ I7 (by omega)
          · skip
            exfalso; omega
        · skip
          refine ⟨by omega, ?_⟩
          refine ⟨fun hc3 => ?_, fun hc3 => ?_⟩
          · skip
            refine Wp.deep (s_X2_step_43 hG hI (fun R4 M4 I4 hr4 => ?_)) (Nat.le_of_ble_eq_true rfl)
            refine ⟨fun hc5 => ?_, fun hc5 => ?_⟩
            · skip
              exact ih.2.2.1 _ I4 (by omega)
            · skip
              refine Wp.deep (s_X2_unit_43_L6 hG I4 (by omega) (fun R6 M6 I6 hr6 => ?_)) (Nat.le_of_ble_eq_true rfl)
              refine ⟨fun hc7 => ?_, fun hc7 => ?_⟩
              · skip
                have f8 := ti_3
                refine Wp.deep (s_X4_put_29 hG I6 (fun M9 I9 => ?_)) (Nat.le_of_ble_eq_true rfl)
                have f10 := dAddE (X := x2.toInt) (Y := 1) (x := x2) (y := (1 : Int32)) rfl (by decide) (by omega) (by omega)
                exact ih.1 _ _ _ I9 (by omega) (by omega) (by omega)
              · skip
                exact ih.2.2.1 _ I6 (by omega)
          · skip
            refine Wp.deep (s_X2_step_43 hG hI (fun R4 M4 I4 hr4 => ?_)) (Nat.le_of_ble_eq_true rfl)
            refine ⟨fun hc5 => ?_, fun hc5 => ?_⟩
            · skip
              exact ih.2.2.1 _ I4 (by omega)
            · skip
              refine Wp.deep (s_X2_unit_43_L6 hG I4 (by omega) (fun R6 M6 I6 hr6 => ?_)) (Nat.le_of_ble_eq_true rfl)
              refine ⟨fun hc7 => ?_, fun hc7 => ?_⟩
              · skip
                have f8 := ti_2
                refine Wp.deep (s_X4_put_29 hG I6 (fun M9 I9 => ?_)) (Nat.le_of_ble_eq_true rfl)
                have f10 := dAddE (X := x2.toInt) (Y := 1) (x := x2) (y := (1 : Int32)) rfl (by decide) (by omega) (by omega)
                exact ih.1 _ _ _ I9 (by omega) (by omega) (by omega)
              · skip
                exact ih.2.2.1 _ I6 (by omega)
    · intro m hI hμ
      refine v_X2_product_43_67 ?_
      have f1 := ti_0
      exact hQ _ _ hI (by omega)
    · intro m hI hμ
      refine v_X2_product_43_83 ?_
      have f1 := ti_1
      exact hQ _ _ hI (by omega)
theorem s_X2_product_43_L6 {g : gM} {x1 : Int32} {m : dM} {Q : Int32 → dM → Prop} (hG : Gd g) (hI : Inv g m) (h1 : 6 ≤ x1.toInt ∧ x1.toInt ≤ 6) (hQ : ∀ (r : Int32) (m' : dM), Inv g m' → (0 ≤ r.toInt ∧ r.toInt ≤ 1) → Q r m') : c_X2_product_43 7 x1 m Q := by
  refine v_X2_product_43 ?_
  refine Wp.deep (s_X2_unit_43_L6 hG hI (by omega) (fun R1 M1 I1 hr1 => ?_)) (Nat.le_of_ble_eq_true rfl)
  refine ⟨fun hc2 => ?_, fun hc2 => ?_⟩
  · skip
    have f3 := ti_0
    exact (s_X2_product_43_L6_all hG hQ 807).1 _ _ _ I1 (by omega) (by omega) (by omega)
  · skip
    have f3 := ti_0
    exact hQ _ _ I1 (by omega)
theorem s_X2_sum_43_L6_all {g : gM} {Q : Int32 → dM → Prop} (hG : Gd g) (hQ : ∀ (r : Int32) (m' : dM), Inv g m' → (0 ≤ r.toInt ∧ r.toInt ≤ 1) → Q r m') : ∀ n : Nat, (∀ (x1 : Int32) (x2 : Int32) (m : dM), Inv g m → (6 ≤ x1.toInt ∧ x1.toInt ≤ 6) → (0 ≤ x2.toInt ∧ x2.toInt ≤ 401) → 805 - 2 * x2.toInt < (n : Int) → j_X2_sum_43_12 8 x1 x2 m Q) ∧ (∀ (x1 : Int32) (x2 : Int32) (m : dM), Inv g m → (6 ≤ x1.toInt ∧ x1.toInt ≤ 6) → (0 ≤ x2.toInt ∧ x2.toInt ≤ 400) → 804 - 2 * x2.toInt < (n : Int) → j_X2_sum_43_37 8 x1 x2 m Q) ∧ (∀ (m : dM), Inv g m → 1 < (n : Int) → j_X2_sum_43_67 8 m Q) ∧ (∀ (m : dM), Inv g m → 0 < (n : Int) → j_X2_sum_43_83 8 m Q) := by
  intro n
  induction n with
  | zero => exact ⟨fun x1 x2 m hI h1 h2 hμ => by exfalso; omega, fun x1 x2 m hI h1 h2 hμ => by exfalso; omega, fun m hI hμ => by exfalso; omega, fun m hI hμ => by exfalso; omega⟩
  | succ n ih =>
    refine ⟨?_, ?_, ?_, ?_⟩
    · intro x1 x2 m hI h1 h2 hμ
      refine v_X2_sum_43_12 ?_
      refine ⟨fun hc1 => ?_, fun hc1 => ?_⟩
      · skip
        exact ih.2.2.2 _ hI (by omega)
      · skip
        refine v_X2_kind_43 ?_
        refine ⟨fun hc2 => ?_, fun hc2 => ?_⟩
        · skip
          refine v_X2_kind_43_32 ?_
          have f3 := ti_24
          refine ⟨fun hc4 => ?_, fun hc4 => ?_⟩
          · skip
            exfalso; omega
          · skip
            refine v_X2_kind_43 ?_
            refine ⟨fun hc5 => ?_, fun hc5 => ?_⟩
            · skip
              refine v_X2_kind_43_32 ?_
              refine ⟨fun hc6 => ?_, fun hc6 => ?_⟩
              · skip
                exact ih.2.2.2 _ hI (by omega)
              · skip
                exfalso; omega
            · skip
              exfalso; omega
        · skip
          refine ⟨fun hc3 => ?_, fun hc3 => ?_⟩
          · skip
            refine v_X2_kind_43_32 ?_
            have f4 := ti_24
            refine ⟨fun hc5 => ?_, fun hc5 => ?_⟩
            · skip
              exfalso; omega
            · skip
              refine v_X2_kind_43 ?_
              refine ⟨fun hc6 => ?_, fun hc6 => ?_⟩
              · skip
                exfalso; omega
              · skip
                refine ⟨fun hc7 => ?_, fun hc7 => ?_⟩
                · skip
                  refine v_X2_kind_43_32 ?_
                  refine ⟨fun hc8 => ?_, fun hc8 => ?_⟩
                  · skip
                    exact ih.2.2.2 _ hI (by omega)
                  · skip
                    exfalso; omega
                · skip
                  exfalso; omega
          · skip
            refine ⟨by omega, ?_⟩
            refine ⟨fun hc4 => ?_, fun hc4 => ?_⟩
            · skip
              exact ih.2.1 _ _ _ hI (by omega) (by omega) (by omega)
            · skip
              refine v_X2_kind_43 ?_
              refine ⟨fun hc5 => ?_, fun hc5 => ?_⟩
              · skip
                exfalso; omega
              · skip
                refine ⟨fun hc6 => ?_, fun hc6 => ?_⟩
                · skip
                  exfalso; omega
                · skip
                  refine ⟨by omega, ?_⟩
                  refine ⟨fun hc7 => ?_, fun hc7 => ?_⟩
                  · skip
                    exact ih.2.2.2 _ hI (by omega)
                  · skip
                    exact ih.2.1 _ _ _ hI (by omega) (by omega) (by omega)
    · intro x1 x2 m hI h1 h2 hμ
      refine v_X2_sum_43_37 ?_
      refine v_X2_kind_43 ?_
      refine ⟨fun hc1 => ?_, fun hc1 => ?_⟩
      · skip
        refine v_X2_kind_43_32 ?_
        have f2 := ti_24
        refine ⟨fun hc3 => ?_, fun hc3 => ?_⟩
        · skip
          refine Wp.deep (s_X2_step_43 hG hI (fun R4 M4 I4 hr4 => ?_)) (Nat.le_of_ble_eq_true rfl)
          refine ⟨fun hc5 => ?_, fun hc5 => ?_⟩
          · skip
            exact ih.2.2.1 _ I4 (by omega)
          · skip
            refine Wp.deep (s_X2_product_43_L6 hG I4 (by omega) (fun R6 M6 I6 hr6 => ?_)) (Nat.le_of_ble_eq_true rfl)
            refine ⟨fun hc7 => ?_, fun hc7 => ?_⟩
            · skip
              have f8 := ti_1
              refine Wp.deep (s_X4_put_29 hG I6 (fun M9 I9 => ?_)) (Nat.le_of_ble_eq_true rfl)
              have f10 := dAddE (X := x2.toInt) (Y := 1) (x := x2) (y := (1 : Int32)) rfl (by decide) (by omega) (by omega)
              exact ih.1 _ _ _ I9 (by omega) (by omega) (by omega)
            · skip
              exact ih.2.2.1 _ I6 (by omega)
        · skip
          exfalso; omega
      · skip
        refine ⟨fun hc2 => ?_, fun hc2 => ?_⟩
        · skip
          refine v_X2_kind_43_32 ?_
          have f3 := ti_24
          refine ⟨fun hc4 => ?_, fun hc4 => ?_⟩
          · skip
            refine Wp.deep (s_X2_step_43 hG hI (fun R5 M5 I5 hr5 => ?_)) (Nat.le_of_ble_eq_true rfl)
            refine ⟨fun hc6 => ?_, fun hc6 => ?_⟩
            · skip
              exact ih.2.2.1 _ I5 (by omega)
            · skip
              refine Wp.deep (s_X2_product_43_L6 hG I5 (by omega) (fun R7 M7 I7 hr7 => ?_)) (Nat.le_of_ble_eq_true rfl)
              refine ⟨fun hc8 => ?_, fun hc8 => ?_⟩
              · skip
                have f9 := ti_1
                refine Wp.deep (s_X4_put_29 hG I7 (fun M10 I10 => ?_)) (Nat.le_of_ble_eq_true rfl)
                have f11 := dAddE (X := x2.toInt) (Y := 1) (x := x2) (y := (1 : Int32)) rfl (by decide) (by omega) (by omega)
                exact ih.1 _ _ _ I10 (by omega) (by omega) (by omega)
              · skip
                exact ih.2.2.1 _ I7 (by omega)
          · skip
            exfalso; omega
        · skip
          refine ⟨by omega, ?_⟩
          refine ⟨fun hc3 => ?_, fun hc3 => ?_⟩
          · skip
            refine Wp.deep (s_X2_step_43 hG hI (fun R4 M4 I4 hr4 => ?_)) (Nat.le_of_ble_eq_true rfl)
            refine ⟨fun hc5 => ?_, fun hc5 => ?_⟩
            · skip
              exact ih.2.2.1 _ I4 (by omega)
            · skip
              refine Wp.deep (s_X2_product_43_L6 hG I4 (by omega) (fun R6 M6 I6 hr6 => ?_)) (Nat.le_of_ble_eq_true rfl)
              refine ⟨fun hc7 => ?_, fun hc7 => ?_⟩
              · skip
                have f8 := ti_1
                refine Wp.deep (s_X4_put_29 hG I6 (fun M9 I9 => ?_)) (Nat.le_of_ble_eq_true rfl)
                have f10 := dAddE (X := x2.toInt) (Y := 1) (x := x2) (y := (1 : Int32)) rfl (by decide) (by omega) (by omega)
                exact ih.1 _ _ _ I9 (by omega) (by omega) (by omega)
              · skip
                exact ih.2.2.1 _ I6 (by omega)
          · skip
            refine Wp.deep (s_X2_step_43 hG hI (fun R4 M4 I4 hr4 => ?_)) (Nat.le_of_ble_eq_true rfl)
            refine ⟨fun hc5 => ?_, fun hc5 => ?_⟩
            · skip
              exact ih.2.2.1 _ I4 (by omega)
            · skip
              refine Wp.deep (s_X2_product_43_L6 hG I4 (by omega) (fun R6 M6 I6 hr6 => ?_)) (Nat.le_of_ble_eq_true rfl)
              refine ⟨fun hc7 => ?_, fun hc7 => ?_⟩
              · skip
                have f8 := ti_0
                refine Wp.deep (s_X4_put_29 hG I6 (fun M9 I9 => ?_)) (Nat.le_of_ble_eq_true rfl)
                have f10 := dAddE (X := x2.toInt) (Y := 1) (x := x2) (y := (1 : Int32)) rfl (by decide) (by omega) (by omega)
                exact ih.1 _ _ _ I9 (by omega) (by omega) (by omega)
              · skip
                exact ih.2.2.1 _ I6 (by omega)
    · intro m hI hμ
      refine v_X2_sum_43_67 ?_
      have f1 := ti_0
      exact hQ _ _ hI (by omega)
    · intro m hI hμ
      refine v_X2_sum_43_83 ?_
      have f1 := ti_1
      exact hQ _ _ hI (by omega)
theorem s_X2_sum_43_L6 {g : gM} {x1 : Int32} {m : dM} {Q : Int32 → dM → Prop} (hG : Gd g) (hI : Inv g m) (h1 : 6 ≤ x1.toInt ∧ x1.toInt ≤ 6) (hQ : ∀ (r : Int32) (m' : dM), Inv g m' → (0 ≤ r.toInt ∧ r.toInt ≤ 1) → Q r m') : c_X2_sum_43 8 x1 m Q := by
  refine v_X2_sum_43 ?_
  refine Wp.deep (s_X2_product_43_L6 hG hI (by omega) (fun R1 M1 I1 hr1 => ?_)) (Nat.le_of_ble_eq_true rfl)
  refine ⟨fun hc2 => ?_, fun hc2 => ?_⟩
  · skip
    have f3 := ti_0
    exact (s_X2_sum_43_L6_all hG hQ 807).1 _ _ _ I1 (by omega) (by omega) (by omega)
  · skip
    have f3 := ti_0
    exact hQ _ _ I1 (by omega)
theorem s_X2_unit_43_L5 {g : gM} {x1 : Int32} {m : dM} {Q : Int32 → dM → Prop} (hG : Gd g) (hI : Inv g m) (h1 : 5 ≤ x1.toInt ∧ x1.toInt ≤ 5) (hQ : ∀ (r : Int32) (m' : dM), Inv g m' → (0 ≤ r.toInt ∧ r.toInt ≤ 1) → Q r m') : c_X2_unit_43 9 x1 m Q := by
  refine v_X2_unit_43 ?_
  refine v_X2_kind_43 ?_
  refine ⟨fun hc1 => ?_, fun hc1 => ?_⟩
  · skip
    refine v_X2_kind_43_32 ?_
    have f2 := ti_24
    refine ⟨fun hc3 => ?_, fun hc3 => ?_⟩
    · skip
      refine ⟨fun hc4 => ?_, fun hc4 => ?_⟩
      · skip
        exfalso; omega
      · skip
        refine ⟨fun hc5 => ?_, fun hc5 => ?_⟩
        · skip
          refine v_X2_unit_43_67 ?_
          refine ⟨fun hc6 => ?_, fun hc6 => ?_⟩
          · skip
            exfalso; omega
          · skip
            have f7 := ti_1
            refine Wp.deep (s_X2_fail_43 hG hI (fun R8 M8 I8 hr8 => ?_)) (Nat.le_of_ble_eq_true rfl)
            refine ⟨dB01 (by omega), ?_⟩
            exact hQ _ _ I8 (by omega)
        · skip
          exfalso; omega
    · skip
      exfalso; omega
  · skip
    refine ⟨fun hc2 => ?_, fun hc2 => ?_⟩
    · skip
      refine v_X2_kind_43_32 ?_
      have f3 := ti_24
      refine ⟨fun hc4 => ?_, fun hc4 => ?_⟩
      · skip
        refine ⟨fun hc5 => ?_, fun hc5 => ?_⟩
        · skip
          exfalso; omega
        · skip
          refine ⟨fun hc6 => ?_, fun hc6 => ?_⟩
          · skip
            refine v_X2_unit_43_67 ?_
            refine ⟨fun hc7 => ?_, fun hc7 => ?_⟩
            · skip
              exfalso; omega
            · skip
              have f8 := ti_1
              refine Wp.deep (s_X2_fail_43 hG hI (fun R9 M9 I9 hr9 => ?_)) (Nat.le_of_ble_eq_true rfl)
              refine ⟨dB01 (by omega), ?_⟩
              exact hQ _ _ I9 (by omega)
          · skip
            exfalso; omega
      · skip
        exfalso; omega
    · skip
      refine ⟨by omega, ?_⟩
      refine ⟨fun hc3 => ?_, fun hc3 => ?_⟩
      · skip
        refine ⟨fun hc4 => ?_, fun hc4 => ?_⟩
        · skip
          refine v_X2_unit_43_67 ?_
          refine ⟨fun hc5 => ?_, fun hc5 => ?_⟩
          · skip
            exfalso; omega
          · skip
            have f6 := ti_1
            refine Wp.deep (s_X2_fail_43 hG hI (fun R7 M7 I7 hr7 => ?_)) (Nat.le_of_ble_eq_true rfl)
            refine ⟨dB01 (by omega), ?_⟩
            exact hQ _ _ I7 (by omega)
        · skip
          refine ⟨fun hc5 => ?_, fun hc5 => ?_⟩
          · skip
            refine v_X2_unit_43_67 ?_
            refine ⟨fun hc6 => ?_, fun hc6 => ?_⟩
            · skip
              refine ⟨fun hc7 => ?_, fun hc7 => ?_⟩
              · skip
                refine Wp.deep (s_X2_step_43 hG hI (fun R8 M8 I8 hr8 => ?_)) (Nat.le_of_ble_eq_true rfl)
                refine ⟨fun hc9 => ?_, fun hc9 => ?_⟩
                · skip
                  refine v_X2_unit_43_123 ?_
                  have f10 := ti_0
                  exact hQ _ _ I8 (by omega)
                · skip
                  have f10 := dAddE (X := x1.toInt) (Y := 1) (x := x1) (y := (1 : Int32)) rfl (by decide) (by omega) (by omega)
                  refine Wp.deep (s_X2_sum_43_L6 hG I8 (by omega) (fun R11 M11 I11 hr11 => ?_)) (Nat.le_of_ble_eq_true rfl)
                  refine ⟨fun hc12 => ?_, fun hc12 => ?_⟩
                  · skip
                    refine v_X2_unit_43_123 ?_
                    have f13 := ti_0
                    exact hQ _ _ I11 (by omega)
                  · skip
                    have f13 := ti_41
                    refine Wp.deep (s_X2_need_43 hG I11 (fun R14 M14 I14 hr14 => ?_)) (Nat.le_of_ble_eq_true rfl)
                    refine ⟨fun hc15 => ?_, fun hc15 => ?_⟩
                    · skip
                      refine v_X2_unit_43_123 ?_
                      have f16 := ti_0
                      exact hQ _ _ I14 (by omega)
                    · skip
                      have f16 := ti_1
                      exact hQ _ _ I14 (by omega)
              · skip
                exfalso; omega
            · skip
              have f7 := ti_1
              refine Wp.deep (s_X2_fail_43 hG hI (fun R8 M8 I8 hr8 => ?_)) (Nat.le_of_ble_eq_true rfl)
              refine ⟨dB01 (by omega), ?_⟩
              exact hQ _ _ I8 (by omega)
          · skip
            have f6 := dAddE (X := 4) (Y := (m.1 39 (m.1 43 2).toNatClampNeg).toInt) (x := (4 : Int32)) (y := (m.1 39 (m.1 43 2).toNatClampNeg)) (by decide) rfl (by omega) (by omega)
            have f7 := dSubE (X := ((4 : Int32) + (m.1 39 (m.1 43 2).toNatClampNeg)).toInt) (Y := 13) (x := ((4 : Int32) + (m.1 39 (m.1 43 2).toNatClampNeg))) (y := (13 : Int32)) rfl (by decide) (by omega) (by omega)
            refine Wp.deep (s_X4_put_29 hG hI (fun M8 I8 => ?_)) (Nat.le_of_ble_eq_true rfl)
            refine Wp.deep (s_X2_step_43 hG I8 (fun R9 M9 I9 hr9 => ?_)) (Nat.le_of_ble_eq_true rfl)
            refine ⟨dB01 (by omega), ?_⟩
            exact hQ _ _ I9 (by omega)
      · skip
        refine Wp.deep (s_X8_numberAt_38 hG hI (fun R4 => ?_)) (Nat.le_of_ble_eq_true rfl)
        refine Wp.deep (s_X4_put_29 hG hI (fun M5 I5 => ?_)) (Nat.le_of_ble_eq_true rfl)
        refine Wp.deep (s_X2_step_43 hG I5 (fun R6 M6 I6 hr6 => ?_)) (Nat.le_of_ble_eq_true rfl)
        refine ⟨dB01 (by omega), ?_⟩
        exact hQ _ _ I6 (by omega)
theorem s_X2_product_43_L5_all {g : gM} {Q : Int32 → dM → Prop} (hG : Gd g) (hQ : ∀ (r : Int32) (m' : dM), Inv g m' → (0 ≤ r.toInt ∧ r.toInt ≤ 1) → Q r m') : ∀ n : Nat, (∀ (x1 : Int32) (x2 : Int32) (m : dM), Inv g m → (5 ≤ x1.toInt ∧ x1.toInt ≤ 5) → (0 ≤ x2.toInt ∧ x2.toInt ≤ 401) → 805 - 2 * x2.toInt < (n : Int) → j_X2_product_43_12 10 x1 x2 m Q) ∧ (∀ (x1 : Int32) (x2 : Int32) (m : dM), Inv g m → (5 ≤ x1.toInt ∧ x1.toInt ≤ 5) → (0 ≤ x2.toInt ∧ x2.toInt ≤ 400) → 804 - 2 * x2.toInt < (n : Int) → j_X2_product_43_37 10 x1 x2 m Q) ∧ (∀ (m : dM), Inv g m → 1 < (n : Int) → j_X2_product_43_67 10 m Q) ∧ (∀ (m : dM), Inv g m → 0 < (n : Int) → j_X2_product_43_83 10 m Q) := by
  intro n
  induction n with
  | zero => exact ⟨fun x1 x2 m hI h1 h2 hμ => by exfalso; omega, fun x1 x2 m hI h1 h2 hμ => by exfalso; omega, fun m hI hμ => by exfalso; omega, fun m hI hμ => by exfalso; omega⟩
  | succ n ih =>
    refine ⟨?_, ?_, ?_, ?_⟩
    · intro x1 x2 m hI h1 h2 hμ
      refine v_X2_product_43_12 ?_
      refine ⟨fun hc1 => ?_, fun hc1 => ?_⟩
      · skip
        exact ih.2.2.2 _ hI (by omega)
      · skip
        refine v_X2_kind_43 ?_
        refine ⟨fun hc2 => ?_, fun hc2 => ?_⟩
        · skip
          refine v_X2_kind_43_32 ?_
          have f3 := ti_24
          refine ⟨fun hc4 => ?_, fun hc4 => ?_⟩
          · skip
            exfalso; omega
          · skip
            refine v_X2_kind_43 ?_
            refine ⟨fun hc5 => ?_, fun hc5 => ?_⟩
            · skip
              refine v_X2_kind_43_32 ?_
              refine ⟨fun hc6 => ?_, fun hc6 => ?_⟩
              · skip
                exact ih.2.2.2 _ hI (by omega)
              · skip
                exfalso; omega
            · skip
              exfalso; omega
        · skip
          refine ⟨fun hc3 => ?_, fun hc3 => ?_⟩
          · skip
            refine v_X2_kind_43_32 ?_
            have f4 := ti_24
            refine ⟨fun hc5 => ?_, fun hc5 => ?_⟩
            · skip
              exfalso; omega
            · skip
              refine v_X2_kind_43 ?_
              refine ⟨fun hc6 => ?_, fun hc6 => ?_⟩
              · skip
                exfalso; omega
              · skip
                refine ⟨fun hc7 => ?_, fun hc7 => ?_⟩
                · skip
                  refine v_X2_kind_43_32 ?_
                  refine ⟨fun hc8 => ?_, fun hc8 => ?_⟩
                  · skip
                    exact ih.2.2.2 _ hI (by omega)
                  · skip
                    exfalso; omega
                · skip
                  exfalso; omega
          · skip
            refine ⟨by omega, ?_⟩
            refine ⟨fun hc4 => ?_, fun hc4 => ?_⟩
            · skip
              exact ih.2.1 _ _ _ hI (by omega) (by omega) (by omega)
            · skip
              refine v_X2_kind_43 ?_
              refine ⟨fun hc5 => ?_, fun hc5 => ?_⟩
              · skip
                exfalso; omega
              · skip
                refine ⟨fun hc6 => ?_, fun hc6 => ?_⟩
                · skip
                  exfalso; omega
                · skip
                  refine ⟨by omega, ?_⟩
                  refine ⟨fun hc7 => ?_, fun hc7 => ?_⟩
                  · skip
                    exact ih.2.2.2 _ hI (by omega)
                  · skip
                    exact ih.2.1 _ _ _ hI (by omega) (by omega) (by omega)
    · intro x1 x2 m hI h1 h2 hμ
      refine v_X2_product_43_37 ?_
      refine v_X2_kind_43 ?_
      refine ⟨fun hc1 => ?_, fun hc1 => ?_⟩
      · skip
        refine v_X2_kind_43_32 ?_
        have f2 := ti_24
        refine ⟨fun hc3 => ?_, fun hc3 => ?_⟩
        · skip
          refine Wp.deep (s_X2_step_43 hG hI (fun R4 M4 I4 hr4 => ?_)) (Nat.le_of_ble_eq_true rfl)
          refine ⟨fun hc5 => ?_, fun hc5 => ?_⟩
          · skip
            exact ih.2.2.1 _ I4 (by omega)
          · skip
            refine Wp.deep (s_X2_unit_43_L5 hG I4 (by omega) (fun R6 M6 I6 hr6 => ?_)) (Nat.le_of_ble_eq_true rfl)
            refine ⟨fun hc7 => ?_, fun hc7 => ?_⟩
            · skip
              have f8 := ti_3
              refine Wp.deep (s_X4_put_29 hG I6 (fun M9 I9 => ?_)) (Nat.le_of_ble_eq_true rfl)
              have f10 := dAddE (X := x2.toInt) (Y := 1) (x := x2) (y := (1 : Int32)) rfl (by decide) (by omega) (by omega)
              exact ih.1 _ _ _ I9 (by omega) (by omega) (by omega)
            · skip
              exact ih.2.2.1 _ I6 (by omega)
        · skip
          exfalso; omega
      · skip
        refine ⟨fun hc2 => ?_, fun hc2 => ?_⟩
        · skip
          refine v_X2_kind_43_32 ?_
          have f3 := ti_24
          refine ⟨fun hc4 => ?_, fun hc4 => ?_⟩
          · skip
            refine Wp.deep (s_X2_step_43 hG hI (fun R5 M5 I5 hr5 => ?_)) (Nat.le_of_ble_eq_true rfl)
            refine ⟨fun hc6 => ?_, fun hc6 => ?_⟩
            · skip
              exact ih.2.2.1 _ I5 (by omega)
            · skip
              refine Wp.deep (s_X2_unit_43_L5 hG I5 (by omega) (fun R7 M7 I7 hr7 => ?_)) (Nat.le_of_ble_eq_true rfl)
              refine ⟨fun hc8 => ?_, fun hc8 => ?_⟩
              · skip
                have f9 := ti_3
                refine Wp.deep (s_X4_put_29 hG I7 (fun M10 I10 => ?_)) (Nat.le_of_ble_eq_true rfl)
                have f11 := dAddE (X := x2.toInt) (Y := 1) (x := x2) (y := (1 : Int32)) rfl (by decide) (by omega) (by omega)
                exact ih.1 _ _ _ I10 (by omega) (by omega) (by omega)
              · skip
                exact ih.2.2.1 _ I7 (by omega)
          · skip
            exfalso; omega
        · skip
          refine ⟨by omega, ?_⟩
          refine ⟨fun hc3 => ?_, fun hc3 => ?_⟩
          · skip
            refine Wp.deep (s_X2_step_43 hG hI (fun R4 M4 I4 hr4 => ?_)) (Nat.le_of_ble_eq_true rfl)
            refine ⟨fun hc5 => ?_, fun hc5 => ?_⟩
            · skip
              exact ih.2.2.1 _ I4 (by omega)
            · skip
              refine Wp.deep (s_X2_unit_43_L5 hG I4 (by omega) (fun R6 M6 I6 hr6 => ?_)) (Nat.le_of_ble_eq_true rfl)
              refine ⟨fun hc7 => ?_, fun hc7 => ?_⟩
              · skip
                have f8 := ti_3
                refine Wp.deep (s_X4_put_29 hG I6 (fun M9 I9 => ?_)) (Nat.le_of_ble_eq_true rfl)
                have f10 := dAddE (X := x2.toInt) (Y := 1) (x := x2) (y := (1 : Int32)) rfl (by decide) (by omega) (by omega)
                exact ih.1 _ _ _ I9 (by omega) (by omega) (by omega)
              · skip
                exact ih.2.2.1 _ I6 (by omega)
          · skip
            refine Wp.deep (s_X2_step_43 hG hI (fun R4 M4 I4 hr4 => ?_)) (Nat.le_of_ble_eq_true rfl)
            refine ⟨fun hc5 => ?_, fun hc5 => ?_⟩
            · skip
              exact ih.2.2.1 _ I4 (by omega)
            · skip
              refine Wp.deep (s_X2_unit_43_L5 hG I4 (by omega) (fun R6 M6 I6 hr6 => ?_)) (Nat.le_of_ble_eq_true rfl)
              refine ⟨fun hc7 => ?_, fun hc7 => ?_⟩
              · skip
                have f8 := ti_2
                refine Wp.deep (s_X4_put_29 hG I6 (fun M9 I9 => ?_)) (Nat.le_of_ble_eq_true rfl)
                have f10 := dAddE (X := x2.toInt) (Y := 1) (x := x2) (y := (1 : Int32)) rfl (by decide) (by omega) (by omega)
                exact ih.1 _ _ _ I9 (by omega) (by omega) (by omega)
              · skip
                exact ih.2.2.1 _ I6 (by omega)
    · intro m hI hμ
      refine v_X2_product_43_67 ?_
      have f1 := ti_0
      exact hQ _ _ hI (by omega)
    · intro m hI hμ
      refine v_X2_product_43_83 ?_
      have f1 := ti_1
      exact hQ _ _ hI (by omega)
theorem s_X2_product_43_L5 {g : gM} {x1 : Int32} {m : dM} {Q : Int32 → dM → Prop} (hG : Gd g) (hI : Inv g m) (h1 : 5 ≤ x1.toInt ∧ x1.toInt ≤ 5) (hQ : ∀ (r : Int32) (m' : dM), Inv g m' → (0 ≤ r.toInt ∧ r.toInt ≤ 1) → Q r m') : c_X2_product_43 10 x1 m Q := by
  refine v_X2_product_43 ?_
  refine Wp.deep (s_X2_unit_43_L5 hG hI (by omega) (fun R1 M1 I1 hr1 => ?_)) (Nat.le_of_ble_eq_true rfl)
  refine ⟨fun hc2 => ?_, fun hc2 => ?_⟩
  · skip
    have f3 := ti_0
    exact (s_X2_product_43_L5_all hG hQ 807).1 _ _ _ I1 (by omega) (by omega) (by omega)
  · skip
    have f3 := ti_0
    exact hQ _ _ I1 (by omega)
theorem s_X2_sum_43_L5_all {g : gM} {Q : Int32 → dM → Prop} (hG : Gd g) (hQ : ∀ (r : Int32) (m' : dM), Inv g m' → (0 ≤ r.toInt ∧ r.toInt ≤ 1) → Q r m') : ∀ n : Nat, (∀ (x1 : Int32) (x2 : Int32) (m : dM), Inv g m → (5 ≤ x1.toInt ∧ x1.toInt ≤ 5) → (0 ≤ x2.toInt ∧ x2.toInt ≤ 401) → 805 - 2 * x2.toInt < (n : Int) → j_X2_sum_43_12 11 x1 x2 m Q) ∧ (∀ (x1 : Int32) (x2 : Int32) (m : dM), Inv g m → (5 ≤ x1.toInt ∧ x1.toInt ≤ 5) → (0 ≤ x2.toInt ∧ x2.toInt ≤ 400) → 804 - 2 * x2.toInt < (n : Int) → j_X2_sum_43_37 11 x1 x2 m Q) ∧ (∀ (m : dM), Inv g m → 1 < (n : Int) → j_X2_sum_43_67 11 m Q) ∧ (∀ (m : dM), Inv g m → 0 < (n : Int) → j_X2_sum_43_83 11 m Q) := by
  intro n
  induction n with
  | zero => exact ⟨fun x1 x2 m hI h1 h2 hμ => by exfalso; omega, fun x1 x2 m hI h1 h2 hμ => by exfalso; omega, fun m hI hμ => by exfalso; omega, fun m hI hμ => by exfalso; omega⟩
  | succ n ih =>
    refine ⟨?_, ?_, ?_, ?_⟩
    · intro x1 x2 m hI h1 h2 hμ
      refine v_X2_sum_43_12 ?_
      refine ⟨fun hc1 => ?_, fun hc1 => ?_⟩
      · skip
        exact ih.2.2.2 _ hI (by omega)
      · skip
        refine v_X2_kind_43 ?_
        refine ⟨fun hc2 => ?_, fun hc2 => ?_⟩
        · skip
          refine v_X2_kind_43_32 ?_
          have f3 := ti_24
          refine ⟨fun hc4 => ?_, fun hc4 => ?_⟩
          · skip
            exfalso; omega
          · skip
            refine v_X2_kind_43 ?_
            refine ⟨fun hc5 => ?_, fun hc5 => ?_⟩
            · skip
              refine v_X2_kind_43_32 ?_
              refine ⟨fun hc6 => ?_, fun hc6 => ?_⟩
              · skip
                exact ih.2.2.2 _ hI (by omega)
              · skip
                exfalso; omega
            · skip
              exfalso; omega
        · skip
          refine ⟨fun hc3 => ?_, fun hc3 => ?_⟩
          · skip
            refine v_X2_kind_43_32 ?_
            have f4 := ti_24
            refine ⟨fun hc5 => ?_, fun hc5 => ?_⟩
            · skip
              exfalso; omega
            · skip
              refine v_X2_kind_43 ?_
              refine ⟨fun hc6 => ?_, fun hc6 => ?_⟩
              · skip
                exfalso; omega
              · skip
                refine ⟨fun hc7 => ?_, fun hc7 => ?_⟩
                · skip
                  refine v_X2_kind_43_32 ?_
                  refine ⟨fun hc8 => ?_, fun hc8 => ?_⟩
                  · skip
                    exact ih.2.2.2 _ hI (by omega)
                  · skip
                    exfalso; omega
                · skip
                  exfalso; omega
          · skip
            refine ⟨by omega, ?_⟩
            refine ⟨fun hc4 => ?_, fun hc4 => ?_⟩
            · skip
              exact ih.2.1 _ _ _ hI (by omega) (by omega) (by omega)
            · skip
              refine v_X2_kind_43 ?_
              refine ⟨fun hc5 => ?_, fun hc5 => ?_⟩
              · skip
                exfalso; omega
              · skip
                refine ⟨fun hc6 => ?_, fun hc6 => ?_⟩
                · skip
                  exfalso; omega
                · skip
                  refine ⟨by omega, ?_⟩
                  refine ⟨fun hc7 => ?_, fun hc7 => ?_⟩
                  · skip
                    exact ih.2.2.2 _ hI (by omega)
                  · skip
                    exact ih.2.1 _ _ _ hI (by omega) (by omega) (by omega)
    · intro x1 x2 m hI h1 h2 hμ
      refine v_X2_sum_43_37 ?_
      refine v_X2_kind_43 ?_
      refine ⟨fun hc1 => ?_, fun hc1 => ?_⟩
      · skip
        refine v_X2_kind_43_32 ?_
        have f2 := ti_24
        refine ⟨fun hc3 => ?_, fun hc3 => ?_⟩
        · skip
          refine Wp.deep (s_X2_step_43 hG hI (fun R4 M4 I4 hr4 => ?_)) (Nat.le_of_ble_eq_true rfl)
          refine ⟨fun hc5 => ?_, fun hc5 => ?_⟩
          · skip
            exact ih.2.2.1 _ I4 (by omega)
          · skip
            refine Wp.deep (s_X2_product_43_L5 hG I4 (by omega) (fun R6 M6 I6 hr6 => ?_)) (Nat.le_of_ble_eq_true rfl)
            refine ⟨fun hc7 => ?_, fun hc7 => ?_⟩
            · skip
              have f8 := ti_1
              refine Wp.deep (s_X4_put_29 hG I6 (fun M9 I9 => ?_)) (Nat.le_of_ble_eq_true rfl)
              have f10 := dAddE (X := x2.toInt) (Y := 1) (x := x2) (y := (1 : Int32)) rfl (by decide) (by omega) (by omega)
              exact ih.1 _ _ _ I9 (by omega) (by omega) (by omega)
            · skip
              exact ih.2.2.1 _ I6 (by omega)
        · skip
          exfalso; omega
      · skip
        refine ⟨fun hc2 => ?_, fun hc2 => ?_⟩
        · skip
          refine v_X2_kind_43_32 ?_
          have f3 := ti_24
          refine ⟨fun hc4 => ?_, fun hc4 => ?_⟩
          · skip
            refine Wp.deep (s_X2_step_43 hG hI (fun R5 M5 I5 hr5 => ?_)) (Nat.le_of_ble_eq_true rfl)
            refine ⟨fun hc6 => ?_, fun hc6 => ?_⟩
            · skip
              exact ih.2.2.1 _ I5 (by omega)
            · skip
              refine Wp.deep (s_X2_product_43_L5 hG I5 (by omega) (fun R7 M7 I7 hr7 => ?_)) (Nat.le_of_ble_eq_true rfl)
              refine ⟨fun hc8 => ?_, fun hc8 => ?_⟩
              · skip
                have f9 := ti_1
                refine Wp.deep (s_X4_put_29 hG I7 (fun M10 I10 => ?_)) (Nat.le_of_ble_eq_true rfl)
                have f11 := dAddE (X := x2.toInt) (Y := 1) (x := x2) (y := (1 : Int32)) rfl (by decide) (by omega) (by omega)
                exact ih.1 _ _ _ I10 (by omega) (by omega) (by omega)
              · skip
                exact ih.2.2.1 _ I7 (by omega)
          · skip
            exfalso; omega
        · skip
          refine ⟨by omega, ?_⟩
          refine ⟨fun hc3 => ?_, fun hc3 => ?_⟩
          · skip
            refine Wp.deep (s_X2_step_43 hG hI (fun R4 M4 I4 hr4 => ?_)) (Nat.le_of_ble_eq_true rfl)
            refine ⟨fun hc5 => ?_, fun hc5 => ?_⟩
            · skip
              exact ih.2.2.1 _ I4 (by omega)
            · skip
              refine Wp.deep (s_X2_product_43_L5 hG I4 (by omega) (fun R6 M6 I6 hr6 => ?_)) (Nat.le_of_ble_eq_true rfl)
              refine ⟨fun hc7 => ?_, fun hc7 => ?_⟩
              · skip
                have f8 := ti_1
                refine Wp.deep (s_X4_put_29 hG I6 (fun M9 I9 => ?_)) (Nat.le_of_ble_eq_true rfl)
                have f10 := dAddE (X := x2.toInt) (Y := 1) (x := x2) (y := (1 : Int32)) rfl (by decide) (by omega) (by omega)
                exact ih.1 _ _ _ I9 (by omega) (by omega) (by omega)
              · skip
                exact ih.2.2.1 _ I6 (by omega)
          · skip
            refine Wp.deep (s_X2_step_43 hG hI (fun R4 M4 I4 hr4 => ?_)) (Nat.le_of_ble_eq_true rfl)
            refine ⟨fun hc5 => ?_, fun hc5 => ?_⟩
            · skip
              exact ih.2.2.1 _ I4 (by omega)
            · skip
              refine Wp.deep (s_X2_product_43_L5 hG I4 (by omega) (fun R6 M6 I6 hr6 => ?_)) (Nat.le_of_ble_eq_true rfl)
              refine ⟨fun hc7 => ?_, fun hc7 => ?_⟩
              · skip
                have f8 := ti_0
                refine Wp.deep (s_X4_put_29 hG I6 (fun M9 I9 => ?_)) (Nat.le_of_ble_eq_true rfl)
                have f10 := dAddE (X := x2.toInt) (Y := 1) (x := x2) (y := (1 : Int32)) rfl (by decide) (by omega) (by omega)
                exact ih.1 _ _ _ I9 (by omega) (by omega) (by omega)
              · skip
                exact ih.2.2.1 _ I6 (by omega)
    · intro m hI hμ
      refine v_X2_sum_43_67 ?_
      have f1 := ti_0
      exact hQ _ _ hI (by omega)
    · intro m hI hμ
      refine v_X2_sum_43_83 ?_
      have f1 := ti_1
      exact hQ _ _ hI (by omega)
theorem s_X2_sum_43_L5 {g : gM} {x1 : Int32} {m : dM} {Q : Int32 → dM → Prop} (hG : Gd g) (hI : Inv g m) (h1 : 5 ≤ x1.toInt ∧ x1.toInt ≤ 5) (hQ : ∀ (r : Int32) (m' : dM), Inv g m' → (0 ≤ r.toInt ∧ r.toInt ≤ 1) → Q r m') : c_X2_sum_43 11 x1 m Q := by
  refine v_X2_sum_43 ?_
  refine Wp.deep (s_X2_product_43_L5 hG hI (by omega) (fun R1 M1 I1 hr1 => ?_)) (Nat.le_of_ble_eq_true rfl)
  refine ⟨fun hc2 => ?_, fun hc2 => ?_⟩
  · skip
    have f3 := ti_0
    exact (s_X2_sum_43_L5_all hG hQ 807).1 _ _ _ I1 (by omega) (by omega) (by omega)
  · skip
    have f3 := ti_0
    exact hQ _ _ I1 (by omega)
theorem s_X2_unit_43_L4 {g : gM} {x1 : Int32} {m : dM} {Q : Int32 → dM → Prop} (hG : Gd g) (hI : Inv g m) (h1 : 4 ≤ x1.toInt ∧ x1.toInt ≤ 4) (hQ : ∀ (r : Int32) (m' : dM), Inv g m' → (0 ≤ r.toInt ∧ r.toInt ≤ 1) → Q r m') : c_X2_unit_43 12 x1 m Q := by
  refine v_X2_unit_43 ?_
  refine v_X2_kind_43 ?_
  refine ⟨fun hc1 => ?_, fun hc1 => ?_⟩
  · skip
    refine v_X2_kind_43_32 ?_
    have f2 := ti_24
    refine ⟨fun hc3 => ?_, fun hc3 => ?_⟩
    · skip
      refine ⟨fun hc4 => ?_, fun hc4 => ?_⟩
      · skip
        exfalso; omega
      · skip
        refine ⟨fun hc5 => ?_, fun hc5 => ?_⟩
        · skip
          refine v_X2_unit_43_67 ?_
          refine ⟨fun hc6 => ?_, fun hc6 => ?_⟩
          · skip
            exfalso; omega
          · skip
            have f7 := ti_1
            refine Wp.deep (s_X2_fail_43 hG hI (fun R8 M8 I8 hr8 => ?_)) (Nat.le_of_ble_eq_true rfl)
            refine ⟨dB01 (by omega), ?_⟩
            exact hQ _ _ I8 (by omega)
        · skip
          exfalso; omega
    · skip
      exfalso; omega
  · skip
    refine ⟨fun hc2 => ?_, fun hc2 => ?_⟩
    · skip
      refine v_X2_kind_43_32 ?_
      have f3 := ti_24
      refine ⟨fun hc4 => ?_, fun hc4 => ?_⟩
      · skip
        refine ⟨fun hc5 => ?_, fun hc5 => ?_⟩
        · skip
          exfalso; omega
        · skip
          refine ⟨fun hc6 => ?_, fun hc6 => ?_⟩
          · skip
            refine v_X2_unit_43_67 ?_
            refine ⟨fun hc7 => ?_, fun hc7 => ?_⟩
            · skip
              exfalso; omega
            · skip
              have f8 := ti_1
              refine Wp.deep (s_X2_fail_43 hG hI (fun R9 M9 I9 hr9 => ?_)) (Nat.le_of_ble_eq_true rfl)
              refine ⟨dB01 (by omega), ?_⟩
              exact hQ _ _ I9 (by omega)
          · skip
            exfalso; omega
      · skip
        exfalso; omega
    · skip
      refine ⟨by omega, ?_⟩
      refine ⟨fun hc3 => ?_, fun hc3 => ?_⟩
      · skip
        refine ⟨fun hc4 => ?_, fun hc4 => ?_⟩
        · skip
          refine v_X2_unit_43_67 ?_
          refine ⟨fun hc5 => ?_, fun hc5 => ?_⟩
          · skip
            exfalso; omega
          · skip
            have f6 := ti_1
            refine Wp.deep (s_X2_fail_43 hG hI (fun R7 M7 I7 hr7 => ?_)) (Nat.le_of_ble_eq_true rfl)
            refine ⟨dB01 (by omega), ?_⟩
            exact hQ _ _ I7 (by omega)
        · skip
          refine ⟨fun hc5 => ?_, fun hc5 => ?_⟩
          · skip
            refine v_X2_unit_43_67 ?_
            refine ⟨fun hc6 => ?_, fun hc6 => ?_⟩
            · skip
              refine ⟨fun hc7 => ?_, fun hc7 => ?_⟩
              · skip
                refine Wp.deep (s_X2_step_43 hG hI (fun R8 M8 I8 hr8 => ?_)) (Nat.le_of_ble_eq_true rfl)
                refine ⟨fun hc9 => ?_, fun hc9 => ?_⟩
                · skip
                  refine v_X2_unit_43_123 ?_
                  have f10 := ti_0
                  exact hQ _ _ I8 (by omega)
                · skip
                  have f10 := dAddE (X := x1.toInt) (Y := 1) (x := x1) (y := (1 : Int32)) rfl (by decide) (by omega) (by omega)
                  refine Wp.deep (s_X2_sum_43_L5 hG I8 (by omega) (fun R11 M11 I11 hr11 => ?_)) (Nat.le_of_ble_eq_true rfl)
                  refine ⟨fun hc12 => ?_, fun hc12 => ?_⟩
                  · skip
                    refine v_X2_unit_43_123 ?_
                    have f13 := ti_0
                    exact hQ _ _ I11 (by omega)
                  · skip
                    have f13 := ti_41
                    refine Wp.deep (s_X2_need_43 hG I11 (fun R14 M14 I14 hr14 => ?_)) (Nat.le_of_ble_eq_true rfl)
                    refine ⟨fun hc15 => ?_, fun hc15 => ?_⟩
                    · skip
                      refine v_X2_unit_43_123 ?_
                      have f16 := ti_0
                      exact hQ _ _ I14 (by omega)
                    · skip
                      have f16 := ti_1
                      exact hQ _ _ I14 (by omega)
              · skip
                exfalso; omega
            · skip
              have f7 := ti_1
              refine Wp.deep (s_X2_fail_43 hG hI (fun R8 M8 I8 hr8 => ?_)) (Nat.le_of_ble_eq_true rfl)
              refine ⟨dB01 (by omega), ?_⟩
              exact hQ _ _ I8 (by omega)
          · skip
            have f6 := dAddE (X := 4) (Y := (m.1 39 (m.1 43 2).toNatClampNeg).toInt) (x := (4 : Int32)) (y := (m.1 39 (m.1 43 2).toNatClampNeg)) (by decide) rfl (by omega) (by omega)
            have f7 := dSubE (X := ((4 : Int32) + (m.1 39 (m.1 43 2).toNatClampNeg)).toInt) (Y := 13) (x := ((4 : Int32) + (m.1 39 (m.1 43 2).toNatClampNeg))) (y := (13 : Int32)) rfl (by decide) (by omega) (by omega)
            refine Wp.deep (s_X4_put_29 hG hI (fun M8 I8 => ?_)) (Nat.le_of_ble_eq_true rfl)
            refine Wp.deep (s_X2_step_43 hG I8 (fun R9 M9 I9 hr9 => ?_)) (Nat.le_of_ble_eq_true rfl)
            refine ⟨dB01 (by omega), ?_⟩
            exact hQ _ _ I9 (by omega)
      · skip
        refine Wp.deep (s_X8_numberAt_38 hG hI (fun R4 => ?_)) (Nat.le_of_ble_eq_true rfl)
        refine Wp.deep (s_X4_put_29 hG hI (fun M5 I5 => ?_)) (Nat.le_of_ble_eq_true rfl)
        refine Wp.deep (s_X2_step_43 hG I5 (fun R6 M6 I6 hr6 => ?_)) (Nat.le_of_ble_eq_true rfl)
        refine ⟨dB01 (by omega), ?_⟩
        exact hQ _ _ I6 (by omega)
theorem s_X2_product_43_L4_all {g : gM} {Q : Int32 → dM → Prop} (hG : Gd g) (hQ : ∀ (r : Int32) (m' : dM), Inv g m' → (0 ≤ r.toInt ∧ r.toInt ≤ 1) → Q r m') : ∀ n : Nat, (∀ (x1 : Int32) (x2 : Int32) (m : dM), Inv g m → (4 ≤ x1.toInt ∧ x1.toInt ≤ 4) → (0 ≤ x2.toInt ∧ x2.toInt ≤ 401) → 805 - 2 * x2.toInt < (n : Int) → j_X2_product_43_12 13 x1 x2 m Q) ∧ (∀ (x1 : Int32) (x2 : Int32) (m : dM), Inv g m → (4 ≤ x1.toInt ∧ x1.toInt ≤ 4) → (0 ≤ x2.toInt ∧ x2.toInt ≤ 400) → 804 - 2 * x2.toInt < (n : Int) → j_X2_product_43_37 13 x1 x2 m Q) ∧ (∀ (m : dM), Inv g m → 1 < (n : Int) → j_X2_product_43_67 13 m Q) ∧ (∀ (m : dM), Inv g m → 0 < (n : Int) → j_X2_product_43_83 13 m Q) := by
  intro n
  induction n with
  | zero => exact ⟨fun x1 x2 m hI h1 h2 hμ => by exfalso; omega, fun x1 x2 m hI h1 h2 hμ => by exfalso; omega, fun m hI hμ => by exfalso; omega, fun m hI hμ => by exfalso; omega⟩
  | succ n ih =>
    refine ⟨?_, ?_, ?_, ?_⟩
    · intro x1 x2 m hI h1 h2 hμ
      refine v_X2_product_43_12 ?_
      refine ⟨fun hc1 => ?_, fun hc1 => ?_⟩
      · skip
        exact ih.2.2.2 _ hI (by omega)
      · skip
        refine v_X2_kind_43 ?_
        refine ⟨fun hc2 => ?_, fun hc2 => ?_⟩
        · skip
          refine v_X2_kind_43_32 ?_
          have f3 := ti_24
          refine ⟨fun hc4 => ?_, fun hc4 => ?_⟩
          · skip
            exfalso; omega
          · skip
            refine v_X2_kind_43 ?_
            refine ⟨fun hc5 => ?_, fun hc5 => ?_⟩
            · skip
              refine v_X2_kind_43_32 ?_
              refine ⟨fun hc6 => ?_, fun hc6 => ?_⟩
              · skip
                exact ih.2.2.2 _ hI (by omega)
              · skip
                exfalso; omega
            · skip
              exfalso; omega
        · skip
          refine ⟨fun hc3 => ?_, fun hc3 => ?_⟩
          · skip
            refine v_X2_kind_43_32 ?_
            have f4 := ti_24
            refine ⟨fun hc5 => ?_, fun hc5 => ?_⟩
            · skip
              exfalso; omega
            · skip
              refine v_X2_kind_43 ?_
              refine ⟨fun hc6 => ?_, fun hc6 => ?_⟩
              · skip
                exfalso; omega
              · skip
                refine ⟨fun hc7 => ?_, fun hc7 => ?_⟩
                · skip
                  refine v_X2_kind_43_32 ?_
                  refine ⟨fun hc8 => ?_, fun hc8 => ?_⟩
                  · skip
                    exact ih.2.2.2 _ hI (by omega)
                  · skip
                    exfalso; omega
                · skip
                  exfalso; omega
          · skip
            refine ⟨by omega, ?_⟩
            refine ⟨fun hc4 => ?_, fun hc4 => ?_⟩
            · skip
              exact ih.2.1 _ _ _ hI (by omega) (by omega) (by omega)
            · skip
              refine v_X2_kind_43 ?_
              refine ⟨fun hc5 => ?_, fun hc5 => ?_⟩
              · skip
                exfalso; omega
              · skip
                refine ⟨fun hc6 => ?_, fun hc6 => ?_⟩
                · skip
                  exfalso; omega
                · skip
                  refine ⟨by omega, ?_⟩
                  refine ⟨fun hc7 => ?_, fun hc7 => ?_⟩
                  · skip
                    exact ih.2.2.2 _ hI (by omega)
                  · skip
                    exact ih.2.1 _ _ _ hI (by omega) (by omega) (by omega)
    · intro x1 x2 m hI h1 h2 hμ
      refine v_X2_product_43_37 ?_
      refine v_X2_kind_43 ?_
      refine ⟨fun hc1 => ?_, fun hc1 => ?_⟩
      · skip
        refine v_X2_kind_43_32 ?_
        have f2 := ti_24
        refine ⟨fun hc3 => ?_, fun hc3 => ?_⟩
        · skip
          refine Wp.deep (s_X2_step_43 hG hI (fun R4 M4 I4 hr4 => ?_)) (Nat.le_of_ble_eq_true rfl)
          refine ⟨fun hc5 => ?_, fun hc5 => ?_⟩
          · skip
            exact ih.2.2.1 _ I4 (by omega)
          · skip
            refine Wp.deep (s_X2_unit_43_L4 hG I4 (by omega) (fun R6 M6 I6 hr6 => ?_)) (Nat.le_of_ble_eq_true rfl)
            refine ⟨fun hc7 => ?_, fun hc7 => ?_⟩
            · skip
              have f8 := ti_3
              refine Wp.deep (s_X4_put_29 hG I6 (fun M9 I9 => ?_)) (Nat.le_of_ble_eq_true rfl)
              have f10 := dAddE (X := x2.toInt) (Y := 1) (x := x2) (y := (1 : Int32)) rfl (by decide) (by omega) (by omega)
              exact ih.1 _ _ _ I9 (by omega) (by omega) (by omega)
            · skip
              exact ih.2.2.1 _ I6 (by omega)
        · skip
          exfalso; omega
      · skip
        refine ⟨fun hc2 => ?_, fun hc2 => ?_⟩
        · skip
          refine v_X2_kind_43_32 ?_
          have f3 := ti_24
          refine ⟨fun hc4 => ?_, fun hc4 => ?_⟩
          · skip
            refine Wp.deep (s_X2_step_43 hG hI (fun R5 M5 I5 hr5 => ?_)) (Nat.le_of_ble_eq_true rfl)
            refine ⟨fun hc6 => ?_, fun hc6 => ?_⟩
            · skip
              exact ih.2.2.1 _ I5 (by omega)
            · skip
              refine Wp.deep (s_X2_unit_43_L4 hG I5 (by omega) (fun R7 M7 I7 hr7 => ?_)) (Nat.le_of_ble_eq_true rfl)
              refine ⟨fun hc8 => ?_, fun hc8 => ?_⟩
              · skip
                have f9 := ti_3
                refine Wp.deep (s_X4_put_29 hG I7 (fun M10 I10 => ?_)) (Nat.le_of_ble_eq_true rfl)
                have f11 := dAddE (X := x2.toInt) (Y := 1) (x := x2) (y := (1 : Int32)) rfl (by decide) (by omega) (by omega)
                exact ih.1 _ _ _ I10 (by omega) (by omega) (by omega)
              · skip
                exact ih.2.2.1 _ I7 (by omega)
          · skip
            exfalso; omega
        · skip
          refine ⟨by omega, ?_⟩
          refine ⟨fun hc3 => ?_, fun hc3 => ?_⟩
          · skip
            refine Wp.deep (s_X2_step_43 hG hI (fun R4 M4 I4 hr4 => ?_)) (Nat.le_of_ble_eq_true rfl)
            refine ⟨fun hc5 => ?_, fun hc5 => ?_⟩
            · skip
              exact ih.2.2.1 _ I4 (by omega)
            · skip
              refine Wp.deep (s_X2_unit_43_L4 hG I4 (by omega) (fun R6 M6 I6 hr6 => ?_)) (Nat.le_of_ble_eq_true rfl)
              refine ⟨fun hc7 => ?_, fun hc7 => ?_⟩
              · skip
                have f8 := ti_3
                refine Wp.deep (s_X4_put_29 hG I6 (fun M9 I9 => ?_)) (Nat.le_of_ble_eq_true rfl)
                have f10 := dAddE (X := x2.toInt) (Y := 1) (x := x2) (y := (1 : Int32)) rfl (by decide) (by omega) (by omega)
                exact ih.1 _ _ _ I9 (by omega) (by omega) (by omega)
              · skip
                exact ih.2.2.1 _ I6 (by omega)
          · skip
            refine Wp.deep (s_X2_step_43 hG hI (fun R4 M4 I4 hr4 => ?_)) (Nat.le_of_ble_eq_true rfl)
            refine ⟨fun hc5 => ?_, fun hc5 => ?_⟩
            · skip
              exact ih.2.2.1 _ I4 (by omega)
            · skip
              refine Wp.deep (s_X2_unit_43_L4 hG I4 (by omega) (fun R6 M6 I6 hr6 => ?_)) (Nat.le_of_ble_eq_true rfl)
              refine ⟨fun hc7 => ?_, fun hc7 => ?_⟩
              · skip
                have f8 := ti_2
                refine Wp.deep (s_X4_put_29 hG I6 (fun M9 I9 => ?_)) (Nat.le_of_ble_eq_true rfl)
                have f10 := dAddE (X := x2.toInt) (Y := 1) (x := x2) (y := (1 : Int32)) rfl (by decide) (by omega) (by omega)
                exact ih.1 _ _ _ I9 (by omega) (by omega) (by omega)
              · skip
                exact ih.2.2.1 _ I6 (by omega)
    · intro m hI hμ
      refine v_X2_product_43_67 ?_
      have f1 := ti_0
      exact hQ _ _ hI (by omega)
    · intro m hI hμ
      refine v_X2_product_43_83 ?_
      have f1 := ti_1
      exact hQ _ _ hI (by omega)
theorem s_X2_product_43_L4 {g : gM} {x1 : Int32} {m : dM} {Q : Int32 → dM → Prop} (hG : Gd g) (hI : Inv g m) (h1 : 4 ≤ x1.toInt ∧ x1.toInt ≤ 4) (hQ : ∀ (r : Int32) (m' : dM), Inv g m' → (0 ≤ r.toInt ∧ r.toInt ≤ 1) → Q r m') : c_X2_product_43 13 x1 m Q := by
  refine v_X2_product_43 ?_
  refine Wp.deep (s_X2_unit_43_L4 hG hI (by omega) (fun R1 M1 I1 hr1 => ?_)) (Nat.le_of_ble_eq_true rfl)
  refine ⟨fun hc2 => ?_, fun hc2 => ?_⟩
  · skip
    have f3 := ti_0
    exact (s_X2_product_43_L4_all hG hQ 807).1 _ _ _ I1 (by omega) (by omega) (by omega)
  · skip
    have f3 := ti_0
    exact hQ _ _ I1 (by omega)
theorem s_X2_sum_43_L4_all {g : gM} {Q : Int32 → dM → Prop} (hG : Gd g) (hQ : ∀ (r : Int32) (m' : dM), Inv g m' → (0 ≤ r.toInt ∧ r.toInt ≤ 1) → Q r m') : ∀ n : Nat, (∀ (x1 : Int32) (x2 : Int32) (m : dM), Inv g m → (4 ≤ x1.toInt ∧ x1.toInt ≤ 4) → (0 ≤ x2.toInt ∧ x2.toInt ≤ 401) → 805 - 2 * x2.toInt < (n : Int) → j_X2_sum_43_12 14 x1 x2 m Q) ∧ (∀ (x1 : Int32) (x2 : Int32) (m : dM), Inv g m → (4 ≤ x1.toInt ∧ x1.toInt ≤ 4) → (0 ≤ x2.toInt ∧ x2.toInt ≤ 400) → 804 - 2 * x2.toInt < (n : Int) → j_X2_sum_43_37 14 x1 x2 m Q) ∧ (∀ (m : dM), Inv g m → 1 < (n : Int) → j_X2_sum_43_67 14 m Q) ∧ (∀ (m : dM), Inv g m → 0 < (n : Int) → j_X2_sum_43_83 14 m Q) := by
  intro n
  induction n with
  | zero => exact ⟨fun x1 x2 m hI h1 h2 hμ => by exfalso; omega, fun x1 x2 m hI h1 h2 hμ => by exfalso; omega, fun m hI hμ => by exfalso; omega, fun m hI hμ => by exfalso; omega⟩
  | succ n ih =>
    refine ⟨?_, ?_, ?_, ?_⟩
    · intro x1 x2 m hI h1 h2 hμ
      refine v_X2_sum_43_12 ?_
      refine ⟨fun hc1 => ?_, fun hc1 => ?_⟩
      · skip
        exact ih.2.2.2 _ hI (by omega)
      · skip
        refine v_X2_kind_43 ?_
        refine ⟨fun hc2 => ?_, fun hc2 => ?_⟩
        · skip
          refine v_X2_kind_43_32 ?_
          have f3 := ti_24
          refine ⟨fun hc4 => ?_, fun hc4 => ?_⟩
          · skip
            exfalso; omega
          · skip
            refine v_X2_kind_43 ?_
            refine ⟨fun hc5 => ?_, fun hc5 => ?_⟩
            · skip
              refine v_X2_kind_43_32 ?_
              refine ⟨fun hc6 => ?_, fun hc6 => ?_⟩
              · skip
                exact ih.2.2.2 _ hI (by omega)
              · skip
                exfalso; omega
            · skip
              exfalso; omega
        · skip
          refine ⟨fun hc3 => ?_, fun hc3 => ?_⟩
          · skip
            refine v_X2_kind_43_32 ?_
            have f4 := ti_24
            refine ⟨fun hc5 => ?_, fun hc5 => ?_⟩
            · skip
              exfalso; omega
            · skip
              refine v_X2_kind_43 ?_
              refine ⟨fun hc6 => ?_, fun hc6 => ?_⟩
              · skip
                exfalso; omega
              · skip
                refine ⟨fun hc7 => ?_, fun hc7 => ?_⟩
                · skip
                  refine v_X2_kind_43_32 ?_
                  refine ⟨fun hc8 => ?_, fun hc8 => ?_⟩
                  · skip
                    exact ih.2.2.2 _ hI (by omega)
                  · skip
                    exfalso; omega
                · skip
                  exfalso; omega
          · skip
            refine ⟨by omega, ?_⟩
            refine ⟨fun hc4 => ?_, fun hc4 => ?_⟩
            · skip
              exact ih.2.1 _ _ _ hI (by omega) (by omega) (by omega)
            · skip
              refine v_X2_kind_43 ?_
              refine ⟨fun hc5 => ?_, fun hc5 => ?_⟩
              · skip
                exfalso; omega
              · skip
                refine ⟨fun hc6 => ?_, fun hc6 => ?_⟩
                · skip
                  exfalso; omega
                · skip
                  refine ⟨by omega, ?_⟩
                  refine ⟨fun hc7 => ?_, fun hc7 => ?_⟩
                  · skip
                    exact ih.2.2.2 _ hI (by omega)
                  · skip
                    exact ih.2.1 _ _ _ hI (by omega) (by omega) (by omega)
    · intro x1 x2 m hI h1 h2 hμ
      refine v_X2_sum_43_37 ?_
      refine v_X2_kind_43 ?_
      refine ⟨fun hc1 => ?_, fun hc1 => ?_⟩
      · skip
        refine v_X2_kind_43_32 ?_
        have f2 := ti_24
        refine ⟨fun hc3 => ?_, fun hc3 => ?_⟩
        · skip
          refine Wp.deep (s_X2_step_43 hG hI (fun R4 M4 I4 hr4 => ?_)) (Nat.le_of_ble_eq_true rfl)
          refine ⟨fun hc5 => ?_, fun hc5 => ?_⟩
          · skip
            exact ih.2.2.1 _ I4 (by omega)
          · skip
            refine Wp.deep (s_X2_product_43_L4 hG I4 (by omega) (fun R6 M6 I6 hr6 => ?_)) (Nat.le_of_ble_eq_true rfl)
            refine ⟨fun hc7 => ?_, fun hc7 => ?_⟩
            · skip
              have f8 := ti_1
              refine Wp.deep (s_X4_put_29 hG I6 (fun M9 I9 => ?_)) (Nat.le_of_ble_eq_true rfl)
              have f10 := dAddE (X := x2.toInt) (Y := 1) (x := x2) (y := (1 : Int32)) rfl (by decide) (by omega) (by omega)
              exact ih.1 _ _ _ I9 (by omega) (by omega) (by omega)
            · skip
              exact ih.2.2.1 _ I6 (by omega)
        · skip
          exfalso; omega
      · skip
        refine ⟨fun hc2 => ?_, fun hc2 => ?_⟩
        · skip
          refine v_X2_kind_43_32 ?_
          have f3 := ti_24
          refine ⟨fun hc4 => ?_, fun hc4 => ?_⟩
          · skip
            refine Wp.deep (s_X2_step_43 hG hI (fun R5 M5 I5 hr5 => ?_)) (Nat.le_of_ble_eq_true rfl)
            refine ⟨fun hc6 => ?_, fun hc6 => ?_⟩
            · skip
              exact ih.2.2.1 _ I5 (by omega)
            · skip
              refine Wp.deep (s_X2_product_43_L4 hG I5 (by omega) (fun R7 M7 I7 hr7 => ?_)) (Nat.le_of_ble_eq_true rfl)
              refine ⟨fun hc8 => ?_, fun hc8 => ?_⟩
              · skip
                have f9 := ti_1
                refine Wp.deep (s_X4_put_29 hG I7 (fun M10 I10 => ?_)) (Nat.le_of_ble_eq_true rfl)
                have f11 := dAddE (X := x2.toInt) (Y := 1) (x := x2) (y := (1 : Int32)) rfl (by decide) (by omega) (by omega)
                exact ih.1 _ _ _ I10 (by omega) (by omega) (by omega)
              · skip
                exact ih.2.2.1 _ I7 (by omega)
          · skip
            exfalso; omega
        · skip
          refine ⟨by omega, ?_⟩
          refine ⟨fun hc3 => ?_, fun hc3 => ?_⟩
          · skip
            refine Wp.deep (s_X2_step_43 hG hI (fun R4 M4 I4 hr4 => ?_)) (Nat.le_of_ble_eq_true rfl)
            refine ⟨fun hc5 => ?_, fun hc5 => ?_⟩
            · skip
              exact ih.2.2.1 _ I4 (by omega)
            · skip
              refine Wp.deep (s_X2_product_43_L4 hG I4 (by omega) (fun R6 M6 I6 hr6 => ?_)) (Nat.le_of_ble_eq_true rfl)
              refine ⟨fun hc7 => ?_, fun hc7 => ?_⟩
              · skip
                have f8 := ti_1
                refine Wp.deep (s_X4_put_29 hG I6 (fun M9 I9 => ?_)) (Nat.le_of_ble_eq_true rfl)
                have f10 := dAddE (X := x2.toInt) (Y := 1) (x := x2) (y := (1 : Int32)) rfl (by decide) (by omega) (by omega)
                exact ih.1 _ _ _ I9 (by omega) (by omega) (by omega)
              · skip
                exact ih.2.2.1 _ I6 (by omega)
          · skip
            refine Wp.deep (s_X2_step_43 hG hI (fun R4 M4 I4 hr4 => ?_)) (Nat.le_of_ble_eq_true rfl)
            refine ⟨fun hc5 => ?_, fun hc5 => ?_⟩
            · skip
              exact ih.2.2.1 _ I4 (by omega)
            · skip
              refine Wp.deep (s_X2_product_43_L4 hG I4 (by omega) (fun R6 M6 I6 hr6 => ?_)) (Nat.le_of_ble_eq_true rfl)
              refine ⟨fun hc7 => ?_, fun hc7 => ?_⟩
              · skip
                have f8 := ti_0
                refine Wp.deep (s_X4_put_29 hG I6 (fun M9 I9 => ?_)) (Nat.le_of_ble_eq_true rfl)
                have f10 := dAddE (X := x2.toInt) (Y := 1) (x := x2) (y := (1 : Int32)) rfl (by decide) (by omega) (by omega)
                exact ih.1 _ _ _ I9 (by omega) (by omega) (by omega)
              · skip
                exact ih.2.2.1 _ I6 (by omega)
    · intro m hI hμ
      refine v_X2_sum_43_67 ?_
      have f1 := ti_0
      exact hQ _ _ hI (by omega)
    · intro m hI hμ
      refine v_X2_sum_43_83 ?_
      have f1 := ti_1
      exact hQ _ _ hI (by omega)
theorem s_X2_sum_43_L4 {g : gM} {x1 : Int32} {m : dM} {Q : Int32 → dM → Prop} (hG : Gd g) (hI : Inv g m) (h1 : 4 ≤ x1.toInt ∧ x1.toInt ≤ 4) (hQ : ∀ (r : Int32) (m' : dM), Inv g m' → (0 ≤ r.toInt ∧ r.toInt ≤ 1) → Q r m') : c_X2_sum_43 14 x1 m Q := by
  refine v_X2_sum_43 ?_
  refine Wp.deep (s_X2_product_43_L4 hG hI (by omega) (fun R1 M1 I1 hr1 => ?_)) (Nat.le_of_ble_eq_true rfl)
  refine ⟨fun hc2 => ?_, fun hc2 => ?_⟩
  · skip
    have f3 := ti_0
    exact (s_X2_sum_43_L4_all hG hQ 807).1 _ _ _ I1 (by omega) (by omega) (by omega)
  · skip
    have f3 := ti_0
    exact hQ _ _ I1 (by omega)
theorem s_X2_unit_43_L3 {g : gM} {x1 : Int32} {m : dM} {Q : Int32 → dM → Prop} (hG : Gd g) (hI : Inv g m) (h1 : 3 ≤ x1.toInt ∧ x1.toInt ≤ 3) (hQ : ∀ (r : Int32) (m' : dM), Inv g m' → (0 ≤ r.toInt ∧ r.toInt ≤ 1) → Q r m') : c_X2_unit_43 15 x1 m Q := by
  refine v_X2_unit_43 ?_
  refine v_X2_kind_43 ?_
  refine ⟨fun hc1 => ?_, fun hc1 => ?_⟩
  · skip
    refine v_X2_kind_43_32 ?_
    have f2 := ti_24
    refine ⟨fun hc3 => ?_, fun hc3 => ?_⟩
    · skip
      refine ⟨fun hc4 => ?_, fun hc4 => ?_⟩
      · skip
        exfalso; omega
      · skip
        refine ⟨fun hc5 => ?_, fun hc5 => ?_⟩
        · skip
          refine v_X2_unit_43_67 ?_
          refine ⟨fun hc6 => ?_, fun hc6 => ?_⟩
          · skip
            exfalso; omega
          · skip
            have f7 := ti_1
            refine Wp.deep (s_X2_fail_43 hG hI (fun R8 M8 I8 hr8 => ?_)) (Nat.le_of_ble_eq_true rfl)
            refine ⟨dB01 (by omega), ?_⟩
            exact hQ _ _ I8 (by omega)
        · skip
          exfalso; omega
    · skip
      exfalso; omega
  · skip
    refine ⟨fun hc2 => ?_, fun hc2 => ?_⟩
    · skip
      refine v_X2_kind_43_32 ?_
      have f3 := ti_24
      refine ⟨fun hc4 => ?_, fun hc4 => ?_⟩
      · skip
        refine ⟨fun hc5 => ?_, fun hc5 => ?_⟩
        · skip
          exfalso; omega
        · skip
          refine ⟨fun hc6 => ?_, fun hc6 => ?_⟩
          · skip
            refine v_X2_unit_43_67 ?_
            refine ⟨fun hc7 => ?_, fun hc7 => ?_⟩
            · skip
              exfalso; omega
            · skip
              have f8 := ti_1
              refine Wp.deep (s_X2_fail_43 hG hI (fun R9 M9 I9 hr9 => ?_)) (Nat.le_of_ble_eq_true rfl)
              refine ⟨dB01 (by omega), ?_⟩
              exact hQ _ _ I9 (by omega)
          · skip
            exfalso; omega
      · skip
        exfalso; omega
    · skip
      refine ⟨by omega, ?_⟩
      refine ⟨fun hc3 => ?_, fun hc3 => ?_⟩
      · skip
        refine ⟨fun hc4 => ?_, fun hc4 => ?_⟩
        · skip
          refine v_X2_unit_43_67 ?_
          refine ⟨fun hc5 => ?_, fun hc5 => ?_⟩
          · skip
            exfalso; omega
          · skip
            have f6 := ti_1
            refine Wp.deep (s_X2_fail_43 hG hI (fun R7 M7 I7 hr7 => ?_)) (Nat.le_of_ble_eq_true rfl)
            refine ⟨dB01 (by omega), ?_⟩
            exact hQ _ _ I7 (by omega)
        · skip
          refine ⟨fun hc5 => ?_, fun hc5 => ?_⟩
          · skip
            refine v_X2_unit_43_67 ?_
            refine ⟨fun hc6 => ?_, fun hc6 => ?_⟩
            · skip
              refine ⟨fun hc7 => ?_, fun hc7 => ?_⟩
              · skip
                refine Wp.deep (s_X2_step_43 hG hI (fun R8 M8 I8 hr8 => ?_)) (Nat.le_of_ble_eq_true rfl)
                refine ⟨fun hc9 => ?_, fun hc9 => ?_⟩
                · skip
                  refine v_X2_unit_43_123 ?_
                  have f10 := ti_0
                  exact hQ _ _ I8 (by omega)
                · skip
                  have f10 := dAddE (X := x1.toInt) (Y := 1) (x := x1) (y := (1 : Int32)) rfl (by decide) (by omega) (by omega)
                  refine Wp.deep (s_X2_sum_43_L4 hG I8 (by omega) (fun R11 M11 I11 hr11 => ?_)) (Nat.le_of_ble_eq_true rfl)
                  refine ⟨fun hc12 => ?_, fun hc12 => ?_⟩
                  · skip
                    refine v_X2_unit_43_123 ?_
                    have f13 := ti_0
                    exact hQ _ _ I11 (by omega)
                  · skip
                    have f13 := ti_41
                    refine Wp.deep (s_X2_need_43 hG I11 (fun R14 M14 I14 hr14 => ?_)) (Nat.le_of_ble_eq_true rfl)
                    refine ⟨fun hc15 => ?_, fun hc15 => ?_⟩
                    · skip
                      refine v_X2_unit_43_123 ?_
                      have f16 := ti_0
                      exact hQ _ _ I14 (by omega)
                    · skip
                      have f16 := ti_1
                      exact hQ _ _ I14 (by omega)
              · skip
                exfalso; omega
            · skip
              have f7 := ti_1
              refine Wp.deep (s_X2_fail_43 hG hI (fun R8 M8 I8 hr8 => ?_)) (Nat.le_of_ble_eq_true rfl)
              refine ⟨dB01 (by omega), ?_⟩
              exact hQ _ _ I8 (by omega)
          · skip
            have f6 := dAddE (X := 4) (Y := (m.1 39 (m.1 43 2).toNatClampNeg).toInt) (x := (4 : Int32)) (y := (m.1 39 (m.1 43 2).toNatClampNeg)) (by decide) rfl (by omega) (by omega)
            have f7 := dSubE (X := ((4 : Int32) + (m.1 39 (m.1 43 2).toNatClampNeg)).toInt) (Y := 13) (x := ((4 : Int32) + (m.1 39 (m.1 43 2).toNatClampNeg))) (y := (13 : Int32)) rfl (by decide) (by omega) (by omega)
            refine Wp.deep (s_X4_put_29 hG hI (fun M8 I8 => ?_)) (Nat.le_of_ble_eq_true rfl)
            refine Wp.deep (s_X2_step_43 hG I8 (fun R9 M9 I9 hr9 => ?_)) (Nat.le_of_ble_eq_true rfl)
            refine ⟨dB01 (by omega), ?_⟩
            exact hQ _ _ I9 (by omega)
      · skip
        refine Wp.deep (s_X8_numberAt_38 hG hI (fun R4 => ?_)) (Nat.le_of_ble_eq_true rfl)
        refine Wp.deep (s_X4_put_29 hG hI (fun M5 I5 => ?_)) (Nat.le_of_ble_eq_true rfl)
        refine Wp.deep (s_X2_step_43 hG I5 (fun R6 M6 I6 hr6 => ?_)) (Nat.le_of_ble_eq_true rfl)
        refine ⟨dB01 (by omega), ?_⟩
        exact hQ _ _ I6 (by omega)
theorem s_X2_product_43_L3_all {g : gM} {Q : Int32 → dM → Prop} (hG : Gd g) (hQ : ∀ (r : Int32) (m' : dM), Inv g m' → (0 ≤ r.toInt ∧ r.toInt ≤ 1) → Q r m') : ∀ n : Nat, (∀ (x1 : Int32) (x2 : Int32) (m : dM), Inv g m → (3 ≤ x1.toInt ∧ x1.toInt ≤ 3) → (0 ≤ x2.toInt ∧ x2.toInt ≤ 401) → 805 - 2 * x2.toInt < (n : Int) → j_X2_product_43_12 16 x1 x2 m Q) ∧ (∀ (x1 : Int32) (x2 : Int32) (m : dM), Inv g m → (3 ≤ x1.toInt ∧ x1.toInt ≤ 3) → (0 ≤ x2.toInt ∧ x2.toInt ≤ 400) → 804 - 2 * x2.toInt < (n : Int) → j_X2_product_43_37 16 x1 x2 m Q) ∧ (∀ (m : dM), Inv g m → 1 < (n : Int) → j_X2_product_43_67 16 m Q) ∧ (∀ (m : dM), Inv g m → 0 < (n : Int) → j_X2_product_43_83 16 m Q) := by
  intro n
  induction n with
  | zero => exact ⟨fun x1 x2 m hI h1 h2 hμ => by exfalso; omega, fun x1 x2 m hI h1 h2 hμ => by exfalso; omega, fun m hI hμ => by exfalso; omega, fun m hI hμ => by exfalso; omega⟩
  | succ n ih =>
    refine ⟨?_, ?_, ?_, ?_⟩
    · intro x1 x2 m hI h1 h2 hμ
      refine v_X2_product_43_12 ?_
      refine ⟨fun hc1 => ?_, fun hc1 => ?_⟩
      · skip
        exact ih.2.2.2 _ hI (by omega)
      · skip
        refine v_X2_kind_43 ?_
        refine ⟨fun hc2 => ?_, fun hc2 => ?_⟩
        · skip
          refine v_X2_kind_43_32 ?_
          have f3 := ti_24
          refine ⟨fun hc4 => ?_, fun hc4 => ?_⟩
          · skip
            exfalso; omega
          · skip
            refine v_X2_kind_43 ?_
            refine ⟨fun hc5 => ?_, fun hc5 => ?_⟩
            · skip
              refine v_X2_kind_43_32 ?_
              refine ⟨fun hc6 => ?_, fun hc6 => ?_⟩
              · skip
                exact ih.2.2.2 _ hI (by omega)
              · skip
                exfalso; omega
            · skip
              exfalso; omega
        · skip
          refine ⟨fun hc3 => ?_, fun hc3 => ?_⟩
          · skip
            refine v_X2_kind_43_32 ?_
            have f4 := ti_24
            refine ⟨fun hc5 => ?_, fun hc5 => ?_⟩
            · skip
              exfalso; omega
            · skip
              refine v_X2_kind_43 ?_
              refine ⟨fun hc6 => ?_, fun hc6 => ?_⟩
              · skip
                exfalso; omega
              · skip
                refine ⟨fun hc7 => ?_, fun hc7 => ?_⟩
                · skip
                  refine v_X2_kind_43_32 ?_
                  refine ⟨fun hc8 => ?_, fun hc8 => ?_⟩
                  · skip
                    exact ih.2.2.2 _ hI (by omega)
                  · skip
                    exfalso; omega
                · skip
                  exfalso; omega
          · skip
            refine ⟨by omega, ?_⟩
            refine ⟨fun hc4 => ?_, fun hc4 => ?_⟩
            · skip
              exact ih.2.1 _ _ _ hI (by omega) (by omega) (by omega)
            · skip
              refine v_X2_kind_43 ?_
              refine ⟨fun hc5 => ?_, fun hc5 => ?_⟩
              · skip
                exfalso; omega
              · skip
                refine ⟨fun hc6 => ?_, fun hc6 => ?_⟩
                · skip
                  exfalso; omega
                · skip
                  refine ⟨by omega, ?_⟩
                  refine ⟨fun hc7 => ?_, fun hc7 => ?_⟩
                  · skip
                    exact ih.2.2.2 _ hI (by omega)
                  · skip
                    exact ih.2.1 _ _ _ hI (by omega) (by omega) (by omega)
    · intro x1 x2 m hI h1 h2 hμ
      refine v_X2_product_43_37 ?_
      refine v_X2_kind_43 ?_
      refine ⟨fun hc1 => ?_, fun hc1 => ?_⟩
      · skip
        refine v_X2_kind_43_32 ?_
        have f2 := ti_24
        refine ⟨fun hc3 => ?_, fun hc3 => ?_⟩
        · skip
          refine Wp.deep (s_X2_step_43 hG hI (fun R4 M4 I4 hr4 => ?_)) (Nat.le_of_ble_eq_true rfl)
          refine ⟨fun hc5 => ?_, fun hc5 => ?_⟩
          · skip
            exact ih.2.2.1 _ I4 (by omega)
          · skip
            refine Wp.deep (s_X2_unit_43_L3 hG I4 (by omega) (fun R6 M6 I6 hr6 => ?_)) (Nat.le_of_ble_eq_true rfl)
            refine ⟨fun hc7 => ?_, fun hc7 => ?_⟩
            · skip
              have f8 := ti_3
              refine Wp.deep (s_X4_put_29 hG I6 (fun M9 I9 => ?_)) (Nat.le_of_ble_eq_true rfl)
              have f10 := dAddE (X := x2.toInt) (Y := 1) (x := x2) (y := (1 : Int32)) rfl (by decide) (by omega) (by omega)
              exact ih.1 _ _ _ I9 (by omega) (by omega) (by omega)
            · skip
              exact ih.2.2.1 _ I6 (by omega)
        · skip
          exfalso; omega
      · skip
        refine ⟨fun hc2 => ?_, fun hc2 => ?_⟩
        · skip
          refine v_X2_kind_43_32 ?_
          have f3 := ti_24
          refine ⟨fun hc4 => ?_, fun hc4 => ?_⟩
          · skip
            refine Wp.deep (s_X2_step_43 hG hI (fun R5 M5 I5 hr5 => ?_)) (Nat.le_of_ble_eq_true rfl)
            refine ⟨fun hc6 => ?_, fun hc6 => ?_⟩
            · skip
              exact ih.2.2.1 _ I5 (by omega)
            · skip
              refine Wp.deep (s_X2_unit_43_L3 hG I5 (by omega) (fun R7 M7 I7 hr7 => ?_)) (Nat.le_of_ble_eq_true rfl)
              refine ⟨fun hc8 => ?_, fun hc8 => ?_⟩
              · skip
                have f9 := ti_3
                refine Wp.deep (s_X4_put_29 hG I7 (fun M10 I10 => ?_)) (Nat.le_of_ble_eq_true rfl)
                have f11 := dAddE (X := x2.toInt) (Y := 1) (x := x2) (y := (1 : Int32)) rfl (by decide) (by omega) (by omega)
                exact ih.1 _ _ _ I10 (by omega) (by omega) (by omega)
              · skip
                exact ih.2.2.1 _ I7 (by omega)
          · skip
            exfalso; omega
        · skip
          refine ⟨by omega, ?_⟩
          refine ⟨fun hc3 => ?_, fun hc3 => ?_⟩
          · skip
            refine Wp.deep (s_X2_step_43 hG hI (fun R4 M4 I4 hr4 => ?_)) (Nat.le_of_ble_eq_true rfl)
            refine ⟨fun hc5 => ?_, fun hc5 => ?_⟩
            · skip
              exact ih.2.2.1 _ I4 (by omega)
            · skip
              refine Wp.deep (s_X2_unit_43_L3 hG I4 (by omega) (fun R6 M6 I6 hr6 => ?_)) (Nat.le_of_ble_eq_true rfl)
              refine ⟨fun hc7 => ?_, fun hc7 => ?_⟩
              · skip
                have f8 := ti_3
                refine Wp.deep (s_X4_put_29 hG I6 (fun M9 I9 => ?_)) (Nat.le_of_ble_eq_true rfl)
                have f10 := dAddE (X := x2.toInt) (Y := 1) (x := x2) (y := (1 : Int32)) rfl (by decide) (by omega) (by omega)
                exact ih.1 _ _ _ I9 (by omega) (by omega) (by omega)
              · skip
                exact ih.2.2.1 _ I6 (by omega)
          · skip
            refine Wp.deep (s_X2_step_43 hG hI (fun R4 M4 I4 hr4 => ?_)) (Nat.le_of_ble_eq_true rfl)
            refine ⟨fun hc5 => ?_, fun hc5 => ?_⟩
            · skip
              exact ih.2.2.1 _ I4 (by omega)
            · skip
              refine Wp.deep (s_X2_unit_43_L3 hG I4 (by omega) (fun R6 M6 I6 hr6 => ?_)) (Nat.le_of_ble_eq_true rfl)
              refine ⟨fun hc7 => ?_, fun hc7 => ?_⟩
              · skip
                have f8 := ti_2
                refine Wp.deep (s_X4_put_29 hG I6 (fun M9 I9 => ?_)) (Nat.le_of_ble_eq_true rfl)
                have f10 := dAddE (X := x2.toInt) (Y := 1) (x := x2) (y := (1 : Int32)) rfl (by decide) (by omega) (by omega)
                exact ih.1 _ _ _ I9 (by omega) (by omega) (by omega)
              · skip
                exact ih.2.2.1 _ I6 (by omega)
    · intro m hI hμ
      refine v_X2_product_43_67 ?_
      have f1 := ti_0
      exact hQ _ _ hI (by omega)
    · intro m hI hμ
      refine v_X2_product_43_83 ?_
      have f1 := ti_1
      exact hQ _ _ hI (by omega)
theorem s_X2_product_43_L3 {g : gM} {x1 : Int32} {m : dM} {Q : Int32 → dM → Prop} (hG : Gd g) (hI : Inv g m) (h1 : 3 ≤ x1.toInt ∧ x1.toInt ≤ 3) (hQ : ∀ (r : Int32) (m' : dM), Inv g m' → (0 ≤ r.toInt ∧ r.toInt ≤ 1) → Q r m') : c_X2_product_43 16 x1 m Q := by
  refine v_X2_product_43 ?_
  refine Wp.deep (s_X2_unit_43_L3 hG hI (by omega) (fun R1 M1 I1 hr1 => ?_)) (Nat.le_of_ble_eq_true rfl)
  refine ⟨fun hc2 => ?_, fun hc2 => ?_⟩
  · skip
    have f3 := ti_0
    exact (s_X2_product_43_L3_all hG hQ 807).1 _ _ _ I1 (by omega) (by omega) (by omega)
  · skip
    have f3 := ti_0
    exact hQ _ _ I1 (by omega)
theorem s_X2_sum_43_L3_all {g : gM} {Q : Int32 → dM → Prop} (hG : Gd g) (hQ : ∀ (r : Int32) (m' : dM), Inv g m' → (0 ≤ r.toInt ∧ r.toInt ≤ 1) → Q r m') : ∀ n : Nat, (∀ (x1 : Int32) (x2 : Int32) (m : dM), Inv g m → (3 ≤ x1.toInt ∧ x1.toInt ≤ 3) → (0 ≤ x2.toInt ∧ x2.toInt ≤ 401) → 805 - 2 * x2.toInt < (n : Int) → j_X2_sum_43_12 17 x1 x2 m Q) ∧ (∀ (x1 : Int32) (x2 : Int32) (m : dM), Inv g m → (3 ≤ x1.toInt ∧ x1.toInt ≤ 3) → (0 ≤ x2.toInt ∧ x2.toInt ≤ 400) → 804 - 2 * x2.toInt < (n : Int) → j_X2_sum_43_37 17 x1 x2 m Q) ∧ (∀ (m : dM), Inv g m → 1 < (n : Int) → j_X2_sum_43_67 17 m Q) ∧ (∀ (m : dM), Inv g m → 0 < (n : Int) → j_X2_sum_43_83 17 m Q) := by
  intro n
  induction n with
  | zero => exact ⟨fun x1 x2 m hI h1 h2 hμ => by exfalso; omega, fun x1 x2 m hI h1 h2 hμ => by exfalso; omega, fun m hI hμ => by exfalso; omega, fun m hI hμ => by exfalso; omega⟩
  | succ n ih =>
    refine ⟨?_, ?_, ?_, ?_⟩
    · intro x1 x2 m hI h1 h2 hμ
      refine v_X2_sum_43_12 ?_
      refine ⟨fun hc1 => ?_, fun hc1 => ?_⟩
      · skip
        exact ih.2.2.2 _ hI (by omega)
      · skip
        refine v_X2_kind_43 ?_
        refine ⟨fun hc2 => ?_, fun hc2 => ?_⟩
        · skip
          refine v_X2_kind_43_32 ?_
          have f3 := ti_24
          refine ⟨fun hc4 => ?_, fun hc4 => ?_⟩
          · skip
            exfalso; omega
          · skip
            refine v_X2_kind_43 ?_
            refine ⟨fun hc5 => ?_, fun hc5 => ?_⟩
            · skip
              refine v_X2_kind_43_32 ?_
              refine ⟨fun hc6 => ?_, fun hc6 => ?_⟩
              · skip
                exact ih.2.2.2 _ hI (by omega)
              · skip
                exfalso; omega
            · skip
              exfalso; omega
        · skip
          refine ⟨fun hc3 => ?_, fun hc3 => ?_⟩
          · skip
            refine v_X2_kind_43_32 ?_
            have f4 := ti_24
            refine ⟨fun hc5 => ?_, fun hc5 => ?_⟩
            · skip
              exfalso; omega
            · skip
              refine v_X2_kind_43 ?_
              refine ⟨fun hc6 => ?_, fun hc6 => ?_⟩
              · skip
                exfalso; omega
              · skip
                refine ⟨fun hc7 => ?_, fun hc7 => ?_⟩
                · skip
                  refine v_X2_kind_43_32 ?_
                  refine ⟨fun hc8 => ?_, fun hc8 => ?_⟩
                  · skip
                    exact ih.2.2.2 _ hI (by omega)
                  · skip
                    exfalso; omega
                · skip
                  exfalso; omega
          · skip
            refine ⟨by omega, ?_⟩
            refine ⟨fun hc4 => ?_, fun hc4 => ?_⟩
            · skip
              exact ih.2.1 _ _ _ hI (by omega) (by omega) (by omega)
            · skip
              refine v_X2_kind_43 ?_
              refine ⟨fun hc5 => ?_, fun hc5 => ?_⟩
              · skip
                exfalso; omega
              · skip
                refine ⟨fun hc6 => ?_, fun hc6 => ?_⟩
                · skip
                  exfalso; omega
                · skip
                  refine ⟨by omega, ?_⟩
                  refine ⟨fun hc7 => ?_, fun hc7 => ?_⟩
                  · skip
                    exact ih.2.2.2 _ hI (by omega)
                  · skip
                    exact ih.2.1 _ _ _ hI (by omega) (by omega) (by omega)
    · intro x1 x2 m hI h1 h2 hμ
      refine v_X2_sum_43_37 ?_
      refine v_X2_kind_43 ?_
      refine ⟨fun hc1 => ?_, fun hc1 => ?_⟩
      · skip
        refine v_X2_kind_43_32 ?_
        have f2 := ti_24
        refine ⟨fun hc3 => ?_, fun hc3 => ?_⟩
        · skip
          refine Wp.deep (s_X2_step_43 hG hI (fun R4 M4 I4 hr4 => ?_)) (Nat.le_of_ble_eq_true rfl)
          refine ⟨fun hc5 => ?_, fun hc5 => ?_⟩
          · skip
            exact ih.2.2.1 _ I4 (by omega)
          · skip
            refine Wp.deep (s_X2_product_43_L3 hG I4 (by omega) (fun R6 M6 I6 hr6 => ?_)) (Nat.le_of_ble_eq_true rfl)
            refine ⟨fun hc7 => ?_, fun hc7 => ?_⟩
            · skip
              have f8 := ti_1
              refine Wp.deep (s_X4_put_29 hG I6 (fun M9 I9 => ?_)) (Nat.le_of_ble_eq_true rfl)
              have f10 := dAddE (X := x2.toInt) (Y := 1) (x := x2) (y := (1 : Int32)) rfl (by decide) (by omega) (by omega)
              exact ih.1 _ _ _ I9 (by omega) (by omega) (by omega)
            · skip
              exact ih.2.2.1 _ I6 (by omega)
        · skip
          exfalso; omega
      · skip
        refine ⟨fun hc2 => ?_, fun hc2 => ?_⟩
        · skip
          refine v_X2_kind_43_32 ?_
          have f3 := ti_24
          refine ⟨fun hc4 => ?_, fun hc4 => ?_⟩
          · skip
            refine Wp.deep (s_X2_step_43 hG hI (fun R5 M5 I5 hr5 => ?_)) (Nat.le_of_ble_eq_true rfl)
            refine ⟨fun hc6 => ?_, fun hc6 => ?_⟩
            · skip
              exact ih.2.2.1 _ I5 (by omega)
            · skip
              refine Wp.deep (s_X2_product_43_L3 hG I5 (by omega) (fun R7 M7 I7 hr7 => ?_)) (Nat.le_of_ble_eq_true rfl)
              refine ⟨fun hc8 => ?_, fun hc8 => ?_⟩
              · skip
                have f9 := ti_1
                refine Wp.deep (s_X4_put_29 hG I7 (fun M10 I10 => ?_)) (Nat.le_of_ble_eq_true rfl)
                have f11 := dAddE (X := x2.toInt) (Y := 1) (x := x2) (y := (1 : Int32)) rfl (by decide) (by omega) (by omega)
                exact ih.1 _ _ _ I10 (by omega) (by omega) (by omega)
              · skip
                exact ih.2.2.1 _ I7 (by omega)
          · skip
            exfalso; omega
        · skip
          refine ⟨by omega, ?_⟩
          refine ⟨fun hc3 => ?_, fun hc3 => ?_⟩
          · skip
            refine Wp.deep (s_X2_step_43 hG hI (fun R4 M4 I4 hr4 => ?_)) (Nat.le_of_ble_eq_true rfl)
            refine ⟨fun hc5 => ?_, fun hc5 => ?_⟩
            · skip
              exact ih.2.2.1 _ I4 (by omega)
            · skip
              refine Wp.deep (s_X2_product_43_L3 hG I4 (by omega) (fun R6 M6 I6 hr6 => ?_)) (Nat.le_of_ble_eq_true rfl)
              refine ⟨fun hc7 => ?_, fun hc7 => ?_⟩
              · skip
                have f8 := ti_1
                refine Wp.deep (s_X4_put_29 hG I6 (fun M9 I9 => ?_)) (Nat.le_of_ble_eq_true rfl)
                have f10 := dAddE (X := x2.toInt) (Y := 1) (x := x2) (y := (1 : Int32)) rfl (by decide) (by omega) (by omega)
                exact ih.1 _ _ _ I9 (by omega) (by omega) (by omega)
              · skip
                exact ih.2.2.1 _ I6 (by omega)
          · skip
            refine Wp.deep (s_X2_step_43 hG hI (fun R4 M4 I4 hr4 => ?_)) (Nat.le_of_ble_eq_true rfl)
            refine ⟨fun hc5 => ?_, fun hc5 => ?_⟩
            · skip
              exact ih.2.2.1 _ I4 (by omega)
            · skip
              refine Wp.deep (s_X2_product_43_L3 hG I4 (by omega) (fun R6 M6 I6 hr6 => ?_)) (Nat.le_of_ble_eq_true rfl)
              refine ⟨fun hc7 => ?_, fun hc7 => ?_⟩
              · skip
                have f8 := ti_0
                refine Wp.deep (s_X4_put_29 hG I6 (fun M9 I9 => ?_)) (Nat.le_of_ble_eq_true rfl)
                have f10 := dAddE (X := x2.toInt) (Y := 1) (x := x2) (y := (1 : Int32)) rfl (by decide) (by omega) (by omega)
                exact ih.1 _ _ _ I9 (by omega) (by omega) (by omega)
              · skip
                exact ih.2.2.1 _ I6 (by omega)
    · intro m hI hμ
      refine v_X2_sum_43_67 ?_
      have f1 := ti_0
      exact hQ _ _ hI (by omega)
    · intro m hI hμ
      refine v_X2_sum_43_83 ?_
      have f1 := ti_1
      exact hQ _ _ hI (by omega)
theorem s_X2_sum_43_L3 {g : gM} {x1 : Int32} {m : dM} {Q : Int32 → dM → Prop} (hG : Gd g) (hI : Inv g m) (h1 : 3 ≤ x1.toInt ∧ x1.toInt ≤ 3) (hQ : ∀ (r : Int32) (m' : dM), Inv g m' → (0 ≤ r.toInt ∧ r.toInt ≤ 1) → Q r m') : c_X2_sum_43 17 x1 m Q := by
  refine v_X2_sum_43 ?_
  refine Wp.deep (s_X2_product_43_L3 hG hI (by omega) (fun R1 M1 I1 hr1 => ?_)) (Nat.le_of_ble_eq_true rfl)
  refine ⟨fun hc2 => ?_, fun hc2 => ?_⟩
  · skip
    have f3 := ti_0
    exact (s_X2_sum_43_L3_all hG hQ 807).1 _ _ _ I1 (by omega) (by omega) (by omega)
  · skip
    have f3 := ti_0
    exact hQ _ _ I1 (by omega)
theorem s_X2_unit_43_L2 {g : gM} {x1 : Int32} {m : dM} {Q : Int32 → dM → Prop} (hG : Gd g) (hI : Inv g m) (h1 : 2 ≤ x1.toInt ∧ x1.toInt ≤ 2) (hQ : ∀ (r : Int32) (m' : dM), Inv g m' → (0 ≤ r.toInt ∧ r.toInt ≤ 1) → Q r m') : c_X2_unit_43 18 x1 m Q := by
  refine v_X2_unit_43 ?_
  refine v_X2_kind_43 ?_
  refine ⟨fun hc1 => ?_, fun hc1 => ?_⟩
  · skip
    refine v_X2_kind_43_32 ?_
    have f2 := ti_24
    refine ⟨fun hc3 => ?_, fun hc3 => ?_⟩
    · skip
      refine ⟨fun hc4 => ?_, fun hc4 => ?_⟩
      · skip
        exfalso; omega
      · skip
        refine ⟨fun hc5 => ?_, fun hc5 => ?_⟩
        · skip
          refine v_X2_unit_43_67 ?_
          refine ⟨fun hc6 => ?_, fun hc6 => ?_⟩
          · skip
            exfalso; omega
          · skip
            have f7 := ti_1
            refine Wp.deep (s_X2_fail_43 hG hI (fun R8 M8 I8 hr8 => ?_)) (Nat.le_of_ble_eq_true rfl)
            refine ⟨dB01 (by omega), ?_⟩
            exact hQ _ _ I8 (by omega)
        · skip
          exfalso; omega
    · skip
      exfalso; omega
  · skip
    refine ⟨fun hc2 => ?_, fun hc2 => ?_⟩
    · skip
      refine v_X2_kind_43_32 ?_
      have f3 := ti_24
      refine ⟨fun hc4 => ?_, fun hc4 => ?_⟩
      · skip
        refine ⟨fun hc5 => ?_, fun hc5 => ?_⟩
        · skip
          exfalso; omega
        · skip
          refine ⟨fun hc6 => ?_, fun hc6 => ?_⟩
          · skip
            refine v_X2_unit_43_67 ?_
            refine ⟨fun hc7 => ?_, fun hc7 => ?_⟩
            · skip
              exfalso; omega
            · skip
              have f8 := ti_1
              refine Wp.deep (s_X2_fail_43 hG hI (fun R9 M9 I9 hr9 => ?_)) (Nat.le_of_ble_eq_true rfl)
              refine ⟨dB01 (by omega), ?_⟩
              exact hQ _ _ I9 (by omega)
          · skip
            exfalso; omega
      · skip
        exfalso; omega
    · skip
      refine ⟨by omega, ?_⟩
      refine ⟨fun hc3 => ?_, fun hc3 => ?_⟩
      · skip
        refine ⟨fun hc4 => ?_, fun hc4 => ?_⟩
        · skip
          refine v_X2_unit_43_67 ?_
          refine ⟨fun hc5 => ?_, fun hc5 => ?_⟩
          · skip
            exfalso; omega
          · skip
            have f6 := ti_1
            refine Wp.deep (s_X2_fail_43 hG hI (fun R7 M7 I7 hr7 => ?_)) (Nat.le_of_ble_eq_true rfl)
            refine ⟨dB01 (by omega), ?_⟩
            exact hQ _ _ I7 (by omega)
        · skip
          refine ⟨fun hc5 => ?_, fun hc5 => ?_⟩
          · skip
            refine v_X2_unit_43_67 ?_
            refine ⟨fun hc6 => ?_, fun hc6 => ?_⟩
            · skip
              refine ⟨fun hc7 => ?_, fun hc7 => ?_⟩
              · skip
                refine Wp.deep (s_X2_step_43 hG hI (fun R8 M8 I8 hr8 => ?_)) (Nat.le_of_ble_eq_true rfl)
                refine ⟨fun hc9 => ?_, fun hc9 => ?_⟩
                · skip
                  refine v_X2_unit_43_123 ?_
                  have f10 := ti_0
                  exact hQ _ _ I8 (by omega)
                · skip
                  have f10 := dAddE (X := x1.toInt) (Y := 1) (x := x1) (y := (1 : Int32)) rfl (by decide) (by omega) (by omega)
                  refine Wp.deep (s_X2_sum_43_L3 hG I8 (by omega) (fun R11 M11 I11 hr11 => ?_)) (Nat.le_of_ble_eq_true rfl)
                  refine ⟨fun hc12 => ?_, fun hc12 => ?_⟩
                  · skip
                    refine v_X2_unit_43_123 ?_
                    have f13 := ti_0
                    exact hQ _ _ I11 (by omega)
                  · skip
                    have f13 := ti_41
                    refine Wp.deep (s_X2_need_43 hG I11 (fun R14 M14 I14 hr14 => ?_)) (Nat.le_of_ble_eq_true rfl)
                    refine ⟨fun hc15 => ?_, fun hc15 => ?_⟩
                    · skip
                      refine v_X2_unit_43_123 ?_
                      have f16 := ti_0
                      exact hQ _ _ I14 (by omega)
                    · skip
                      have f16 := ti_1
                      exact hQ _ _ I14 (by omega)
              · skip
                exfalso; omega
            · skip
              have f7 := ti_1
              refine Wp.deep (s_X2_fail_43 hG hI (fun R8 M8 I8 hr8 => ?_)) (Nat.le_of_ble_eq_true rfl)
              refine ⟨dB01 (by omega), ?_⟩
              exact hQ _ _ I8 (by omega)
          · skip
            have f6 := dAddE (X := 4) (Y := (m.1 39 (m.1 43 2).toNatClampNeg).toInt) (x := (4 : Int32)) (y := (m.1 39 (m.1 43 2).toNatClampNeg)) (by decide) rfl (by omega) (by omega)
            have f7 := dSubE (X := ((4 : Int32) + (m.1 39 (m.1 43 2).toNatClampNeg)).toInt) (Y := 13) (x := ((4 : Int32) + (m.1 39 (m.1 43 2).toNatClampNeg))) (y := (13 : Int32)) rfl (by decide) (by omega) (by omega)
            refine Wp.deep (s_X4_put_29 hG hI (fun M8 I8 => ?_)) (Nat.le_of_ble_eq_true rfl)
            refine Wp.deep (s_X2_step_43 hG I8 (fun R9 M9 I9 hr9 => ?_)) (Nat.le_of_ble_eq_true rfl)
            refine ⟨dB01 (by omega), ?_⟩
            exact hQ _ _ I9 (by omega)
      · skip
        refine Wp.deep (s_X8_numberAt_38 hG hI (fun R4 => ?_)) (Nat.le_of_ble_eq_true rfl)
        refine Wp.deep (s_X4_put_29 hG hI (fun M5 I5 => ?_)) (Nat.le_of_ble_eq_true rfl)
        refine Wp.deep (s_X2_step_43 hG I5 (fun R6 M6 I6 hr6 => ?_)) (Nat.le_of_ble_eq_true rfl)
        refine ⟨dB01 (by omega), ?_⟩
        exact hQ _ _ I6 (by omega)
theorem s_X2_product_43_L2_all {g : gM} {Q : Int32 → dM → Prop} (hG : Gd g) (hQ : ∀ (r : Int32) (m' : dM), Inv g m' → (0 ≤ r.toInt ∧ r.toInt ≤ 1) → Q r m') : ∀ n : Nat, (∀ (x1 : Int32) (x2 : Int32) (m : dM), Inv g m → (2 ≤ x1.toInt ∧ x1.toInt ≤ 2) → (0 ≤ x2.toInt ∧ x2.toInt ≤ 401) → 805 - 2 * x2.toInt < (n : Int) → j_X2_product_43_12 19 x1 x2 m Q) ∧ (∀ (x1 : Int32) (x2 : Int32) (m : dM), Inv g m → (2 ≤ x1.toInt ∧ x1.toInt ≤ 2) → (0 ≤ x2.toInt ∧ x2.toInt ≤ 400) → 804 - 2 * x2.toInt < (n : Int) → j_X2_product_43_37 19 x1 x2 m Q) ∧ (∀ (m : dM), Inv g m → 1 < (n : Int) → j_X2_product_43_67 19 m Q) ∧ (∀ (m : dM), Inv g m → 0 < (n : Int) → j_X2_product_43_83 19 m Q) := by
  intro n
  induction n with
  | zero => exact ⟨fun x1 x2 m hI h1 h2 hμ => by exfalso; omega, fun x1 x2 m hI h1 h2 hμ => by exfalso; omega, fun m hI hμ => by exfalso; omega, fun m hI hμ => by exfalso; omega⟩
  | succ n ih =>
    refine ⟨?_, ?_, ?_, ?_⟩
    · intro x1 x2 m hI h1 h2 hμ
      refine v_X2_product_43_12 ?_
      refine ⟨fun hc1 => ?_, fun hc1 => ?_⟩
      · skip
        exact ih.2.2.2 _ hI (by omega)
      · skip
        refine v_X2_kind_43 ?_
        refine ⟨fun hc2 => ?_, fun hc2 => ?_⟩
        · skip
          refine v_X2_kind_43_32 ?_
          have f3 := ti_24
          refine ⟨fun hc4 => ?_, fun hc4 => ?_⟩
          · skip
            exfalso; omega
          · skip
            refine v_X2_kind_43 ?_
            refine ⟨fun hc5 => ?_, fun hc5 => ?_⟩
            · skip
              refine v_X2_kind_43_32 ?_
              refine ⟨fun hc6 => ?_, fun hc6 => ?_⟩
              · skip
                exact ih.2.2.2 _ hI (by omega)
              · skip
                exfalso; omega
            · skip
              exfalso; omega
        · skip
          refine ⟨fun hc3 => ?_, fun hc3 => ?_⟩
          · skip
            refine v_X2_kind_43_32 ?_
            have f4 := ti_24
            refine ⟨fun hc5 => ?_, fun hc5 => ?_⟩
            · skip
              exfalso; omega
            · skip
              refine v_X2_kind_43 ?_
              refine ⟨fun hc6 => ?_, fun hc6 => ?_⟩
              · skip
                exfalso; omega
              · skip
                refine ⟨fun hc7 => ?_, fun hc7 => ?_⟩
                · skip
                  refine v_X2_kind_43_32 ?_
                  refine ⟨fun hc8 => ?_, fun hc8 => ?_⟩
                  · skip
                    exact ih.2.2.2 _ hI (by omega)
                  · skip
                    exfalso; omega
                · skip
                  exfalso; omega
          · skip
            refine ⟨by omega, ?_⟩
            refine ⟨fun hc4 => ?_, fun hc4 => ?_⟩
            · skip
              exact ih.2.1 _ _ _ hI (by omega) (by omega) (by omega)
            · skip
              refine v_X2_kind_43 ?_
              refine ⟨fun hc5 => ?_, fun hc5 => ?_⟩
              · skip
                exfalso; omega
              · skip
                refine ⟨fun hc6 => ?_, fun hc6 => ?_⟩
                · skip
                  exfalso; omega
                · skip
                  refine ⟨by omega, ?_⟩
                  refine ⟨fun hc7 => ?_, fun hc7 => ?_⟩
                  · skip
                    exact ih.2.2.2 _ hI (by omega)
                  · skip
                    exact ih.2.1 _ _ _ hI (by omega) (by omega) (by omega)
    · intro x1 x2 m hI h1 h2 hμ
      refine v_X2_product_43_37 ?_
      refine v_X2_kind_43 ?_
      refine ⟨fun hc1 => ?_, fun hc1 => ?_⟩
      · skip
        refine v_X2_kind_43_32 ?_
        have f2 := ti_24
        refine ⟨fun hc3 => ?_, fun hc3 => ?_⟩
        · skip
          refine Wp.deep (s_X2_step_43 hG hI (fun R4 M4 I4 hr4 => ?_)) (Nat.le_of_ble_eq_true rfl)
          refine ⟨fun hc5 => ?_, fun hc5 => ?_⟩
          · skip
            exact ih.2.2.1 _ I4 (by omega)
          · skip
            refine Wp.deep (s_X2_unit_43_L2 hG I4 (by omega) (fun R6 M6 I6 hr6 => ?_)) (Nat.le_of_ble_eq_true rfl)
            refine ⟨fun hc7 => ?_, fun hc7 => ?_⟩
            · skip
              have f8 := ti_3
              refine Wp.deep (s_X4_put_29 hG I6 (fun M9 I9 => ?_)) (Nat.le_of_ble_eq_true rfl)
              have f10 := dAddE (X := x2.toInt) (Y := 1) (x := x2) (y := (1 : Int32)) rfl (by decide) (by omega) (by omega)
              exact ih.1 _ _ _ I9 (by omega) (by omega) (by omega)
            · skip
              exact ih.2.2.1 _ I6 (by omega)
        · skip
          exfalso; omega
      · skip
        refine ⟨fun hc2 => ?_, fun hc2 => ?_⟩
        · skip
          refine v_X2_kind_43_32 ?_
          have f3 := ti_24
          refine ⟨fun hc4 => ?_, fun hc4 => ?_⟩
          · skip
            refine Wp.deep (s_X2_step_43 hG hI (fun R5 M5 I5 hr5 => ?_)) (Nat.le_of_ble_eq_true rfl)
            refine ⟨fun hc6 => ?_, fun hc6 => ?_⟩
            · skip
              exact ih.2.2.1 _ I5 (by omega)
            · skip
              refine Wp.deep (s_X2_unit_43_L2 hG I5 (by omega) (fun R7 M7 I7 hr7 => ?_)) (Nat.le_of_ble_eq_true rfl)
              refine ⟨fun hc8 => ?_, fun hc8 => ?_⟩
              · skip
                have f9 := ti_3
                refine Wp.deep (s_X4_put_29 hG I7 (fun M10 I10 => ?_)) (Nat.le_of_ble_eq_true rfl)
                have f11 := dAddE (X := x2.toInt) (Y := 1) (x := x2) (y := (1 : Int32)) rfl (by decide) (by omega) (by omega)
                exact ih.1 _ _ _ I10 (by omega) (by omega) (by omega)
              · skip
                exact ih.2.2.1 _ I7 (by omega)
          · skip
            exfalso; omega
        · skip
          refine ⟨by omega, ?_⟩
          refine ⟨fun hc3 => ?_, fun hc3 => ?_⟩
          · skip
            refine Wp.deep (s_X2_step_43 hG hI (fun R4 M4 I4 hr4 => ?_)) (Nat.le_of_ble_eq_true rfl)
            refine ⟨fun hc5 => ?_, fun hc5 => ?_⟩
            · skip
              exact ih.2.2.1 _ I4 (by omega)
            · skip
              refine Wp.deep (s_X2_unit_43_L2 hG I4 (by omega) (fun R6 M6 I6 hr6 => ?_)) (Nat.le_of_ble_eq_true rfl)
              refine ⟨fun hc7 => ?_, fun hc7 => ?_⟩
              · skip
                have f8 := ti_3
                refine Wp.deep (s_X4_put_29 hG I6 (fun M9 I9 => ?_)) (Nat.le_of_ble_eq_true rfl)
                have f10 := dAddE (X := x2.toInt) (Y := 1) (x := x2) (y := (1 : Int32)) rfl (by decide) (by omega) (by omega)
                exact ih.1 _ _ _ I9 (by omega) (by omega) (by omega)
              · skip
                exact ih.2.2.1 _ I6 (by omega)
          · skip
            refine Wp.deep (s_X2_step_43 hG hI (fun R4 M4 I4 hr4 => ?_)) (Nat.le_of_ble_eq_true rfl)
            refine ⟨fun hc5 => ?_, fun hc5 => ?_⟩
            · skip
              exact ih.2.2.1 _ I4 (by omega)
            · skip
              refine Wp.deep (s_X2_unit_43_L2 hG I4 (by omega) (fun R6 M6 I6 hr6 => ?_)) (Nat.le_of_ble_eq_true rfl)
              refine ⟨fun hc7 => ?_, fun hc7 => ?_⟩
              · skip
                have f8 := ti_2
                refine Wp.deep (s_X4_put_29 hG I6 (fun M9 I9 => ?_)) (Nat.le_of_ble_eq_true rfl)
                have f10 := dAddE (X := x2.toInt) (Y := 1) (x := x2) (y := (1 : Int32)) rfl (by decide) (by omega) (by omega)
                exact ih.1 _ _ _ I9 (by omega) (by omega) (by omega)
              · skip
                exact ih.2.2.1 _ I6 (by omega)
    · intro m hI hμ
      refine v_X2_product_43_67 ?_
      have f1 := ti_0
      exact hQ _ _ hI (by omega)
    · intro m hI hμ
      refine v_X2_product_43_83 ?_
      have f1 := ti_1
      exact hQ _ _ hI (by omega)
theorem s_X2_product_43_L2 {g : gM} {x1 : Int32} {m : dM} {Q : Int32 → dM → Prop} (hG : Gd g) (hI : Inv g m) (h1 : 2 ≤ x1.toInt ∧ x1.toInt ≤ 2) (hQ : ∀ (r : Int32) (m' : dM), Inv g m' → (0 ≤ r.toInt ∧ r.toInt ≤ 1) → Q r m') : c_X2_product_43 19 x1 m Q := by
  refine v_X2_product_43 ?_
  refine Wp.deep (s_X2_unit_43_L2 hG hI (by omega) (fun R1 M1 I1 hr1 => ?_)) (Nat.le_of_ble_eq_true rfl)
  refine ⟨fun hc2 => ?_, fun hc2 => ?_⟩
  · skip
    have f3 := ti_0
    exact (s_X2_product_43_L2_all hG hQ 807).1 _ _ _ I1 (by omega) (by omega) (by omega)
  · skip
    have f3 := ti_0
    exact hQ _ _ I1 (by omega)
theorem s_X2_sum_43_L2_all {g : gM} {Q : Int32 → dM → Prop} (hG : Gd g) (hQ : ∀ (r : Int32) (m' : dM), Inv g m' → (0 ≤ r.toInt ∧ r.toInt ≤ 1) → Q r m') : ∀ n : Nat, (∀ (x1 : Int32) (x2 : Int32) (m : dM), Inv g m → (2 ≤ x1.toInt ∧ x1.toInt ≤ 2) → (0 ≤ x2.toInt ∧ x2.toInt ≤ 401) → 805 - 2 * x2.toInt < (n : Int) → j_X2_sum_43_12 20 x1 x2 m Q) ∧ (∀ (x1 : Int32) (x2 : Int32) (m : dM), Inv g m → (2 ≤ x1.toInt ∧ x1.toInt ≤ 2) → (0 ≤ x2.toInt ∧ x2.toInt ≤ 400) → 804 - 2 * x2.toInt < (n : Int) → j_X2_sum_43_37 20 x1 x2 m Q) ∧ (∀ (m : dM), Inv g m → 1 < (n : Int) → j_X2_sum_43_67 20 m Q) ∧ (∀ (m : dM), Inv g m → 0 < (n : Int) → j_X2_sum_43_83 20 m Q) := by
  intro n
  induction n with
  | zero => exact ⟨fun x1 x2 m hI h1 h2 hμ => by exfalso; omega, fun x1 x2 m hI h1 h2 hμ => by exfalso; omega, fun m hI hμ => by exfalso; omega, fun m hI hμ => by exfalso; omega⟩
  | succ n ih =>
    refine ⟨?_, ?_, ?_, ?_⟩
    · intro x1 x2 m hI h1 h2 hμ
      refine v_X2_sum_43_12 ?_
      refine ⟨fun hc1 => ?_, fun hc1 => ?_⟩
      · skip
        exact ih.2.2.2 _ hI (by omega)
      · skip
        refine v_X2_kind_43 ?_
        refine ⟨fun hc2 => ?_, fun hc2 => ?_⟩
        · skip
          refine v_X2_kind_43_32 ?_
          have f3 := ti_24
          refine ⟨fun hc4 => ?_, fun hc4 => ?_⟩
          · skip
            exfalso; omega
          · skip
            refine v_X2_kind_43 ?_
            refine ⟨fun hc5 => ?_, fun hc5 => ?_⟩
            · skip
              refine v_X2_kind_43_32 ?_
              refine ⟨fun hc6 => ?_, fun hc6 => ?_⟩
              · skip
                exact ih.2.2.2 _ hI (by omega)
              · skip
                exfalso; omega
            · skip
              exfalso; omega
        · skip
          refine ⟨fun hc3 => ?_, fun hc3 => ?_⟩
          · skip
            refine v_X2_kind_43_32 ?_
            have f4 := ti_24
            refine ⟨fun hc5 => ?_, fun hc5 => ?_⟩
            · skip
              exfalso; omega
            · skip
              refine v_X2_kind_43 ?_
              refine ⟨fun hc6 => ?_, fun hc6 => ?_⟩
              · skip
                exfalso; omega
              · skip
                refine ⟨fun hc7 => ?_, fun hc7 => ?_⟩
                · skip
                  refine v_X2_kind_43_32 ?_
                  refine ⟨fun hc8 => ?_, fun hc8 => ?_⟩
                  · skip
                    exact ih.2.2.2 _ hI (by omega)
                  · skip
                    exfalso; omega
                · skip
                  exfalso; omega
          · skip
            refine ⟨by omega, ?_⟩
            refine ⟨fun hc4 => ?_, fun hc4 => ?_⟩
            · skip
              exact ih.2.1 _ _ _ hI (by omega) (by omega) (by omega)
            · skip
              refine v_X2_kind_43 ?_
              refine ⟨fun hc5 => ?_, fun hc5 => ?_⟩
              · skip
                exfalso; omega
              · skip
                refine ⟨fun hc6 => ?_, fun hc6 => ?_⟩
                · skip
                  exfalso; omega
                · skip
                  refine ⟨by omega, ?_⟩
                  refine ⟨fun hc7 => ?_, fun hc7 => ?_⟩
                  · skip
                    exact ih.2.2.2 _ hI (by omega)
                  · skip
                    exact ih.2.1 _ _ _ hI (by omega) (by omega) (by omega)
    · intro x1 x2 m hI h1 h2 hμ
      refine v_X2_sum_43_37 ?_
      refine v_X2_kind_43 ?_
      refine ⟨fun hc1 => ?_, fun hc1 => ?_⟩
      · skip
        refine v_X2_kind_43_32 ?_
        have f2 := ti_24
        refine ⟨fun hc3 => ?_, fun hc3 => ?_⟩
        · skip
          refine Wp.deep (s_X2_step_43 hG hI (fun R4 M4 I4 hr4 => ?_)) (Nat.le_of_ble_eq_true rfl)
          refine ⟨fun hc5 => ?_, fun hc5 => ?_⟩
          · skip
            exact ih.2.2.1 _ I4 (by omega)
          · skip
            refine Wp.deep (s_X2_product_43_L2 hG I4 (by omega) (fun R6 M6 I6 hr6 => ?_)) (Nat.le_of_ble_eq_true rfl)
            refine ⟨fun hc7 => ?_, fun hc7 => ?_⟩
            · skip
              have f8 := ti_1
              refine Wp.deep (s_X4_put_29 hG I6 (fun M9 I9 => ?_)) (Nat.le_of_ble_eq_true rfl)
              have f10 := dAddE (X := x2.toInt) (Y := 1) (x := x2) (y := (1 : Int32)) rfl (by decide) (by omega) (by omega)
              exact ih.1 _ _ _ I9 (by omega) (by omega) (by omega)
            · skip
              exact ih.2.2.1 _ I6 (by omega)
        · skip
          exfalso; omega
      · skip
        refine ⟨fun hc2 => ?_, fun hc2 => ?_⟩
        · skip
          refine v_X2_kind_43_32 ?_
          have f3 := ti_24
          refine ⟨fun hc4 => ?_, fun hc4 => ?_⟩
          · skip
            refine Wp.deep (s_X2_step_43 hG hI (fun R5 M5 I5 hr5 => ?_)) (Nat.le_of_ble_eq_true rfl)
            refine ⟨fun hc6 => ?_, fun hc6 => ?_⟩
            · skip
              exact ih.2.2.1 _ I5 (by omega)
            · skip
              refine Wp.deep (s_X2_product_43_L2 hG I5 (by omega) (fun R7 M7 I7 hr7 => ?_)) (Nat.le_of_ble_eq_true rfl)
              refine ⟨fun hc8 => ?_, fun hc8 => ?_⟩
              · skip
                have f9 := ti_1
                refine Wp.deep (s_X4_put_29 hG I7 (fun M10 I10 => ?_)) (Nat.le_of_ble_eq_true rfl)
                have f11 := dAddE (X := x2.toInt) (Y := 1) (x := x2) (y := (1 : Int32)) rfl (by decide) (by omega) (by omega)
                exact ih.1 _ _ _ I10 (by omega) (by omega) (by omega)
              · skip
                exact ih.2.2.1 _ I7 (by omega)
          · skip
            exfalso; omega
        · skip
          refine ⟨by omega, ?_⟩
          refine ⟨fun hc3 => ?_, fun hc3 => ?_⟩
          · skip
            refine Wp.deep (s_X2_step_43 hG hI (fun R4 M4 I4 hr4 => ?_)) (Nat.le_of_ble_eq_true rfl)
            refine ⟨fun hc5 => ?_, fun hc5 => ?_⟩
            · skip
              exact ih.2.2.1 _ I4 (by omega)
            · skip
              refine Wp.deep (s_X2_product_43_L2 hG I4 (by omega) (fun R6 M6 I6 hr6 => ?_)) (Nat.le_of_ble_eq_true rfl)
              refine ⟨fun hc7 => ?_, fun hc7 => ?_⟩
              · skip
                have f8 := ti_1
                refine Wp.deep (s_X4_put_29 hG I6 (fun M9 I9 => ?_)) (Nat.le_of_ble_eq_true rfl)
                have f10 := dAddE (X := x2.toInt) (Y := 1) (x := x2) (y := (1 : Int32)) rfl (by decide) (by omega) (by omega)
                exact ih.1 _ _ _ I9 (by omega) (by omega) (by omega)
              · skip
                exact ih.2.2.1 _ I6 (by omega)
          · skip
            refine Wp.deep (s_X2_step_43 hG hI (fun R4 M4 I4 hr4 => ?_)) (Nat.le_of_ble_eq_true rfl)
            refine ⟨fun hc5 => ?_, fun hc5 => ?_⟩
            · skip
              exact ih.2.2.1 _ I4 (by omega)
            · skip
              refine Wp.deep (s_X2_product_43_L2 hG I4 (by omega) (fun R6 M6 I6 hr6 => ?_)) (Nat.le_of_ble_eq_true rfl)
              refine ⟨fun hc7 => ?_, fun hc7 => ?_⟩
              · skip
                have f8 := ti_0
                refine Wp.deep (s_X4_put_29 hG I6 (fun M9 I9 => ?_)) (Nat.le_of_ble_eq_true rfl)
                have f10 := dAddE (X := x2.toInt) (Y := 1) (x := x2) (y := (1 : Int32)) rfl (by decide) (by omega) (by omega)
                exact ih.1 _ _ _ I9 (by omega) (by omega) (by omega)
              · skip
                exact ih.2.2.1 _ I6 (by omega)
    · intro m hI hμ
      refine v_X2_sum_43_67 ?_
      have f1 := ti_0
      exact hQ _ _ hI (by omega)
    · intro m hI hμ
      refine v_X2_sum_43_83 ?_
      have f1 := ti_1
      exact hQ _ _ hI (by omega)
theorem s_X2_sum_43_L2 {g : gM} {x1 : Int32} {m : dM} {Q : Int32 → dM → Prop} (hG : Gd g) (hI : Inv g m) (h1 : 2 ≤ x1.toInt ∧ x1.toInt ≤ 2) (hQ : ∀ (r : Int32) (m' : dM), Inv g m' → (0 ≤ r.toInt ∧ r.toInt ≤ 1) → Q r m') : c_X2_sum_43 20 x1 m Q := by
  refine v_X2_sum_43 ?_
  refine Wp.deep (s_X2_product_43_L2 hG hI (by omega) (fun R1 M1 I1 hr1 => ?_)) (Nat.le_of_ble_eq_true rfl)
  refine ⟨fun hc2 => ?_, fun hc2 => ?_⟩
  · skip
    have f3 := ti_0
    exact (s_X2_sum_43_L2_all hG hQ 807).1 _ _ _ I1 (by omega) (by omega) (by omega)
  · skip
    have f3 := ti_0
    exact hQ _ _ I1 (by omega)
theorem s_X2_unit_43_L1 {g : gM} {x1 : Int32} {m : dM} {Q : Int32 → dM → Prop} (hG : Gd g) (hI : Inv g m) (h1 : 1 ≤ x1.toInt ∧ x1.toInt ≤ 1) (hQ : ∀ (r : Int32) (m' : dM), Inv g m' → (0 ≤ r.toInt ∧ r.toInt ≤ 1) → Q r m') : c_X2_unit_43 21 x1 m Q := by
  refine v_X2_unit_43 ?_
  refine v_X2_kind_43 ?_
  refine ⟨fun hc1 => ?_, fun hc1 => ?_⟩
  · skip
    refine v_X2_kind_43_32 ?_
    have f2 := ti_24
    refine ⟨fun hc3 => ?_, fun hc3 => ?_⟩
    · skip
      refine ⟨fun hc4 => ?_, fun hc4 => ?_⟩
      · skip
        exfalso; omega
      · skip
        refine ⟨fun hc5 => ?_, fun hc5 => ?_⟩
        · skip
          refine v_X2_unit_43_67 ?_
          refine ⟨fun hc6 => ?_, fun hc6 => ?_⟩
          · skip
            exfalso; omega
          · skip
            have f7 := ti_1
            refine Wp.deep (s_X2_fail_43 hG hI (fun R8 M8 I8 hr8 => ?_)) (Nat.le_of_ble_eq_true rfl)
            refine ⟨dB01 (by omega), ?_⟩
            exact hQ _ _ I8 (by omega)
        · skip
          exfalso; omega
    · skip
      exfalso; omega
  · skip
    refine ⟨fun hc2 => ?_, fun hc2 => ?_⟩
    · skip
      refine v_X2_kind_43_32 ?_
      have f3 := ti_24
      refine ⟨fun hc4 => ?_, fun hc4 => ?_⟩
      · skip
        refine ⟨fun hc5 => ?_, fun hc5 => ?_⟩
        · skip
          exfalso; omega
        · skip
          refine ⟨fun hc6 => ?_, fun hc6 => ?_⟩
          · skip
            refine v_X2_unit_43_67 ?_
            refine ⟨fun hc7 => ?_, fun hc7 => ?_⟩
            · skip
              exfalso; omega
            · skip
              have f8 := ti_1
              refine Wp.deep (s_X2_fail_43 hG hI (fun R9 M9 I9 hr9 => ?_)) (Nat.le_of_ble_eq_true rfl)
              refine ⟨dB01 (by omega), ?_⟩
              exact hQ _ _ I9 (by omega)
          · skip
            exfalso; omega
      · skip
        exfalso; omega
    · skip
      refine ⟨by omega, ?_⟩
      refine ⟨fun hc3 => ?_, fun hc3 => ?_⟩
      · skip
        refine ⟨fun hc4 => ?_, fun hc4 => ?_⟩
        · skip
          refine v_X2_unit_43_67 ?_
          refine ⟨fun hc5 => ?_, fun hc5 => ?_⟩
          · skip
            exfalso; omega
          · skip
            have f6 := ti_1
            refine Wp.deep (s_X2_fail_43 hG hI (fun R7 M7 I7 hr7 => ?_)) (Nat.le_of_ble_eq_true rfl)
            refine ⟨dB01 (by omega), ?_⟩
            exact hQ _ _ I7 (by omega)
        · skip
          refine ⟨fun hc5 => ?_, fun hc5 => ?_⟩
          · skip
            refine v_X2_unit_43_67 ?_
            refine ⟨fun hc6 => ?_, fun hc6 => ?_⟩
            · skip
              refine ⟨fun hc7 => ?_, fun hc7 => ?_⟩
              · skip
                refine Wp.deep (s_X2_step_43 hG hI (fun R8 M8 I8 hr8 => ?_)) (Nat.le_of_ble_eq_true rfl)
                refine ⟨fun hc9 => ?_, fun hc9 => ?_⟩
                · skip
                  refine v_X2_unit_43_123 ?_
                  have f10 := ti_0
                  exact hQ _ _ I8 (by omega)
                · skip
                  have f10 := dAddE (X := x1.toInt) (Y := 1) (x := x1) (y := (1 : Int32)) rfl (by decide) (by omega) (by omega)
                  refine Wp.deep (s_X2_sum_43_L2 hG I8 (by omega) (fun R11 M11 I11 hr11 => ?_)) (Nat.le_of_ble_eq_true rfl)
                  refine ⟨fun hc12 => ?_, fun hc12 => ?_⟩
                  · skip
                    refine v_X2_unit_43_123 ?_
                    have f13 := ti_0
                    exact hQ _ _ I11 (by omega)
                  · skip
                    have f13 := ti_41
                    refine Wp.deep (s_X2_need_43 hG I11 (fun R14 M14 I14 hr14 => ?_)) (Nat.le_of_ble_eq_true rfl)
                    refine ⟨fun hc15 => ?_, fun hc15 => ?_⟩
                    · skip
                      refine v_X2_unit_43_123 ?_
                      have f16 := ti_0
                      exact hQ _ _ I14 (by omega)
                    · skip
                      have f16 := ti_1
                      exact hQ _ _ I14 (by omega)
              · skip
                exfalso; omega
            · skip
              have f7 := ti_1
              refine Wp.deep (s_X2_fail_43 hG hI (fun R8 M8 I8 hr8 => ?_)) (Nat.le_of_ble_eq_true rfl)
              refine ⟨dB01 (by omega), ?_⟩
              exact hQ _ _ I8 (by omega)
          · skip
            have f6 := dAddE (X := 4) (Y := (m.1 39 (m.1 43 2).toNatClampNeg).toInt) (x := (4 : Int32)) (y := (m.1 39 (m.1 43 2).toNatClampNeg)) (by decide) rfl (by omega) (by omega)
            have f7 := dSubE (X := ((4 : Int32) + (m.1 39 (m.1 43 2).toNatClampNeg)).toInt) (Y := 13) (x := ((4 : Int32) + (m.1 39 (m.1 43 2).toNatClampNeg))) (y := (13 : Int32)) rfl (by decide) (by omega) (by omega)
            refine Wp.deep (s_X4_put_29 hG hI (fun M8 I8 => ?_)) (Nat.le_of_ble_eq_true rfl)
            refine Wp.deep (s_X2_step_43 hG I8 (fun R9 M9 I9 hr9 => ?_)) (Nat.le_of_ble_eq_true rfl)
            refine ⟨dB01 (by omega), ?_⟩
            exact hQ _ _ I9 (by omega)
      · skip
        refine Wp.deep (s_X8_numberAt_38 hG hI (fun R4 => ?_)) (Nat.le_of_ble_eq_true rfl)
        refine Wp.deep (s_X4_put_29 hG hI (fun M5 I5 => ?_)) (Nat.le_of_ble_eq_true rfl)
        refine Wp.deep (s_X2_step_43 hG I5 (fun R6 M6 I6 hr6 => ?_)) (Nat.le_of_ble_eq_true rfl)
        refine ⟨dB01 (by omega), ?_⟩
        exact hQ _ _ I6 (by omega)
theorem s_X2_product_43_L1_all {g : gM} {Q : Int32 → dM → Prop} (hG : Gd g) (hQ : ∀ (r : Int32) (m' : dM), Inv g m' → (0 ≤ r.toInt ∧ r.toInt ≤ 1) → Q r m') : ∀ n : Nat, (∀ (x1 : Int32) (x2 : Int32) (m : dM), Inv g m → (1 ≤ x1.toInt ∧ x1.toInt ≤ 1) → (0 ≤ x2.toInt ∧ x2.toInt ≤ 401) → 805 - 2 * x2.toInt < (n : Int) → j_X2_product_43_12 22 x1 x2 m Q) ∧ (∀ (x1 : Int32) (x2 : Int32) (m : dM), Inv g m → (1 ≤ x1.toInt ∧ x1.toInt ≤ 1) → (0 ≤ x2.toInt ∧ x2.toInt ≤ 400) → 804 - 2 * x2.toInt < (n : Int) → j_X2_product_43_37 22 x1 x2 m Q) ∧ (∀ (m : dM), Inv g m → 1 < (n : Int) → j_X2_product_43_67 22 m Q) ∧ (∀ (m : dM), Inv g m → 0 < (n : Int) → j_X2_product_43_83 22 m Q) := by
  intro n
  induction n with
  | zero => exact ⟨fun x1 x2 m hI h1 h2 hμ => by exfalso; omega, fun x1 x2 m hI h1 h2 hμ => by exfalso; omega, fun m hI hμ => by exfalso; omega, fun m hI hμ => by exfalso; omega⟩
  | succ n ih =>
    refine ⟨?_, ?_, ?_, ?_⟩
    · intro x1 x2 m hI h1 h2 hμ
      refine v_X2_product_43_12 ?_
      refine ⟨fun hc1 => ?_, fun hc1 => ?_⟩
      · skip
        exact ih.2.2.2 _ hI (by omega)
      · skip
        refine v_X2_kind_43 ?_
        refine ⟨fun hc2 => ?_, fun hc2 => ?_⟩
        · skip
          refine v_X2_kind_43_32 ?_
          have f3 := ti_24
          refine ⟨fun hc4 => ?_, fun hc4 => ?_⟩
          · skip
            exfalso; omega
          · skip
            refine v_X2_kind_43 ?_
            refine ⟨fun hc5 => ?_, fun hc5 => ?_⟩
            · skip
              refine v_X2_kind_43_32 ?_
              refine ⟨fun hc6 => ?_, fun hc6 => ?_⟩
              · skip
                exact ih.2.2.2 _ hI (by omega)
              · skip
                exfalso; omega
            · skip
              exfalso; omega
        · skip
          refine ⟨fun hc3 => ?_, fun hc3 => ?_⟩
          · skip
            refine v_X2_kind_43_32 ?_
            have f4 := ti_24
            refine ⟨fun hc5 => ?_, fun hc5 => ?_⟩
            · skip
              exfalso; omega
            · skip
              refine v_X2_kind_43 ?_
              refine ⟨fun hc6 => ?_, fun hc6 => ?_⟩
              · skip
                exfalso; omega
              · skip
                refine ⟨fun hc7 => ?_, fun hc7 => ?_⟩
                · skip
                  refine v_X2_kind_43_32 ?_
                  refine ⟨fun hc8 => ?_, fun hc8 => ?_⟩
                  · skip
                    exact ih.2.2.2 _ hI (by omega)
                  · skip
                    exfalso; omega
                · skip
                  exfalso; omega
          · skip
            refine ⟨by omega, ?_⟩
            refine ⟨fun hc4 => ?_, fun hc4 => ?_⟩
            · skip
              exact ih.2.1 _ _ _ hI (by omega) (by omega) (by omega)
            · skip
              refine v_X2_kind_43 ?_
              refine ⟨fun hc5 => ?_, fun hc5 => ?_⟩
              · skip
                exfalso; omega
              · skip
                refine ⟨fun hc6 => ?_, fun hc6 => ?_⟩
                · skip
                  exfalso; omega
                · skip
                  refine ⟨by omega, ?_⟩
                  refine ⟨fun hc7 => ?_, fun hc7 => ?_⟩
                  · skip
                    exact ih.2.2.2 _ hI (by omega)
                  · skip
                    exact ih.2.1 _ _ _ hI (by omega) (by omega) (by omega)
    · intro x1 x2 m hI h1 h2 hμ
      refine v_X2_product_43_37 ?_
      refine v_X2_kind_43 ?_
      refine ⟨fun hc1 => ?_, fun hc1 => ?_⟩
      · skip
        refine v_X2_kind_43_32 ?_
        have f2 := ti_24
        refine ⟨fun hc3 => ?_, fun hc3 => ?_⟩
        · skip
          refine Wp.deep (s_X2_step_43 hG hI (fun R4 M4 I4 hr4 => ?_)) (Nat.le_of_ble_eq_true rfl)
          refine ⟨fun hc5 => ?_, fun hc5 => ?_⟩
          · skip
            exact ih.2.2.1 _ I4 (by omega)
          · skip
            refine Wp.deep (s_X2_unit_43_L1 hG I4 (by omega) (fun R6 M6 I6 hr6 => ?_)) (Nat.le_of_ble_eq_true rfl)
            refine ⟨fun hc7 => ?_, fun hc7 => ?_⟩
            · skip
              have f8 := ti_3
              refine Wp.deep (s_X4_put_29 hG I6 (fun M9 I9 => ?_)) (Nat.le_of_ble_eq_true rfl)
              have f10 := dAddE (X := x2.toInt) (Y := 1) (x := x2) (y := (1 : Int32)) rfl (by decide) (by omega) (by omega)
              exact ih.1 _ _ _ I9 (by omega) (by omega) (by omega)
            · skip
              exact ih.2.2.1 _ I6 (by omega)
        · skip
          exfalso; omega
      · skip
        refine ⟨fun hc2 => ?_, fun hc2 => ?_⟩
        · skip
          refine v_X2_kind_43_32 ?_
          have f3 := ti_24
          refine ⟨fun hc4 => ?_, fun hc4 => ?_⟩
          · skip
            refine Wp.deep (s_X2_step_43 hG hI (fun R5 M5 I5 hr5 => ?_)) (Nat.le_of_ble_eq_true rfl)
            refine ⟨fun hc6 => ?_, fun hc6 => ?_⟩
            · skip
              exact ih.2.2.1 _ I5 (by omega)
            · skip
              refine Wp.deep (s_X2_unit_43_L1 hG I5 (by omega) (fun R7 M7 I7 hr7 => ?_)) (Nat.le_of_ble_eq_true rfl)
              refine ⟨fun hc8 => ?_, fun hc8 => ?_⟩
              · skip
                have f9 := ti_3
                refine Wp.deep (s_X4_put_29 hG I7 (fun M10 I10 => ?_)) (Nat.le_of_ble_eq_true rfl)
                have f11 := dAddE (X := x2.toInt) (Y := 1) (x := x2) (y := (1 : Int32)) rfl (by decide) (by omega) (by omega)
                exact ih.1 _ _ _ I10 (by omega) (by omega) (by omega)
              · skip
                exact ih.2.2.1 _ I7 (by omega)
          · skip
            exfalso; omega
        · skip
          refine ⟨by omega, ?_⟩
          refine ⟨fun hc3 => ?_, fun hc3 => ?_⟩
          · skip
            refine Wp.deep (s_X2_step_43 hG hI (fun R4 M4 I4 hr4 => ?_)) (Nat.le_of_ble_eq_true rfl)
            refine ⟨fun hc5 => ?_, fun hc5 => ?_⟩
            · skip
              exact ih.2.2.1 _ I4 (by omega)
            · skip
              refine Wp.deep (s_X2_unit_43_L1 hG I4 (by omega) (fun R6 M6 I6 hr6 => ?_)) (Nat.le_of_ble_eq_true rfl)
              refine ⟨fun hc7 => ?_, fun hc7 => ?_⟩
              · skip
                have f8 := ti_3
                refine Wp.deep (s_X4_put_29 hG I6 (fun M9 I9 => ?_)) (Nat.le_of_ble_eq_true rfl)
                have f10 := dAddE (X := x2.toInt) (Y := 1) (x := x2) (y := (1 : Int32)) rfl (by decide) (by omega) (by omega)
                exact ih.1 _ _ _ I9 (by omega) (by omega) (by omega)
              · skip
                exact ih.2.2.1 _ I6 (by omega)
          · skip
            refine Wp.deep (s_X2_step_43 hG hI (fun R4 M4 I4 hr4 => ?_)) (Nat.le_of_ble_eq_true rfl)
            refine ⟨fun hc5 => ?_, fun hc5 => ?_⟩
            · skip
              exact ih.2.2.1 _ I4 (by omega)
            · skip
              refine Wp.deep (s_X2_unit_43_L1 hG I4 (by omega) (fun R6 M6 I6 hr6 => ?_)) (Nat.le_of_ble_eq_true rfl)
              refine ⟨fun hc7 => ?_, fun hc7 => ?_⟩
              · skip
                have f8 := ti_2
                refine Wp.deep (s_X4_put_29 hG I6 (fun M9 I9 => ?_)) (Nat.le_of_ble_eq_true rfl)
                have f10 := dAddE (X := x2.toInt) (Y := 1) (x := x2) (y := (1 : Int32)) rfl (by decide) (by omega) (by omega)
                exact ih.1 _ _ _ I9 (by omega) (by omega) (by omega)
              · skip
                exact ih.2.2.1 _ I6 (by omega)
    · intro m hI hμ
      refine v_X2_product_43_67 ?_
      have f1 := ti_0
      exact hQ _ _ hI (by omega)
    · intro m hI hμ
      refine v_X2_product_43_83 ?_
      have f1 := ti_1
      exact hQ _ _ hI (by omega)
theorem s_X2_product_43_L1 {g : gM} {x1 : Int32} {m : dM} {Q : Int32 → dM → Prop} (hG : Gd g) (hI : Inv g m) (h1 : 1 ≤ x1.toInt ∧ x1.toInt ≤ 1) (hQ : ∀ (r : Int32) (m' : dM), Inv g m' → (0 ≤ r.toInt ∧ r.toInt ≤ 1) → Q r m') : c_X2_product_43 22 x1 m Q := by
  refine v_X2_product_43 ?_
  refine Wp.deep (s_X2_unit_43_L1 hG hI (by omega) (fun R1 M1 I1 hr1 => ?_)) (Nat.le_of_ble_eq_true rfl)
  refine ⟨fun hc2 => ?_, fun hc2 => ?_⟩
  · skip
    have f3 := ti_0
    exact (s_X2_product_43_L1_all hG hQ 807).1 _ _ _ I1 (by omega) (by omega) (by omega)
  · skip
    have f3 := ti_0
    exact hQ _ _ I1 (by omega)
theorem s_X2_sum_43_L1_all {g : gM} {Q : Int32 → dM → Prop} (hG : Gd g) (hQ : ∀ (r : Int32) (m' : dM), Inv g m' → (0 ≤ r.toInt ∧ r.toInt ≤ 1) → Q r m') : ∀ n : Nat, (∀ (x1 : Int32) (x2 : Int32) (m : dM), Inv g m → (1 ≤ x1.toInt ∧ x1.toInt ≤ 1) → (0 ≤ x2.toInt ∧ x2.toInt ≤ 401) → 805 - 2 * x2.toInt < (n : Int) → j_X2_sum_43_12 23 x1 x2 m Q) ∧ (∀ (x1 : Int32) (x2 : Int32) (m : dM), Inv g m → (1 ≤ x1.toInt ∧ x1.toInt ≤ 1) → (0 ≤ x2.toInt ∧ x2.toInt ≤ 400) → 804 - 2 * x2.toInt < (n : Int) → j_X2_sum_43_37 23 x1 x2 m Q) ∧ (∀ (m : dM), Inv g m → 1 < (n : Int) → j_X2_sum_43_67 23 m Q) ∧ (∀ (m : dM), Inv g m → 0 < (n : Int) → j_X2_sum_43_83 23 m Q) := by
  intro n
  induction n with
  | zero => exact ⟨fun x1 x2 m hI h1 h2 hμ => by exfalso; omega, fun x1 x2 m hI h1 h2 hμ => by exfalso; omega, fun m hI hμ => by exfalso; omega, fun m hI hμ => by exfalso; omega⟩
  | succ n ih =>
    refine ⟨?_, ?_, ?_, ?_⟩
    · intro x1 x2 m hI h1 h2 hμ
      refine v_X2_sum_43_12 ?_
      refine ⟨fun hc1 => ?_, fun hc1 => ?_⟩
      · skip
        exact ih.2.2.2 _ hI (by omega)
      · skip
        refine v_X2_kind_43 ?_
        refine ⟨fun hc2 => ?_, fun hc2 => ?_⟩
        · skip
          refine v_X2_kind_43_32 ?_
          have f3 := ti_24
          refine ⟨fun hc4 => ?_, fun hc4 => ?_⟩
          · skip
            exfalso; omega
          · skip
            refine v_X2_kind_43 ?_
            refine ⟨fun hc5 => ?_, fun hc5 => ?_⟩
            · skip
              refine v_X2_kind_43_32 ?_
              refine ⟨fun hc6 => ?_, fun hc6 => ?_⟩
              · skip
                exact ih.2.2.2 _ hI (by omega)
              · skip
                exfalso; omega
            · skip
              exfalso; omega
        · skip
          refine ⟨fun hc3 => ?_, fun hc3 => ?_⟩
          · skip
            refine v_X2_kind_43_32 ?_
            have f4 := ti_24
            refine ⟨fun hc5 => ?_, fun hc5 => ?_⟩
            · skip
              exfalso; omega
            · skip
              refine v_X2_kind_43 ?_
              refine ⟨fun hc6 => ?_, fun hc6 => ?_⟩
              · skip
                exfalso; omega
              · skip
                refine ⟨fun hc7 => ?_, fun hc7 => ?_⟩
                · skip
                  refine v_X2_kind_43_32 ?_
                  refine ⟨fun hc8 => ?_, fun hc8 => ?_⟩
                  · skip
                    exact ih.2.2.2 _ hI (by omega)
                  · skip
                    exfalso; omega
                · skip
                  exfalso; omega
          · skip
            refine ⟨by omega, ?_⟩
            refine ⟨fun hc4 => ?_, fun hc4 => ?_⟩
            · skip
              exact ih.2.1 _ _ _ hI (by omega) (by omega) (by omega)
            · skip
              refine v_X2_kind_43 ?_
              refine ⟨fun hc5 => ?_, fun hc5 => ?_⟩
              · skip
                exfalso; omega
              · skip
                refine ⟨fun hc6 => ?_, fun hc6 => ?_⟩
                · skip
                  exfalso; omega
                · skip
                  refine ⟨by omega, ?_⟩
                  refine ⟨fun hc7 => ?_, fun hc7 => ?_⟩
                  · skip
                    exact ih.2.2.2 _ hI (by omega)
                  · skip
                    exact ih.2.1 _ _ _ hI (by omega) (by omega) (by omega)
    · intro x1 x2 m hI h1 h2 hμ
      refine v_X2_sum_43_37 ?_
      refine v_X2_kind_43 ?_
      refine ⟨fun hc1 => ?_, fun hc1 => ?_⟩
      · skip
        refine v_X2_kind_43_32 ?_
        have f2 := ti_24
        refine ⟨fun hc3 => ?_, fun hc3 => ?_⟩
        · skip
          refine Wp.deep (s_X2_step_43 hG hI (fun R4 M4 I4 hr4 => ?_)) (Nat.le_of_ble_eq_true rfl)
          refine ⟨fun hc5 => ?_, fun hc5 => ?_⟩
          · skip
            exact ih.2.2.1 _ I4 (by omega)
          · skip
            refine Wp.deep (s_X2_product_43_L1 hG I4 (by omega) (fun R6 M6 I6 hr6 => ?_)) (Nat.le_of_ble_eq_true rfl)
            refine ⟨fun hc7 => ?_, fun hc7 => ?_⟩
            · skip
              have f8 := ti_1
              refine Wp.deep (s_X4_put_29 hG I6 (fun M9 I9 => ?_)) (Nat.le_of_ble_eq_true rfl)
              have f10 := dAddE (X := x2.toInt) (Y := 1) (x := x2) (y := (1 : Int32)) rfl (by decide) (by omega) (by omega)
              exact ih.1 _ _ _ I9 (by omega) (by omega) (by omega)
            · skip
              exact ih.2.2.1 _ I6 (by omega)
        · skip
          exfalso; omega
      · skip
        refine ⟨fun hc2 => ?_, fun hc2 => ?_⟩
        · skip
          refine v_X2_kind_43_32 ?_
          have f3 := ti_24
          refine ⟨fun hc4 => ?_, fun hc4 => ?_⟩
          · skip
            refine Wp.deep (s_X2_step_43 hG hI (fun R5 M5 I5 hr5 => ?_)) (Nat.le_of_ble_eq_true rfl)
            refine ⟨fun hc6 => ?_, fun hc6 => ?_⟩
            · skip
              exact ih.2.2.1 _ I5 (by omega)
            · skip
              refine Wp.deep (s_X2_product_43_L1 hG I5 (by omega) (fun R7 M7 I7 hr7 => ?_)) (Nat.le_of_ble_eq_true rfl)
              refine ⟨fun hc8 => ?_, fun hc8 => ?_⟩
              · skip
                have f9 := ti_1
                refine Wp.deep (s_X4_put_29 hG I7 (fun M10 I10 => ?_)) (Nat.le_of_ble_eq_true rfl)
                have f11 := dAddE (X := x2.toInt) (Y := 1) (x := x2) (y := (1 : Int32)) rfl (by decide) (by omega) (by omega)
                exact ih.1 _ _ _ I10 (by omega) (by omega) (by omega)
              · skip
                exact ih.2.2.1 _ I7 (by omega)
          · skip
            exfalso; omega
        · skip
          refine ⟨by omega, ?_⟩
          refine ⟨fun hc3 => ?_, fun hc3 => ?_⟩
          · skip
            refine Wp.deep (s_X2_step_43 hG hI (fun R4 M4 I4 hr4 => ?_)) (Nat.le_of_ble_eq_true rfl)
            refine ⟨fun hc5 => ?_, fun hc5 => ?_⟩
            · skip
              exact ih.2.2.1 _ I4 (by omega)
            · skip
              refine Wp.deep (s_X2_product_43_L1 hG I4 (by omega) (fun R6 M6 I6 hr6 => ?_)) (Nat.le_of_ble_eq_true rfl)
              refine ⟨fun hc7 => ?_, fun hc7 => ?_⟩
              · skip
                have f8 := ti_1
                refine Wp.deep (s_X4_put_29 hG I6 (fun M9 I9 => ?_)) (Nat.le_of_ble_eq_true rfl)
                have f10 := dAddE (X := x2.toInt) (Y := 1) (x := x2) (y := (1 : Int32)) rfl (by decide) (by omega) (by omega)
                exact ih.1 _ _ _ I9 (by omega) (by omega) (by omega)
              · skip
                exact ih.2.2.1 _ I6 (by omega)
          · skip
            refine Wp.deep (s_X2_step_43 hG hI (fun R4 M4 I4 hr4 => ?_)) (Nat.le_of_ble_eq_true rfl)
            refine ⟨fun hc5 => ?_, fun hc5 => ?_⟩
            · skip
              exact ih.2.2.1 _ I4 (by omega)
            · skip
              refine Wp.deep (s_X2_product_43_L1 hG I4 (by omega) (fun R6 M6 I6 hr6 => ?_)) (Nat.le_of_ble_eq_true rfl)
              refine ⟨fun hc7 => ?_, fun hc7 => ?_⟩
              · skip
                have f8 := ti_0
                refine Wp.deep (s_X4_put_29 hG I6 (fun M9 I9 => ?_)) (Nat.le_of_ble_eq_true rfl)
                have f10 := dAddE (X := x2.toInt) (Y := 1) (x := x2) (y := (1 : Int32)) rfl (by decide) (by omega) (by omega)
                exact ih.1 _ _ _ I9 (by omega) (by omega) (by omega)
              · skip
                exact ih.2.2.1 _ I6 (by omega)
    · intro m hI hμ
      refine v_X2_sum_43_67 ?_
      have f1 := ti_0
      exact hQ _ _ hI (by omega)
    · intro m hI hμ
      refine v_X2_sum_43_83 ?_
      have f1 := ti_1
      exact hQ _ _ hI (by omega)
theorem s_X2_sum_43_L1 {g : gM} {x1 : Int32} {m : dM} {Q : Int32 → dM → Prop} (hG : Gd g) (hI : Inv g m) (h1 : 1 ≤ x1.toInt ∧ x1.toInt ≤ 1) (hQ : ∀ (r : Int32) (m' : dM), Inv g m' → (0 ≤ r.toInt ∧ r.toInt ≤ 1) → Q r m') : c_X2_sum_43 23 x1 m Q := by
  refine v_X2_sum_43 ?_
  refine Wp.deep (s_X2_product_43_L1 hG hI (by omega) (fun R1 M1 I1 hr1 => ?_)) (Nat.le_of_ble_eq_true rfl)
  refine ⟨fun hc2 => ?_, fun hc2 => ?_⟩
  · skip
    have f3 := ti_0
    exact (s_X2_sum_43_L1_all hG hQ 807).1 _ _ _ I1 (by omega) (by omega) (by omega)
  · skip
    have f3 := ti_0
    exact hQ _ _ I1 (by omega)
theorem s_X2_unit_43_L0 {g : gM} {x1 : Int32} {m : dM} {Q : Int32 → dM → Prop} (hG : Gd g) (hI : Inv g m) (h1 : 0 ≤ x1.toInt ∧ x1.toInt ≤ 0) (hQ : ∀ (r : Int32) (m' : dM), Inv g m' → (0 ≤ r.toInt ∧ r.toInt ≤ 1) → Q r m') : c_X2_unit_43 24 x1 m Q := by
  refine v_X2_unit_43 ?_
  refine v_X2_kind_43 ?_
  refine ⟨fun hc1 => ?_, fun hc1 => ?_⟩
  · skip
    refine v_X2_kind_43_32 ?_
    have f2 := ti_24
    refine ⟨fun hc3 => ?_, fun hc3 => ?_⟩
    · skip
      refine ⟨fun hc4 => ?_, fun hc4 => ?_⟩
      · skip
        exfalso; omega
      · skip
        refine ⟨fun hc5 => ?_, fun hc5 => ?_⟩
        · skip
          refine v_X2_unit_43_67 ?_
          refine ⟨fun hc6 => ?_, fun hc6 => ?_⟩
          · skip
            exfalso; omega
          · skip
            have f7 := ti_1
            refine Wp.deep (s_X2_fail_43 hG hI (fun R8 M8 I8 hr8 => ?_)) (Nat.le_of_ble_eq_true rfl)
            refine ⟨dB01 (by omega), ?_⟩
            exact hQ _ _ I8 (by omega)
        · skip
          exfalso; omega
    · skip
      exfalso; omega
  · skip
    refine ⟨fun hc2 => ?_, fun hc2 => ?_⟩
    · skip
      refine v_X2_kind_43_32 ?_
      have f3 := ti_24
      refine ⟨fun hc4 => ?_, fun hc4 => ?_⟩
      · skip
        refine ⟨fun hc5 => ?_, fun hc5 => ?_⟩
        · skip
          exfalso; omega
        · skip
          refine ⟨fun hc6 => ?_, fun hc6 => ?_⟩
          · skip
            refine v_X2_unit_43_67 ?_
            refine ⟨fun hc7 => ?_, fun hc7 => ?_⟩
            · skip
              exfalso; omega
            · skip
              have f8 := ti_1
              refine Wp.deep (s_X2_fail_43 hG hI (fun R9 M9 I9 hr9 => ?_)) (Nat.le_of_ble_eq_true rfl)
              refine ⟨dB01 (by omega), ?_⟩
              exact hQ _ _ I9 (by omega)
          · skip
            exfalso; omega
      · skip
        exfalso; omega
    · skip
      refine ⟨by omega, ?_⟩
      refine ⟨fun hc3 => ?_, fun hc3 => ?_⟩
      · skip
        refine ⟨fun hc4 => ?_, fun hc4 => ?_⟩
        · skip
          refine v_X2_unit_43_67 ?_
          refine ⟨fun hc5 => ?_, fun hc5 => ?_⟩
          · skip
            exfalso; omega
          · skip
            have f6 := ti_1
            refine Wp.deep (s_X2_fail_43 hG hI (fun R7 M7 I7 hr7 => ?_)) (Nat.le_of_ble_eq_true rfl)
            refine ⟨dB01 (by omega), ?_⟩
            exact hQ _ _ I7 (by omega)
        · skip
          refine ⟨fun hc5 => ?_, fun hc5 => ?_⟩
          · skip
            refine v_X2_unit_43_67 ?_
            refine ⟨fun hc6 => ?_, fun hc6 => ?_⟩
            · skip
              refine ⟨fun hc7 => ?_, fun hc7 => ?_⟩
              · skip
                refine Wp.deep (s_X2_step_43 hG hI (fun R8 M8 I8 hr8 => ?_)) (Nat.le_of_ble_eq_true rfl)
                refine ⟨fun hc9 => ?_, fun hc9 => ?_⟩
                · skip
                  refine v_X2_unit_43_123 ?_
                  have f10 := ti_0
                  exact hQ _ _ I8 (by omega)
                · skip
                  have f10 := dAddE (X := x1.toInt) (Y := 1) (x := x1) (y := (1 : Int32)) rfl (by decide) (by omega) (by omega)
                  refine Wp.deep (s_X2_sum_43_L1 hG I8 (by omega) (fun R11 M11 I11 hr11 => ?_)) (Nat.le_of_ble_eq_true rfl)
                  refine ⟨fun hc12 => ?_, fun hc12 => ?_⟩
                  · skip
                    refine v_X2_unit_43_123 ?_
                    have f13 := ti_0
                    exact hQ _ _ I11 (by omega)
                  · skip
                    have f13 := ti_41
                    refine Wp.deep (s_X2_need_43 hG I11 (fun R14 M14 I14 hr14 => ?_)) (Nat.le_of_ble_eq_true rfl)
                    refine ⟨fun hc15 => ?_, fun hc15 => ?_⟩
                    · skip
                      refine v_X2_unit_43_123 ?_
                      have f16 := ti_0
                      exact hQ _ _ I14 (by omega)
                    · skip
                      have f16 := ti_1
                      exact hQ _ _ I14 (by omega)
              · skip
                exfalso; omega
            · skip
              have f7 := ti_1
              refine Wp.deep (s_X2_fail_43 hG hI (fun R8 M8 I8 hr8 => ?_)) (Nat.le_of_ble_eq_true rfl)
              refine ⟨dB01 (by omega), ?_⟩
              exact hQ _ _ I8 (by omega)
          · skip
            have f6 := dAddE (X := 4) (Y := (m.1 39 (m.1 43 2).toNatClampNeg).toInt) (x := (4 : Int32)) (y := (m.1 39 (m.1 43 2).toNatClampNeg)) (by decide) rfl (by omega) (by omega)
            have f7 := dSubE (X := ((4 : Int32) + (m.1 39 (m.1 43 2).toNatClampNeg)).toInt) (Y := 13) (x := ((4 : Int32) + (m.1 39 (m.1 43 2).toNatClampNeg))) (y := (13 : Int32)) rfl (by decide) (by omega) (by omega)
            refine Wp.deep (s_X4_put_29 hG hI (fun M8 I8 => ?_)) (Nat.le_of_ble_eq_true rfl)
            refine Wp.deep (s_X2_step_43 hG I8 (fun R9 M9 I9 hr9 => ?_)) (Nat.le_of_ble_eq_true rfl)
            refine ⟨dB01 (by omega), ?_⟩
            exact hQ _ _ I9 (by omega)
      · skip
        refine Wp.deep (s_X8_numberAt_38 hG hI (fun R4 => ?_)) (Nat.le_of_ble_eq_true rfl)
        refine Wp.deep (s_X4_put_29 hG hI (fun M5 I5 => ?_)) (Nat.le_of_ble_eq_true rfl)
        refine Wp.deep (s_X2_step_43 hG I5 (fun R6 M6 I6 hr6 => ?_)) (Nat.le_of_ble_eq_true rfl)
        refine ⟨dB01 (by omega), ?_⟩
        exact hQ _ _ I6 (by omega)
theorem s_X2_product_43_L0_all {g : gM} {Q : Int32 → dM → Prop} (hG : Gd g) (hQ : ∀ (r : Int32) (m' : dM), Inv g m' → (0 ≤ r.toInt ∧ r.toInt ≤ 1) → Q r m') : ∀ n : Nat, (∀ (x1 : Int32) (x2 : Int32) (m : dM), Inv g m → (0 ≤ x1.toInt ∧ x1.toInt ≤ 0) → (0 ≤ x2.toInt ∧ x2.toInt ≤ 401) → 805 - 2 * x2.toInt < (n : Int) → j_X2_product_43_12 25 x1 x2 m Q) ∧ (∀ (x1 : Int32) (x2 : Int32) (m : dM), Inv g m → (0 ≤ x1.toInt ∧ x1.toInt ≤ 0) → (0 ≤ x2.toInt ∧ x2.toInt ≤ 400) → 804 - 2 * x2.toInt < (n : Int) → j_X2_product_43_37 25 x1 x2 m Q) ∧ (∀ (m : dM), Inv g m → 1 < (n : Int) → j_X2_product_43_67 25 m Q) ∧ (∀ (m : dM), Inv g m → 0 < (n : Int) → j_X2_product_43_83 25 m Q) := by
  intro n
  induction n with
  | zero => exact ⟨fun x1 x2 m hI h1 h2 hμ => by exfalso; omega, fun x1 x2 m hI h1 h2 hμ => by exfalso; omega, fun m hI hμ => by exfalso; omega, fun m hI hμ => by exfalso; omega⟩
  | succ n ih =>
    refine ⟨?_, ?_, ?_, ?_⟩
    · intro x1 x2 m hI h1 h2 hμ
      refine v_X2_product_43_12 ?_
      refine ⟨fun hc1 => ?_, fun hc1 => ?_⟩
      · skip
        exact ih.2.2.2 _ hI (by omega)
      · skip
        refine v_X2_kind_43 ?_
        refine ⟨fun hc2 => ?_, fun hc2 => ?_⟩
        · skip
          refine v_X2_kind_43_32 ?_
          have f3 := ti_24
          refine ⟨fun hc4 => ?_, fun hc4 => ?_⟩
          · skip
            exfalso; omega
          · skip
            refine v_X2_kind_43 ?_
            refine ⟨fun hc5 => ?_, fun hc5 => ?_⟩
            · skip
              refine v_X2_kind_43_32 ?_
              refine ⟨fun hc6 => ?_, fun hc6 => ?_⟩
              · skip
                exact ih.2.2.2 _ hI (by omega)
              · skip
                exfalso; omega
            · skip
              exfalso; omega
        · skip
          refine ⟨fun hc3 => ?_, fun hc3 => ?_⟩
          · skip
            refine v_X2_kind_43_32 ?_
            have f4 := ti_24
            refine ⟨fun hc5 => ?_, fun hc5 => ?_⟩
            · skip
              exfalso; omega
            · skip
              refine v_X2_kind_43 ?_
              refine ⟨fun hc6 => ?_, fun hc6 => ?_⟩
              · skip
                exfalso; omega
              · skip
                refine ⟨fun hc7 => ?_, fun hc7 => ?_⟩
                · skip
                  refine v_X2_kind_43_32 ?_
                  refine ⟨fun hc8 => ?_, fun hc8 => ?_⟩
                  · skip
                    exact ih.2.2.2 _ hI (by omega)
                  · skip
                    exfalso; omega
                · skip
                  exfalso; omega
          · skip
            refine ⟨by omega, ?_⟩
            refine ⟨fun hc4 => ?_, fun hc4 => ?_⟩
            · skip
              exact ih.2.1 _ _ _ hI (by omega) (by omega) (by omega)
            · skip
              refine v_X2_kind_43 ?_
              refine ⟨fun hc5 => ?_, fun hc5 => ?_⟩
              · skip
                exfalso; omega
              · skip
                refine ⟨fun hc6 => ?_, fun hc6 => ?_⟩
                · skip
                  exfalso; omega
                · skip
                  refine ⟨by omega, ?_⟩
                  refine ⟨fun hc7 => ?_, fun hc7 => ?_⟩
                  · skip
                    exact ih.2.2.2 _ hI (by omega)
                  · skip
                    exact ih.2.1 _ _ _ hI (by omega) (by omega) (by omega)
    · intro x1 x2 m hI h1 h2 hμ
      refine v_X2_product_43_37 ?_
      refine v_X2_kind_43 ?_
      refine ⟨fun hc1 => ?_, fun hc1 => ?_⟩
      · skip
        refine v_X2_kind_43_32 ?_
        have f2 := ti_24
        refine ⟨fun hc3 => ?_, fun hc3 => ?_⟩
        · skip
          refine Wp.deep (s_X2_step_43 hG hI (fun R4 M4 I4 hr4 => ?_)) (Nat.le_of_ble_eq_true rfl)
          refine ⟨fun hc5 => ?_, fun hc5 => ?_⟩
          · skip
            exact ih.2.2.1 _ I4 (by omega)
          · skip
            refine Wp.deep (s_X2_unit_43_L0 hG I4 (by omega) (fun R6 M6 I6 hr6 => ?_)) (Nat.le_of_ble_eq_true rfl)
            refine ⟨fun hc7 => ?_, fun hc7 => ?_⟩
            · skip
              have f8 := ti_3
              refine Wp.deep (s_X4_put_29 hG I6 (fun M9 I9 => ?_)) (Nat.le_of_ble_eq_true rfl)
              have f10 := dAddE (X := x2.toInt) (Y := 1) (x := x2) (y := (1 : Int32)) rfl (by decide) (by omega) (by omega)
              exact ih.1 _ _ _ I9 (by omega) (by omega) (by omega)
            · skip
              exact ih.2.2.1 _ I6 (by omega)
        · skip
          exfalso; omega
      · skip
        refine ⟨fun hc2 => ?_, fun hc2 => ?_⟩
        · skip
          refine v_X2_kind_43_32 ?_
          have f3 := ti_24
          refine ⟨fun hc4 => ?_, fun hc4 => ?_⟩
          · skip
            refine Wp.deep (s_X2_step_43 hG hI (fun R5 M5 I5 hr5 => ?_)) (Nat.le_of_ble_eq_true rfl)
            refine ⟨fun hc6 => ?_, fun hc6 => ?_⟩
            · skip
              exact ih.2.2.1 _ I5 (by omega)
            · skip
              refine Wp.deep (s_X2_unit_43_L0 hG I5 (by omega) (fun R7 M7 I7 hr7 => ?_)) (Nat.le_of_ble_eq_true rfl)
              refine ⟨fun hc8 => ?_, fun hc8 => ?_⟩
              · skip
                have f9 := ti_3
                refine Wp.deep (s_X4_put_29 hG I7 (fun M10 I10 => ?_)) (Nat.le_of_ble_eq_true rfl)
                have f11 := dAddE (X := x2.toInt) (Y := 1) (x := x2) (y := (1 : Int32)) rfl (by decide) (by omega) (by omega)
                exact ih.1 _ _ _ I10 (by omega) (by omega) (by omega)
              · skip
                exact ih.2.2.1 _ I7 (by omega)
          · skip
            exfalso; omega
        · skip
          refine ⟨by omega, ?_⟩
          refine ⟨fun hc3 => ?_, fun hc3 => ?_⟩
          · skip
            refine Wp.deep (s_X2_step_43 hG hI (fun R4 M4 I4 hr4 => ?_)) (Nat.le_of_ble_eq_true rfl)
            refine ⟨fun hc5 => ?_, fun hc5 => ?_⟩
            · skip
              exact ih.2.2.1 _ I4 (by omega)
            · skip
              refine Wp.deep (s_X2_unit_43_L0 hG I4 (by omega) (fun R6 M6 I6 hr6 => ?_)) (Nat.le_of_ble_eq_true rfl)
              refine ⟨fun hc7 => ?_, fun hc7 => ?_⟩
              · skip
                have f8 := ti_3
                refine Wp.deep (s_X4_put_29 hG I6 (fun M9 I9 => ?_)) (Nat.le_of_ble_eq_true rfl)
                have f10 := dAddE (X := x2.toInt) (Y := 1) (x := x2) (y := (1 : Int32)) rfl (by decide) (by omega) (by omega)
                exact ih.1 _ _ _ I9 (by omega) (by omega) (by omega)
              · skip
                exact ih.2.2.1 _ I6 (by omega)
          · skip
            refine Wp.deep (s_X2_step_43 hG hI (fun R4 M4 I4 hr4 => ?_)) (Nat.le_of_ble_eq_true rfl)
            refine ⟨fun hc5 => ?_, fun hc5 => ?_⟩
            · skip
              exact ih.2.2.1 _ I4 (by omega)
            · skip
              refine Wp.deep (s_X2_unit_43_L0 hG I4 (by omega) (fun R6 M6 I6 hr6 => ?_)) (Nat.le_of_ble_eq_true rfl)
              refine ⟨fun hc7 => ?_, fun hc7 => ?_⟩
              · skip
                have f8 := ti_2
                refine Wp.deep (s_X4_put_29 hG I6 (fun M9 I9 => ?_)) (Nat.le_of_ble_eq_true rfl)
                have f10 := dAddE (X := x2.toInt) (Y := 1) (x := x2) (y := (1 : Int32)) rfl (by decide) (by omega) (by omega)
                exact ih.1 _ _ _ I9 (by omega) (by omega) (by omega)
              · skip
                exact ih.2.2.1 _ I6 (by omega)
    · intro m hI hμ
      refine v_X2_product_43_67 ?_
      have f1 := ti_0
      exact hQ _ _ hI (by omega)
    · intro m hI hμ
      refine v_X2_product_43_83 ?_
      have f1 := ti_1
      exact hQ _ _ hI (by omega)
theorem s_X2_product_43_L0 {g : gM} {x1 : Int32} {m : dM} {Q : Int32 → dM → Prop} (hG : Gd g) (hI : Inv g m) (h1 : 0 ≤ x1.toInt ∧ x1.toInt ≤ 0) (hQ : ∀ (r : Int32) (m' : dM), Inv g m' → (0 ≤ r.toInt ∧ r.toInt ≤ 1) → Q r m') : c_X2_product_43 25 x1 m Q := by
  refine v_X2_product_43 ?_
  refine Wp.deep (s_X2_unit_43_L0 hG hI (by omega) (fun R1 M1 I1 hr1 => ?_)) (Nat.le_of_ble_eq_true rfl)
  refine ⟨fun hc2 => ?_, fun hc2 => ?_⟩
  · skip
    have f3 := ti_0
    exact (s_X2_product_43_L0_all hG hQ 807).1 _ _ _ I1 (by omega) (by omega) (by omega)
  · skip
    have f3 := ti_0
    exact hQ _ _ I1 (by omega)
theorem s_X2_sum_43_L0_all {g : gM} {Q : Int32 → dM → Prop} (hG : Gd g) (hQ : ∀ (r : Int32) (m' : dM), Inv g m' → (0 ≤ r.toInt ∧ r.toInt ≤ 1) → Q r m') : ∀ n : Nat, (∀ (x1 : Int32) (x2 : Int32) (m : dM), Inv g m → (0 ≤ x1.toInt ∧ x1.toInt ≤ 0) → (0 ≤ x2.toInt ∧ x2.toInt ≤ 401) → 805 - 2 * x2.toInt < (n : Int) → j_X2_sum_43_12 26 x1 x2 m Q) ∧ (∀ (x1 : Int32) (x2 : Int32) (m : dM), Inv g m → (0 ≤ x1.toInt ∧ x1.toInt ≤ 0) → (0 ≤ x2.toInt ∧ x2.toInt ≤ 400) → 804 - 2 * x2.toInt < (n : Int) → j_X2_sum_43_37 26 x1 x2 m Q) ∧ (∀ (m : dM), Inv g m → 1 < (n : Int) → j_X2_sum_43_67 26 m Q) ∧ (∀ (m : dM), Inv g m → 0 < (n : Int) → j_X2_sum_43_83 26 m Q) := by
  intro n
  induction n with
  | zero => exact ⟨fun x1 x2 m hI h1 h2 hμ => by exfalso; omega, fun x1 x2 m hI h1 h2 hμ => by exfalso; omega, fun m hI hμ => by exfalso; omega, fun m hI hμ => by exfalso; omega⟩
  | succ n ih =>
    refine ⟨?_, ?_, ?_, ?_⟩
    · intro x1 x2 m hI h1 h2 hμ
      refine v_X2_sum_43_12 ?_
      refine ⟨fun hc1 => ?_, fun hc1 => ?_⟩
      · skip
        exact ih.2.2.2 _ hI (by omega)
      · skip
        refine v_X2_kind_43 ?_
        refine ⟨fun hc2 => ?_, fun hc2 => ?_⟩
        · skip
          refine v_X2_kind_43_32 ?_
          have f3 := ti_24
          refine ⟨fun hc4 => ?_, fun hc4 => ?_⟩
          · skip
            exfalso; omega
          · skip
            refine v_X2_kind_43 ?_
            refine ⟨fun hc5 => ?_, fun hc5 => ?_⟩
            · skip
              refine v_X2_kind_43_32 ?_
              refine ⟨fun hc6 => ?_, fun hc6 => ?_⟩
              · skip
                exact ih.2.2.2 _ hI (by omega)
              · skip
                exfalso; omega
            · skip
              exfalso; omega
        · skip
          refine ⟨fun hc3 => ?_, fun hc3 => ?_⟩
          · skip
            refine v_X2_kind_43_32 ?_
            have f4 := ti_24
            refine ⟨fun hc5 => ?_, fun hc5 => ?_⟩
            · skip
              exfalso; omega
            · skip
              refine v_X2_kind_43 ?_
              refine ⟨fun hc6 => ?_, fun hc6 => ?_⟩
              · skip
                exfalso; omega
              · skip
                refine ⟨fun hc7 => ?_, fun hc7 => ?_⟩
                · skip
                  refine v_X2_kind_43_32 ?_
                  refine ⟨fun hc8 => ?_, fun hc8 => ?_⟩
                  · skip
                    exact ih.2.2.2 _ hI (by omega)
                  · skip
                    exfalso; omega
                · skip
                  exfalso; omega
          · skip
            refine ⟨by omega, ?_⟩
            refine ⟨fun hc4 => ?_, fun hc4 => ?_⟩
            · skip
              exact ih.2.1 _ _ _ hI (by omega) (by omega) (by omega)
            · skip
              refine v_X2_kind_43 ?_
              refine ⟨fun hc5 => ?_, fun hc5 => ?_⟩
              · skip
                exfalso; omega
              · skip
                refine ⟨fun hc6 => ?_, fun hc6 => ?_⟩
                · skip
                  exfalso; omega
                · skip
                  refine ⟨by omega, ?_⟩
                  refine ⟨fun hc7 => ?_, fun hc7 => ?_⟩
                  · skip
                    exact ih.2.2.2 _ hI (by omega)
                  · skip
                    exact ih.2.1 _ _ _ hI (by omega) (by omega) (by omega)
    · intro x1 x2 m hI h1 h2 hμ
      refine v_X2_sum_43_37 ?_
      refine v_X2_kind_43 ?_
      refine ⟨fun hc1 => ?_, fun hc1 => ?_⟩
      · skip
        refine v_X2_kind_43_32 ?_
        have f2 := ti_24
        refine ⟨fun hc3 => ?_, fun hc3 => ?_⟩
        · skip
          refine Wp.deep (s_X2_step_43 hG hI (fun R4 M4 I4 hr4 => ?_)) (Nat.le_of_ble_eq_true rfl)
          refine ⟨fun hc5 => ?_, fun hc5 => ?_⟩
          · skip
            exact ih.2.2.1 _ I4 (by omega)
          · skip
            refine Wp.deep (s_X2_product_43_L0 hG I4 (by omega) (fun R6 M6 I6 hr6 => ?_)) (Nat.le_of_ble_eq_true rfl)
            refine ⟨fun hc7 => ?_, fun hc7 => ?_⟩
            · skip
              have f8 := ti_1
              refine Wp.deep (s_X4_put_29 hG I6 (fun M9 I9 => ?_)) (Nat.le_of_ble_eq_true rfl)
              have f10 := dAddE (X := x2.toInt) (Y := 1) (x := x2) (y := (1 : Int32)) rfl (by decide) (by omega) (by omega)
              exact ih.1 _ _ _ I9 (by omega) (by omega) (by omega)
            · skip
              exact ih.2.2.1 _ I6 (by omega)
        · skip
          exfalso; omega
      · skip
        refine ⟨fun hc2 => ?_, fun hc2 => ?_⟩
        · skip
          refine v_X2_kind_43_32 ?_
          have f3 := ti_24
          refine ⟨fun hc4 => ?_, fun hc4 => ?_⟩
          · skip
            refine Wp.deep (s_X2_step_43 hG hI (fun R5 M5 I5 hr5 => ?_)) (Nat.le_of_ble_eq_true rfl)
            refine ⟨fun hc6 => ?_, fun hc6 => ?_⟩
            · skip
              exact ih.2.2.1 _ I5 (by omega)
            · skip
              refine Wp.deep (s_X2_product_43_L0 hG I5 (by omega) (fun R7 M7 I7 hr7 => ?_)) (Nat.le_of_ble_eq_true rfl)
              refine ⟨fun hc8 => ?_, fun hc8 => ?_⟩
              · skip
                have f9 := ti_1
                refine Wp.deep (s_X4_put_29 hG I7 (fun M10 I10 => ?_)) (Nat.le_of_ble_eq_true rfl)
                have f11 := dAddE (X := x2.toInt) (Y := 1) (x := x2) (y := (1 : Int32)) rfl (by decide) (by omega) (by omega)
                exact ih.1 _ _ _ I10 (by omega) (by omega) (by omega)
              · skip
                exact ih.2.2.1 _ I7 (by omega)
          · skip
            exfalso; omega
        · skip
          refine ⟨by omega, ?_⟩
          refine ⟨fun hc3 => ?_, fun hc3 => ?_⟩
          · skip
            refine Wp.deep (s_X2_step_43 hG hI (fun R4 M4 I4 hr4 => ?_)) (Nat.le_of_ble_eq_true rfl)
            refine ⟨fun hc5 => ?_, fun hc5 => ?_⟩
            · skip
              exact ih.2.2.1 _ I4 (by omega)
            · skip
              refine Wp.deep (s_X2_product_43_L0 hG I4 (by omega) (fun R6 M6 I6 hr6 => ?_)) (Nat.le_of_ble_eq_true rfl)
              refine ⟨fun hc7 => ?_, fun hc7 => ?_⟩
              · skip
                have f8 := ti_1
                refine Wp.deep (s_X4_put_29 hG I6 (fun M9 I9 => ?_)) (Nat.le_of_ble_eq_true rfl)
                have f10 := dAddE (X := x2.toInt) (Y := 1) (x := x2) (y := (1 : Int32)) rfl (by decide) (by omega) (by omega)
                exact ih.1 _ _ _ I9 (by omega) (by omega) (by omega)
              · skip
                exact ih.2.2.1 _ I6 (by omega)
          · skip
            refine Wp.deep (s_X2_step_43 hG hI (fun R4 M4 I4 hr4 => ?_)) (Nat.le_of_ble_eq_true rfl)
            refine ⟨fun hc5 => ?_, fun hc5 => ?_⟩
            · skip
              exact ih.2.2.1 _ I4 (by omega)
            · skip
              refine Wp.deep (s_X2_product_43_L0 hG I4 (by omega) (fun R6 M6 I6 hr6 => ?_)) (Nat.le_of_ble_eq_true rfl)
              refine ⟨fun hc7 => ?_, fun hc7 => ?_⟩
              · skip
                have f8 := ti_0
                refine Wp.deep (s_X4_put_29 hG I6 (fun M9 I9 => ?_)) (Nat.le_of_ble_eq_true rfl)
                have f10 := dAddE (X := x2.toInt) (Y := 1) (x := x2) (y := (1 : Int32)) rfl (by decide) (by omega) (by omega)
                exact ih.1 _ _ _ I9 (by omega) (by omega) (by omega)
              · skip
                exact ih.2.2.1 _ I6 (by omega)
    · intro m hI hμ
      refine v_X2_sum_43_67 ?_
      have f1 := ti_0
      exact hQ _ _ hI (by omega)
    · intro m hI hμ
      refine v_X2_sum_43_83 ?_
      have f1 := ti_1
      exact hQ _ _ hI (by omega)
theorem s_X2_sum_43_L0 {g : gM} {x1 : Int32} {m : dM} {Q : Int32 → dM → Prop} (hG : Gd g) (hI : Inv g m) (h1 : 0 ≤ x1.toInt ∧ x1.toInt ≤ 0) (hQ : ∀ (r : Int32) (m' : dM), Inv g m' → (0 ≤ r.toInt ∧ r.toInt ≤ 1) → Q r m') : c_X2_sum_43 26 x1 m Q := by
  refine v_X2_sum_43 ?_
  refine Wp.deep (s_X2_product_43_L0 hG hI (by omega) (fun R1 M1 I1 hr1 => ?_)) (Nat.le_of_ble_eq_true rfl)
  refine ⟨fun hc2 => ?_, fun hc2 => ?_⟩
  · skip
    have f3 := ti_0
    exact (s_X2_sum_43_L0_all hG hQ 807).1 _ _ _ I1 (by omega) (by omega) (by omega)
  · skip
    have f3 := ti_0
    exact hQ _ _ I1 (by omega)
end
section
theorem s_X1_cutBy_2 {g : gM} {x1 : Int32} {x2 : Int32} {x3 : Int32} {x4 : Int32} {m : dM} {Q : Int32 → dM → Prop} (hG : Gd g) (hI : Inv g m) (h1 : 0 ≤ x1.toInt ∧ x1.toInt ≤ 6) (h3 : 0 ≤ x3.toInt ∧ x3.toInt ≤ 11) (h4 : 0 ≤ x4.toInt ∧ x4.toInt ≤ 3) (hQ : ∀ r : Int32, Q r m) : c_X1_cutBy_2 20 x1 x2 x3 x4 m Q := by
  have hc : x4.toInt = 0 ∨ x4.toInt = 1 ∨ x4.toInt = 2 ∨ x4.toInt = 3 := by omega
  rcases hc with hc | hc | hc | hc
  · exact Wp.deep (s_X1_cutBy_2_L0 hG hI h1 h3 (by omega) hQ) (Nat.le_of_ble_eq_true rfl)
  · exact Wp.deep (s_X1_cutBy_2_L1 hG hI h1 h3 (by omega) hQ) (Nat.le_of_ble_eq_true rfl)
  · exact Wp.deep (s_X1_cutBy_2_L2 hG hI h1 h3 (by omega) hQ) (Nat.le_of_ble_eq_true rfl)
  · exact Wp.deep (s_X1_cutBy_2_L3 hG hI h1 h3 (by omega) hQ) (Nat.le_of_ble_eq_true rfl)
end
