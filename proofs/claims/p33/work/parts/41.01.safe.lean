theorem s_X0_houseIsNew_54 {g : gM} {m : dM} {Q : dM → Prop} (hG : Gd g) (hI : Inv g m) (hQ : ∀ m' : dM, Inv g m' → Q m') : c_X0_houseIsNew_54 2 m Q := by
  refine v_X0_houseIsNew_54 ?_
  refine Wp.deep (s_X10_houseIsNew_57 hG hI (fun M1 I1 => ?_)) (Nat.le_of_ble_eq_true rfl)
  exact hQ _ I1
theorem s_J7_fill_49_all {g : gM} {Q : dM → Prop} (hG : Gd g) (hQ : ∀ m' : dM, Inv g m' → Q m') : ∀ n : Nat, (∀ (x1 : Int32) (x2 : Int32) (x3 : Int32) (m : dM), Inv g m → (0 ≤ x1.toInt ∧ x1.toInt ≤ 0) → (0 ≤ x2.toInt ∧ x2.toInt ≤ 10) → (10 ≤ x3.toInt ∧ x3.toInt ≤ 10) → 10 - 1 * x2.toInt < (n : Int) → j_J7_fill_49_5 1 x1 x2 x3 m Q) := by
  intro n
  induction n with
  | zero => exact fun x1 x2 x3 m hI h1 h2 h3 hμ => by exfalso; omega
  | succ n ih =>
    · intro x1 x2 x3 m hI h1 h2 h3 hμ
      refine v_J7_fill_49_5 ?_
      refine ⟨fun hc1 => ?_, fun hc1 => ?_⟩
      · skip
        exact hQ _ hI
      · skip
        refine ⟨by omega, ?_⟩
        have f2 := dAddE (X := x2.toInt) (Y := 1) (x := x2) (y := (1 : Int32)) rfl (by decide) (by omega) (by omega)
        have I3 : Inv g (dSet m 49 x2.toNatClampNeg x1) := (Inv.setA hI rfl)
        exact ih _ _ _ _ I3 (by omega) (by omega) (by omega) (by omega)
theorem s_J7_fill_49 {g : gM} {x1 : Int32} {m : dM} {Q : dM → Prop} (hG : Gd g) (hI : Inv g m) (h1 : 0 ≤ x1.toInt ∧ x1.toInt ≤ 0) (hQ : ∀ m' : dM, Inv g m' → Q m') : c_J7_fill_49 1 x1 m Q := by
  refine v_J7_fill_49 ?_
  have f1 := ti_0
  have f2 := ti_10
  exact (s_J7_fill_49_all hG hQ 12) _ _ _ _ hI (by omega) (by omega) (by omega) (by omega)
theorem s_J7_fill_50_all {g : gM} {Q : dM → Prop} (hG : Gd g) (hQ : ∀ m' : dM, Inv g m' → Q m') : ∀ n : Nat, (∀ (x1 : Int32) (x2 : Int32) (x3 : Int32) (m : dM), Inv g m → (0 ≤ x1.toInt ∧ x1.toInt ≤ 0) → (0 ≤ x2.toInt ∧ x2.toInt ≤ 7) → (7 ≤ x3.toInt ∧ x3.toInt ≤ 7) → 7 - 1 * x2.toInt < (n : Int) → j_J7_fill_50_5 1 x1 x2 x3 m Q) := by
  intro n
  induction n with
  | zero => exact fun x1 x2 x3 m hI h1 h2 h3 hμ => by exfalso; omega
  | succ n ih =>
    · intro x1 x2 x3 m hI h1 h2 h3 hμ
      refine v_J7_fill_50_5 ?_
      refine ⟨fun hc1 => ?_, fun hc1 => ?_⟩
      · skip
        exact hQ _ hI
      · skip
        refine ⟨by omega, ?_⟩
        have f2 := dAddE (X := x2.toInt) (Y := 1) (x := x2) (y := (1 : Int32)) rfl (by decide) (by omega) (by omega)
        have I3 : Inv g (dSet m 50 x2.toNatClampNeg x1) := (Inv.setA hI rfl)
        exact ih _ _ _ _ I3 (by omega) (by omega) (by omega) (by omega)
theorem s_J7_fill_50 {g : gM} {x1 : Int32} {m : dM} {Q : dM → Prop} (hG : Gd g) (hI : Inv g m) (h1 : 0 ≤ x1.toInt ∧ x1.toInt ≤ 0) (hQ : ∀ m' : dM, Inv g m' → Q m') : c_J7_fill_50 1 x1 m Q := by
  refine v_J7_fill_50 ?_
  have f1 := ti_0
  have f2 := ti_7
  exact (s_J7_fill_50_all hG hQ 9) _ _ _ _ hI (by omega) (by omega) (by omega) (by omega)
theorem s_X7_begin_47_2 {g : gM} {m : dM} {Q : dM → Prop} (hG : Gd g) (hI : Inv g m) (hQ : ∀ m' : dM, Inv g m' → Q m') : c_X7_begin_47_2 2 m Q := by
  refine v_X7_begin_47_2 ?_
  have f1 := ti_0
  have I2 : Inv g (dSet m 47 0 (0 : Int32)) := (Inv.setA hI rfl)
  have I3 : Inv g (dSet (dSet m 47 0 (0 : Int32)) 47 1 (m.1 2 5)) := (Inv.setA I2 rfl)
  have I4 : Inv g (dSet (dSet (dSet m 47 0 (0 : Int32)) 47 1 (m.1 2 5)) 47 2 (0 : Int32)) := (Inv.setA I3 rfl)
  have I5 : Inv g (dSet (dSet (dSet (dSet m 47 0 (0 : Int32)) 47 1 (m.1 2 5)) 47 2 (0 : Int32)) 47 3 (0 : Int32)) := (Inv.setA I4 rfl)
  have I6 : Inv g (dSet (dSet (dSet (dSet (dSet m 47 0 (0 : Int32)) 47 1 (m.1 2 5)) 47 2 (0 : Int32)) 47 3 (0 : Int32)) 47 4 (0 : Int32)) := (Inv.setA I5 rfl)
  have I7 : Inv g (dSet (dSet (dSet (dSet (dSet (dSet m 47 0 (0 : Int32)) 47 1 (m.1 2 5)) 47 2 (0 : Int32)) 47 3 (0 : Int32)) 47 4 (0 : Int32)) 47 5 (((1 : Int32) <<< ((m.1 2 2) &&& 31)) - (1 : Int32))) := (Inv.setA I6 rfl)
  have I8 : Inv g (dCpy (dSet (dSet (dSet (dSet (dSet (dSet m 47 0 (0 : Int32)) 47 1 (m.1 2 5)) 47 2 (0 : Int32)) 47 3 (0 : Int32)) 47 4 (0 : Int32)) 47 5 (((1 : Int32) <<< ((m.1 2 2) &&& 31)) - (1 : Int32))) 6 (0 : Int).toNat 48 (0 : Int).toNat (10 : Int).toNat) := (Inv.cpy I7 (fun _ => rfl))
  refine Wp.deep (s_J7_fill_49 hG I8 (by omega) (fun M9 I9 => ?_)) (Nat.le_of_ble_eq_true rfl)
  refine Wp.deep (s_J7_fill_50 hG I9 (by omega) (fun M10 I10 => ?_)) (Nat.le_of_ble_eq_true rfl)
  exact hQ _ I10
theorem s_X6_clear_51 {g : gM} {m : dM} {Q : dM → Prop} (hG : Gd g) (hI : Inv g m) (hQ : ∀ m' : dM, Inv g m' → Q m') : c_X6_clear_51 1 m Q := by
  refine v_X6_clear_51 ?_
  have I1 : Inv g (dSet m 51 2 (0 : Int32)) := (Inv.setA hI rfl)
  have I2 : Inv g (dSet (dSet m 51 2 (0 : Int32)) 51 3 (0 : Int32)) := (Inv.setA I1 rfl)
  exact hQ _ I2
theorem s_X12_begins_70_all {g : gM} {Q : dM → Prop} (hG : Gd g) (hQ : ∀ m' : dM, Inv g m' → Q m') : ∀ n : Nat, (∀ (x1 : Int32) (m : dM), Inv g m → (0 ≤ x1.toInt ∧ x1.toInt ≤ 58) → 78 - 1 * x1.toInt < (n : Int) → j_X12_begins_70_2 1 x1 m Q) ∧ (∀ (x1 : Int32) (m : dM), Inv g m → (0 ≤ x1.toInt ∧ x1.toInt ≤ 10) → 19 - 1 * x1.toInt < (n : Int) → j_X12_begins_70_23 1 x1 m Q) ∧ (∀ (x1 : Int32) (m : dM), Inv g m → (0 ≤ x1.toInt ∧ x1.toInt ≤ 8) → 8 - 1 * x1.toInt < (n : Int) → j_X12_begins_70_64 1 x1 m Q) := by
  intro n
  induction n with
  | zero => exact ⟨fun x1 m hI h1 hμ => by exfalso; omega, fun x1 m hI h1 hμ => by exfalso; omega, fun x1 m hI h1 hμ => by exfalso; omega⟩
  | succ n ih =>
    refine ⟨?_, ?_, ?_⟩
    · intro x1 m hI h1 hμ
      refine v_X12_begins_70_2 ?_
      refine ⟨fun hc1 => ?_, fun hc1 => ?_⟩
      · skip
        have f2 := ti_0
        exact ih.2.1 _ _ hI (by omega) (by omega)
      · skip
        refine ⟨by omega, ?_⟩
        have f2 := dAddE (X := x1.toInt) (Y := 1) (x := x1) (y := (1 : Int32)) rfl (by decide) (by omega) (by omega)
        have I3 : Inv g (dSet m 108 x1.toNatClampNeg (0 : Int32)) := (Inv.setA hI rfl)
        exact ih.1 _ _ I3 (by omega) (by omega)
    · intro x1 m hI h1 hμ
      refine v_X12_begins_70_23 ?_
      have f1 := congrArg Int32.toInt (hI.2 70 18 rfl)
      have f2 := Inv.s hG hI (k := 70) (j := 18) rfl rfl
      refine ⟨by omega, ?_⟩
      have f3 := Inv.cnt82 hG hI
      have f4 := Inv.s hG hI (k := 82) (j := (m.1 70 18).toNatClampNeg) rfl rfl
      refine ⟨fun hc5 => ?_, fun hc5 => ?_⟩
      · skip
        have f6 := ti_0
        exact ih.2.2 _ _ hI (by omega) (by omega)
      · skip
        have f6 := dMulE (X := 10) (Y := (m.1 70 18).toInt) (x := (10 : Int32)) (y := (m.1 70 18)) (by decide) rfl (by omega) (by omega)
        have f7 := dAddE (X := ((10 : Int32) * (m.1 70 18)).toInt) (Y := x1.toInt) (x := ((10 : Int32) * (m.1 70 18))) (y := x1) rfl rfl (by omega) (by omega)
        refine ⟨by omega, ?_⟩
        refine ⟨by omega, ?_⟩
        have f8 := dAddE (X := x1.toInt) (Y := 1) (x := x1) (y := (1 : Int32)) rfl (by decide) (by omega) (by omega)
        have I9 : Inv g (dSet m 108 x1.toNatClampNeg (m.1 85 (((10 : Int32) * (m.1 70 18)) + x1).toNatClampNeg)) := (Inv.setA hI rfl)
        exact ih.2.1 _ _ I9 (by omega) (by omega)
    · intro x1 m hI h1 hμ
      refine v_X12_begins_70_64 ?_
      have f1 := congrArg Int32.toInt (hI.2 70 18 rfl)
      have f2 := Inv.s hG hI (k := 70) (j := 18) rfl rfl
      refine ⟨by omega, ?_⟩
      have f3 := Inv.cnt86 hG hI
      have f4 := Inv.s hG hI (k := 86) (j := (m.1 70 18).toNatClampNeg) rfl rfl
      refine ⟨fun hc5 => ?_, fun hc5 => ?_⟩
      · skip
        refine ⟨by omega, ?_⟩
        refine ⟨by omega, ?_⟩
        have I6 : Inv g (dSet m 108 56 (m.1 93 (m.1 70 18).toNatClampNeg)) := (Inv.setA hI rfl)
        have I7 : Inv g (dSet (dSet m 108 56 (m.1 93 (m.1 70 18).toNatClampNeg)) 70 56 (m.1 94 (m.1 70 18).toNatClampNeg)) := (Inv.setA I6 rfl)
        have I8 : Inv g (dSet (dSet (dSet m 108 56 (m.1 93 (m.1 70 18).toNatClampNeg)) 70 56 (m.1 94 (m.1 70 18).toNatClampNeg)) 70 57 (0 : Int32)) := (Inv.setA I7 rfl)
        exact hQ _ I8
      · skip
        have f6 := dAddE (X := 47) (Y := x1.toInt) (x := (47 : Int32)) (y := x1) (by decide) rfl (by omega) (by omega)
        refine ⟨by omega, ?_⟩
        have f7 := dAddE (X := x1.toInt) (Y := 1) (x := x1) (y := (1 : Int32)) rfl (by decide) (by omega) (by omega)
        have I8 : Inv g (dSet m 108 ((47 : Int32) + x1).toNatClampNeg (1 : Int32)) := (Inv.setA hI rfl)
        exact ih.2.2 _ _ I8 (by omega) (by omega)
theorem s_X12_begins_70 {g : gM} {m : dM} {Q : dM → Prop} (hG : Gd g) (hI : Inv g m) (hQ : ∀ m' : dM, Inv g m' → Q m') : c_X12_begins_70 1 m Q := by
  refine v_X12_begins_70 ?_
  have f1 := ti_0
  exact (s_X12_begins_70_all hG hQ 80).1 _ _ hI (by omega) (by omega)
theorem s_X12_keepsRow_70_all {g : gM} {Q : dM → Prop} (hG : Gd g) (hQ : ∀ m' : dM, Inv g m' → Q m') : ∀ n : Nat, (∀ (x1 : Int32) (m : dM), Inv g m → (0 ≤ x1.toInt ∧ x1.toInt ≤ 58) → 58 - 1 * x1.toInt < (n : Int) → j_X12_keepsRow_70_2 1 x1 m Q) := by
  intro n
  induction n with
  | zero => exact fun x1 m hI h1 hμ => by exfalso; omega
  | succ n ih =>
    · intro x1 m hI h1 hμ
      refine v_X12_keepsRow_70_2 ?_
      refine ⟨fun hc1 => ?_, fun hc1 => ?_⟩
      · skip
        exact hQ _ hI
      · skip
        refine ⟨by omega, ?_⟩
        refine ⟨by omega, ?_⟩
        have f2 := dAddE (X := x1.toInt) (Y := 1) (x := x1) (y := (1 : Int32)) rfl (by decide) (by omega) (by omega)
        have I3 : Inv g (dSet m 107 x1.toNatClampNeg (m.1 108 x1.toNatClampNeg)) := (Inv.setA hI rfl)
        exact ih _ _ I3 (by omega) (by omega)
theorem s_X12_keepsRow_70 {g : gM} {m : dM} {Q : dM → Prop} (hG : Gd g) (hI : Inv g m) (hQ : ∀ m' : dM, Inv g m' → Q m') : c_X12_keepsRow_70 1 m Q := by
  refine v_X12_keepsRow_70 ?_
  have f1 := ti_0
  exact (s_X12_keepsRow_70_all hG hQ 60) _ _ hI (by omega) (by omega)
theorem s_J7_fill_59_all {g : gM} {Q : dM → Prop} (hG : Gd g) (hQ : ∀ m' : dM, Inv g m' → Q m') : ∀ n : Nat, (∀ (x1 : Int32) (x2 : Int32) (x3 : Int32) (m : dM), Inv g m → (-1 ≤ x1.toInt ∧ x1.toInt ≤ -1) → (0 ≤ x2.toInt ∧ x2.toInt ≤ 7) → (7 ≤ x3.toInt ∧ x3.toInt ≤ 7) → 7 - 1 * x2.toInt < (n : Int) → j_J7_fill_59_5 1 x1 x2 x3 m Q) := by
  intro n
  induction n with
  | zero => exact fun x1 x2 x3 m hI h1 h2 h3 hμ => by exfalso; omega
  | succ n ih =>
    · intro x1 x2 x3 m hI h1 h2 h3 hμ
      refine v_J7_fill_59_5 ?_
      refine ⟨fun hc1 => ?_, fun hc1 => ?_⟩
      · skip
        exact hQ _ hI
      · skip
        refine ⟨by omega, ?_⟩
        have f2 := dAddE (X := x2.toInt) (Y := 1) (x := x2) (y := (1 : Int32)) rfl (by decide) (by omega) (by omega)
        have I3 : Inv g (dSet m 59 x2.toNatClampNeg x1) := (Inv.set hI rfl (by omega) (by omega))
        exact ih _ _ _ _ I3 (by omega) (by omega) (by omega) (by omega)
theorem s_J7_fill_59 {g : gM} {x1 : Int32} {m : dM} {Q : dM → Prop} (hG : Gd g) (hI : Inv g m) (h1 : -1 ≤ x1.toInt ∧ x1.toInt ≤ -1) (hQ : ∀ m' : dM, Inv g m' → Q m') : c_J7_fill_59 1 x1 m Q := by
  refine v_J7_fill_59 ?_
  have f1 := ti_0
  have f2 := ti_7
  exact (s_J7_fill_59_all hG hQ 9) _ _ _ _ hI (by omega) (by omega) (by omega) (by omega)
theorem s_J7_fill_60_all {g : gM} {Q : dM → Prop} (hG : Gd g) (hQ : ∀ m' : dM, Inv g m' → Q m') : ∀ n : Nat, (∀ (x1 : Int32) (x2 : Int32) (x3 : Int32) (m : dM), Inv g m → (0 ≤ x1.toInt ∧ x1.toInt ≤ 0) → (0 ≤ x2.toInt ∧ x2.toInt ≤ 7) → (7 ≤ x3.toInt ∧ x3.toInt ≤ 7) → 7 - 1 * x2.toInt < (n : Int) → j_J7_fill_60_5 1 x1 x2 x3 m Q) := by
  intro n
  induction n with
  | zero => exact fun x1 x2 x3 m hI h1 h2 h3 hμ => by exfalso; omega
  | succ n ih =>
    · intro x1 x2 x3 m hI h1 h2 h3 hμ
      refine v_J7_fill_60_5 ?_
      refine ⟨fun hc1 => ?_, fun hc1 => ?_⟩
      · skip
        exact hQ _ hI
      · skip
        refine ⟨by omega, ?_⟩
        have f2 := dAddE (X := x2.toInt) (Y := 1) (x := x2) (y := (1 : Int32)) rfl (by decide) (by omega) (by omega)
        have I3 : Inv g (dSet m 60 x2.toNatClampNeg x1) := (Inv.setA hI rfl)
        exact ih _ _ _ _ I3 (by omega) (by omega) (by omega) (by omega)
theorem s_J7_fill_60 {g : gM} {x1 : Int32} {m : dM} {Q : dM → Prop} (hG : Gd g) (hI : Inv g m) (h1 : 0 ≤ x1.toInt ∧ x1.toInt ≤ 0) (hQ : ∀ m' : dM, Inv g m' → Q m') : c_J7_fill_60 1 x1 m Q := by
  refine v_J7_fill_60 ?_
  have f1 := ti_0
  have f2 := ti_7
  exact (s_J7_fill_60_all hG hQ 9) _ _ _ _ hI (by omega) (by omega) (by omega) (by omega)
theorem s_X10_reachBy_57 {g : gM} {x1 : Int32} {x2 : Int32} {m : dM} {Q : dM → Prop} (hG : Gd g) (hI : Inv g m) (h1 : 0 ≤ x1.toInt ∧ x1.toInt ≤ 9) (h2 : 1 ≤ x2.toInt ∧ x2.toInt ≤ 6) (hQ : ∀ m' : dM, Inv g m' → Q m') : c_X10_reachBy_57 1 x1 x2 m Q := by
  refine v_X10_reachBy_57 ?_
  refine ⟨by omega, ?_⟩
  have f1 := Inv.s hG hI (k := 4) (j := x1.toNatClampNeg) rfl rfl
  refine ⟨by omega, ?_⟩
  have f2 := Inv.w hI (k := 59) (j := (m.1 4 x1.toNatClampNeg).toNatClampNeg) rfl
  have f3 := dSubE (X := x2.toInt) (Y := 1) (x := x2) (y := (1 : Int32)) rfl (by decide) (by omega) (by omega)
  refine ⟨fun hc4 => ?_, fun hc4 => ?_⟩
  · skip
    refine ⟨by omega, ?_⟩
    refine ⟨by omega, ?_⟩
    refine ⟨by omega, ?_⟩
    refine ⟨fun hc5 => ?_, fun hc5 => ?_⟩
    · skip
      refine v_X10_reachBy_57_151 ?_
      exact hQ _ hI
    · skip
      have f6 := Inv.s hG hI (k := 5) (j := x1.toNatClampNeg) rfl rfl
      refine ⟨by omega, ?_⟩
      have f7 := Inv.w hI (k := 59) (j := (m.1 5 x1.toNatClampNeg).toNatClampNeg) rfl
      refine ⟨fun hc8 => ?_, fun hc8 => ?_⟩
      · skip
        refine v_X10_reachBy_57_151 ?_
        exact hQ _ hI
      · skip
        refine ⟨by omega, ?_⟩
        refine ⟨by omega, ?_⟩
        refine ⟨by omega, ?_⟩
        refine ⟨by omega, ?_⟩
        refine v_X10_reachBy_57_151 ?_
        have I9 : Inv g (dSet m 59 (m.1 4 x1.toNatClampNeg).toNatClampNeg x2) := (Inv.set hI rfl (by omega) (by omega))
        have I10 : Inv g (dSet (dSet m 59 (m.1 4 x1.toNatClampNeg).toNatClampNeg x2) 58 (m.1 4 x1.toNatClampNeg).toNatClampNeg x1) := (Inv.set I9 rfl (by omega) (by omega))
        have I11 : Inv g (dSet (dSet (dSet m 59 (m.1 4 x1.toNatClampNeg).toNatClampNeg x2) 58 (m.1 4 x1.toNatClampNeg).toNatClampNeg x1) 60 (m.1 4 x1.toNatClampNeg).toNatClampNeg ((m.1 60 (m.1 5 x1.toNatClampNeg).toNatClampNeg) ||| ((1 : Int32) <<< (x1 &&& 31)))) := (Inv.setA I10 rfl)
        have I12 : Inv g (dSet (dSet (dSet (dSet m 59 (m.1 4 x1.toNatClampNeg).toNatClampNeg x2) 58 (m.1 4 x1.toNatClampNeg).toNatClampNeg x1) 60 (m.1 4 x1.toNatClampNeg).toNatClampNeg ((m.1 60 (m.1 5 x1.toNatClampNeg).toNatClampNeg) ||| ((1 : Int32) <<< (x1 &&& 31)))) 57 5 ((m.1 57 5) ||| ((1 : Int32) <<< ((m.1 4 x1.toNatClampNeg) &&& 31)))) := (Inv.setA I11 rfl)
        exact hQ _ I12
  · skip
    refine ⟨by omega, ?_⟩
    refine ⟨by omega, ?_⟩
    have f5 := Inv.s hG hI (k := 5) (j := x1.toNatClampNeg) rfl rfl
    refine ⟨by omega, ?_⟩
    have f6 := Inv.w hI (k := 59) (j := (m.1 5 x1.toNatClampNeg).toNatClampNeg) rfl
    refine ⟨fun hc7 => ?_, fun hc7 => ?_⟩
    · skip
      refine v_X10_reachBy_57_151 ?_
      exact hQ _ hI
    · skip
      refine ⟨by omega, ?_⟩
      refine ⟨fun hc8 => ?_, fun hc8 => ?_⟩
      · skip
        refine v_X10_reachBy_57_151 ?_
        exact hQ _ hI
      · skip
        refine ⟨by omega, ?_⟩
        refine ⟨by omega, ?_⟩
        refine ⟨by omega, ?_⟩
        refine ⟨by omega, ?_⟩
        refine v_X10_reachBy_57_151 ?_
        have I9 : Inv g (dSet m 59 (m.1 5 x1.toNatClampNeg).toNatClampNeg x2) := (Inv.set hI rfl (by omega) (by omega))
        have I10 : Inv g (dSet (dSet m 59 (m.1 5 x1.toNatClampNeg).toNatClampNeg x2) 58 (m.1 5 x1.toNatClampNeg).toNatClampNeg x1) := (Inv.set I9 rfl (by omega) (by omega))
        have I11 : Inv g (dSet (dSet (dSet m 59 (m.1 5 x1.toNatClampNeg).toNatClampNeg x2) 58 (m.1 5 x1.toNatClampNeg).toNatClampNeg x1) 60 (m.1 5 x1.toNatClampNeg).toNatClampNeg ((m.1 60 (m.1 4 x1.toNatClampNeg).toNatClampNeg) ||| ((1 : Int32) <<< (x1 &&& 31)))) := (Inv.setA I10 rfl)
        have I12 : Inv g (dSet (dSet (dSet (dSet m 59 (m.1 5 x1.toNatClampNeg).toNatClampNeg x2) 58 (m.1 5 x1.toNatClampNeg).toNatClampNeg x1) 60 (m.1 5 x1.toNatClampNeg).toNatClampNeg ((m.1 60 (m.1 4 x1.toNatClampNeg).toNatClampNeg) ||| ((1 : Int32) <<< (x1 &&& 31)))) 57 5 ((m.1 57 5) ||| ((1 : Int32) <<< ((m.1 5 x1.toNatClampNeg) &&& 31)))) := (Inv.setA I11 rfl)
        exact hQ _ I12
theorem s_X10_lay_57_all {g : gM} {Q : dM → Prop} (hG : Gd g) (hQ : ∀ m' : dM, Inv g m' → Q m') : ∀ n : Nat, (∀ (x1 : Int32) (x2 : Int32) (m : dM), Inv g m → (1 ≤ x2.toInt ∧ x2.toInt ≤ 7) → 184 - 23 * x2.toInt < (n : Int) → j_X10_lay_57_58 2 x1 x2 m Q) ∧ (∀ (x1 : Int32) (x2 : Int32) (x3 : Int32) (x4 : Int32) (m : dM), Inv g m → (1 ≤ x2.toInt ∧ x2.toInt ≤ 6) → (0 ≤ x4.toInt ∧ x4.toInt ≤ 10) → 183 - 23 * x2.toInt - 2 * x4.toInt < (n : Int) → j_X10_lay_57_77 2 x1 x2 x3 x4 m Q) ∧ (∀ (x1 : Int32) (x2 : Int32) (x3 : Int32) (x4 : Int32) (m : dM), Inv g m → (1 ≤ x2.toInt ∧ x2.toInt ≤ 6) → (0 ≤ x4.toInt ∧ x4.toInt ≤ 9) → 182 - 23 * x2.toInt - 2 * x4.toInt < (n : Int) → j_X10_lay_57_105 2 x1 x2 x3 x4 m Q) ∧ (∀ (m : dM), Inv g m → 0 < (n : Int) → j_X10_lay_57_128 2 m Q) := by
  intro n
  induction n with
  | zero => exact ⟨fun x1 x2 m hI h2 hμ => by exfalso; omega, fun x1 x2 x3 x4 m hI h2 h4 hμ => by exfalso; omega, fun x1 x2 x3 x4 m hI h2 h4 hμ => by exfalso; omega, fun m hI hμ => by exfalso; omega⟩
  | succ n ih =>
    refine ⟨?_, ?_, ?_, ?_⟩
    · intro x1 x2 m hI h2 hμ
      refine v_X10_lay_57_58 ?_
      have f1 := congrArg Int32.toInt (hI.2 2 0 rfl)
      have f2 := Inv.s hG hI (k := 2) (j := 0) rfl rfl
      refine ⟨fun hc3 => ?_, fun hc3 => ?_⟩
      · skip
        exact ih.2.2.2 _ hI (by omega)
      · skip
        have f4 := ti_0
        exact ih.2.1 _ _ _ _ _ hI (by omega) (by omega) (by omega)
    · intro x1 x2 x3 x4 m hI h2 h4 hμ
      refine v_X10_lay_57_77 ?_
      have f1 := congrArg Int32.toInt (hI.2 2 1 rfl)
      have f2 := Inv.s hG hI (k := 2) (j := 1) rfl rfl
      refine ⟨fun hc3 => ?_, fun hc3 => ?_⟩
      · skip
        refine ⟨fun hc4 => ?_, fun hc4 => ?_⟩
        · skip
          have f5 := dAddE (X := x2.toInt) (Y := 1) (x := x2) (y := (1 : Int32)) rfl (by decide) (by omega) (by omega)
          exact ih.1 _ _ _ hI (by omega) (by omega)
        · skip
          exact ih.2.2.2 _ hI (by omega)
      · skip
        refine v_X11_has ?_
        have f4 := ti_1
        have f5 := dAndE (x := (x1.toUInt32 >>> (x4.toUInt32 &&& Int32.toUInt32 31)).toInt32) (y := (1 : Int32)) (by decide)
        refine ⟨fun hc6 => ?_, fun hc6 => ?_⟩
        · skip
          have f7 := ti_0
          refine ⟨fun hc8 => ?_, fun hc8 => ?_⟩
          · skip
            exfalso; omega
          · skip
            refine Wp.deep (s_X10_reachBy_57 hG hI (by omega) (by omega) (fun M9 I9 => ?_)) (Nat.le_of_ble_eq_true rfl)
            exact ih.2.2.1 _ _ _ _ _ I9 (by omega) (by omega) (by omega)
        · skip
          refine ⟨fun hc7 => ?_, fun hc7 => ?_⟩
          · skip
            exact ih.2.2.1 _ _ _ _ _ hI (by omega) (by omega) (by omega)
          · skip
            exfalso; omega
    · intro x1 x2 x3 x4 m hI h2 h4 hμ
      refine v_X10_lay_57_105 ?_
      have f1 := dAddE (X := x4.toInt) (Y := 1) (x := x4) (y := (1 : Int32)) rfl (by decide) (by omega) (by omega)
      exact ih.2.1 _ _ _ _ _ hI (by omega) (by omega) (by omega)
    · intro m hI hμ
      refine v_X10_lay_57_128 ?_
      exact hQ _ hI
theorem s_X10_lay_57 {g : gM} {x1 : Int32} {m : dM} {Q : dM → Prop} (hG : Gd g) (hI : Inv g m) (hQ : ∀ m' : dM, Inv g m' → Q m') : c_X10_lay_57 2 x1 m Q := by
  refine v_X10_lay_57 ?_
  refine ⟨fun hc1 => ?_, fun hc1 => ?_⟩
  · skip
    have f2 := congrArg Int32.toInt (hI.2 2 0 rfl)
    have f3 := Inv.s hG hI (k := 2) (j := 0) rfl rfl
    refine ⟨fun hc4 => ?_, fun hc4 => ?_⟩
    · skip
      have f5 := ti_m1
      have I6 : Inv g (dSet m 57 1 x1) := (Inv.setA hI rfl)
      have I7 : Inv g (dSet (dSet m 57 1 x1) 57 5 (0 : Int32)) := (Inv.setA I6 rfl)
      refine Wp.deep (s_J7_fill_59 hG I7 (by omega) (fun M8 I8 => ?_)) (Nat.le_of_ble_eq_true rfl)
      have f9 := ti_0
      refine Wp.deep (s_J7_fill_60 hG I8 (by omega) (fun M10 I10 => ?_)) (Nat.le_of_ble_eq_true rfl)
      have f11 := ti_1
      have I12 : Inv g (dSet M10 59 0 (0 : Int32)) := (Inv.set I10 rfl (by omega) (by omega))
      exact (s_X10_lay_57_all hG hQ 163).1 _ _ _ I12 (by omega) (by omega)
    · skip
      have f5 := ti_m1
      have I6 : Inv g (dSet m 57 1 x1) := (Inv.setA hI rfl)
      have I7 : Inv g (dSet (dSet m 57 1 x1) 57 5 (1 : Int32)) := (Inv.setA I6 rfl)
      refine Wp.deep (s_J7_fill_59 hG I7 (by omega) (fun M8 I8 => ?_)) (Nat.le_of_ble_eq_true rfl)
      have f9 := ti_0
      refine Wp.deep (s_J7_fill_60 hG I8 (by omega) (fun M10 I10 => ?_)) (Nat.le_of_ble_eq_true rfl)
      have f11 := ti_1
      have I12 : Inv g (dSet M10 59 0 (0 : Int32)) := (Inv.set I10 rfl (by omega) (by omega))
      exact (s_X10_lay_57_all hG hQ 163).1 _ _ _ I12 (by omega) (by omega)
  · skip
    exact hQ _ hI
theorem s_X0_waysNow_54_47 {g : gM} {m : dM} {Q : dM → Prop} (hG : Gd g) (hI : Inv g m) (hQ : ∀ m' : dM, Inv g m' → Q m') : c_X0_waysNow_54_47 3 m Q := by
  refine v_X0_waysNow_54_47 ?_
  refine Wp.deep (s_X10_lay_57 hG hI (fun M1 I1 => ?_)) (Nat.le_of_ble_eq_true rfl)
  exact hQ _ I1
theorem s_J7_fill_55_all {g : gM} {Q : dM → Prop} (hG : Gd g) (hQ : ∀ m' : dM, Inv g m' → Q m') : ∀ n : Nat, (∀ (x1 : Int32) (x2 : Int32) (x3 : Int32) (m : dM), Inv g m → (0 ≤ x1.toInt ∧ x1.toInt ≤ 0) → (0 ≤ x2.toInt ∧ x2.toInt ≤ 9) → (9 ≤ x3.toInt ∧ x3.toInt ≤ 9) → 9 - 1 * x2.toInt < (n : Int) → j_J7_fill_55_5 1 x1 x2 x3 m Q) := by
  intro n
  induction n with
  | zero => exact fun x1 x2 x3 m hI h1 h2 h3 hμ => by exfalso; omega
  | succ n ih =>
    · intro x1 x2 x3 m hI h1 h2 h3 hμ
      refine v_J7_fill_55_5 ?_
      refine ⟨fun hc1 => ?_, fun hc1 => ?_⟩
      · skip
        exact hQ _ hI
      · skip
        refine ⟨by omega, ?_⟩
        have f2 := dAddE (X := x2.toInt) (Y := 1) (x := x2) (y := (1 : Int32)) rfl (by decide) (by omega) (by omega)
        have I3 : Inv g (dSet m 55 x2.toNatClampNeg x1) := (Inv.setA hI rfl)
        exact ih _ _ _ _ I3 (by omega) (by omega) (by omega) (by omega)
theorem s_J7_fill_55 {g : gM} {x1 : Int32} {m : dM} {Q : dM → Prop} (hG : Gd g) (hI : Inv g m) (h1 : 0 ≤ x1.toInt ∧ x1.toInt ≤ 0) (hQ : ∀ m' : dM, Inv g m' → Q m') : c_J7_fill_55 1 x1 m Q := by
  refine v_J7_fill_55 ?_
  have f1 := ti_0
  have f2 := ti_9
  exact (s_J7_fill_55_all hG hQ 11) _ _ _ _ hI (by omega) (by omega) (by omega) (by omega)
theorem s_X0_setVars_54 {g : gM} {x1 : Int32} {x2 : Int32} {x3 : Int32} {m : dM} {Q : dM → Prop} (hG : Gd g) (hI : Inv g m) (h1 : -23 ≤ x1.toInt ∧ x1.toInt ≤ 23) (h3 : 0 ≤ x3.toInt ∧ x3.toInt ≤ 9) (hQ : ∀ m' : dM, Inv g m' → Q m') : c_X0_setVars_54 2 x1 x2 x3 m Q := by
  refine v_X0_setVars_54 ?_
  have f1 := ti_0
  refine Wp.deep (s_J7_fill_55 hG hI (by omega) (fun M2 I2 => ?_)) (Nat.le_of_ble_eq_true rfl)
  have I3 : Inv g (dSet M2 55 3 x1) := (Inv.setA I2 rfl)
  have I4 : Inv g (dSet (dSet M2 55 3 x1) 55 4 x2) := (Inv.setA I3 rfl)
  have I5 : Inv g (dSet (dSet (dSet M2 55 3 x1) 55 4 x2) 55 8 x3) := (Inv.setA I4 rfl)
  exact hQ _ I5
theorem s_X4_worked_11 {g : gM} {x1 : Int32} {x2 : Int32} {x3 : Int32} {m : dM} {Q : Int32 → dM → Prop} (hG : Gd g) (hI : Inv g m) (h1 : x1.toInt ≤ 3) (hQ : ∀ (r : Int32) (m' : dM), Inv g m' → Q r m') : c_X4_worked_11 1 x1 x2 x3 m Q := by
  refine v_X4_worked_11 ?_
  refine ⟨fun hc1 => ?_, fun hc1 => ?_, fun hc1 => ?_, fun hc1 => ?_⟩
  · skip
    exact hQ _ _ hI
  · skip
    exact hQ _ _ hI
  · skip
    exact hQ _ _ hI
  · skip
    refine ⟨fun hc2 => ?_, fun hc2 => ?_⟩
    · skip
      refine ⟨fun hz => by have := congrArg Int32.toInt hz; have e0 : (0 : Int32).toInt = 0 := rfl; omega, ?_⟩
      exact hQ _ _ hI
    · skip
      have f3 := ti_0
      have I4 : Inv g (dSet m 11 5 (1 : Int32)) := (Inv.setA hI rfl)
      exact hQ _ _ I4
theorem s_X4_pieceTells_11_55_all {g : gM} {Q : Int32 → dM → Prop} (hG : Gd g) (hQ : ∀ (r : Int32) (m' : dM), Inv g m' → Q r m') : ∀ n : Nat, (∀ (m : dM), Inv g m → 0 < (n : Int) → j_X4_pieceTells_11_55_10 2 m Q) ∧ (∀ (x4 : Int32) (x5 : Int32) (x6 : Int32) (m : dM), Inv g m → (0 ≤ x4.toInt ∧ x4.toInt ≤ 32) → (0 ≤ x5.toInt ∧ x5.toInt ≤ 406) → (0 ≤ x6.toInt ∧ x6.toInt ≤ 406) → 815 - 2 * x6.toInt < (n : Int) → j_X4_pieceTells_11_55_37 2 x4 x5 x6 m Q) ∧ (∀ (x4 : Int32) (x5 : Int32) (x6 : Int32) (m : dM), Inv g m → (0 ≤ x4.toInt ∧ x4.toInt ≤ 32) → (1 ≤ x5.toInt ∧ x5.toInt ≤ 406) → (0 ≤ x6.toInt ∧ x6.toInt ≤ 405) → 814 - 2 * x6.toInt < (n : Int) → j_X4_pieceTells_11_55_150 2 x4 x5 x6 m Q) ∧ (∀ (m : dM), Inv g m → 1 < (n : Int) → j_X4_pieceTells_11_55_156 2 m Q) := by
  intro n
  induction n with
  | zero => exact ⟨fun m hI hμ => by exfalso; omega, fun x4 x5 x6 m hI h4 h5 h6 hμ => by exfalso; omega, fun x4 x5 x6 m hI h4 h5 h6 hμ => by exfalso; omega, fun m hI hμ => by exfalso; omega⟩
  | succ n ih =>
    refine ⟨?_, ?_, ?_, ?_⟩
    · intro m hI hμ
      refine v_X4_pieceTells_11_55_10 ?_
      have f1 := ti_0
      exact hQ _ _ hI
    · intro x4 x5 x6 m hI h4 h5 h6 hμ
      refine v_X4_pieceTells_11_55_37 ?_
      refine ⟨fun hc1 => ?_, fun hc1 => ?_⟩
      · skip
        exact ih.2.2.2 _ hI (by omega)
      · skip
        refine ⟨fun hc2 => ?_, fun hc2 => ?_⟩
        · skip
          exact ih.2.2.2 _ hI (by omega)
        · skip
          refine ⟨by omega, ?_⟩
          refine ⟨fun hc3 => ?_, fun hc3 => ?_⟩
          · skip
            refine ⟨fun hc4 => ?_, fun hc4 => ?_⟩
            · skip
              refine ⟨fun hc5 => ?_, fun hc5 => ?_⟩
              · skip
                exact ih.2.2.1 _ _ _ _ hI (by omega) (by omega) (by omega) (by omega)
              · skip
                have f6 := dAddE (X := x4.toInt) (Y := (-1)) (x := x4) (y := (-1 : Int32)) rfl (by decide) (by omega) (by omega)
                have f7 := dSubE (X := (x4 + (-1 : Int32)).toInt) (Y := 1) (x := (x4 + (-1 : Int32))) (y := (1 : Int32)) rfl (by decide) (by omega) (by omega)
                refine ⟨by omega, ?_⟩
                refine ⟨by omega, ?_⟩
                refine Wp.deep (s_X4_worked_11 hG hI (by omega) (fun R8 M8 I8 => ?_)) (Nat.le_of_ble_eq_true rfl)
                refine ⟨by omega, ?_⟩
                have I9 : Inv g (dSet M8 19 ((x4 + (-1 : Int32)) - (1 : Int32)).toNatClampNeg R8) := (Inv.setA I8 rfl)
                exact ih.2.2.1 _ _ _ _ I9 (by omega) (by omega) (by omega) (by omega)
            · skip
              have f5 := dSubE (X := (m.1 12 x6.toNatClampNeg).toInt) (Y := 4) (x := (m.1 12 x6.toNatClampNeg)) (y := (4 : Int32)) rfl (by decide) (by omega) (by omega)
              refine ⟨by omega, ?_⟩
              refine ⟨by omega, ?_⟩
              have f6 := dAddE (X := x4.toInt) (Y := 1) (x := x4) (y := (1 : Int32)) rfl (by decide) (by omega) (by omega)
              have I7 : Inv g (dSet m 19 x4.toNatClampNeg (m.1 55 ((m.1 12 x6.toNatClampNeg) - (4 : Int32)).toNatClampNeg)) := (Inv.setA hI rfl)
              exact ih.2.2.1 _ _ _ _ I7 (by omega) (by omega) (by omega) (by omega)
          · skip
            refine ⟨by omega, ?_⟩
            have f4 := dAddE (X := x4.toInt) (Y := 1) (x := x4) (y := (1 : Int32)) rfl (by decide) (by omega) (by omega)
            have I5 : Inv g (dSet m 19 x4.toNatClampNeg ((m.1 12 x6.toNatClampNeg) - (13 : Int32))) := (Inv.setA hI rfl)
            exact ih.2.2.1 _ _ _ _ I5 (by omega) (by omega) (by omega) (by omega)
    · intro x4 x5 x6 m hI h4 h5 h6 hμ
      refine v_X4_pieceTells_11_55_150 ?_
      have f1 := dAddE (X := x6.toInt) (Y := 1) (x := x6) (y := (1 : Int32)) rfl (by decide) (by omega) (by omega)
      exact ih.2.1 _ _ _ _ hI (by omega) (by omega) (by omega) (by omega)
    · intro m hI hμ
      refine v_X4_pieceTells_11_55_156 ?_
      exact hQ _ _ hI
theorem s_X4_pieceTells_11_55 {g : gM} {x1 : Int32} {x2 : Int32} {m : dM} {Q : Int32 → dM → Prop} (hG : Gd g) (hI : Inv g m) (h1 : 0 ≤ x1.toInt ∧ x1.toInt ≤ 3) (h2 : -1 ≤ x2.toInt ∧ x2.toInt ≤ 12) (hQ : ∀ (r : Int32) (m' : dM), Inv g m' → Q r m') : c_X4_pieceTells_11_55 2 x1 x2 m Q := by
  refine v_X4_pieceTells_11_55 ?_
  refine ⟨fun hc1 => ?_, fun hc1 => ?_⟩
  · skip
    exact (s_X4_pieceTells_11_55_all hG hQ 817).1 _ hI (by omega)
  · skip
    refine ⟨fun hc2 => ?_, fun hc2 => ?_⟩
    · skip
      refine ⟨by omega, fun hc3 => ?_, fun hc4 => ?_, fun hc5 => ?_, fun hc6 => ?_⟩
      · skip
        have f7 := dAddE (X := x2.toInt) (Y := 1) (x := x2) (y := (1 : Int32)) rfl (by decide) (by omega) (by omega)
        refine ⟨by omega, ?_⟩
        refine ⟨by omega, fun hc8 => ?_, fun hc9 => ?_, fun hc10 => ?_, fun hc11 => ?_⟩
        · skip
          refine ⟨by omega, ?_⟩
          have f12 := ti_0
          have f13 := Inv.s hG hI (k := 14) (j := (x2 + (1 : Int32)).toNatClampNeg) rfl rfl
          have f14 := Inv.s hG hI (k := 14) (j := x2.toNatClampNeg) rfl rfl
          exact (s_X4_pieceTells_11_55_all hG hQ 817).2.1 _ _ _ _ hI (by omega) (by omega) (by omega) (by omega)
        · skip
          exfalso; omega
        · skip
          exfalso; omega
        · skip
          exfalso; omega
      · skip
        have f7 := dAddE (X := x2.toInt) (Y := 1) (x := x2) (y := (1 : Int32)) rfl (by decide) (by omega) (by omega)
        refine ⟨by omega, ?_⟩
        refine ⟨by omega, fun hc8 => ?_, fun hc9 => ?_, fun hc10 => ?_, fun hc11 => ?_⟩
        · skip
          exfalso; omega
        · skip
          refine ⟨by omega, ?_⟩
          have f12 := ti_0
          have f13 := Inv.s hG hI (k := 15) (j := (x2 + (1 : Int32)).toNatClampNeg) rfl rfl
          have f14 := Inv.s hG hI (k := 15) (j := x2.toNatClampNeg) rfl rfl
          exact (s_X4_pieceTells_11_55_all hG hQ 817).2.1 _ _ _ _ hI (by omega) (by omega) (by omega) (by omega)
        · skip
          exfalso; omega
        · skip
          exfalso; omega
      · skip
        have f7 := dAddE (X := x2.toInt) (Y := 1) (x := x2) (y := (1 : Int32)) rfl (by decide) (by omega) (by omega)
        refine ⟨by omega, ?_⟩
        refine ⟨by omega, fun hc8 => ?_, fun hc9 => ?_, fun hc10 => ?_, fun hc11 => ?_⟩
        · skip
          exfalso; omega
        · skip
          exfalso; omega
        · skip
          refine ⟨by omega, ?_⟩
          have f12 := ti_0
          have f13 := Inv.s hG hI (k := 16) (j := (x2 + (1 : Int32)).toNatClampNeg) rfl rfl
          have f14 := Inv.s hG hI (k := 16) (j := x2.toNatClampNeg) rfl rfl
          exact (s_X4_pieceTells_11_55_all hG hQ 817).2.1 _ _ _ _ hI (by omega) (by omega) (by omega) (by omega)
        · skip
          exfalso; omega
      · skip
        have f7 := dAddE (X := x2.toInt) (Y := 1) (x := x2) (y := (1 : Int32)) rfl (by decide) (by omega) (by omega)
        refine ⟨by omega, ?_⟩
        refine ⟨by omega, fun hc8 => ?_, fun hc9 => ?_, fun hc10 => ?_, fun hc11 => ?_⟩
        · skip
          exfalso; omega
        · skip
          exfalso; omega
        · skip
          exfalso; omega
        · skip
          refine ⟨by omega, ?_⟩
          have f12 := ti_0
          have f13 := Inv.s hG hI (k := 17) (j := (x2 + (1 : Int32)).toNatClampNeg) rfl rfl
          have f14 := Inv.s hG hI (k := 17) (j := x2.toNatClampNeg) rfl rfl
          exact (s_X4_pieceTells_11_55_all hG hQ 817).2.1 _ _ _ _ hI (by omega) (by omega) (by omega) (by omega)
    · skip
      exfalso; omega
theorem s_X4_tells_11_55_all {g : gM} {Q : Int32 → dM → Prop} (hG : Gd g) (hQ : ∀ (r : Int32) (m' : dM), Inv g m' → Q r m') : ∀ n : Nat, (∀ (x1 : Int32) (x3 : Int32) (x4 : Int32) (m : dM), Inv g m → (0 ≤ x1.toInt ∧ x1.toInt ≤ 3) → (-1 ≤ x3.toInt ∧ x3.toInt ≤ 12) → (0 ≤ x4.toInt ∧ x4.toInt ≤ 13) → 14 - 1 * x4.toInt < (n : Int) → j_X4_tells_11_55_17 3 x1 x3 x4 m Q) ∧ (∀ (x1 : Int32) (x3 : Int32) (m : dM), Inv g m → (0 ≤ x1.toInt ∧ x1.toInt ≤ 3) → (-1 ≤ x3.toInt ∧ x3.toInt ≤ 12) → 0 < (n : Int) → j_X4_tells_11_55_93 3 x1 x3 m Q) := by
  intro n
  induction n with
  | zero => exact ⟨fun x1 x3 x4 m hI h1 h3 h4 hμ => by exfalso; omega, fun x1 x3 m hI h1 h3 hμ => by exfalso; omega⟩
  | succ n ih =>
    refine ⟨?_, ?_⟩
    · intro x1 x3 x4 m hI h1 h3 h4 hμ
      refine v_X4_tells_11_55_17 ?_
      refine ⟨by omega, ?_⟩
      have f1 := dAddE (X := x4.toInt) (Y := 2) (x := x4) (y := (2 : Int32)) rfl (by decide) (by omega) (by omega)
      have f2 := Inv.s hG hI (k := 18) (j := x1.toNatClampNeg) rfl rfl
      refine ⟨fun hc3 => ?_, fun hc3 => ?_⟩
      · skip
        exact ih.2 _ _ _ hI (by omega) (by omega) (by omega)
      · skip
        refine Wp.deep (s_X4_pieceTells_11_55 hG hI (by omega) (by omega) (fun R4 M4 I4 => ?_)) (Nat.le_of_ble_eq_true rfl)
        refine ⟨fun hc5 => ?_, fun hc5 => ?_⟩
        · skip
          have f6 := dAddE (X := x4.toInt) (Y := 1) (x := x4) (y := (1 : Int32)) rfl (by decide) (by omega) (by omega)
          refine Wp.deep (s_X4_pieceTells_11_55 hG I4 (by omega) (by omega) (fun R7 M7 I7 => ?_)) (Nat.le_of_ble_eq_true rfl)
          refine ⟨fun hc8 => ?_, fun hc8 => ?_⟩
          · skip
            refine ⟨fun hc9 => ?_, fun hc9 => ?_⟩
            · skip
              have f10 := dAddE (X := x4.toInt) (Y := 3) (x := x4) (y := (3 : Int32)) rfl (by decide) (by omega) (by omega)
              exact ih.1 _ _ _ _ I7 (by omega) (by omega) (by omega) (by omega)
            · skip
              exact ih.2 _ _ _ I7 (by omega) (by omega) (by omega)
          · skip
            have f9 := ti_0
            exact hQ _ _ I7
        · skip
          refine ⟨fun hc6 => ?_, fun hc6 => ?_⟩
          · skip
            refine ⟨fun hc7 => ?_, fun hc7 => ?_⟩
            · skip
              have f8 := dAddE (X := x4.toInt) (Y := 3) (x := x4) (y := (3 : Int32)) rfl (by decide) (by omega) (by omega)
              exact ih.1 _ _ _ _ I4 (by omega) (by omega) (by omega) (by omega)
            · skip
              exact ih.2 _ _ _ I4 (by omega) (by omega) (by omega)
          · skip
            have f7 := ti_0
            exact hQ _ _ I4
    · intro x1 x3 m hI h1 h3 hμ
      refine v_X4_tells_11_55_93 ?_
      refine Wp.deep (s_X4_pieceTells_11_55 hG hI (by omega) (by omega) (fun R1 M1 I1 => ?_)) (Nat.le_of_ble_eq_true rfl)
      refine ⟨fun hc2 => ?_, fun hc2 => ?_⟩
      · skip
        exact hQ _ _ I1
      · skip
        have f3 := ti_0
        exact hQ _ _ I1
theorem s_X4_tells_11_55 {g : gM} {x1 : Int32} {m : dM} {Q : Int32 → dM → Prop} (hG : Gd g) (hI : Inv g m) (h1 : 0 ≤ x1.toInt ∧ x1.toInt ≤ 3) (hQ : ∀ (r : Int32) (m' : dM), Inv g m' → Q r m') : c_X4_tells_11_55 3 x1 m Q := by
  refine v_X4_tells_11_55 ?_
  refine ⟨by omega, ?_⟩
  have f1 := Inv.s hG hI (k := 18) (j := x1.toNatClampNeg) rfl rfl
  have f2 := dSubE (X := (m.1 18 x1.toNatClampNeg).toInt) (Y := 1) (x := (m.1 18 x1.toNatClampNeg)) (y := (1 : Int32)) rfl (by decide) (by omega) (by omega)
  have f3 := ti_0
  have I4 : Inv g (dSet m 11 5 (0 : Int32)) := (Inv.setA hI rfl)
  exact (s_X4_tells_11_55_all hG hQ 16).1 _ _ _ _ I4 (by omega) (by omega) (by omega) (by omega)
theorem s_X0_held {g : gM} {x0 : Int32} {m : dM} {Q : Int32 → dM → Prop} (hG : Gd g) (hI : Inv g m) (hQ : ∀ r : Int32, (0 ≤ r.toInt ∧ r.toInt ≤ 99) → Q r m) : c_X0_held 1 x0 m Q := by
  refine v_X0_held ?_
  have f1 := ti_0
  have f2 := ti_99
  have f3 := dMinE (99 : Int32) x0
  have f4 := dMaxE (0 : Int32) (if x0 < (99 : Int32) then x0 else (99 : Int32))
  exact hQ _ (by omega)
theorem s_X0_quarrelOf_54_47 {g : gM} {x2 : Int32} {m : dM} {Q : Int32 → dM → Prop} (hG : Gd g) (hI : Inv g m) (h2 : 0 ≤ x2.toInt ∧ x2.toInt ≤ 6) (hQ : ∀ (r : Int32) (m' : dM), Inv g m' → (0 ≤ r.toInt ∧ r.toInt ≤ 99) → Q r m') : c_X0_quarrelOf_54_47 4 x2 m Q := by
  refine v_X0_quarrelOf_54_47 ?_
  refine v_X7_hourOfDay_47 ?_
  refine v_X7_day_47 ?_
  have f1 := dRemE (x := (m.1 47 0)) (y := (24 : Int32)) (Y := 24) (by decide) (by decide)
  refine Wp.deep (s_X0_setVars_54 hG hI (by omega) (by omega) (fun M2 I2 => ?_)) (Nat.le_of_ble_eq_true rfl)
  refine ⟨by omega, ?_⟩
  refine ⟨by omega, ?_⟩
  have f3 := ti_1
  have I4 : Inv g (dSet M2 55 6 (M2.1 3 x2.toNatClampNeg)) := (Inv.setA I2 rfl)
  have I5 : Inv g (dSet (dSet M2 55 6 (M2.1 3 x2.toNatClampNeg)) 55 7 (M2.1 50 x2.toNatClampNeg)) := (Inv.setA I4 rfl)
  refine Wp.deep (s_X4_tells_11_55 hG I5 (by omega) (fun R6 M6 I6 => ?_)) (Nat.le_of_ble_eq_true rfl)
  refine Wp.deep (s_X0_held hG I6 (fun R7 hr7 => ?_)) (Nat.le_of_ble_eq_true rfl)
  exact hQ _ _ I6 (by omega)
theorem s_X0_usesAt_54_47_all {g : gM} {Q : Int32 → dM → Prop} (hG : Gd g) (hQ : ∀ (r : Int32) (m' : dM), Inv g m' → Q r m') : ∀ n : Nat, (∀ (x2 : Int32) (x3 : Int32) (x4 : Int32) (m : dM), Inv g m → (-23 ≤ x2.toInt ∧ x2.toInt ≤ 23) → (0 ≤ x4.toInt ∧ x4.toInt ≤ 8) → 26 - 3 * x4.toInt < (n : Int) → j_X0_usesAt_54_47_16 3 x2 x3 x4 m Q) ∧ (∀ (x2 : Int32) (x3 : Int32) (x4 : Int32) (m : dM), Inv g m → (-23 ≤ x2.toInt ∧ x2.toInt ≤ 23) → (0 ≤ x4.toInt ∧ x4.toInt ≤ 7) → 25 - 3 * x4.toInt < (n : Int) → j_X0_usesAt_54_47_60 3 x2 x3 x4 m Q) ∧ (∀ (x2 : Int32) (x3 : Int32) (x4 : Int32) (m : dM), Inv g m → (-23 ≤ x2.toInt ∧ x2.toInt ≤ 23) → (0 ≤ x4.toInt ∧ x4.toInt ≤ 7) → 24 - 3 * x4.toInt < (n : Int) → j_X0_usesAt_54_47_110 3 x2 x3 x4 m Q) := by
  intro n
  induction n with
  | zero => exact ⟨fun x2 x3 x4 m hI h2 h4 hμ => by exfalso; omega, fun x2 x3 x4 m hI h2 h4 hμ => by exfalso; omega, fun x2 x3 x4 m hI h2 h4 hμ => by exfalso; omega⟩
  | succ n ih =>
    refine ⟨?_, ?_, ?_⟩
    · intro x2 x3 x4 m hI h2 h4 hμ
      refine v_X0_usesAt_54_47_16 ?_
      have f1 := congrArg Int32.toInt (hI.2 2 2 rfl)
      have f2 := Inv.s hG hI (k := 2) (j := 2) rfl rfl
      refine ⟨fun hc3 => ?_, fun hc3 => ?_⟩
      · skip
        exact hQ _ _ hI
      · skip
        refine ⟨by omega, ?_⟩
        refine ⟨fun hc4 => ?_, fun hc4 => ?_⟩
        · skip
          exact ih.2.1 _ _ _ _ hI (by omega) (by omega) (by omega)
        · skip
          refine ⟨by omega, ?_⟩
          refine ⟨fun hc5 => ?_, fun hc5 => ?_⟩
          · skip
            exact ih.2.1 _ _ _ _ hI (by omega) (by omega) (by omega)
          · skip
            refine v_X11_has ?_
            have f6 := ti_1
            have f7 := dAndE (x := ((m.1 47 5).toUInt32 >>> (x4.toUInt32 &&& Int32.toUInt32 31)).toInt32) (y := (1 : Int32)) (by decide)
            refine ⟨fun hc8 => ?_, fun hc8 => ?_⟩
            · skip
              have f9 := ti_0
              refine ⟨fun hc10 => ?_, fun hc10 => ?_⟩
              · skip
                exact ih.2.2 _ _ _ _ hI (by omega) (by omega) (by omega)
              · skip
                exfalso; omega
            · skip
              refine ⟨fun hc9 => ?_, fun hc9 => ?_⟩
              · skip
                exfalso; omega
              · skip
                refine ⟨by omega, ?_⟩
                refine v_X11_has ?_
                have f10 := Inv.home hG hI (u := x4) (by omega) (by omega)
                have f11 := dAndE (x := ((m.1 57 5).toUInt32 >>> ((m.1 7 x4.toNatClampNeg).toUInt32 &&& Int32.toUInt32 31)).toInt32) (y := (1 : Int32)) (by decide)
                refine ⟨fun hc12 => ?_, fun hc12 => ?_⟩
                · skip
                  have f13 := ti_0
                  refine ⟨fun hc14 => ?_, fun hc14 => ?_⟩
                  · skip
                    exact ih.2.2 _ _ _ _ hI (by omega) (by omega) (by omega)
                  · skip
                    exfalso; omega
                · skip
                  refine ⟨fun hc13 => ?_, fun hc13 => ?_⟩
                  · skip
                    exfalso; omega
                  · skip
                    have f14 := dShl8 (x := x4) (by omega) (by omega)
                    exact ih.2.2 _ _ _ _ hI (by omega) (by omega) (by omega)
    · intro x2 x3 x4 m hI h2 h4 hμ
      refine v_X0_usesAt_54_47_60 ?_
      exact ih.2.2 _ _ _ _ hI (by omega) (by omega) (by omega)
    · intro x2 x3 x4 m hI h2 h4 hμ
      refine v_X0_usesAt_54_47_110 ?_
      have f1 := dAddE (X := x4.toInt) (Y := 1) (x := x4) (y := (1 : Int32)) rfl (by decide) (by omega) (by omega)
      exact ih.1 _ _ _ _ hI (by omega) (by omega) (by omega)
theorem s_X0_usesAt_54_47 {g : gM} {x2 : Int32} {m : dM} {Q : Int32 → dM → Prop} (hG : Gd g) (hI : Inv g m) (h2 : -23 ≤ x2.toInt ∧ x2.toInt ≤ 23) (hQ : ∀ (r : Int32) (m' : dM), Inv g m' → Q r m') : c_X0_usesAt_54_47 3 x2 m Q := by
  refine v_X0_usesAt_54_47 ?_
  refine Wp.deep (s_X10_lay_57 hG hI (fun M1 I1 => ?_)) (Nat.le_of_ble_eq_true rfl)
  have f2 := ti_0
  exact (s_X0_usesAt_54_47_all hG hQ 28).1 _ _ _ _ I1 (by omega) (by omega) (by omega)
theorem s_X0_usesNow_54_47 {g : gM} {m : dM} {Q : Int32 → dM → Prop} (hG : Gd g) (hI : Inv g m) (hQ : ∀ (r : Int32) (m' : dM), Inv g m' → Q r m') : c_X0_usesNow_54_47 4 m Q := by
  refine v_X0_usesNow_54_47 ?_
  refine v_X7_hourOfDay_47 ?_
  have f1 := dRemE (x := (m.1 47 0)) (y := (24 : Int32)) (Y := 24) (by decide) (by decide)
  refine Wp.deep (s_X0_usesAt_54_47 hG hI (by omega) (fun R2 M2 I2 => ?_)) (Nat.le_of_ble_eq_true rfl)
  exact hQ _ _ I2
theorem s_X0_ampsOf_54_all {g : gM} {Q : Int32 → dM → Prop} {m : dM} (hG : Gd g) (hI : Inv g m) (hQ : ∀ r : Int32, Q r m) : ∀ n : Nat, (∀ (x1 : Int32) (x2 : Int32) (x3 : Int32) (x4 : Int32), (0 ≤ x2.toInt ∧ x2.toInt ≤ 6) → (0 ≤ x4.toInt ∧ x4.toInt ≤ 8) → 8 - 1 * x4.toInt < (n : Int) → j_X0_ampsOf_54_5 2 x1 x2 x3 x4 m Q) := by
  intro n
  induction n with
  | zero => exact fun x1 x2 x3 x4 h2 h4 hμ => by exfalso; omega
  | succ n ih =>
    · intro x1 x2 x3 x4 h2 h4 hμ
      refine v_X0_ampsOf_54_5 ?_
      have f1 := congrArg Int32.toInt (hI.2 2 2 rfl)
      have f2 := Inv.s hG hI (k := 2) (j := 2) rfl rfl
      refine ⟨fun hc3 => ?_, fun hc3 => ?_⟩
      · skip
        exact hQ _
      · skip
        refine v_X11_has ?_
        have f4 := ti_1
        have f5 := dAndE (x := (x1.toUInt32 >>> (x4.toUInt32 &&& Int32.toUInt32 31)).toInt32) (y := (1 : Int32)) (by decide)
        refine ⟨fun hc6 => ?_, fun hc6 => ?_⟩
        · skip
          have f7 := ti_0
          refine ⟨fun hc8 => ?_, fun hc8 => ?_⟩
          · skip
            have f9 := dAddE (X := x4.toInt) (Y := 1) (x := x4) (y := (1 : Int32)) rfl (by decide) (by omega) (by omega)
            exact ih _ _ _ _ (by omega) (by omega) (by omega)
          · skip
            exfalso; omega
        · skip
          refine ⟨fun hc7 => ?_, fun hc7 => ?_⟩
          · skip
            exfalso; omega
          · skip
            refine ⟨by omega, ?_⟩
            have f8 := Inv.home hG hI (u := x4) (by omega) (by omega)
            refine ⟨fun hc9 => ?_, fun hc9 => ?_⟩
            · skip
              have f10 := dAddE (X := x4.toInt) (Y := 1) (x := x4) (y := (1 : Int32)) rfl (by decide) (by omega) (by omega)
              exact ih _ _ _ _ (by omega) (by omega) (by omega)
            · skip
              refine ⟨by omega, ?_⟩
              have f10 := dAddE (X := x4.toInt) (Y := 1) (x := x4) (y := (1 : Int32)) rfl (by decide) (by omega) (by omega)
              exact ih _ _ _ _ (by omega) (by omega) (by omega)
theorem s_X0_ampsOf_54 {g : gM} {x1 : Int32} {x2 : Int32} {m : dM} {Q : Int32 → dM → Prop} (hG : Gd g) (hI : Inv g m) (h2 : 0 ≤ x2.toInt ∧ x2.toInt ≤ 6) (hQ : ∀ r : Int32, Q r m) : c_X0_ampsOf_54 2 x1 x2 m Q := by
  refine v_X0_ampsOf_54 ?_
  have f1 := ti_0
  exact (s_X0_ampsOf_54_all hG hI hQ 10) _ _ _ _ (by omega) (by omega) (by omega)
theorem s_X11_flat_0 {g : gM} {x1 : Int32} {x2 : Int32} {m : dM} {Q : Int32 → dM → Prop} (hG : Gd g) (hI : Inv g m) (hQ : ∀ (r : Int32) (m' : dM), Inv g m' → Q r m') : c_X11_flat_0 5 x1 x2 m Q := by
  refine v_X11_flat_0 ?_
  refine v_X11_isFlat_0 ?_
  refine ⟨fun hc1 => ?_, fun hc1 => ?_⟩
  · skip
    refine v_X11_isFlat_0_19 ?_
    have f2 := ti_0
    refine ⟨fun hc3 => ?_, fun hc3 => ?_⟩
    · skip
      exfalso; omega
    · skip
      have f4 := ti_m1
      exact hQ _ _ hI
  · skip
    have f2 := congrArg Int32.toInt (hI.2 2 0 rfl)
    have f3 := Inv.s hG hI (k := 2) (j := 0) rfl rfl
    refine ⟨fun hc4 => ?_, fun hc4 => ?_⟩
    · skip
      refine v_X11_isFlat_0_19 ?_
      have f5 := ti_0
      refine ⟨fun hc6 => ?_, fun hc6 => ?_⟩
      · skip
        exfalso; omega
      · skip
        have f7 := ti_m1
        exact hQ _ _ hI
    · skip
      have f5 := ti_1
      refine ⟨fun hc6 => ?_, fun hc6 => ?_⟩
      · skip
        refine Wp.deep (s_X0_waysNow_54_47 hG hI (fun M7 I7 => ?_)) (Nat.le_of_ble_eq_true rfl)
        refine ⟨fun hc8 => ?_, fun hc8 => ?_, fun hc8 => ?_, fun hc8 => ?_, fun hc8 => ?_, fun hc8 => ?_, fun hc8 => ?_⟩
        · skip
          refine ⟨by omega, ?_⟩
          exact hQ _ _ I7
        · skip
          refine v_X11_has ?_
          have f9 := dAndE (x := ((M7.1 57 5).toUInt32 >>> (x1.toUInt32 &&& Int32.toUInt32 31)).toInt32) (y := (1 : Int32)) (by decide)
          refine ⟨fun hc10 => ?_, fun hc10 => ?_⟩
          · skip
            have f11 := ti_0
            refine ⟨fun hc12 => ?_, fun hc12 => ?_⟩
            · skip
              exact hQ _ _ I7
            · skip
              exfalso; omega
          · skip
            refine ⟨fun hc11 => ?_, fun hc11 => ?_⟩
            · skip
              exfalso; omega
            · skip
              exact hQ _ _ I7
        · skip
          refine ⟨by omega, ?_⟩
          exact hQ _ _ I7
        · skip
          refine v_X11_has ?_
          have f9 := dAndE (x := ((M7.1 57 5).toUInt32 >>> (x1.toUInt32 &&& Int32.toUInt32 31)).toInt32) (y := (1 : Int32)) (by decide)
          refine ⟨fun hc10 => ?_, fun hc10 => ?_⟩
          · skip
            have f11 := ti_0
            refine ⟨fun hc12 => ?_, fun hc12 => ?_⟩
            · skip
              have f13 := ti_m2
              exact hQ _ _ I7
            · skip
              exfalso; omega
          · skip
            refine ⟨fun hc11 => ?_, fun hc11 => ?_⟩
            · skip
              exfalso; omega
            · skip
              refine ⟨by omega, ?_⟩
              have f12 := Inv.w I7 (k := 59) (j := x1.toNatClampNeg) rfl
              exact hQ _ _ I7
        · skip
          refine Wp.deep (s_X0_quarrelOf_54_47 hG I7 (by omega) (fun R9 M9 I9 hr9 => ?_)) (Nat.le_of_ble_eq_true rfl)
          exact hQ _ _ I9
        · skip
          refine Wp.deep (s_X0_usesNow_54_47 hG I7 (fun R9 M9 I9 => ?_)) (Nat.le_of_ble_eq_true rfl)
          refine Wp.deep (s_X0_ampsOf_54 hG I9 (by omega) (fun R10 => ?_)) (Nat.le_of_ble_eq_true rfl)
          exact hQ _ _ I9
        · skip
          have f9 := ti_m1
          exact hQ _ _ I7
      · skip
        exfalso; omega
theorem s_X12_wireFrom_70_all {g : gM} {Q : Int32 → dM → Prop} {m : dM} (hG : Gd g) (hI : Inv g m) (hQ : ∀ r : Int32, (-1 ≤ r.toInt ∧ r.toInt ≤ 9) → Q r m) : ∀ n : Nat, (∀ (x1 : Int32) (x2 : Int32), (0 ≤ x1.toInt ∧ x1.toInt ≤ 6) → (0 ≤ x2.toInt ∧ x2.toInt ≤ 10) → 21 - 2 * x2.toInt < (n : Int) → j_X12_wireFrom_70_2 4 x1 x2 m Q) ∧ (∀ (x1 : Int32) (x2 : Int32), (0 ≤ x1.toInt ∧ x1.toInt ≤ 6) → (0 ≤ x2.toInt ∧ x2.toInt ≤ 9) → 20 - 2 * x2.toInt < (n : Int) → j_X12_wireFrom_70_56 4 x1 x2 m Q) := by
  intro n
  induction n with
  | zero => exact ⟨fun x1 x2 h1 h2 hμ => by exfalso; omega, fun x1 x2 h1 h2 hμ => by exfalso; omega⟩
  | succ n ih =>
    refine ⟨?_, ?_⟩
    · intro x1 x2 h1 h2 hμ
      refine v_X12_wireFrom_70_2 ?_
      have f1 := congrArg Int32.toInt (hI.2 70 18 rfl)
      have f2 := Inv.s hG hI (k := 70) (j := 18) rfl rfl
      refine ⟨by omega, ?_⟩
      have f3 := Inv.cnt82 hG hI
      have f4 := Inv.s hG hI (k := 82) (j := (m.1 70 18).toNatClampNeg) rfl rfl
      refine ⟨fun hc5 => ?_, fun hc5 => ?_⟩
      · skip
        have f6 := ti_m1
        exact hQ _ (by omega)
      · skip
        refine v_X12_isWhole_70 ?_
        refine v_X12_isWire_70 ?_
        refine ⟨by omega, ?_⟩
        refine v_X12_in ?_
        have f6 := ti_0
        refine ⟨fun hc7 => ?_, fun hc7 => ?_⟩
        · skip
          exfalso; omega
        · skip
          have f8 := dSubE (X := (m.1 82 (m.1 70 18).toNatClampNeg).toInt) (Y := 1) (x := (m.1 82 (m.1 70 18).toNatClampNeg)) (y := (1 : Int32)) rfl (by decide) (by omega) (by omega)
          refine ⟨fun hc9 => ?_, fun hc9 => ?_⟩
          · skip
            refine v_X12_in_14 ?_
            refine ⟨by decide, ?_⟩
            refine ⟨fun hc10 => ?_, fun hc10 => ?_⟩
            · skip
              refine v_X12_isWhole_70_24 ?_
              refine ⟨fun hc11 => ?_, fun hc11 => ?_⟩
              · skip
                exfalso; omega
              · skip
                exact ih.2 _ _ (by omega) (by omega) (by omega)
            · skip
              exfalso; omega
          · skip
            have f10 := ti_1
            refine ⟨by decide, ?_⟩
            refine ⟨fun hc11 => ?_, fun hc11 => ?_⟩
            · skip
              exfalso; omega
            · skip
              have f12 := dAddE (X := 10) (Y := x2.toInt) (x := (10 : Int32)) (y := x2) (by decide) rfl (by omega) (by omega)
              refine ⟨by omega, ?_⟩
              refine ⟨fun hc13 => ?_, fun hc13 => ?_⟩
              · skip
                refine v_X12_isWhole_70_24 ?_
                refine ⟨fun hc14 => ?_, fun hc14 => ?_⟩
                · skip
                  exfalso; omega
                · skip
                  exact ih.2 _ _ (by omega) (by omega) (by omega)
              · skip
                refine ⟨fun hc14 => ?_, fun hc14 => ?_⟩
                · skip
                  refine v_X12_otherEnd_70 ?_
                  have f15 := dMulE (X := 10) (Y := (m.1 70 18).toInt) (x := (10 : Int32)) (y := (m.1 70 18)) (by decide) rfl (by omega) (by omega)
                  have f16 := dAddE (X := ((10 : Int32) * (m.1 70 18)).toInt) (Y := x2.toInt) (x := ((10 : Int32) * (m.1 70 18))) (y := x2) rfl rfl (by omega) (by omega)
                  refine ⟨by omega, ?_⟩
                  have f17 := Inv.one hG hI (u := x2) (by omega) (by omega)
                  refine ⟨fun hc18 => ?_, fun hc18 => ?_⟩
                  · skip
                    refine ⟨by omega, ?_⟩
                    have f19 := Inv.two hG hI (u := x2) (by omega) (by omega)
                    refine ⟨fun hc20 => ?_, fun hc20 => ?_⟩
                    · skip
                      have f21 := ti_m1
                      refine ⟨fun hc22 => ?_, fun hc22 => ?_⟩
                      · skip
                        exact ih.2 _ _ (by omega) (by omega) (by omega)
                      · skip
                        exfalso; omega
                    · skip
                      refine ⟨by omega, ?_⟩
                      refine ⟨fun hc21 => ?_, fun hc21 => ?_⟩
                      · skip
                        exfalso; omega
                      · skip
                        refine ⟨by omega, ?_⟩
                        refine ⟨by omega, ?_⟩
                        refine ⟨fun hc22 => ?_, fun hc22 => ?_⟩
                        · skip
                          exact ih.2 _ _ (by omega) (by omega) (by omega)
                        · skip
                          exact hQ _ (by omega)
                  · skip
                    refine ⟨by omega, ?_⟩
                    have f19 := Inv.two hG hI (u := x2) (by omega) (by omega)
                    refine ⟨fun hc20 => ?_, fun hc20 => ?_⟩
                    · skip
                      exfalso; omega
                    · skip
                      refine ⟨by omega, ?_⟩
                      refine ⟨by omega, ?_⟩
                      refine ⟨fun hc21 => ?_, fun hc21 => ?_⟩
                      · skip
                        exact ih.2 _ _ (by omega) (by omega) (by omega)
                      · skip
                        exact hQ _ (by omega)
                · skip
                  exfalso; omega
    · intro x1 x2 h1 h2 hμ
      refine v_X12_wireFrom_70_56 ?_
      have f1 := dAddE (X := x2.toInt) (Y := 1) (x := x2) (y := (1 : Int32)) rfl (by decide) (by omega) (by omega)
      exact ih.1 _ _ (by omega) (by omega) (by omega)
theorem s_X12_wireFrom_70 {g : gM} {x1 : Int32} {m : dM} {Q : Int32 → dM → Prop} (hG : Gd g) (hI : Inv g m) (h1 : 0 ≤ x1.toInt ∧ x1.toInt ≤ 6) (hQ : ∀ r : Int32, (-1 ≤ r.toInt ∧ r.toInt ≤ 9) → Q r m) : c_X12_wireFrom_70 4 x1 m Q := by
  refine v_X12_wireFrom_70 ?_
  have f1 := ti_0
  exact (s_X12_wireFrom_70_all hG hI hQ 23).1 _ _ (by omega) (by omega) (by omega)
