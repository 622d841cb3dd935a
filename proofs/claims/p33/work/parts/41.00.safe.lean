theorem s_X8_byteAt_38 {g : gM} {x1 : Int32} {m : dM} {Q : Int32 → dM → Prop} (hG : Gd g) (hI : Inv g m) (h1 : 0 ≤ x1.toInt ∧ x1.toInt ≤ 2000) (hQ : ∀ r : Int32, (0 ≤ r.toInt ∧ r.toInt ≤ 255) → Q r m) : c_X8_byteAt_38 1 x1 m Q := by
  refine v_X8_byteAt_38 ?_
  refine ⟨fun ht1 => ?_, fun ht1 => ?_⟩
  · skip
    refine v_X8_byteAt_38_41 ?_
    have f2 := ti_0
    exact hQ _ (by omega)
  · skip
    refine ⟨fun hc2 => ?_, fun hc2 => ?_⟩
    · skip
      exfalso; omega
    · skip
      have f3 := Inv.w hI (k := 38) (j := 5) rfl
      refine ⟨fun hc4 => ?_, fun hc4 => ?_⟩
      · skip
        refine v_X8_byteAt_38_41 ?_
        have f5 := ti_0
        exact hQ _ (by omega)
      · skip
        refine ⟨fun hc5 => ?_, fun hc5 => ?_⟩
        · skip
          exfalso; omega
        · skip
          refine ⟨by omega, ?_⟩
          have f6 := ti_255
          have f7 := dAndE (x := (m.1 1 x1.toNatClampNeg)) (y := (255 : Int32)) (by decide)
          exact hQ _ (by omega)
theorem s_X8_pastBlanks_38_all {g : gM} {Q : Int32 → dM → Prop} {m : dM} (hG : Gd g) (hI : Inv g m) (hQ : ∀ r : Int32, (0 ≤ r.toInt ∧ r.toInt ≤ 2000) → Q r m) : ∀ n : Nat, (∀ (x2 : Int32), (0 ≤ x2.toInt ∧ x2.toInt ≤ 2001) → 4003 - 2 * x2.toInt < (n : Int) → j_X8_pastBlanks_38_2 2 x2 m Q) ∧ (∀ (x2 : Int32), (0 ≤ x2.toInt ∧ x2.toInt ≤ 2000) → 4002 - 2 * x2.toInt < (n : Int) → j_X8_pastBlanks_38_42 2 x2 m Q) := by
  intro n
  induction n with
  | zero => exact ⟨fun x2 h2 hμ => by exfalso; omega, fun x2 h2 hμ => by exfalso; omega⟩
  | succ n ih =>
    refine ⟨?_, ?_⟩
    · intro x2 h2 hμ
      refine v_X8_pastBlanks_38_2 ?_
      have f1 := Inv.w hI (k := 38) (j := 5) rfl
      refine ⟨fun hc2 => ?_, fun hc2 => ?_⟩
      · skip
        exact hQ _ (by omega)
      · skip
        refine Wp.deep (s_X8_byteAt_38 hG hI (by omega) (fun R3 hr3 => ?_)) (Nat.le_of_ble_eq_true rfl)
        refine ⟨fun hc4 => ?_, fun hc4 => ?_⟩
        · skip
          exact ih.2 _ (by omega) (by omega)
        · skip
          refine ⟨fun hc5 => ?_, fun hc5 => ?_⟩
          · skip
            exact ih.2 _ (by omega) (by omega)
          · skip
            refine ⟨fun hc6 => ?_, fun hc6 => ?_⟩
            · skip
              exact ih.2 _ (by omega) (by omega)
            · skip
              refine ⟨fun hc7 => ?_, fun hc7 => ?_⟩
              · skip
                exact ih.2 _ (by omega) (by omega)
              · skip
                exact hQ _ (by omega)
    · intro x2 h2 hμ
      refine v_X8_pastBlanks_38_42 ?_
      have f1 := dAddE (X := x2.toInt) (Y := 1) (x := x2) (y := (1 : Int32)) rfl (by decide) (by omega) (by omega)
      exact ih.1 _ (by omega) (by omega)
theorem s_X8_pastBlanks_38 {g : gM} {x1 : Int32} {m : dM} {Q : Int32 → dM → Prop} (hG : Gd g) (hI : Inv g m) (h1 : 0 ≤ x1.toInt ∧ x1.toInt ≤ 2000) (hQ : ∀ r : Int32, (0 ≤ r.toInt ∧ r.toInt ≤ 2000) → Q r m) : c_X8_pastBlanks_38 2 x1 m Q := by
  refine v_X8_pastBlanks_38 ?_
  exact (s_X8_pastBlanks_38_all hG hI hQ 4005).1 _ (by omega) (by omega)
theorem s_X8_isLetterAt_38 {g : gM} {x1 : Int32} {m : dM} {Q : Int32 → dM → Prop} (hG : Gd g) (hI : Inv g m) (h1 : 0 ≤ x1.toInt ∧ x1.toInt ≤ 2000) (hQ : ∀ r : Int32, (0 ≤ r.toInt ∧ r.toInt ≤ 1) → Q r m) : c_X8_isLetterAt_38 2 x1 m Q := by
  refine v_X8_isLetterAt_38 ?_
  refine Wp.deep (s_X8_byteAt_38 hG hI (by omega) (fun R1 hr1 => ?_)) (Nat.le_of_ble_eq_true rfl)
  refine ⟨fun hc2 => ?_, fun hc2 => ?_⟩
  · skip
    refine v_X8_isLetterAt_38_22 ?_
    have f3 := ti_0
    exact hQ _ (by omega)
  · skip
    refine ⟨fun hc3 => ?_, fun hc3 => ?_⟩
    · skip
      refine v_X8_isLetterAt_38_22 ?_
      have f4 := ti_0
      exact hQ _ (by omega)
    · skip
      have f4 := ti_1
      exact hQ _ (by omega)
theorem s_X8_isDigitAt_38 {g : gM} {x1 : Int32} {m : dM} {Q : Int32 → dM → Prop} (hG : Gd g) (hI : Inv g m) (h1 : 0 ≤ x1.toInt ∧ x1.toInt ≤ 1999) (hQ : ∀ r : Int32, (0 ≤ r.toInt ∧ r.toInt ≤ 1) → Q r m) : c_X8_isDigitAt_38 2 x1 m Q := by
  refine v_X8_isDigitAt_38 ?_
  refine Wp.deep (s_X8_byteAt_38 hG hI (by omega) (fun R1 hr1 => ?_)) (Nat.le_of_ble_eq_true rfl)
  refine ⟨fun hc2 => ?_, fun hc2 => ?_⟩
  · skip
    refine v_X8_isDigitAt_38_22 ?_
    have f3 := ti_0
    exact hQ _ (by omega)
  · skip
    refine ⟨fun hc3 => ?_, fun hc3 => ?_⟩
    · skip
      refine v_X8_isDigitAt_38_22 ?_
      have f4 := ti_0
      exact hQ _ (by omega)
    · skip
      have f4 := ti_1
      exact hQ _ (by omega)
theorem s_X8_signOf {g : gM} {x0 : Int32} {m : dM} {Q : Int32 → dM → Prop} (hG : Gd g) (hI : Inv g m) (h0 : 0 ≤ x0.toInt ∧ x0.toInt ≤ 255) (hQ : ∀ r : Int32, (24 ≤ r.toInt ∧ r.toInt ≤ 63) → Q r m) : c_X8_signOf 1 x0 m Q := by
  refine v_X8_signOf ?_
  refine ⟨fun hc1 => ?_, fun hc1 => ?_, fun hc1 => ?_, fun hc1 => ?_, fun hc1 => ?_, fun hc1 => ?_, fun hc1 => ?_, fun hc1 => ?_, fun hc1 => ?_, fun hc1 => ?_, fun hc1 => ?_, fun hc1 => ?_, fun hc1 => ?_, fun hc1 => ?_, fun hc1 => ?_, fun hc1 => ?_, fun hc1 => ?_, fun hc1 => ?_, fun hc1 => ?_, fun hc1 => ?_, fun hc1 => ?_, fun hc1 => ?_, fun hc1 => ?_⟩
  · skip
    exact hQ _ (by omega)
  · skip
    exact hQ _ (by omega)
  · skip
    exact hQ _ (by omega)
  · skip
    exact hQ _ (by omega)
  · skip
    have f2 := ti_25
    exact hQ _ (by omega)
  · skip
    exact hQ _ (by omega)
  · skip
    have f2 := ti_25
    exact hQ _ (by omega)
  · skip
    exact hQ _ (by omega)
  · skip
    have f2 := ti_25
    exact hQ _ (by omega)
  · skip
    have f2 := ti_25
    exact hQ _ (by omega)
  · skip
    have f2 := ti_25
    exact hQ _ (by omega)
  · skip
    have f2 := ti_25
    exact hQ _ (by omega)
  · skip
    have f2 := ti_25
    exact hQ _ (by omega)
  · skip
    have f2 := ti_25
    exact hQ _ (by omega)
  · skip
    have f2 := ti_25
    exact hQ _ (by omega)
  · skip
    have f2 := ti_25
    exact hQ _ (by omega)
  · skip
    have f2 := ti_25
    exact hQ _ (by omega)
  · skip
    have f2 := ti_25
    exact hQ _ (by omega)
  · skip
    have f2 := ti_25
    exact hQ _ (by omega)
  · skip
    exact hQ _ (by omega)
  · skip
    exact hQ _ (by omega)
  · skip
    exact hQ _ (by omega)
  · skip
    have f2 := ti_25
    exact hQ _ (by omega)
theorem s_X8_scanDigits_38_all {g : gM} {Q : Int32 → dM → Prop} (hG : Gd g) (hQ : ∀ (r : Int32) (m' : dM), Inv g m' → (0 ≤ r.toInt ∧ r.toInt ≤ 2000) → Q r m') : ∀ n : Nat, (∀ (x1 : Int32) (x2 : Int32) (y3 : Int64) (x5 : Int32) (m : dM), Inv g m → (0 ≤ x1.toInt ∧ x1.toInt ≤ 400) → (0 ≤ x2.toInt ∧ x2.toInt ≤ 1999) → (0 ≤ x5.toInt ∧ x5.toInt ≤ 2000) → 2001 - 1 * x5.toInt < (n : Int) → j_X8_scanDigits_38_5 3 x1 x2 y3 x5 m Q) ∧ (∀ (x1 : Int32) (x2 : Int32) (y3 : Int64) (x5 : Int32) (m : dM), Inv g m → (0 ≤ x1.toInt ∧ x1.toInt ≤ 400) → (0 ≤ x2.toInt ∧ x2.toInt ≤ 1999) → (0 ≤ x5.toInt ∧ x5.toInt ≤ 2000) → 0 < (n : Int) → j_X8_scanDigits_38_54 3 x1 x2 y3 x5 m Q) := by
  intro n
  induction n with
  | zero => exact ⟨fun x1 x2 y3 x5 m hI h1 h2 h5 hμ => by exfalso; omega, fun x1 x2 y3 x5 m hI h1 h2 h5 hμ => by exfalso; omega⟩
  | succ n ih =>
    refine ⟨?_, ?_⟩
    · intro x1 x2 y3 x5 m hI h1 h2 h5 hμ
      refine v_X8_scanDigits_38_5 ?_
      have f1 := Inv.w hI (k := 38) (j := 5) rfl
      refine ⟨fun hc2 => ?_, fun hc2 => ?_⟩
      · skip
        exact ih.2 _ _ _ _ _ hI (by omega) (by omega) (by omega) (by omega)
      · skip
        have f3 := dSubE (X := x5.toInt) (Y := x2.toInt) (x := x5) (y := x2) rfl rfl (by omega) (by omega)
        refine ⟨fun hc4 => ?_, fun hc4 => ?_⟩
        · skip
          exact ih.2 _ _ _ _ _ hI (by omega) (by omega) (by omega) (by omega)
        · skip
          refine Wp.deep (s_X8_isDigitAt_38 hG hI (by omega) (fun R5 hr5 => ?_)) (Nat.le_of_ble_eq_true rfl)
          refine ⟨fun hc6 => ?_, fun hc6 => ?_⟩
          · skip
            exact ih.2 _ _ _ _ _ hI (by omega) (by omega) (by omega) (by omega)
          · skip
            refine Wp.deep (s_X8_byteAt_38 hG hI (by omega) (fun R7 hr7 => ?_)) (Nat.le_of_ble_eq_true rfl)
            have f8 := dAddE (X := x5.toInt) (Y := 1) (x := x5) (y := (1 : Int32)) rfl (by decide) (by omega) (by omega)
            exact ih.1 _ _ _ _ _ hI (by omega) (by omega) (by omega) (by omega)
    · intro x1 x2 y3 x5 m hI h1 h2 h5 hμ
      refine v_X8_scanDigits_38_54 ?_
      refine ⟨by omega, ?_⟩
      have f1 := dSubE (X := x5.toInt) (Y := x2.toInt) (x := x5) (y := x2) rfl rfl (by omega) (by omega)
      refine ⟨fun hc2 => ?_, fun hc2 => ?_⟩
      · skip
        refine ⟨by omega, ?_⟩
        have I3 : Inv g (dSetL m 41 x1.toNatClampNeg y3) := (Inv.setL hI)
        have I4 : Inv g (dSet (dSetL m 41 x1.toNatClampNeg y3) 39 x1.toNatClampNeg (23 : Int32)) := (Inv.setA I3 rfl)
        exact hQ _ _ I4 (by omega)
      · skip
        refine ⟨by omega, ?_⟩
        have I3 : Inv g (dSetL m 41 x1.toNatClampNeg y3) := (Inv.setL hI)
        have I4 : Inv g (dSet (dSetL m 41 x1.toNatClampNeg y3) 39 x1.toNatClampNeg (25 : Int32)) := (Inv.setA I3 rfl)
        exact hQ _ _ I4 (by omega)
theorem s_X8_scanDigits_38 {g : gM} {x1 : Int32} {x2 : Int32} {m : dM} {Q : Int32 → dM → Prop} (hG : Gd g) (hI : Inv g m) (h1 : 0 ≤ x1.toInt ∧ x1.toInt ≤ 400) (h2 : 0 ≤ x2.toInt ∧ x2.toInt ≤ 1999) (hQ : ∀ (r : Int32) (m' : dM), Inv g m' → (0 ≤ r.toInt ∧ r.toInt ≤ 2000) → Q r m') : c_X8_scanDigits_38 3 x1 x2 m Q := by
  refine v_X8_scanDigits_38 ?_
  exact (s_X8_scanDigits_38_all hG hQ 2003).1 _ _ _ _ _ hI (by omega) (by omega) (by omega) (by omega)
theorem s_X8_withLetter {g : gM} {y0 : Int64} {x2 : Int32} {m : dM} {Q : Int64 → dM → Prop} (hG : Gd g) (hI : Inv g m) (h2 : 0 ≤ x2.toInt ∧ x2.toInt ≤ 255) (hQ : ∀ r : Int64, Q r m) : c_X8_withLetter 1 y0 x2 m Q := by
  refine v_X8_withLetter ?_
  exact hQ _
theorem s_X8_wordOrName_38_all {g : gM} {Q : Int32 → dM → Prop} {m : dM} (hG : Gd g) (hI : Inv g m) (hQ : ∀ r : Int32, (0 ≤ r.toInt ∧ r.toInt ≤ 22) → Q r m) : ∀ n : Nat, (∀ (y1 : Int64) (x3 : Int32), (0 ≤ x3.toInt ∧ x3.toInt ≤ 22) → 22 - 1 * x3.toInt < (n : Int) → j_X8_wordOrName_38_2 1 y1 x3 m Q) := by
  intro n
  induction n with
  | zero => exact fun y1 x3 h3 hμ => by exfalso; omega
  | succ n ih =>
    · intro y1 x3 h3 hμ
      refine v_X8_wordOrName_38_2 ?_
      refine ⟨fun hc1 => ?_, fun hc1 => ?_⟩
      · skip
        have f2 := ti_22
        exact hQ _ (by omega)
      · skip
        refine ⟨by omega, ?_⟩
        have f2 := dCmpE (tKv x3.toNatClampNeg) y1
        refine ⟨fun hc3 => ?_, fun hc3 => ?_⟩
        · skip
          have f4 := dAddE (X := x3.toInt) (Y := 1) (x := x3) (y := (1 : Int32)) rfl (by decide) (by omega) (by omega)
          exact ih _ _ (by omega) (by omega)
        · skip
          exact hQ _ (by omega)
theorem s_X8_wordOrName_38 {g : gM} {y1 : Int64} {m : dM} {Q : Int32 → dM → Prop} (hG : Gd g) (hI : Inv g m) (hQ : ∀ r : Int32, (0 ≤ r.toInt ∧ r.toInt ≤ 22) → Q r m) : c_X8_wordOrName_38 1 y1 m Q := by
  refine v_X8_wordOrName_38 ?_
  have f1 := ti_0
  exact (s_X8_wordOrName_38_all hG hI hQ 24) _ _ (by omega) (by omega)
theorem s_X8_scanLetters_38_all {g : gM} {Q : Int32 → dM → Prop} (hG : Gd g) (hQ : ∀ (r : Int32) (m' : dM), Inv g m' → (0 ≤ r.toInt ∧ r.toInt ≤ 2000) → Q r m') : ∀ n : Nat, (∀ (x1 : Int32) (x2 : Int32) (y3 : Int64) (x5 : Int32) (m : dM), Inv g m → (0 ≤ x1.toInt ∧ x1.toInt ≤ 400) → (0 ≤ x2.toInt ∧ x2.toInt ≤ 1999) → (0 ≤ x5.toInt ∧ x5.toInt ≤ 2000) → 2001 - 1 * x5.toInt < (n : Int) → j_X8_scanLetters_38_5 3 x1 x2 y3 x5 m Q) ∧ (∀ (x1 : Int32) (x2 : Int32) (y3 : Int64) (x5 : Int32) (m : dM), Inv g m → (0 ≤ x1.toInt ∧ x1.toInt ≤ 400) → (0 ≤ x2.toInt ∧ x2.toInt ≤ 1999) → (0 ≤ x5.toInt ∧ x5.toInt ≤ 2000) → 0 < (n : Int) → j_X8_scanLetters_38_49 3 x1 x2 y3 x5 m Q) := by
  intro n
  induction n with
  | zero => exact ⟨fun x1 x2 y3 x5 m hI h1 h2 h5 hμ => by exfalso; omega, fun x1 x2 y3 x5 m hI h1 h2 h5 hμ => by exfalso; omega⟩
  | succ n ih =>
    refine ⟨?_, ?_⟩
    · intro x1 x2 y3 x5 m hI h1 h2 h5 hμ
      refine v_X8_scanLetters_38_5 ?_
      have f1 := Inv.w hI (k := 38) (j := 5) rfl
      refine ⟨fun hc2 => ?_, fun hc2 => ?_⟩
      · skip
        exact ih.2 _ _ _ _ _ hI (by omega) (by omega) (by omega) (by omega)
      · skip
        have f3 := dSubE (X := x5.toInt) (Y := x2.toInt) (x := x5) (y := x2) rfl rfl (by omega) (by omega)
        refine ⟨fun hc4 => ?_, fun hc4 => ?_⟩
        · skip
          exact ih.2 _ _ _ _ _ hI (by omega) (by omega) (by omega) (by omega)
        · skip
          refine Wp.deep (s_X8_isLetterAt_38 hG hI (by omega) (fun R5 hr5 => ?_)) (Nat.le_of_ble_eq_true rfl)
          refine ⟨fun hc6 => ?_, fun hc6 => ?_⟩
          · skip
            exact ih.2 _ _ _ _ _ hI (by omega) (by omega) (by omega) (by omega)
          · skip
            refine Wp.deep (s_X8_byteAt_38 hG hI (by omega) (fun R7 hr7 => ?_)) (Nat.le_of_ble_eq_true rfl)
            refine Wp.deep (s_X8_withLetter hG hI (by omega) (fun R8 => ?_)) (Nat.le_of_ble_eq_true rfl)
            have f9 := dAddE (X := x5.toInt) (Y := 1) (x := x5) (y := (1 : Int32)) rfl (by decide) (by omega) (by omega)
            exact ih.1 _ _ _ _ _ hI (by omega) (by omega) (by omega) (by omega)
    · intro x1 x2 y3 x5 m hI h1 h2 h5 hμ
      refine v_X8_scanLetters_38_49 ?_
      refine ⟨by omega, ?_⟩
      have f1 := dSubE (X := x5.toInt) (Y := x2.toInt) (x := x5) (y := x2) rfl rfl (by omega) (by omega)
      refine ⟨fun hc2 => ?_, fun hc2 => ?_⟩
      · skip
        have I3 : Inv g (dSetL m 41 x1.toNatClampNeg y3) := (Inv.setL hI)
        refine Wp.deep (s_X8_wordOrName_38 hG I3 (fun R4 hr4 => ?_)) (Nat.le_of_ble_eq_true rfl)
        refine ⟨by omega, ?_⟩
        have I5 : Inv g (dSet (dSetL m 41 x1.toNatClampNeg y3) 39 x1.toNatClampNeg R4) := (Inv.setA I3 rfl)
        exact hQ _ _ I5 (by omega)
      · skip
        refine ⟨by omega, ?_⟩
        have I3 : Inv g (dSetL m 41 x1.toNatClampNeg y3) := (Inv.setL hI)
        have I4 : Inv g (dSet (dSetL m 41 x1.toNatClampNeg y3) 39 x1.toNatClampNeg (25 : Int32)) := (Inv.setA I3 rfl)
        exact hQ _ _ I4 (by omega)
theorem s_X8_scanLetters_38 {g : gM} {x1 : Int32} {x2 : Int32} {m : dM} {Q : Int32 → dM → Prop} (hG : Gd g) (hI : Inv g m) (h1 : 0 ≤ x1.toInt ∧ x1.toInt ≤ 400) (h2 : 0 ≤ x2.toInt ∧ x2.toInt ≤ 1999) (hQ : ∀ (r : Int32) (m' : dM), Inv g m' → (0 ≤ r.toInt ∧ r.toInt ≤ 2000) → Q r m') : c_X8_scanLetters_38 3 x1 x2 m Q := by
  refine v_X8_scanLetters_38 ?_
  exact (s_X8_scanLetters_38_all hG hQ 2003).1 _ _ _ _ _ hI (by omega) (by omega) (by omega) (by omega)
theorem s_X8_scanOne_38 {g : gM} {x1 : Int32} {x2 : Int32} {m : dM} {Q : Int32 → dM → Prop} (hG : Gd g) (hI : Inv g m) (h1 : 0 ≤ x1.toInt ∧ x1.toInt ≤ 400) (h2 : 0 ≤ x2.toInt ∧ x2.toInt ≤ 2000) (hQ : ∀ (r : Int32) (m' : dM), Inv g m' → (0 ≤ r.toInt ∧ r.toInt ≤ 2000) → Q r m') : c_X8_scanOne_38 4 x1 x2 m Q := by
  refine v_X8_scanOne_38 ?_
  have f1 := Inv.w hI (k := 38) (j := 5) rfl
  refine ⟨fun hc2 => ?_, fun hc2 => ?_⟩
  · skip
    refine Wp.deep (s_X8_isLetterAt_38 hG hI (by omega) (fun R3 hr3 => ?_)) (Nat.le_of_ble_eq_true rfl)
    refine ⟨fun hc4 => ?_, fun hc4 => ?_⟩
    · skip
      refine Wp.deep (s_X8_isDigitAt_38 hG hI (by omega) (fun R5 hr5 => ?_)) (Nat.le_of_ble_eq_true rfl)
      refine ⟨fun hc6 => ?_, fun hc6 => ?_⟩
      · skip
        refine Wp.deep (s_X8_byteAt_38 hG hI (by omega) (fun R7 hr7 => ?_)) (Nat.le_of_ble_eq_true rfl)
        refine Wp.deep (s_X8_signOf hG hI (by omega) (fun R8 hr8 => ?_)) (Nat.le_of_ble_eq_true rfl)
        refine ⟨by omega, ?_⟩
        have f9 := dAddE (X := x2.toInt) (Y := 1) (x := x2) (y := (1 : Int32)) rfl (by decide) (by omega) (by omega)
        have I10 : Inv g (dSet m 39 x1.toNatClampNeg R8) := (Inv.setA hI rfl)
        exact hQ _ _ I10 (by omega)
      · skip
        refine Wp.deep (s_X8_scanDigits_38 hG hI (by omega) (by omega) (fun R7 M7 I7 hr7 => ?_)) (Nat.le_of_ble_eq_true rfl)
        exact hQ _ _ I7 (by omega)
    · skip
      refine Wp.deep (s_X8_scanLetters_38 hG hI (by omega) (by omega) (fun R5 M5 I5 hr5 => ?_)) (Nat.le_of_ble_eq_true rfl)
      exact hQ _ _ I5 (by omega)
  · skip
    refine ⟨by omega, ?_⟩
    have I3 : Inv g (dSet m 39 x1.toNatClampNeg (24 : Int32)) := (Inv.setA hI rfl)
    exact hQ _ _ I3 (by omega)
theorem s_X8_scan_38_1_all {g : gM} {Q : dM → Prop} (hG : Gd g) (hQ : ∀ m' : dM, Inv g m' → Q m') : ∀ n : Nat, (∀ (x3 : Int32) (x4 : Int32) (m : dM), Inv g m → (0 ≤ x3.toInt ∧ x3.toInt ≤ 2000) → (0 ≤ x4.toInt ∧ x4.toInt ≤ 401) → 402 - 1 * x4.toInt < (n : Int) → j_X8_scan_38_1_20 5 x3 x4 m Q) ∧ (∀ (m : dM), Inv g m → 0 < (n : Int) → j_X8_scan_38_1_74 5 m Q) := by
  intro n
  induction n with
  | zero => exact ⟨fun x3 x4 m hI h3 h4 hμ => by exfalso; omega, fun m hI hμ => by exfalso; omega⟩
  | succ n ih =>
    refine ⟨?_, ?_⟩
    · intro x3 x4 m hI h3 h4 hμ
      refine v_X8_scan_38_1_20 ?_
      refine ⟨fun hc1 => ?_, fun hc1 => ?_⟩
      · skip
        exact hQ _ hI
      · skip
        refine Wp.deep (s_X8_pastBlanks_38 hG hI (by omega) (fun R2 hr2 => ?_)) (Nat.le_of_ble_eq_true rfl)
        refine ⟨by omega, ?_⟩
        have I3 : Inv g (dSet m 40 x4.toNatClampNeg R2) := (Inv.setA hI rfl)
        refine Wp.deep (s_X8_scanOne_38 hG I3 (by omega) (by omega) (fun R4 M4 I4 hr4 => ?_)) (Nat.le_of_ble_eq_true rfl)
        refine ⟨by omega, ?_⟩
        refine ⟨fun hc5 => ?_, fun hc5 => ?_⟩
        · skip
          exact ih.2 _ I4 (by omega)
        · skip
          refine ⟨by omega, ?_⟩
          refine ⟨fun hc6 => ?_, fun hc6 => ?_⟩
          · skip
            have f7 := dAddE (X := x4.toInt) (Y := 1) (x := x4) (y := (1 : Int32)) rfl (by decide) (by omega) (by omega)
            exact ih.1 _ _ _ I4 (by omega) (by omega) (by omega)
          · skip
            exact ih.2 _ I4 (by omega)
    · intro m hI hμ
      refine v_X8_scan_38_1_74 ?_
      exact hQ _ hI
theorem s_X8_scan_38_1 {g : gM} {x2 : Int32} {m : dM} {Q : dM → Prop} (hG : Gd g) (hI : Inv g m) (h2 : 0 ≤ x2.toInt ∧ x2.toInt ≤ 2000) (hQ : ∀ m' : dM, Inv g m' → Q m') : c_X8_scan_38_1 5 x2 m Q := by
  refine v_X8_scan_38_1 ?_
  have f1 := ti_0
  have I2 : Inv g (dTx m) := (Inv.tx hI)
  have f3 := ti_2000
  have f4 := dMinE x2 (2000 : Int32)
  have I5 : Inv g (dSet (dTx m) 38 5 (if (2000 : Int32) < x2 then (2000 : Int32) else x2)) := (Inv.set I2 rfl (by omega) (by omega))
  exact (s_X8_scan_38_1_all hG hQ 404).1 _ _ _ I5 (by omega) (by omega) (by omega)
theorem s_X4_begin_29 {g : gM} {x1 : Int32} {m : dM} {Q : dM → Prop} (hG : Gd g) (hI : Inv g m) (h1 : 0 ≤ x1.toInt ∧ x1.toInt ≤ 3) (hQ : ∀ m' : dM, Inv g m' → Q m') : c_X4_begin_29 1 x1 m Q := by
  refine v_X4_begin_29 ?_
  refine ⟨by omega, ?_⟩
  refine ⟨by omega, fun hc1 => ?_, fun hc2 => ?_, fun hc3 => ?_, fun hc4 => ?_⟩
  · skip
    have f5 := ti_0
    have I6 : Inv g (dSet m 36 x1.toNatClampNeg (0 : Int32)) := (Inv.set hI rfl (by omega) (by omega))
    have f7 := Inv.w hI (k := 29) (j := 1) rfl
    have I8 : Inv g (dSet (dSet m 36 x1.toNatClampNeg (0 : Int32)) 32 0 (m.1 29 1)) := (Inv.set I6 rfl (by omega) (by omega))
    exact hQ _ I8
  · skip
    have f5 := ti_0
    have I6 : Inv g (dSet m 36 x1.toNatClampNeg (0 : Int32)) := (Inv.set hI rfl (by omega) (by omega))
    have f7 := Inv.w hI (k := 29) (j := 1) rfl
    have I8 : Inv g (dSet (dSet m 36 x1.toNatClampNeg (0 : Int32)) 33 0 (m.1 29 1)) := (Inv.set I6 rfl (by omega) (by omega))
    exact hQ _ I8
  · skip
    have f5 := ti_0
    have I6 : Inv g (dSet m 36 x1.toNatClampNeg (0 : Int32)) := (Inv.set hI rfl (by omega) (by omega))
    have f7 := Inv.w hI (k := 29) (j := 1) rfl
    have I8 : Inv g (dSet (dSet m 36 x1.toNatClampNeg (0 : Int32)) 34 0 (m.1 29 1)) := (Inv.set I6 rfl (by omega) (by omega))
    exact hQ _ I8
  · skip
    have f5 := ti_0
    have I6 : Inv g (dSet m 36 x1.toNatClampNeg (0 : Int32)) := (Inv.set hI rfl (by omega) (by omega))
    have f7 := Inv.w hI (k := 29) (j := 1) rfl
    have I8 : Inv g (dSet (dSet m 36 x1.toNatClampNeg (0 : Int32)) 35 0 (m.1 29 1)) := (Inv.set I6 rfl (by omega) (by omega))
    exact hQ _ I8
theorem s_X4_put_29 {g : gM} {x1 : Int32} {m : dM} {Q : dM → Prop} (hG : Gd g) (hI : Inv g m) (hQ : ∀ m' : dM, Inv g m' → Q m') : c_X4_put_29 1 x1 m Q := by
  refine v_X4_put_29 ?_
  have f1 := Inv.w hI (k := 29) (j := 1) rfl
  refine ⟨fun hc2 => ?_, fun hc2 => ?_⟩
  · skip
    refine v_X4_put_29_32 ?_
    exact hQ _ hI
  · skip
    refine ⟨by omega, ?_⟩
    refine v_X4_put_29_32 ?_
    have I3 : Inv g (dSet m 30 (m.1 29 1).toNatClampNeg x1) := (Inv.setA hI rfl)
    have f4 := dAddE (X := (m.1 29 1).toInt) (Y := 1) (x := (m.1 29 1)) (y := (1 : Int32)) rfl (by decide) (by omega) (by omega)
    have I5 : Inv g (dSet (dSet m 30 (m.1 29 1).toNatClampNeg x1) 29 1 ((m.1 29 1) + (1 : Int32))) := (Inv.set I3 rfl (by omega) (by omega))
    exact hQ _ I5
theorem s_X4_endPiece_29 {g : gM} {x1 : Int32} {m : dM} {Q : dM → Prop} (hG : Gd g) (hI : Inv g m) (h1 : 0 ≤ x1.toInt ∧ x1.toInt ≤ 3) (hQ : ∀ m' : dM, Inv g m' → Q m') : c_X4_endPiece_29 1 x1 m Q := by
  refine v_X4_endPiece_29 ?_
  refine ⟨by omega, ?_⟩
  have f1 := Inv.w hI (k := 36) (j := x1.toNatClampNeg) rfl
  refine ⟨fun hc2 => ?_, fun hc2 => ?_⟩
  · skip
    refine v_X4_endPiece_29_38 ?_
    exact hQ _ hI
  · skip
    refine ⟨by omega, ?_⟩
    refine ⟨by omega, ?_⟩
    refine ⟨by omega, fun hc3 => ?_, fun hc4 => ?_, fun hc5 => ?_, fun hc6 => ?_⟩
    · skip
      refine ⟨by omega, ?_⟩
      have f7 := dAddE (X := (m.1 36 x1.toNatClampNeg).toInt) (Y := 1) (x := (m.1 36 x1.toNatClampNeg)) (y := (1 : Int32)) rfl (by decide) (by omega) (by omega)
      refine ⟨by omega, ?_⟩
      refine v_X4_endPiece_29_38 ?_
      have I8 : Inv g (dSet m 36 x1.toNatClampNeg ((m.1 36 x1.toNatClampNeg) + (1 : Int32))) := (Inv.set hI rfl (by omega) (by omega))
      have f9 := Inv.w hI (k := 29) (j := 1) rfl
      have I10 : Inv g (dSet (dSet m 36 x1.toNatClampNeg ((m.1 36 x1.toNatClampNeg) + (1 : Int32))) 32 ((m.1 36 x1.toNatClampNeg) + (1 : Int32)).toNatClampNeg (m.1 29 1)) := (Inv.set I8 rfl (by omega) (by omega))
      exact hQ _ I10
    · skip
      refine ⟨by omega, ?_⟩
      have f7 := dAddE (X := (m.1 36 x1.toNatClampNeg).toInt) (Y := 1) (x := (m.1 36 x1.toNatClampNeg)) (y := (1 : Int32)) rfl (by decide) (by omega) (by omega)
      refine ⟨by omega, ?_⟩
      refine v_X4_endPiece_29_38 ?_
      have I8 : Inv g (dSet m 36 x1.toNatClampNeg ((m.1 36 x1.toNatClampNeg) + (1 : Int32))) := (Inv.set hI rfl (by omega) (by omega))
      have f9 := Inv.w hI (k := 29) (j := 1) rfl
      have I10 : Inv g (dSet (dSet m 36 x1.toNatClampNeg ((m.1 36 x1.toNatClampNeg) + (1 : Int32))) 33 ((m.1 36 x1.toNatClampNeg) + (1 : Int32)).toNatClampNeg (m.1 29 1)) := (Inv.set I8 rfl (by omega) (by omega))
      exact hQ _ I10
    · skip
      refine ⟨by omega, ?_⟩
      have f7 := dAddE (X := (m.1 36 x1.toNatClampNeg).toInt) (Y := 1) (x := (m.1 36 x1.toNatClampNeg)) (y := (1 : Int32)) rfl (by decide) (by omega) (by omega)
      refine ⟨by omega, ?_⟩
      refine v_X4_endPiece_29_38 ?_
      have I8 : Inv g (dSet m 36 x1.toNatClampNeg ((m.1 36 x1.toNatClampNeg) + (1 : Int32))) := (Inv.set hI rfl (by omega) (by omega))
      have f9 := Inv.w hI (k := 29) (j := 1) rfl
      have I10 : Inv g (dSet (dSet m 36 x1.toNatClampNeg ((m.1 36 x1.toNatClampNeg) + (1 : Int32))) 34 ((m.1 36 x1.toNatClampNeg) + (1 : Int32)).toNatClampNeg (m.1 29 1)) := (Inv.set I8 rfl (by omega) (by omega))
      exact hQ _ I10
    · skip
      refine ⟨by omega, ?_⟩
      have f7 := dAddE (X := (m.1 36 x1.toNatClampNeg).toInt) (Y := 1) (x := (m.1 36 x1.toNatClampNeg)) (y := (1 : Int32)) rfl (by decide) (by omega) (by omega)
      refine ⟨by omega, ?_⟩
      refine v_X4_endPiece_29_38 ?_
      have I8 : Inv g (dSet m 36 x1.toNatClampNeg ((m.1 36 x1.toNatClampNeg) + (1 : Int32))) := (Inv.set hI rfl (by omega) (by omega))
      have f9 := Inv.w hI (k := 29) (j := 1) rfl
      have I10 : Inv g (dSet (dSet m 36 x1.toNatClampNeg ((m.1 36 x1.toNatClampNeg) + (1 : Int32))) 35 ((m.1 36 x1.toNatClampNeg) + (1 : Int32)).toNatClampNeg (m.1 29 1)) := (Inv.set I8 rfl (by omega) (by omega))
      exact hQ _ I10
theorem s_X4_clear_29 {g : gM} {m : dM} {Q : dM → Prop} (hG : Gd g) (hI : Inv g m) (hQ : ∀ m' : dM, Inv g m' → Q m') : c_X4_clear_29 2 m Q := by
  refine v_X4_clear_29 ?_
  have f1 := ti_0
  have I2 : Inv g (dSet m 29 1 (0 : Int32)) := (Inv.set hI rfl (by omega) (by omega))
  refine Wp.deep (s_X4_begin_29 hG I2 (by omega) (fun M3 I3 => ?_)) (Nat.le_of_ble_eq_true rfl)
  have f4 := ti_4
  refine Wp.deep (s_X4_put_29 hG I3 (fun M5 I5 => ?_)) (Nat.le_of_ble_eq_true rfl)
  have f6 := ti_5
  refine Wp.deep (s_X4_put_29 hG I5 (fun M7 I7 => ?_)) (Nat.le_of_ble_eq_true rfl)
  have f8 := ti_1
  refine Wp.deep (s_X4_put_29 hG I7 (fun M9 I9 => ?_)) (Nat.le_of_ble_eq_true rfl)
  refine Wp.deep (s_X4_endPiece_29 hG I9 (by omega) (fun M10 I10 => ?_)) (Nat.le_of_ble_eq_true rfl)
  refine Wp.deep (s_X4_begin_29 hG I10 (by omega) (fun M11 I11 => ?_)) (Nat.le_of_ble_eq_true rfl)
  have f12 := ti_13
  refine Wp.deep (s_X4_put_29 hG I11 (fun M13 I13 => ?_)) (Nat.le_of_ble_eq_true rfl)
  refine Wp.deep (s_X4_endPiece_29 hG I13 (by omega) (fun M14 I14 => ?_)) (Nat.le_of_ble_eq_true rfl)
  have f15 := ti_2
  refine Wp.deep (s_X4_begin_29 hG I14 (by omega) (fun M16 I16 => ?_)) (Nat.le_of_ble_eq_true rfl)
  refine Wp.deep (s_X4_put_29 hG I16 (fun M17 I17 => ?_)) (Nat.le_of_ble_eq_true rfl)
  refine Wp.deep (s_X4_endPiece_29 hG I17 (by omega) (fun M18 I18 => ?_)) (Nat.le_of_ble_eq_true rfl)
  have f19 := ti_3
  refine Wp.deep (s_X4_begin_29 hG I18 (by omega) (fun M20 I20 => ?_)) (Nat.le_of_ble_eq_true rfl)
  have f21 := ti_9
  refine Wp.deep (s_X4_put_29 hG I20 (fun M22 I22 => ?_)) (Nat.le_of_ble_eq_true rfl)
  refine Wp.deep (s_X4_endPiece_29 hG I22 (by omega) (fun M23 I23 => ?_)) (Nat.le_of_ble_eq_true rfl)
  exact hQ _ I23
theorem s_X2_step_43 {g : gM} {m : dM} {Q : Int32 → dM → Prop} (hG : Gd g) (hI : Inv g m) (hQ : ∀ (r : Int32) (m' : dM), Inv g m' → (0 ≤ r.toInt ∧ r.toInt ≤ 1) → Q r m') : c_X2_step_43 1 m Q := by
  refine v_X2_step_43 ?_
  refine ⟨fun hc1 => ?_, fun hc1 => ?_⟩
  · skip
    have f2 := ti_1
    have I3 : Inv g (dSet m 43 2 ((m.1 43 2) + (1 : Int32))) := (Inv.setA hI rfl)
    exact hQ _ _ I3 (by omega)
  · skip
    have f2 := ti_0
    have I3 : Inv g (dSet m 43 3 (2 : Int32)) := (Inv.setA hI rfl)
    exact hQ _ _ I3 (by omega)
theorem s_X2_fail_43 {g : gM} {x1 : Int32} {m : dM} {Q : Int32 → dM → Prop} (hG : Gd g) (hI : Inv g m) (hQ : ∀ (r : Int32) (m' : dM), Inv g m' → (0 ≤ r.toInt ∧ r.toInt ≤ 0) → Q r m') : c_X2_fail_43 1 x1 m Q := by
  refine v_X2_fail_43 ?_
  have f1 := ti_0
  have I2 : Inv g (dSet m 43 3 x1) := (Inv.setA hI rfl)
  exact hQ _ _ I2 (by omega)
theorem s_X2_need_43 {g : gM} {x1 : Int32} {m : dM} {Q : Int32 → dM → Prop} (hG : Gd g) (hI : Inv g m) (hQ : ∀ (r : Int32) (m' : dM), Inv g m' → (0 ≤ r.toInt ∧ r.toInt ≤ 1) → Q r m') : c_X2_need_43 2 x1 m Q := by
  refine v_X2_need_43 ?_
  refine v_X2_kind_43 ?_
  refine ⟨fun hc1 => ?_, fun hc1 => ?_⟩
  · skip
    refine v_X2_kind_43_32 ?_
    have f2 := ti_24
    refine ⟨fun hc3 => ?_, fun hc3 => ?_⟩
    · skip
      have f4 := ti_1
      refine Wp.deep (s_X2_fail_43 hG hI (fun R5 M5 I5 hr5 => ?_)) (Nat.le_of_ble_eq_true rfl)
      refine ⟨dB01 (by omega), ?_⟩
      exact hQ _ _ I5 (by omega)
    · skip
      refine Wp.deep (s_X2_step_43 hG hI (fun R4 M4 I4 hr4 => ?_)) (Nat.le_of_ble_eq_true rfl)
      refine ⟨dB01 (by omega), ?_⟩
      exact hQ _ _ I4 (by omega)
  · skip
    refine ⟨fun hc2 => ?_, fun hc2 => ?_⟩
    · skip
      refine v_X2_kind_43_32 ?_
      have f3 := ti_24
      refine ⟨fun hc4 => ?_, fun hc4 => ?_⟩
      · skip
        have f5 := ti_1
        refine Wp.deep (s_X2_fail_43 hG hI (fun R6 M6 I6 hr6 => ?_)) (Nat.le_of_ble_eq_true rfl)
        refine ⟨dB01 (by omega), ?_⟩
        exact hQ _ _ I6 (by omega)
      · skip
        refine Wp.deep (s_X2_step_43 hG hI (fun R5 M5 I5 hr5 => ?_)) (Nat.le_of_ble_eq_true rfl)
        refine ⟨dB01 (by omega), ?_⟩
        exact hQ _ _ I5 (by omega)
    · skip
      refine ⟨by omega, ?_⟩
      refine ⟨fun hc3 => ?_, fun hc3 => ?_⟩
      · skip
        have f4 := ti_1
        refine Wp.deep (s_X2_fail_43 hG hI (fun R5 M5 I5 hr5 => ?_)) (Nat.le_of_ble_eq_true rfl)
        refine ⟨dB01 (by omega), ?_⟩
        exact hQ _ _ I5 (by omega)
      · skip
        refine Wp.deep (s_X2_step_43 hG hI (fun R4 M4 I4 hr4 => ?_)) (Nat.le_of_ble_eq_true rfl)
        refine ⟨dB01 (by omega), ?_⟩
        exact hQ _ _ I4 (by omega)
theorem s_X2_checkRow_43_all {g : gM} {Q : dM → Prop} (hG : Gd g) (hQ : ∀ m' : dM, Inv g m' → Q m') : ∀ n : Nat, (∀ (x1 : Int32) (x2 : Int32) (x3 : Int32) (x4 : Int32) (m : dM), Inv g m → (0 ≤ x1.toInt ∧ x1.toInt ≤ 2) → (1 ≤ x2.toInt ∧ x2.toInt ≤ 3) → (0 ≤ x3.toInt ∧ x3.toInt ≤ 1) → (0 ≤ x4.toInt ∧ x4.toInt ≤ 2) → 9 - 1 * x4.toInt < (n : Int) → j_X2_checkRow_43_8 3 x1 x2 x3 x4 m Q) ∧ (∀ (x2 : Int32) (x3 : Int32) (m : dM), Inv g m → (1 ≤ x2.toInt ∧ x2.toInt ≤ 3) → (0 ≤ x3.toInt ∧ x3.toInt ≤ 1) → 6 < (n : Int) → j_X2_checkRow_43_31 3 x2 x3 m Q) ∧ (∀ (x2 : Int32) (x3 : Int32) (x4 : Int32) (m : dM), Inv g m → (1 ≤ x2.toInt ∧ x2.toInt ≤ 3) → (0 ≤ x3.toInt ∧ x3.toInt ≤ 1) → (0 ≤ x4.toInt ∧ x4.toInt ≤ 3) → 5 - 1 * x4.toInt < (n : Int) → j_X2_checkRow_43_34 3 x2 x3 x4 m Q) ∧ (∀ (x3 : Int32) (m : dM), Inv g m → (0 ≤ x3.toInt ∧ x3.toInt ≤ 1) → 1 < (n : Int) → j_X2_checkRow_43_57 3 x3 m Q) ∧ (∀ (m : dM), Inv g m → 0 < (n : Int) → j_X2_checkRow_43_68 3 m Q) := by
  intro n
  induction n with
  | zero => exact ⟨fun x1 x2 x3 x4 m hI h1 h2 h3 h4 hμ => by exfalso; omega, fun x2 x3 m hI h2 h3 hμ => by exfalso; omega, fun x2 x3 x4 m hI h2 h3 h4 hμ => by exfalso; omega, fun x3 m hI h3 hμ => by exfalso; omega, fun m hI hμ => by exfalso; omega⟩
  | succ n ih =>
    refine ⟨?_, ?_, ?_, ?_, ?_⟩
    · intro x1 x2 x3 x4 m hI h1 h2 h3 h4 hμ
      refine v_X2_checkRow_43_8 ?_
      refine ⟨fun hc1 => ?_, fun hc1 => ?_⟩
      · skip
        exact ih.2.1 _ _ _ hI (by omega) (by omega) (by omega)
      · skip
        refine ⟨fun hc2 => ?_, fun hc2 => ?_⟩
        · skip
          exact ih.2.1 _ _ _ hI (by omega) (by omega) (by omega)
        · skip
          have f3 := ti_22
          refine Wp.deep (s_X2_need_43 hG hI (fun R4 M4 I4 hr4 => ?_)) (Nat.le_of_ble_eq_true rfl)
          have f5 := dAddE (X := x4.toInt) (Y := 1) (x := x4) (y := (1 : Int32)) rfl (by decide) (by omega) (by omega)
          exact ih.1 _ _ _ _ _ I4 (by omega) (by omega) (by omega) (by omega) (by omega)
    · intro x2 x3 m hI h2 h3 hμ
      refine v_X2_checkRow_43_31 ?_
      have f1 := ti_0
      exact ih.2.2.1 _ _ _ _ hI (by omega) (by omega) (by omega) (by omega)
    · intro x2 x3 x4 m hI h2 h3 h4 hμ
      refine v_X2_checkRow_43_34 ?_
      refine ⟨fun hc1 => ?_, fun hc1 => ?_⟩
      · skip
        exact ih.2.2.2.1 _ _ hI (by omega) (by omega)
      · skip
        refine ⟨fun hc2 => ?_, fun hc2 => ?_⟩
        · skip
          exact ih.2.2.2.1 _ _ hI (by omega) (by omega)
        · skip
          have f3 := ti_23
          refine Wp.deep (s_X2_need_43 hG hI (fun R4 M4 I4 hr4 => ?_)) (Nat.le_of_ble_eq_true rfl)
          have f5 := dAddE (X := x4.toInt) (Y := 1) (x := x4) (y := (1 : Int32)) rfl (by decide) (by omega) (by omega)
          exact ih.2.2.1 _ _ _ _ I4 (by omega) (by omega) (by omega) (by omega)
    · intro x3 m hI h3 hμ
      refine v_X2_checkRow_43_57 ?_
      refine ⟨fun hc1 => ?_, fun hc1 => ?_⟩
      · skip
        exact ih.2.2.2.2 _ hI (by omega)
      · skip
        have f2 := ti_59
        refine Wp.deep (s_X2_need_43 hG hI (fun R3 M3 I3 hr3 => ?_)) (Nat.le_of_ble_eq_true rfl)
        exact ih.2.2.2.2 _ I3 (by omega)
    · intro m hI hμ
      refine v_X2_checkRow_43_68 ?_
      exact hQ _ hI
theorem s_X2_checkRow_43 {g : gM} {x1 : Int32} {x2 : Int32} {m : dM} {Q : dM → Prop} (hG : Gd g) (hI : Inv g m) (h1 : 0 ≤ x1.toInt ∧ x1.toInt ≤ 2) (h2 : 1 ≤ x2.toInt ∧ x2.toInt ≤ 3) (hQ : ∀ m' : dM, Inv g m' → Q m') : c_X2_checkRow_43 3 x1 x2 m Q := by
  refine v_X2_checkRow_43 ?_
  refine Wp.deep (s_X2_step_43 hG hI (fun R1 M1 I1 hr1 => ?_)) (Nat.le_of_ble_eq_true rfl)
  have f2 := ti_0
  exact (s_X2_checkRow_43_all hG hQ 11).1 _ _ _ _ _ I1 (by omega) (by omega) (by omega) (by omega) (by omega)
theorem s_X2_checkCounted_43 {g : gM} {x1 : Int32} {x2 : Int32} {x3 : Int32} {x4 : Int32} {m : dM} {Q : dM → Prop} (hG : Gd g) (hI : Inv g m) (h2 : 7 ≤ x2.toInt ∧ x2.toInt ≤ 10) (h3 : 1 ≤ x3.toInt ∧ x3.toInt ≤ 2) (h4 : 1 ≤ x4.toInt ∧ x4.toInt ≤ 3) (hQ : ∀ m' : dM, Inv g m' → Q m') : c_X2_checkCounted_43 4 x1 x2 x3 x4 m Q := by
  refine v_X2_checkCounted_43 ?_
  refine ⟨fun hc1 => ?_, fun hc1 => ?_⟩
  · skip
    refine Wp.deep (s_X2_checkRow_43 hG hI (by omega) (by omega) (fun M2 I2 => ?_)) (Nat.le_of_ble_eq_true rfl)
    refine v_X2_checkCounted_43_20 ?_
    exact hQ _ I2
  · skip
    refine v_X2_checkCounted_43_20 ?_
    have I2 : Inv g (dSet m 43 3 (2 : Int32)) := (Inv.setA hI rfl)
    exact hQ _ I2
theorem s_X8_nameAt_38 {g : gM} {x1 : Int32} {m : dM} {Q : Int64 → dM → Prop} (hG : Gd g) (hI : Inv g m) (hQ : ∀ r : Int64, Q r m) : c_X8_nameAt_38 1 x1 m Q := by
  refine v_X8_nameAt_38 ?_
  refine ⟨fun hc1 => ?_, fun hc1 => ?_⟩
  · skip
    refine v_X8_nameAt_38_20 ?_
    exact hQ _
  · skip
    refine ⟨fun hc2 => ?_, fun hc2 => ?_⟩
    · skip
      refine v_X8_nameAt_38_20 ?_
      exact hQ _
    · skip
      refine ⟨by omega, ?_⟩
      exact hQ _
theorem s_X8_numberAt_38 {g : gM} {x1 : Int32} {m : dM} {Q : Int32 → dM → Prop} (hG : Gd g) (hI : Inv g m) (hQ : ∀ r : Int32, Q r m) : c_X8_numberAt_38 2 x1 m Q := by
  refine v_X8_numberAt_38 ?_
  refine Wp.deep (s_X8_nameAt_38 hG hI (fun R1 => ?_)) (Nat.le_of_ble_eq_true rfl)
  exact hQ _
theorem s_X2_endPiece_43 {g : gM} {x1 : Int32} {x2 : Int32} {m : dM} {Q : Int32 → dM → Prop} (hG : Gd g) (hI : Inv g m) (h1 : 0 ≤ x1.toInt ∧ x1.toInt ≤ 3) (h2 : 10 ≤ x2.toInt ∧ x2.toInt ≤ 60) (hQ : ∀ (r : Int32) (m' : dM), Inv g m' → (0 ≤ r.toInt ∧ r.toInt ≤ 1) → Q r m') : c_X2_endPiece_43 3 x1 x2 m Q := by
  refine v_X2_endPiece_43 ?_
  refine Wp.deep (s_X4_endPiece_29 hG hI (by omega) (fun M1 I1 => ?_)) (Nat.le_of_ble_eq_true rfl)
  refine Wp.deep (s_X2_need_43 hG I1 (fun R2 M2 I2 hr2 => ?_)) (Nat.le_of_ble_eq_true rfl)
  refine ⟨dB01 (by omega), ?_⟩
  exact hQ _ _ I2 (by omega)
theorem s_X5_indexOf_45_all {g : gM} {Q : Int32 → dM → Prop} {m : dM} (hG : Gd g) (hI : Inv g m) (hQ : ∀ r : Int32, (-1 ≤ r.toInt ∧ r.toInt ≤ 6) → Q r m) : ∀ n : Nat, (∀ (x1 : Int32) (y2 : Int64) (x4 : Int32), (0 ≤ x1.toInt ∧ x1.toInt ≤ 7) → (0 ≤ x4.toInt ∧ x4.toInt ≤ 7) → 8 - 1 * x4.toInt < (n : Int) → j_X5_indexOf_45_3 1 x1 y2 x4 m Q) ∧ (0 < (n : Int) → j_X5_indexOf_45_34 1 m Q) := by
  intro n
  induction n with
  | zero => exact ⟨fun x1 y2 x4 h1 h4 hμ => by exfalso; omega, fun hμ => by exfalso; omega⟩
  | succ n ih =>
    refine ⟨?_, ?_⟩
    · intro x1 y2 x4 h1 h4 hμ
      refine v_X5_indexOf_45_3 ?_
      refine ⟨fun hc1 => ?_, fun hc1 => ?_⟩
      · skip
        exact ih.2 (by omega)
      · skip
        refine ⟨fun hc2 => ?_, fun hc2 => ?_⟩
        · skip
          exfalso; omega
        · skip
          refine ⟨by omega, ?_⟩
          have f3 := dCmpE (m.2.1 45 x4.toNatClampNeg) y2
          refine ⟨fun hc4 => ?_, fun hc4 => ?_⟩
          · skip
            have f5 := dAddE (X := x4.toInt) (Y := 1) (x := x4) (y := (1 : Int32)) rfl (by decide) (by omega) (by omega)
            exact ih.1 _ _ _ (by omega) (by omega) (by omega)
          · skip
            exact hQ _ (by omega)
    · intro hμ
      refine v_X5_indexOf_45_34 ?_
      have f1 := ti_m1
      exact hQ _ (by omega)
theorem s_X5_indexOf_45 {g : gM} {x1 : Int32} {y2 : Int64} {m : dM} {Q : Int32 → dM → Prop} (hG : Gd g) (hI : Inv g m) (h1 : 0 ≤ x1.toInt ∧ x1.toInt ≤ 7) (hQ : ∀ r : Int32, (-1 ≤ r.toInt ∧ r.toInt ≤ 6) → Q r m) : c_X5_indexOf_45 1 x1 y2 m Q := by
  refine v_X5_indexOf_45 ?_
  have f1 := ti_0
  exact (s_X5_indexOf_45_all hG hI hQ 10).1 _ _ _ (by omega) (by omega) (by omega)
theorem s_X5_indexOf_46_all {g : gM} {Q : Int32 → dM → Prop} {m : dM} (hG : Gd g) (hI : Inv g m) (hQ : ∀ r : Int32, (-1 ≤ r.toInt ∧ r.toInt ≤ 7) → Q r m) : ∀ n : Nat, (∀ (x1 : Int32) (y2 : Int64) (x4 : Int32), (0 ≤ x1.toInt ∧ x1.toInt ≤ 8) → (0 ≤ x4.toInt ∧ x4.toInt ≤ 8) → 9 - 1 * x4.toInt < (n : Int) → j_X5_indexOf_46_3 1 x1 y2 x4 m Q) ∧ (0 < (n : Int) → j_X5_indexOf_46_34 1 m Q) := by
  intro n
  induction n with
  | zero => exact ⟨fun x1 y2 x4 h1 h4 hμ => by exfalso; omega, fun hμ => by exfalso; omega⟩
  | succ n ih =>
    refine ⟨?_, ?_⟩
    · intro x1 y2 x4 h1 h4 hμ
      refine v_X5_indexOf_46_3 ?_
      refine ⟨fun hc1 => ?_, fun hc1 => ?_⟩
      · skip
        exact ih.2 (by omega)
      · skip
        refine ⟨fun hc2 => ?_, fun hc2 => ?_⟩
        · skip
          exfalso; omega
        · skip
          refine ⟨by omega, ?_⟩
          have f3 := dCmpE (m.2.1 46 x4.toNatClampNeg) y2
          refine ⟨fun hc4 => ?_, fun hc4 => ?_⟩
          · skip
            have f5 := dAddE (X := x4.toInt) (Y := 1) (x := x4) (y := (1 : Int32)) rfl (by decide) (by omega) (by omega)
            exact ih.1 _ _ _ (by omega) (by omega) (by omega)
          · skip
            exact hQ _ (by omega)
    · intro hμ
      refine v_X5_indexOf_46_34 ?_
      have f1 := ti_m1
      exact hQ _ (by omega)
theorem s_X5_indexOf_46 {g : gM} {x1 : Int32} {y2 : Int64} {m : dM} {Q : Int32 → dM → Prop} (hG : Gd g) (hI : Inv g m) (h1 : 0 ≤ x1.toInt ∧ x1.toInt ≤ 8) (hQ : ∀ r : Int32, (-1 ≤ r.toInt ∧ r.toInt ≤ 7) → Q r m) : c_X5_indexOf_46 1 x1 y2 m Q := by
  refine v_X5_indexOf_46 ?_
  have f1 := ti_0
  exact (s_X5_indexOf_46_all hG hI hQ 11).1 _ _ _ (by omega) (by omega) (by omega)
theorem s_X5_fail_44 {g : gM} {x1 : Int32} {m : dM} {Q : Int32 → dM → Prop} (hG : Gd g) (hI : Inv g m) (hQ : ∀ (r : Int32) (m' : dM), Inv g m' → (0 ≤ r.toInt ∧ r.toInt ≤ 0) → Q r m') : c_X5_fail_44 1 x1 m Q := by
  refine v_X5_fail_44 ?_
  have f1 := ti_0
  have I2 : Inv g (dSet m 44 5 x1) := (Inv.setA hI rfl)
  exact hQ _ _ I2 (by omega)
theorem s_X5_isNewName_44 {g : gM} {m : dM} {Q : Int32 → dM → Prop} (hG : Gd g) (hI : Inv g m) (hQ : ∀ (r : Int32) (m' : dM), Inv g m' → (0 ≤ r.toInt ∧ r.toInt ≤ 1) → Q r m') : c_X5_isNewName_44 2 m Q := by
  refine v_X5_isNewName_44 ?_
  refine Wp.deep (s_X8_nameAt_38 hG hI (fun R1 => ?_)) (Nat.le_of_ble_eq_true rfl)
  have f2 := congrArg Int32.toInt (hI.2 20 0 rfl)
  have f3 := Inv.s hG hI (k := 20) (j := 0) rfl rfl
  refine Wp.deep (s_X5_indexOf_45 hG hI (by omega) (fun R4 hr4 => ?_)) (Nat.le_of_ble_eq_true rfl)
  refine ⟨fun hc5 => ?_, fun hc5 => ?_⟩
  · skip
    refine v_X5_isNewName_44_50 ?_
    have f6 := ti_3
    refine Wp.deep (s_X5_fail_44 hG hI (fun R7 M7 I7 hr7 => ?_)) (Nat.le_of_ble_eq_true rfl)
    refine ⟨dB01 (by omega), ?_⟩
    exact hQ _ _ I7 (by omega)
  · skip
    have f6 := congrArg Int32.toInt (hI.2 20 2 rfl)
    have f7 := Inv.s hG hI (k := 20) (j := 2) rfl rfl
    refine Wp.deep (s_X5_indexOf_46 hG hI (by omega) (fun R8 hr8 => ?_)) (Nat.le_of_ble_eq_true rfl)
    refine ⟨fun hc9 => ?_, fun hc9 => ?_⟩
    · skip
      have f10 := ti_1
      exact hQ _ _ hI (by omega)
    · skip
      refine v_X5_isNewName_44_50 ?_
      have f10 := ti_3
      refine Wp.deep (s_X5_fail_44 hG hI (fun R11 M11 I11 hr11 => ?_)) (Nat.le_of_ble_eq_true rfl)
      refine ⟨dB01 (by omega), ?_⟩
      exact hQ _ _ I11 (by omega)
theorem s_X5_isWithin_44 {g : gM} {x1 : Int32} {x2 : Int32} {m : dM} {Q : Int32 → dM → Prop} (hG : Gd g) (hI : Inv g m) (hQ : ∀ (r : Int32) (m' : dM), Inv g m' → (0 ≤ r.toInt ∧ r.toInt ≤ 1) → Q r m') : c_X5_isWithin_44 3 x1 x2 m Q := by
  refine v_X5_isWithin_44 ?_
  refine Wp.deep (s_X8_numberAt_38 hG hI (fun R1 => ?_)) (Nat.le_of_ble_eq_true rfl)
  refine ⟨fun hc2 => ?_, fun hc2 => ?_⟩
  · skip
    refine v_X5_isWithin_44_22 ?_
    have f3 := ti_5
    refine Wp.deep (s_X5_fail_44 hG hI (fun R4 M4 I4 hr4 => ?_)) (Nat.le_of_ble_eq_true rfl)
    refine ⟨dB01 (by omega), ?_⟩
    exact hQ _ _ I4 (by omega)
  · skip
    refine ⟨fun hc3 => ?_, fun hc3 => ?_⟩
    · skip
      have f4 := ti_1
      have I5 : Inv g (dSet m 44 4 ((m.1 44 4) + (1 : Int32))) := (Inv.setA hI rfl)
      exact hQ _ _ I5 (by omega)
    · skip
      refine v_X5_isWithin_44_22 ?_
      have f4 := ti_5
      refine Wp.deep (s_X5_fail_44 hG hI (fun R5 M5 I5 hr5 => ?_)) (Nat.le_of_ble_eq_true rfl)
      refine ⟨dB01 (by omega), ?_⟩
      exact hQ _ _ I5 (by omega)
theorem s_X5_flatNamed_44 {g : gM} {m : dM} {Q : Int32 → dM → Prop} (hG : Gd g) (hI : Inv g m) (hQ : ∀ (r : Int32) (m' : dM), Inv g m' → (-1 ≤ r.toInt ∧ r.toInt ≤ 6) → Q r m') : c_X5_flatNamed_44 2 m Q := by
  refine v_X5_flatNamed_44 ?_
  refine Wp.deep (s_X8_nameAt_38 hG hI (fun R1 => ?_)) (Nat.le_of_ble_eq_true rfl)
  have f2 := congrArg Int32.toInt (hI.2 20 0 rfl)
  have f3 := Inv.s hG hI (k := 20) (j := 0) rfl rfl
  refine Wp.deep (s_X5_indexOf_45 hG hI (by omega) (fun R4 hr4 => ?_)) (Nat.le_of_ble_eq_true rfl)
  refine ⟨fun hc5 => ?_, fun hc5 => ?_⟩
  · skip
    refine v_X5_flatNamed_44_36 ?_
    exact hQ _ _ hI (by omega)
  · skip
    refine v_X5_flatNamed_44_36 ?_
    have I6 : Inv g (dSet m 44 5 (4 : Int32)) := (Inv.setA hI rfl)
    exact hQ _ _ I6 (by omega)
theorem s_X3_isWired_20_all {g : gM} {Q : Int32 → dM → Prop} {m : dM} (hG : Gd g) (hI : Inv g m) (hQ : ∀ r : Int32, (0 ≤ r.toInt ∧ r.toInt ≤ 1) → Q r m) : ∀ n : Nat, (∀ (x3 : Int32) (x4 : Int32), (0 ≤ x4.toInt ∧ x4.toInt ≤ 10) → 10 - 1 * x4.toInt < (n : Int) → j_X3_isWired_20_11 2 x3 x4 m Q) := by
  intro n
  induction n with
  | zero => exact fun x3 x4 h4 hμ => by exfalso; omega
  | succ n ih =>
    · intro x3 x4 h4 hμ
      refine v_X3_isWired_20_11 ?_
      have f1 := congrArg Int32.toInt (hI.2 20 1 rfl)
      have f2 := Inv.s hG hI (k := 20) (j := 1) rfl rfl
      refine ⟨fun hc3 => ?_, fun hc3 => ?_⟩
      · skip
        have f4 := ti_0
        exact hQ _ (by omega)
      · skip
        refine v_X3_endsOf_20 ?_
        refine ⟨by omega, ?_⟩
        refine ⟨by omega, ?_⟩
        have f4 := Inv.w hI (k := 22) (j := x4.toNatClampNeg) rfl
        have f5 := dShl8 (x := (m.1 22 x4.toNatClampNeg)) (by omega) (by omega)
        have f6 := Inv.w hI (k := 23) (j := x4.toNatClampNeg) rfl
        have f7 := dShl8 (x := (m.1 23 x4.toNatClampNeg)) (by omega) (by omega)
        refine ⟨fun hc8 => ?_, fun hc8 => ?_⟩
        · skip
          have f9 := dAddE (X := x4.toInt) (Y := 1) (x := x4) (y := (1 : Int32)) rfl (by decide) (by omega) (by omega)
          exact ih _ _ (by omega) (by omega)
        · skip
          have f9 := ti_1
          exact hQ _ (by omega)
theorem s_X3_isWired_20 {g : gM} {x1 : Int32} {x2 : Int32} {m : dM} {Q : Int32 → dM → Prop} (hG : Gd g) (hI : Inv g m) (hQ : ∀ r : Int32, (0 ≤ r.toInt ∧ r.toInt ≤ 1) → Q r m) : c_X3_isWired_20 2 x1 x2 m Q := by
  refine v_X3_isWired_20 ?_
  have f1 := ti_0
  exact (s_X3_isWired_20_all hG hI hQ 12) _ _ (by omega) (by omega)
theorem s_X5_takeSurge_44 {g : gM} {m : dM} {Q : Int32 → dM → Prop} (hG : Gd g) (hI : Inv g m) (hQ : ∀ (r : Int32) (m' : dM), Inv g m' → (0 ≤ r.toInt ∧ r.toInt ≤ 1) → Q r m') : c_X5_takeSurge_44 4 m Q := by
  refine v_X5_takeSurge_44 ?_
  refine Wp.deep (s_X8_numberAt_38 hG hI (fun R1 => ?_)) (Nat.le_of_ble_eq_true rfl)
  have I2 : Inv g (dSet m 20 3 R1) := (Inv.setA hI rfl)
  refine Wp.deep (s_X8_numberAt_38 hG I2 (fun R3 => ?_)) (Nat.le_of_ble_eq_true rfl)
  have f4 := ti_0
  have f5 := ti_100
  have I6 : Inv g (dSet (dSet m 20 3 R1) 20 4 R3) := (Inv.setA I2 rfl)
  refine Wp.deep (s_X5_isWithin_44 hG I6 (fun R7 M7 I7 hr7 => ?_)) (Nat.le_of_ble_eq_true rfl)
  refine ⟨fun hc8 => ?_, fun hc8 => ?_⟩
  · skip
    refine v_X5_takeSurge_44_62 ?_
    exact hQ _ _ I7 (by omega)
  · skip
    have f9 := ti_19
    refine Wp.deep (s_X5_isWithin_44 hG I7 (fun R10 M10 I10 hr10 => ?_)) (Nat.le_of_ble_eq_true rfl)
    refine ⟨fun hc11 => ?_, fun hc11 => ?_⟩
    · skip
      refine v_X5_takeSurge_44_62 ?_
      exact hQ _ _ I10 (by omega)
    · skip
      have f12 := ti_1
      exact hQ _ _ I10 (by omega)
theorem s_X5_takeCoins_44 {g : gM} {m : dM} {Q : Int32 → dM → Prop} (hG : Gd g) (hI : Inv g m) (hQ : ∀ (r : Int32) (m' : dM), Inv g m' → (0 ≤ r.toInt ∧ r.toInt ≤ 1) → Q r m') : c_X5_takeCoins_44 4 m Q := by
  refine v_X5_takeCoins_44 ?_
  refine Wp.deep (s_X8_numberAt_38 hG hI (fun R1 => ?_)) (Nat.le_of_ble_eq_true rfl)
  have f2 := ti_0
  have f3 := ti_999
  have I4 : Inv g (dSet m 20 5 R1) := (Inv.setA hI rfl)
  refine Wp.deep (s_X5_isWithin_44 hG I4 (fun R5 M5 I5 hr5 => ?_)) (Nat.le_of_ble_eq_true rfl)
  refine ⟨dB01 (by omega), ?_⟩
  exact hQ _ _ I5 (by omega)
theorem s_X5_takeSeed_44 {g : gM} {m : dM} {Q : Int32 → dM → Prop} (hG : Gd g) (hI : Inv g m) (hQ : ∀ (r : Int32) (m' : dM), Inv g m' → (0 ≤ r.toInt ∧ r.toInt ≤ 1) → Q r m') : c_X5_takeSeed_44 4 m Q := by
  refine v_X5_takeSeed_44 ?_
  refine Wp.deep (s_X8_numberAt_38 hG hI (fun R1 => ?_)) (Nat.le_of_ble_eq_true rfl)
  have f2 := ti_0
  have f3 := ti_9999
  have I4 : Inv g (dSet m 20 6 R1) := (Inv.setA hI rfl)
  refine Wp.deep (s_X5_isWithin_44 hG I4 (fun R5 M5 I5 hr5 => ?_)) (Nat.le_of_ble_eq_true rfl)
  refine ⟨dB01 (by omega), ?_⟩
  exact hQ _ _ I5 (by omega)
theorem s_X5_skipEnd_44_all {g : gM} {Q : dM → Prop} (hG : Gd g) (hQ : ∀ m' : dM, Inv g m' → Q m') : ∀ n : Nat, (∀ (m : dM), Inv g m → (-2147483647 ≤ (m.1 44 4).toInt ∧ (m.1 44 4).toInt ≤ 400) → 401 - 1 * (m.1 44 4).toInt < (n : Int) → j_X5_skipEnd_44_0 2 m Q) ∧ (∀ (m : dM), Inv g m → (0 ≤ (m.1 44 4).toInt) → 0 < (n : Int) → j_X5_skipEnd_44_39 2 m Q) := by
  intro n
  induction n with
  | zero => exact ⟨fun m hI hk44_4 hμ => by have hz0 := e_lo (m.1 44 4); have hz1 := e_hi (m.1 44 4); exfalso; omega, fun m hI hk44_4 hμ => by exfalso; omega⟩
  | succ n ih =>
    refine ⟨?_, ?_⟩
    · intro m hI hk44_4 hμ
      have hz0 := e_lo (m.1 44 4)
      have hz1 := e_hi (m.1 44 4)
      refine v_X5_skipEnd_44_0 ?_
      refine ⟨fun hc1 => ?_, fun hc1 => ?_⟩
      · skip
        exact ih.2 _ hI (by omega) (by omega)
      · skip
        refine v_X8_kindAt_38 ?_
        refine ⟨fun hc2 => ?_, fun hc2 => ?_⟩
        · skip
          refine v_X8_kindAt_38_20 ?_
          have f3 := ti_24
          refine ⟨fun hc4 => ?_, fun hc4 => ?_⟩
          · skip
            exfalso; omega
          · skip
            have I5 : Inv g (dSet m 44 4 ((m.1 44 4) + (1 : Int32))) := (Inv.setA hI rfl)
            have f6 := dAddE (X := (m.1 44 4).toInt) (Y := 1) (x := (m.1 44 4)) (y := (1 : Int32)) rfl (by decide) (by omega) (by omega)
            have f7 : ((dSet m 44 4 ((m.1 44 4) + (1 : Int32))).1 44 4).toInt = ((m.1 44 4) + (1 : Int32)).toInt := rfl
            exact ih.1 _ I5 (by omega) (by omega)
        · skip
          refine ⟨fun hc3 => ?_, fun hc3 => ?_⟩
          · skip
            exfalso; omega
          · skip
            refine ⟨by omega, ?_⟩
            refine ⟨fun hc4 => ?_, fun hc4 => ?_⟩
            · skip
              exact ih.2 _ hI (by omega) (by omega)
            · skip
              have I5 : Inv g (dSet m 44 4 ((m.1 44 4) + (1 : Int32))) := (Inv.setA hI rfl)
              have f6 := dAddE (X := (m.1 44 4).toInt) (Y := 1) (x := (m.1 44 4)) (y := (1 : Int32)) rfl (by decide) (by omega) (by omega)
              have f7 : ((dSet m 44 4 ((m.1 44 4) + (1 : Int32))).1 44 4).toInt = ((m.1 44 4) + (1 : Int32)).toInt := rfl
              exact ih.1 _ I5 (by omega) (by omega)
    · intro m hI hk44_4 hμ
      refine v_X5_skipEnd_44_39 ?_
      have I1 : Inv g (dSet m 44 4 ((m.1 44 4) + (1 : Int32))) := (Inv.setA hI rfl)
      exact hQ _ I1
theorem s_X5_skipEnd_44 {g : gM} {m : dM} {Q : dM → Prop} (hG : Gd g) (hI : Inv g m) (hQ : ∀ m' : dM, Inv g m' → Q m') : c_X5_skipEnd_44 2 m Q := by
  have hz2 := e_lo (m.1 44 4)
  have hz3 := e_hi (m.1 44 4)
  refine v_X5_skipEnd_44 ?_
  refine ⟨fun hc1 => ?_, fun hc1 => ?_⟩
  · skip
    exact (s_X5_skipEnd_44_all hG hQ 2147484050).2 _ hI (by omega) (by omega)
  · skip
    refine v_X8_kindAt_38 ?_
    refine ⟨fun hc2 => ?_, fun hc2 => ?_⟩
    · skip
      refine v_X8_kindAt_38_20 ?_
      have f3 := ti_24
      refine ⟨fun hc4 => ?_, fun hc4 => ?_⟩
      · skip
        exfalso; omega
      · skip
        have I5 : Inv g (dSet m 44 4 ((m.1 44 4) + (1 : Int32))) := (Inv.setA hI rfl)
        have f6 := dAddE (X := (m.1 44 4).toInt) (Y := 1) (x := (m.1 44 4)) (y := (1 : Int32)) rfl (by decide) (by omega) (by omega)
        have f7 : ((dSet m 44 4 ((m.1 44 4) + (1 : Int32))).1 44 4).toInt = ((m.1 44 4) + (1 : Int32)).toInt := rfl
        have hz0 := e_lo (m.1 44 4)
        have hz1 := e_hi (m.1 44 4)
        exact (s_X5_skipEnd_44_all hG hQ 2147484050).1 _ I5 (by omega) (by omega)
    · skip
      refine ⟨fun hc3 => ?_, fun hc3 => ?_⟩
      · skip
        exfalso; omega
      · skip
        refine ⟨by omega, ?_⟩
        refine ⟨fun hc4 => ?_, fun hc4 => ?_⟩
        · skip
          exact (s_X5_skipEnd_44_all hG hQ 2147484050).2 _ hI (by omega) (by omega)
        · skip
          have I5 : Inv g (dSet m 44 4 ((m.1 44 4) + (1 : Int32))) := (Inv.setA hI rfl)
          have f6 := dAddE (X := (m.1 44 4).toInt) (Y := 1) (x := (m.1 44 4)) (y := (1 : Int32)) rfl (by decide) (by omega) (by omega)
          have f7 : ((dSet m 44 4 ((m.1 44 4) + (1 : Int32))).1 44 4).toInt = ((m.1 44 4) + (1 : Int32)).toInt := rfl
          have hz0 := e_lo (m.1 44 4)
          have hz1 := e_hi (m.1 44 4)
          exact (s_X5_skipEnd_44_all hG hQ 2147484050).1 _ I5 (by omega) (by omega)
theorem s_X10_houseIsNew_57 {g : gM} {m : dM} {Q : dM → Prop} (hG : Gd g) (hI : Inv g m) (hQ : ∀ m' : dM, Inv g m' → Q m') : c_X10_houseIsNew_57 1 m Q := by
  refine v_X10_houseIsNew_57 ?_
  have I1 : Inv g (dSet m 57 1 (-1 : Int32)) := (Inv.setA hI rfl)
  exact hQ _ I1
