/-! THE CLASS: what writes at what stays (by hand) -/
def T2 (m m' : dM) : Prop := m'.1 0 1 = m.1 0 1 ∧ m'.1 70 2 = m.1 70 2
def Hm (m : dM) : Prop := ∀ u : Nat, (u : Int) < (m.1 20 2).toInt → 0 ≤ (m.1 25 u).toInt ∧ (m.1 25 u).toInt ≤ 6
theorem T2.of {m m' : dM} (h : Inv m.1 m') : T2 m m' := ⟨h.2 0 1 rfl, h.2 70 2 rfl⟩
theorem T2.tr {a b c : dM} (h : T2 a b) (h' : T2 b c) : T2 a c := ⟨h'.1.trans h.1, h'.2.trans h.2⟩
theorem Hm.of {m m' : dM} (h : Inv m.1 m') (hH : Hm m) : Hm m' := by
  unfold Hm
  rw [h.2 20 2 rfl, h.cell (k := 25) (fun _ => rfl)]
  exact hH
theorem m_X3_clear_20 {m : dM} {Q : dM → Prop} (hO : Ok m) (hQ : ∀ m', Ok m' → T2 m m' → (m'.1 20 2).toInt = 0 → Q m') : c_X3_clear_20 3 m Q := by
  refine v_X3_clear_20 ?_
  have O1 : Ok (dSet (dSet (dSet (dSet (dSet (dSet (dSet m 20 0 (0 : Int32)) 20 1 (0 : Int32)) 20 2 (0 : Int32)) 20 3 (0 : Int32)) 20 4 (0 : Int32)) 20 5 (100 : Int32)) 20 6 (0 : Int32)) := by
    refine Ok.setA (Ok.setA (Ok.setA (Ok.setA (Ok.set1 (lo := 0) (hi := 8) (Ok.set1 (lo := 0) (hi := 10) (Ok.set1 (lo := 0) (hi := 7) hO (Or.inr (Or.inl rfl)) rfl rfl (by decide) (by decide)) (Or.inr (Or.inl rfl)) rfl rfl (by decide) (by decide)) (Or.inr (Or.inl rfl)) rfl rfl (by decide) (by decide)) rfl) rfl) rfl) rfl
  refine Wp.deep (s_X4_clear_29 O1.1 O1.2 (fun m' I' => ?_)) (Nat.le_of_ble_eq_true rfl)
  refine hQ _ (Ok.of O1.1 I') ⟨I'.2 0 1 rfl, I'.2 70 2 rfl⟩ ?_
  rw [I'.2 20 2 rfl]
  rfl
theorem m_X5_flatNamed {m : dM} {Q : Int32 → dM → Prop} (hO : Ok m) (hQ : ∀ (r : Int32) (m' : dM), Inv m.1 m' → (-1 ≤ r.toInt ∧ r.toInt ≤ 6) → (r.toInt = -1 → (m'.1 44 5).toInt = 4) → Q r m') : c_X5_flatNamed_44 2 m Q := by
  refine v_X5_flatNamed_44 ?_
  refine Wp.deep (s_X8_nameAt_38 hO.1 hO.2 (fun r1 => ?_)) (Nat.le_of_ble_eq_true rfl)
  have b := hO.s (k := 20) (j := 0) rfl
  refine Wp.deep (s_X5_indexOf_45 hO.1 hO.2 b (fun r2 hr2 => ?_)) (Nat.le_of_ble_eq_true rfl)
  refine ⟨fun hc => ?_, fun hc => ?_⟩
  · refine v_X5_flatNamed_44_36 ?_
    exact hQ _ _ hO.2 hr2 (fun h => absurd h hc)
  · refine v_X5_flatNamed_44_36 ?_
    exact hQ _ _ (Inv.setA hO.2 rfl) hr2 (fun _ => rfl)
theorem m_X5_takeFlat_44 {m : dM} {Q : Int32 → dM → Prop} (hO : Ok m) (hH : Hm m) (hQ : ∀ (r : Int32) (m' : dM), Ok m' → T2 m m' → ((m'.1 44 5).toInt = 0 ∨ r.toInt ≠ 0 → Hm m') → (0 ≤ r.toInt ∧ r.toInt ≤ 1) → Q r m') : c_X5_takeFlat_44 6 m Q := by
  refine v_X5_takeFlat_44 ?_
  have b0 := hO.s (k := 20) (j := 0) rfl
  refine ⟨fun hc => ?_, fun hc => ?_⟩
  · refine Wp.deep (s_X5_isNewName_44 hO.1 hO.2 (fun r1 m1 I1 hr1 => ?_)) (Nat.le_of_ble_eq_true rfl)
    have O1 := Ok.of hO.1 I1
    refine ⟨fun hc1 => ?_, fun hc1 => ?_⟩
    · refine Wp.deep (s_X8_nameAt_38 O1.1 O1.2 (fun r2 => ?_)) (Nat.le_of_ble_eq_true rfl)
      refine ⟨by omega, ?_⟩
      have O2 : Ok (dSet (dSetL m1 45 (m.1 20 0).toNatClampNeg r2) 44 4 ((m1.1 44 4) + (1 : Int32))) := Ok.setA (Ok.setL O1) rfl
      refine Wp.deep (s_X8_numberAt_38 O2.1 O2.2 (fun r3 => ?_)) (Nat.le_of_ble_eq_true rfl)
      refine ⟨by omega, ?_⟩
      have e0 : m1.1 20 0 = m.1 20 0 := I1.2 20 0 rfl
      have f := dAddE (X := (m1.1 20 0).toInt) (Y := 1) (x := m1.1 20 0) (y := (1 : Int32)) rfl (by decide) (by rw [e0]; omega) (by rw [e0]; omega)
      rw [e0] at f
      have O3 : Ok (dSet (dSet (dSet (dSetL m1 45 (m.1 20 0).toNatClampNeg r2) 44 4 ((m1.1 44 4) + (1 : Int32))) 21 (m.1 20 0).toNatClampNeg r3) 20 0 ((m1.1 20 0) + (1 : Int32))) :=
        Ok.set1 (lo := 0) (hi := 7) (Ok.setA O2 rfl) (Or.inr (Or.inl rfl)) rfl rfl (by rw [e0]; omega) (by rw [e0]; omega)
      refine Wp.deep (s_X5_isWithin_44 O3.1 O3.2 (fun r4 m4 I4 hr4 => ?_)) (Nat.le_of_ble_eq_true rfl)
      refine ⟨dB01 hr4, hQ _ _ (Ok.of O3.1 I4) ((T2.of I1).tr ⟨I4.2 0 1 rfl, I4.2 70 2 rfl⟩) (fun _ => ?_) hr4⟩
      exact Hm.of I4 (show Hm m1 from Hm.of I1 hH)
    · exact hQ _ _ O1 (T2.of I1) (fun _ => Hm.of I1 hH) (by decide)
  · refine Wp.deep (s_X5_fail_44 hO.1 hO.2 (fun r5 m5 I5 hr5 => ?_)) (Nat.le_of_ble_eq_true rfl)
    exact ⟨dB01 (by omega), hQ _ _ (Ok.of hO.1 I5) (T2.of I5) (fun _ => Hm.of I5 hH) (by omega)⟩
theorem m_X5_takeWire_44 {m : dM} {Q : Int32 → dM → Prop} (hO : Ok m) (hH : Hm m) (hQ : ∀ (r : Int32) (m' : dM), Ok m' → T2 m m' → ((m'.1 44 5).toInt = 0 ∨ r.toInt ≠ 0 → Hm m') → (0 ≤ r.toInt ∧ r.toInt ≤ 1) → Q r m') : c_X5_takeWire_44 6 m Q := by
  have fin : ∀ m2 : dM, Ok m2 → T2 m m2 → Hm m2 → j_X5_takeWire_44_71 6 m2 Q := by
    intro m2 O2 h1 h2
    refine v_X5_takeWire_44_71 ?_
    refine Wp.deep (s_X5_fail_44 O2.1 O2.2 (fun r5 m5 I5 hr5 => ?_)) (Nat.le_of_ble_eq_true rfl)
    exact ⟨dB01 (by omega), hQ _ _ (Ok.of O2.1 I5) (h1.tr (T2.of I5)) (fun _ => Hm.of I5 h2) (by omega)⟩
  refine v_X5_takeWire_44 ?_
  have b0 := hO.s (k := 20) (j := 1) rfl
  refine ⟨fun hc => ?_, fun hc => ?_⟩
  · refine Wp.deep (s_X5_flatNamed_44 hO.1 hO.2 (fun r1 m1 I1 hr1 => ?_)) (Nat.le_of_ble_eq_true rfl)
    have O1 := Ok.of hO.1 I1
    refine ⟨fun hc1 => ?_, fun hc1 => ?_⟩
    · have O1' : Ok (dSet m1 44 4 ((m1.1 44 4) + (1 : Int32))) := Ok.setA O1 rfl
      refine Wp.deep (s_X5_flatNamed_44 O1'.1 O1'.2 (fun r2 m2 I2 hr2 => ?_)) (Nat.le_of_ble_eq_true rfl)
      have O2 := Ok.of O1'.1 I2
      have t2 : T2 m m2 := (T2.of I1).tr ⟨I2.2 0 1 rfl, I2.2 70 2 rfl⟩
      have hH2 : Hm m2 := Hm.of I2 (show Hm m1 from Hm.of I1 hH)
      refine ⟨fun hc2 => ?_, fun hc2 => ?_⟩
      · refine ⟨fun hc3 => fin _ O2 t2 hH2, fun hc3 => ?_⟩
        refine Wp.deep (s_X3_isWired_20 O2.1 O2.2 (fun r3 hr3 => ?_)) (Nat.le_of_ble_eq_true rfl)
        refine ⟨fun hc4 => ?_, fun hc4 => fin _ O2 t2 hH2⟩
        refine ⟨by omega, ⟨by omega, ?_⟩⟩
        have O3 : Ok (dSet (dSet (dSet m2 44 4 ((m2.1 44 4) + (1 : Int32))) 22 (m.1 20 1).toNatClampNeg r1) 23 (m.1 20 1).toNatClampNeg r2) :=
          Ok.set (Ok.set (Ok.setA O2 rfl) (show wT 22 _ = some (0, 6) from rfl) (by omega) (by omega)) (show wT 23 _ = some (0, 6) from rfl) (by omega) (by omega)
        refine Wp.deep (s_X8_numberAt_38 O3.1 O3.2 (fun r4 => ?_)) (Nat.le_of_ble_eq_true rfl)
        refine ⟨by omega, ?_⟩
        have e0 : m2.1 20 1 = m.1 20 1 := (I2.2 20 1 rfl).trans (I1.2 20 1 rfl)
        have f := dAddE (X := (m2.1 20 1).toInt) (Y := 1) (x := m2.1 20 1) (y := (1 : Int32)) rfl (by decide) (by rw [e0]; omega) (by rw [e0]; omega)
        rw [e0] at f
        have O4 : Ok (dSet (dSet (dSet (dSet (dSet m2 44 4 ((m2.1 44 4) + (1 : Int32))) 22 (m.1 20 1).toNatClampNeg r1) 23 (m.1 20 1).toNatClampNeg r2) 24 (m.1 20 1).toNatClampNeg r4) 20 1 ((m2.1 20 1) + (1 : Int32))) :=
          Ok.set1 (lo := 0) (hi := 10) (Ok.setA O3 rfl) (Or.inr (Or.inl rfl)) rfl rfl (by rw [e0]; omega) (by rw [e0]; omega)
        refine Wp.deep (s_X5_isWithin_44 O4.1 O4.2 (fun r5 m5 I5 hr5 => ?_)) (Nat.le_of_ble_eq_true rfl)
        exact ⟨dB01 hr5, hQ _ _ (Ok.of O4.1 I5) (t2.tr ⟨I5.2 0 1 rfl, I5.2 70 2 rfl⟩) (fun _ => Hm.of I5 (show Hm m2 from hH2)) hr5⟩
      · exact hQ _ _ O2 t2 (fun _ => hH2) (by decide)
    · exact hQ _ _ O1 (T2.of I1) (fun _ => Hm.of I1 hH) (by decide)
  · refine Wp.deep (s_X5_fail_44 hO.1 hO.2 (fun r5 m5 I5 hr5 => ?_)) (Nat.le_of_ble_eq_true rfl)
    exact ⟨dB01 (by omega), hQ _ _ (Ok.of hO.1 I5) (T2.of I5) (fun _ => Hm.of I5 hH) (by omega)⟩
theorem m_X5_takeUse_44 {m : dM} {Q : Int32 → dM → Prop} (hO : Ok m) (hH : Hm m) (hQ : ∀ (r : Int32) (m' : dM), Ok m' → T2 m m' → ((m'.1 44 5).toInt = 0 ∨ r.toInt ≠ 0 → Hm m') → (0 ≤ r.toInt ∧ r.toInt ≤ 1) → Q r m') : c_X5_takeUse_44 6 m Q := by
  refine v_X5_takeUse_44 ?_
  have b0 := hO.s (k := 20) (j := 2) rfl
  refine ⟨fun hc => ?_, fun hc => ?_⟩
  · refine Wp.deep (s_X5_isNewName_44 hO.1 hO.2 (fun r1 m1 I1 hr1 => ?_)) (Nat.le_of_ble_eq_true rfl)
    have O1 := Ok.of hO.1 I1
    refine ⟨fun hc1 => ?_, fun hc1 => ?_⟩
    · refine Wp.deep (s_X8_nameAt_38 O1.1 O1.2 (fun r2 => ?_)) (Nat.le_of_ble_eq_true rfl)
      refine ⟨by omega, ?_⟩
      have e0 : m1.1 20 2 = m.1 20 2 := I1.2 20 2 rfl
      have f := dAddE (X := (m1.1 20 2).toInt) (Y := 1) (x := m1.1 20 2) (y := (1 : Int32)) rfl (by decide) (by rw [e0]; omega) (by rw [e0]; omega)
      rw [e0] at f
      have O2 : Ok (dSet (dSet (dSetL m1 46 (m.1 20 2).toNatClampNeg r2) 20 2 ((m1.1 20 2) + (1 : Int32))) 44 4 ((m1.1 44 4) + (1 : Int32))) :=
        Ok.setA (Ok.set1 (lo := 0) (hi := 8) (Ok.setL O1) (Or.inr (Or.inl rfl)) rfl rfl (by rw [e0]; omega) (by rw [e0]; omega)) rfl
      refine Wp.deep (m_X5_flatNamed O2 (fun r3 m3 I3 hr3 hf3 => ?_)) (Nat.le_of_ble_eq_true rfl)
      have O3 := Ok.of O2.1 I3
      have t3 : T2 m m3 := (T2.of I1).tr ⟨I3.2 0 1 rfl, I3.2 70 2 rfl⟩
      have e3 : m3.1 20 2 = m.1 20 2 + 1 := (I3.2 20 2 rfl).trans (by show m1.1 20 2 + 1 = _; rw [e0])
      have e25 : m3.1 25 = m.1 25 := (I3.cell (k := 25) (fun _ => rfl)).trans (I1.cell (k := 25) (fun _ => rfl))
      refine ⟨by omega, ⟨by omega, ?_⟩⟩
      have O4 : Ok (dSet m3 25 (m.1 20 2).toNatClampNeg r3) := Ok.set1 (lo := -1) (hi := 6) O3 (Or.inr (Or.inr rfl)) rfl rfl (by omega) (by omega)
      refine ⟨fun hc3 => ?_, fun hc3 => ?_⟩
      · have hH4 : Hm (dSet m3 25 (m.1 20 2).toNatClampNeg r3) := by
          intro u hu
          have hu : (u : Int) < (m3.1 20 2).toInt := hu
          rw [e3] at hu
          rw [dSet_e]
          by_cases hq : u = (m.1 20 2).toNatClampNeg
          · rw [if_pos ⟨rfl, hq⟩]; omega
          · rw [if_neg (fun z => hq z.2), e25]
            have := d_cl b0.1
            exact hH u (by omega)
        have O5 : Ok (dSet (dSet m3 25 (m.1 20 2).toNatClampNeg r3) 44 4 ((m3.1 44 4) + (1 : Int32))) := Ok.setA O4 rfl
        refine Wp.deep (s_X8_numberAt_38 O5.1 O5.2 (fun r4 => ?_)) (Nat.le_of_ble_eq_true rfl)
        refine ⟨by omega, ?_⟩
        have O6 : Ok (dSet (dSet (dSet m3 25 (m.1 20 2).toNatClampNeg r3) 44 4 ((m3.1 44 4) + (1 : Int32))) 26 (m.1 20 2).toNatClampNeg r4) := Ok.setA O5 rfl
        refine Wp.deep (s_X8_numberAt_38 O6.1 O6.2 (fun r5 => ?_)) (Nat.le_of_ble_eq_true rfl)
        refine ⟨by omega, ?_⟩
        have O7 : Ok (dSet (dSet (dSet (dSet m3 25 (m.1 20 2).toNatClampNeg r3) 44 4 ((m3.1 44 4) + (1 : Int32))) 26 (m.1 20 2).toNatClampNeg r4) 27 (m.1 20 2).toNatClampNeg r5) := Ok.setA O6 rfl
        refine Wp.deep (s_X8_numberAt_38 O7.1 O7.2 (fun r6 => ?_)) (Nat.le_of_ble_eq_true rfl)
        refine ⟨by omega, ?_⟩
        have O8 : Ok (dSet (dSet (dSet (dSet (dSet m3 25 (m.1 20 2).toNatClampNeg r3) 44 4 ((m3.1 44 4) + (1 : Int32))) 26 (m.1 20 2).toNatClampNeg r4) 27 (m.1 20 2).toNatClampNeg r5) 28 (m.1 20 2).toNatClampNeg r6) := Ok.setA O7 rfl
        refine Wp.deep (s_X5_isWithin_44 O8.1 O8.2 (fun r7 m7 I7 hr7 => ?_)) (Nat.le_of_ble_eq_true rfl)
        have O9 := Ok.of O8.1 I7
        have hH7 : Hm m7 := Hm.of I7 (show Hm (dSet m3 25 (m.1 20 2).toNatClampNeg r3) from hH4)
        have t7 : T2 m m7 := t3.tr ⟨I7.2 0 1 rfl, I7.2 70 2 rfl⟩
        have fin : ∀ m8 : dM, Inv m7.1 m8 → j_X5_takeUse_44_213 6 m8 Q := fun m8 I8 => by
          refine v_X5_takeUse_44_213 ?_
          exact hQ _ _ (Ok.of O9.1 I8) (t7.tr (T2.of I8)) (fun _ => Hm.of I8 hH7) (by decide)
        refine ⟨fun hc7 => fin _ O9.2, fun hc7 => ?_⟩
        refine Wp.deep (s_X5_isWithin_44 O9.1 O9.2 (fun r8 m8 I8 hr8 => ?_)) (Nat.le_of_ble_eq_true rfl)
        refine ⟨fun hc8 => fin _ I8, fun hc8 => ?_⟩
        refine ⟨by omega, ?_⟩
        refine Wp.deep (s_X5_isWithin_44 O9.1 I8 (fun r9 m9 I9 hr9 => ?_)) (Nat.le_of_ble_eq_true rfl)
        refine ⟨fun hc9 => fin _ I9, fun hc9 => ?_⟩
        exact hQ _ _ (Ok.of O9.1 I9) (t7.tr (T2.of I9)) (fun _ => Hm.of I9 hH7) (by decide)
      · refine hQ _ _ O4 ⟨t3.1, t3.2⟩ (fun h => ?_) (by decide)
        rcases h with h | h
        · have h : (m3.1 44 5).toInt = 0 := h
          rw [hf3 hc3] at h
          exact absurd h (by decide)
        · exact absurd rfl h
    · exact hQ _ _ O1 (T2.of I1) (fun _ => Hm.of I1 hH) (by decide)
  · refine Wp.deep (s_X5_fail_44 hO.1 hO.2 (fun r5 m5 I5 hr5 => ?_)) (Nat.le_of_ble_eq_true rfl)
    exact ⟨dB01 (by omega), hQ _ _ (Ok.of hO.1 I5) (T2.of I5) (fun _ => Hm.of I5 hH) (by omega)⟩
theorem m_X5_takeTold_44 {x1 : Int32} {m : dM} {Q : Int32 → dM → Prop} (hO : Ok m) (hH : Hm m) (hQ : ∀ (r : Int32) (m' : dM), Ok m' → T2 m m' → ((m'.1 44 5).toInt = 0 ∨ r.toInt ≠ 0 → Hm m') → (0 ≤ r.toInt ∧ r.toInt ≤ 1) → Q r m') : c_X5_takeTold_44 7 x1 m Q := by
  refine v_X5_takeTold_44 ?_
  have tri : Q (1 : Int32) m := hQ _ _ hO ⟨rfl, rfl⟩ (fun _ => hH) (by decide)
  refine ⟨fun _ => ?_, fun _ => ?_, fun _ => ?_, fun _ => tri, fun _ => tri, fun _ => tri, fun _ => tri, fun _ => ?_, fun _ => ?_, fun _ => ?_, fun _ => tri⟩
  · exact Wp.deep (m_X5_takeFlat_44 hO hH (fun r m' a b c e => ⟨dB01 e, hQ r m' a b c e⟩)) (Nat.le_of_ble_eq_true rfl)
  · exact Wp.deep (m_X5_takeWire_44 hO hH (fun r m' a b c e => ⟨dB01 e, hQ r m' a b c e⟩)) (Nat.le_of_ble_eq_true rfl)
  · exact Wp.deep (m_X5_takeUse_44 hO hH (fun r m' a b c e => ⟨dB01 e, hQ r m' a b c e⟩)) (Nat.le_of_ble_eq_true rfl)
  · exact Wp.deep (s_X5_takeSurge_44 hO.1 hO.2 (fun r m' I e => ⟨dB01 e, hQ r m' (Ok.of hO.1 I) (T2.of I) (fun _ => Hm.of I hH) e⟩)) (Nat.le_of_ble_eq_true rfl)
  · exact Wp.deep (s_X5_takeCoins_44 hO.1 hO.2 (fun r m' I e => ⟨dB01 e, hQ r m' (Ok.of hO.1 I) (T2.of I) (fun _ => Hm.of I hH) e⟩)) (Nat.le_of_ble_eq_true rfl)
  · exact Wp.deep (s_X5_takeSeed_44 hO.1 hO.2 (fun r m' I e => ⟨dB01 e, hQ r m' (Ok.of hO.1 I) (T2.of I) (fun _ => Hm.of I hH) e⟩)) (Nat.le_of_ble_eq_true rfl)
theorem m_X8_kindAt {x1 : Int32} {m : dM} {Q : Int32 → dM → Prop} (hQ : ∀ r, Q r m) : c_X8_kindAt_38 1 x1 m Q := by
  refine v_X8_kindAt_38 ?_
  refine ⟨fun _ => v_X8_kindAt_38_20 (hQ _), fun h1 => ⟨fun _ => v_X8_kindAt_38_20 (hQ _), fun h2 => ⟨by omega, hQ _⟩⟩⟩
theorem m_X5_check_44 {m0 : dM} {Q : Int32 → dM → Prop} (hQ : ∀ (r : Int32) (m' : dM), Ok m' → T2 m0 m' → (r.toInt = 0 → Hm m') → Q r m') : ∀ n : Nat, (∀ (x1 : Int32) (m : dM), Ok m → T2 m0 m → ((m.1 44 5).toInt = 0 → Hm m) → 0 ≤ x1.toInt ∧ x1.toInt ≤ 401 → 401 - x1.toInt < (n : Int) → j_X5_check_44_12 9 x1 m Q) := by
  intro n
  have fin : ∀ m : dM, Ok m → T2 m0 m → ((m.1 44 5).toInt = 0 → Hm m) → j_X5_check_44_82 9 m Q := fun m hO ht hH => by
    refine v_X5_check_44_82 ?_
    exact hQ _ _ hO ht hH
  induction n with
  | zero => intro x1 m hO ht hH h1 hμ; exfalso; omega
  | succ n ih =>
    intro x1 m hO ht hH h1 hμ
    have back : ∀ m' : dM, x1.toInt ≤ 400 → Ok m' → T2 m0 m' → ((m'.1 44 5).toInt = 0 → Hm m') → j_X5_check_44_76 9 x1 m' Q := fun m' hx a b c => by
      refine v_X5_check_44_76 ?_
      have f := dAddE (X := x1.toInt) (Y := 1) (x := x1) (y := (1 : Int32)) rfl (by decide) (by omega) (by omega)
      exact ih _ _ a b c (by omega) (by omega)
    refine v_X5_check_44_12 ?_
    refine ⟨fun hc => fin m hO ht hH, fun hc => ⟨fun hc1 => fin m hO ht hH, fun hc1 => ?_⟩⟩
    refine Wp.deep (m_X8_kindAt (fun r1 => ?_)) (Nat.le_of_ble_eq_true rfl)
    refine ⟨fun hc2 => fin m hO ht hH, fun hc2 => ?_⟩
    refine Wp.deep (m_X8_kindAt (fun r2 => ?_)) (Nat.le_of_ble_eq_true rfl)
    have O1 : Ok (dSet m 44 4 ((m.1 44 4) + (1 : Int32))) := Ok.setA hO rfl
    refine Wp.deep (m_X5_takeTold_44 O1 (show Hm m from hH hc1) (fun r3 m3 O3 t3 hH3 hr3 => ?_)) (Nat.le_of_ble_eq_true rfl)
    have t3' : T2 m0 m3 := ht.tr ⟨t3.1, t3.2⟩
    refine ⟨fun hc3 => back _ hc O3 t3' (fun h => hH3 (Or.inl h)), fun hc3 => ?_⟩
    refine Wp.deep (s_X5_skipEnd_44 O3.1 O3.2 (fun m4 I4 => ?_)) (Nat.le_of_ble_eq_true rfl)
    exact back _ hc (Ok.of O3.1 I4) (t3'.tr (T2.of I4)) (fun _ => Hm.of I4 (hH3 (Or.inr hc3)))
theorem m_X5_check {m : dM} {Q : Int32 → dM → Prop} (hO : Ok m) (hH : Hm m) (hQ : ∀ (r : Int32) (m' : dM), Ok m' → T2 m m' → (r.toInt = 0 → Hm m') → Q r m') : c_X5_check_44 9 m Q := by
  refine v_X5_check_44 ?_
  have O1 : Ok (dSet (dSet m 44 4 (0 : Int32)) 44 5 (0 : Int32)) := Ok.setA (Ok.setA hO rfl) rfl
  exact m_X5_check_44 (m0 := m) hQ 500 _ _ O1 ⟨rfl, rfl⟩ (fun _ => hH) (by decide) (by decide)
