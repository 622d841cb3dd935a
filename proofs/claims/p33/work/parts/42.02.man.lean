theorem s_X1_cutBy_2 {g : gM} {x1 : Int32} {x2 : Int32} {x3 : Int32} {x4 : Int32} {m : dM} {Q : Int32 → dM → Prop} (hG : Gd g) (hI : Inv g m) (h1 : 0 ≤ x1.toInt ∧ x1.toInt ≤ 6) (h3 : 0 ≤ x3.toInt ∧ x3.toInt ≤ 11) (h4 : 0 ≤ x4.toInt ∧ x4.toInt ≤ 3) (hQ : ∀ r : Int32, Q r m) : c_X1_cutBy_2 20 x1 x2 x3 x4 m Q := by
  have hc : x4.toInt = 0 ∨ x4.toInt = 1 ∨ x4.toInt = 2 ∨ x4.toInt = 3 := by omega
  rcases hc with hc | hc | hc | hc
  · exact Wp.deep (s_X1_cutBy_2_L0 hG hI h1 h3 (by omega) hQ) (Nat.le_of_ble_eq_true rfl)
  · exact Wp.deep (s_X1_cutBy_2_L1 hG hI h1 h3 (by omega) hQ) (Nat.le_of_ble_eq_true rfl)
  · exact Wp.deep (s_X1_cutBy_2_L2 hG hI h1 h3 (by omega) hQ) (Nat.le_of_ble_eq_true rfl)
  · exact Wp.deep (s_X1_cutBy_2_L3 hG hI h1 h3 (by omega) hQ) (Nat.le_of_ble_eq_true rfl)
