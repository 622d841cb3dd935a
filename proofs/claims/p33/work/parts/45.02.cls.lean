/-! THE CLASS, 3: read, feed, back; the reference's feed, back -/
theorem m_X8_placeAt {x1 : Int32} {m : dM} {Q : Int32 → dM → Prop} (hQ : ∀ r, Q r m) : c_X8_placeAt_38 1 x1 m Q := by
  refine v_X8_placeAt_38 ?_
  refine ⟨fun _ => v_X8_placeAt_38_20 (hQ _), fun h1 => ⟨fun _ => v_X8_placeAt_38_20 (hQ _), fun h2 => ⟨by omega, hQ _⟩⟩⟩
theorem m_X2_faultAt {m : dM} {Q : Int32 → dM → Prop} (hQ : ∀ r, Q r m) : c_X2_faultAt_43 2 m Q := by
  refine v_X2_faultAt_43 ?_
  exact ⟨fun _ => Wp.deep (m_X8_placeAt hQ) (Nat.le_of_ble_eq_true rfl), fun _ => hQ _⟩
theorem m_X5_faultAt {m : dM} {Q : Int32 → dM → Prop} (hQ : ∀ r, Q r m) : c_X5_faultAt_44 2 m Q := by
  refine v_X5_faultAt_44 ?_
  exact ⟨fun _ => Wp.deep (m_X8_placeAt hQ) (Nat.le_of_ble_eq_true rfl), fun _ => hQ _⟩
theorem m_X11_read {m : dM} {Q : Int32 → dM → Prop} (hO : Ok m) (hQ : ∀ (r : Int32) (m' : dM), Ok m' → (m'.1 0 1).toInt = 0 → m'.1 70 2 = m.1 70 2 → Q r m') : c_X11_read_0 70 m Q := by
  have fin : ∀ (x1 : Int32) (m' : dM), Ok m' → (m'.1 0 1).toInt = 0 → m'.1 70 2 = m.1 70 2 → j_X11_read_0_123 70 x1 m' Q := fun x1 m' a b c => v_X11_read_0_123 (hQ _ _ a b c)
  have mid : ∀ (x1 : Int32) (m' : dM), Ok m' → (x1.toInt = 0 → Hm m') → (m'.1 0 1).toInt = 0 → m'.1 70 2 = m.1 70 2 → j_X11_read_0_69 70 x1 m' Q := fun x1 m' O hH b c => by
    refine v_X11_read_0_69 ?_
    refine ⟨fun _ => fin _ _ O b c, fun hc => ?_⟩
    refine Wp.deep (m_X3_copy O (hH hc) (fun m1 O1 t1 => ?_)) (Nat.le_of_ble_eq_true rfl)
    refine Wp.deep (s_X0_houseIsNew_54 O1.1 O1.2 (fun m2 I2 => ?_)) (Nat.le_of_ble_eq_true rfl)
    refine Wp.deep (s_X7_begin_47_2 O1.1 I2 (fun m3 I3 => ?_)) (Nat.le_of_ble_eq_true rfl)
    refine Wp.deep (s_X6_clear_51 O1.1 I3 (fun m4 I4 => ?_)) (Nat.le_of_ble_eq_true rfl)
    refine v_X6_clearSlots_51 (v_X9_clear_67 ?_)
    have t6 := t1.tr (T2.of I4)
    have O6 : Ok (dSet (dSet m4 51 4 (0 : Int32)) 67 3 (0 : Int32)) := Ok.gen (Ok.gen0 (Ok.of O1.1 I4) (by decide) rfl rfl) (by decide) (fun lo hi h => by
      rcases h with h | h
      · cases h
      · cases h; decide)
    refine fin _ _ O6 ?_ ?_
    · show (m4.1 0 1).toInt = 0
      rw [t6.1]; exact b
    · show m4.1 70 2 = m.1 70 2
      exact t6.2.trans c
  refine v_X11_read_0 ?_
  have b := hO.s (k := 0) (j := 1) rfl
  refine Wp.deep (s_X8_scan_38_1 hO.1 hO.2 b (fun m1 I1 => ?_)) (Nat.le_of_ble_eq_true rfl)
  have O1 : Ok (dSet m1 0 1 (0 : Int32)) := Ok.set1 (lo := 0) (hi := 2000) (Ok.of hO.1 I1) (Or.inl rfl) rfl rfl (by decide) (by decide)
  refine Wp.deep (m_X3_clear_20 O1 (fun m2 O2 t2 hu => ?_)) (Nat.le_of_ble_eq_true rfl)
  have a2 : (m2.1 0 1).toInt = 0 := by rw [t2.1]; rfl
  have c2 : m2.1 70 2 = m.1 70 2 := t2.2.trans (I1.2 70 2 rfl)
  have hH2 : Hm m2 := fun u h => by exfalso; omega
  refine Wp.deep (s_X2_check_43 O2.1 O2.2 (fun r3 m3 I3 => ?_)) (Nat.le_of_ble_eq_true rfl)
  refine Wp.deep (m_X2_faultAt (fun r4 => ?_)) (Nat.le_of_ble_eq_true rfl)
  have O4 : Ok (dSet m3 0 2 r4) := Ok.gen0 (Ok.of O2.1 I3) (by decide) rfl rfl
  have hH4 : Hm (dSet m3 0 2 r4) := show Hm m3 from Hm.of I3 hH2
  have a4 : ((dSet m3 0 2 r4).1 0 1).toInt = 0 := by show (m3.1 0 1).toInt = 0; rw [I3.2 0 1 rfl]; exact a2
  have c4 : (dSet m3 0 2 r4).1 70 2 = m.1 70 2 := by show m3.1 70 2 = _; rw [I3.2 70 2 rfl]; exact c2
  refine ⟨fun hc => mid _ _ O4 (fun h => absurd h hc) a4 c4, fun hc => ?_⟩
  refine Wp.deep (m_X5_check O4 hH4 (fun r5 m5 O5 t5 hH5 => ?_)) (Nat.le_of_ble_eq_true rfl)
  refine Wp.deep (m_X5_faultAt (fun r6 => ?_)) (Nat.le_of_ble_eq_true rfl)
  refine mid _ _ (Ok.gen0 O5 (by decide) rfl rfl) (fun h => show Hm m5 from hH5 h) ?_ ?_
  · show (m5.1 0 1).toInt = 0; rw [t5.1]; exact a4
  · exact t5.2.trans c4
theorem m_X11_putBytes_3 {x1 : Int32} {Q : dM → Prop} : ∀ (n : Nat) (x2 : Int32) (m : dM), x2.toInt = 8 * n - 8 → n ≤ 4 → (m.1 0 1).toInt + n ≤ 2000 → Ok m → (∀ m', Ok m' → m'.1 70 2 = m.1 70 2 → (m'.1 0 1).toInt = (m.1 0 1).toInt + n → Q m') → j_X11_putBytes_0_3 1 x1 x2 m Q := by
  intro n
  induction n with
  | zero =>
    intro x2 m hx hn ht hO hQ
    refine v_X11_putBytes_0_3 ?_
    exact ⟨fun _ => v_X11_putBytes_0_46 (hQ _ hO rfl (by omega)), fun h => by exfalso; omega⟩
  | succ n ih =>
    intro x2 m hx hn ht hO hQ
    have b := hO.s (k := 0) (j := 1) rfl
    refine v_X11_putBytes_0_3 ?_
    refine ⟨fun _ => by exfalso; omega, fun h => ⟨fun _ => by exfalso; omega, fun h2 => ⟨by omega, ?_⟩⟩⟩
    have f := dAddE (X := x2.toInt) (Y := -8) (x := x2) (y := (-8 : Int32)) rfl (by decide) (by omega) (by omega)
    have f2 := dAddE (X := (m.1 0 1).toInt) (Y := 1) (x := m.1 0 1) (y := (1 : Int32)) rfl (by decide) (by omega) (by omega)
    have e : ((dSet (dSet m 1 (m.1 0 1).toNatClampNeg (x1.toUInt32 >>> (x2.toUInt32 &&& Int32.toUInt32 31)).toInt32.toInt8.toInt32.toInt8.toInt32) 0 1 ((m.1 0 1) + (1 : Int32))).1 0 1).toInt = (m.1 0 1).toInt + 1 := f2
    refine ih _ _ (by omega) (by omega) (by omega) (Ok.set1 (lo := 0) (hi := 2000) (Ok.gen0 hO (by decide) rfl rfl) (Or.inl rfl) rfl rfl (by omega) (by omega)) (fun m' a b c => hQ m' a b (by omega))
theorem m_X11_putBytes {x1 : Int32} {m : dM} {Q : dM → Prop} (ht : (m.1 0 1).toInt + 4 ≤ 2000) (hO : Ok m) (hQ : ∀ m', Ok m' → m'.1 70 2 = m.1 70 2 → (m'.1 0 1).toInt = (m.1 0 1).toInt + 4 → Q m') : c_X11_putBytes_0 1 x1 m Q := by
  refine v_X11_putBytes_0 ?_
  exact m_X11_putBytes_3 4 _ _ (by decide) (by omega) ht hO hQ
theorem m_X11_feed {x1 x2 x3 x4 x5 : Int32} {m : dM} {Q : Int32 → dM → Prop} (hO : Ok m) (hQ : ∀ (r : Int32) (m' : dM), Ok m' → m'.1 70 2 = m.1 70 2 → (((m.1 0 1).toInt + 20 ≤ 2000 ∧ r.toInt = (m.1 0 1).toInt + 20 ∧ (m'.1 0 1).toInt = (m.1 0 1).toInt + 20) ∨ (2000 < (m.1 0 1).toInt + 20 ∧ r.toInt = -1 ∧ m'.1 0 1 = m.1 0 1)) → Q r m') : c_X11_feed_0 2 x1 x2 x3 x4 x5 m Q := by
  refine v_X11_feed_0 ?_
  have b := hO.s (k := 0) (j := 1) rfl
  have f := dAddE (X := (m.1 0 1).toInt) (Y := 20) (x := m.1 0 1) (y := (20 : Int32)) rfl (by decide) (by omega) (by omega)
  refine ⟨fun hc => ?_, fun hc => hQ _ _ hO rfl (Or.inr ⟨by omega, by decide, rfl⟩)⟩
  refine Wp.deep (m_X11_putBytes (by omega) hO (fun m1 O1 a1 b1 => ?_)) (Nat.le_of_ble_eq_true rfl)
  refine Wp.deep (m_X11_putBytes (by omega) O1 (fun m2 O2 a2 b2 => ?_)) (Nat.le_of_ble_eq_true rfl)
  refine Wp.deep (m_X11_putBytes (by omega) O2 (fun m3 O3 a3 b3 => ?_)) (Nat.le_of_ble_eq_true rfl)
  refine Wp.deep (m_X11_putBytes (by omega) O3 (fun m4 O4 a4 b4 => ?_)) (Nat.le_of_ble_eq_true rfl)
  refine Wp.deep (m_X11_putBytes (by omega) O4 (fun m5 O5 a5 b5 => ?_)) (Nat.le_of_ble_eq_true rfl)
  exact hQ _ _ O5 (by rw [a5, a4, a3, a2, a1]) (Or.inl ⟨by omega, by omega, by omega⟩)
theorem m_X11_back {x1 : Int32} {m : dM} {Q : Int32 → dM → Prop} (hO : Ok m) (hQ : ∀ (r : Int32) (m' : dM), Ok m' → m'.1 70 2 = m.1 70 2 → (((0 ≤ x1.toInt ∧ x1.toInt ≤ (m.1 0 1).toInt) ∧ r.toInt = (m.1 0 1).toInt - x1.toInt ∧ (m'.1 0 1).toInt = (m.1 0 1).toInt - x1.toInt) ∨ (¬ (0 ≤ x1.toInt ∧ x1.toInt ≤ (m.1 0 1).toInt) ∧ r.toInt = -1 ∧ m'.1 0 1 = m.1 0 1)) → Q r m') : c_X11_back_0 1 x1 m Q := by
  refine v_X11_back_0 ?_
  have b := hO.s (k := 0) (j := 1) rfl
  refine ⟨fun hc => v_X11_back_0_12 (hQ _ _ hO rfl (Or.inr ⟨by omega, by decide, rfl⟩)), fun hc => ⟨fun hc1 => ?_, fun hc1 => v_X11_back_0_12 (hQ _ _ hO rfl (Or.inr ⟨by omega, by decide, rfl⟩))⟩⟩
  have f := dSubE (X := (m.1 0 1).toInt) (Y := x1.toInt) (x := m.1 0 1) (y := x1) rfl rfl (by omega) (by omega)
  exact hQ _ _ (Ok.set1 (lo := 0) (hi := 2000) hO (Or.inl rfl) rfl rfl (by omega) (by omega)) rfl (Or.inl ⟨⟨hc, hc1⟩, by omega, f⟩)
/-- a store at a field of the reference that stays, not the live side -/
theorem Ok.set70 {m : dM} {j : Nat} {v : Int32} (hO : Ok m) (hj : j ≠ 18) (hb : ∀ lo hi, wT 70 j = some (lo, hi) ∨ sT 70 j = some (lo, hi) → lo ≤ v.toInt ∧ v.toInt ≤ hi) : Ok (dSet m 70 j v) := by
  refine Ok.mk (OkB.set hO.b hb) ?_
  have hne : ∀ c : Nat, c ≠ 70 → (dSet m 70 j v).1 c = m.1 c := fun c h => dSet_k h
  refine Gx_congr ?_ (dSet_j (fun h => hj h.symm)) (hne 7 (by omega)) (fun c h1 h2 => hne c (by omega)) hO.1.2
  rw [hne 2 (by omega)]
theorem m_X12_put_3 {x1 : Int32} {Q : dM → Prop} : ∀ (n : Nat) (x2 : Int32) (m : dM), x2.toInt = 8 * n - 8 → n ≤ 4 → (m.1 70 2).toInt + n ≤ 2000 → Ok m → (∀ m', Ok m' → m'.1 0 1 = m.1 0 1 → (m'.1 70 2).toInt = (m.1 70 2).toInt + n → Q m') → j_X12_put_70_3 1 x1 x2 m Q := by
  intro n
  induction n with
  | zero =>
    intro x2 m hx hn ht hO hQ
    refine v_X12_put_70_3 ?_
    exact ⟨fun _ => hQ _ hO rfl (by omega), fun h => by exfalso; omega⟩
  | succ n ih =>
    intro x2 m hx hn ht hO hQ
    have b := hO.s (k := 70) (j := 2) rfl
    refine v_X12_put_70_3 ?_
    refine ⟨fun _ => by exfalso; omega, fun h => ⟨by omega, ?_⟩⟩
    have f := dAddE (X := x2.toInt) (Y := -8) (x := x2) (y := (-8 : Int32)) rfl (by decide) (by omega) (by omega)
    have f2 := dAddE (X := (m.1 70 2).toInt) (Y := 1) (x := m.1 70 2) (y := (1 : Int32)) rfl (by decide) (by omega) (by omega)
    have e : ((dSet (dSet m 71 (m.1 70 2).toNatClampNeg (x1 >>> (x2 &&& 31)).toInt8.toInt32.toInt8.toInt32) 70 2 ((m.1 70 2) + (1 : Int32))).1 70 2).toInt = (m.1 70 2).toInt + 1 := f2
    refine ih _ _ (by omega) (by omega) (by omega) (Ok.set70 (Ok.gen0 hO (by decide) rfl rfl) (by decide) (fun lo hi h => ?_)) (fun m' a b c => hQ m' a b (by omega))
    rcases h with h | h
    · cases h
    · cases h; omega
theorem m_X12_put {x1 : Int32} {m : dM} {Q : dM → Prop} (ht : (m.1 70 2).toInt + 4 ≤ 2000) (hO : Ok m) (hQ : ∀ m', Ok m' → m'.1 0 1 = m.1 0 1 → (m'.1 70 2).toInt = (m.1 70 2).toInt + 4 → Q m') : c_X12_put_70 1 x1 m Q := by
  refine v_X12_put_70 ?_
  exact m_X12_put_3 4 _ _ (by decide) (by omega) ht hO hQ
theorem m_X12_feed {x1 x2 x3 x4 x5 : Int32} {m : dM} {Q : Int32 → dM → Prop} (hO : Ok m) (hQ : ∀ (r : Int32) (m' : dM), Ok m' → m'.1 0 1 = m.1 0 1 → (((m.1 70 2).toInt + 20 ≤ 2000 ∧ r.toInt = (m.1 70 2).toInt + 20 ∧ (m'.1 70 2).toInt = (m.1 70 2).toInt + 20) ∨ (2000 < (m.1 70 2).toInt + 20 ∧ r.toInt = -1 ∧ m'.1 70 2 = m.1 70 2)) → Q r m') : c_X12_feed_70 2 x1 x2 x3 x4 x5 m Q := by
  refine v_X12_feed_70 ?_
  have b := hO.s (k := 70) (j := 2) rfl
  have f := dAddE (X := (m.1 70 2).toInt) (Y := 20) (x := m.1 70 2) (y := (20 : Int32)) rfl (by decide) (by omega) (by omega)
  refine ⟨fun hc => ?_, fun hc => hQ _ _ hO rfl (Or.inr ⟨by omega, by decide, rfl⟩)⟩
  refine Wp.deep (m_X12_put (by omega) hO (fun m1 O1 a1 b1 => ?_)) (Nat.le_of_ble_eq_true rfl)
  refine Wp.deep (m_X12_put (by omega) O1 (fun m2 O2 a2 b2 => ?_)) (Nat.le_of_ble_eq_true rfl)
  refine Wp.deep (m_X12_put (by omega) O2 (fun m3 O3 a3 b3 => ?_)) (Nat.le_of_ble_eq_true rfl)
  refine Wp.deep (m_X12_put (by omega) O3 (fun m4 O4 a4 b4 => ?_)) (Nat.le_of_ble_eq_true rfl)
  refine Wp.deep (m_X12_put (by omega) O4 (fun m5 O5 a5 b5 => ?_)) (Nat.le_of_ble_eq_true rfl)
  exact hQ _ _ O5 (by rw [a5, a4, a3, a2, a1]) (Or.inl ⟨by omega, by omega, by omega⟩)
theorem m_X12_back {x1 : Int32} {m : dM} {Q : Int32 → dM → Prop} (hO : Ok m) (hQ : ∀ (r : Int32) (m' : dM), Ok m' → m'.1 0 1 = m.1 0 1 → (((0 ≤ x1.toInt ∧ x1.toInt ≤ (m.1 70 2).toInt) ∧ r.toInt = (m.1 70 2).toInt - x1.toInt ∧ (m'.1 70 2).toInt = (m.1 70 2).toInt - x1.toInt) ∨ (¬ (0 ≤ x1.toInt ∧ x1.toInt ≤ (m.1 70 2).toInt) ∧ r.toInt = -1 ∧ m'.1 70 2 = m.1 70 2)) → Q r m') : c_X12_back_70 1 x1 m Q := by
  refine v_X12_back_70 ?_
  have b := hO.s (k := 70) (j := 2) rfl
  refine ⟨fun hc => v_X12_back_70_12 (hQ _ _ hO rfl (Or.inr ⟨by omega, by decide, rfl⟩)), fun hc => ⟨fun hc1 => ?_, fun hc1 => v_X12_back_70_12 (hQ _ _ hO rfl (Or.inr ⟨by omega, by decide, rfl⟩))⟩⟩
  have f := dSubE (X := (m.1 70 2).toInt) (Y := x1.toInt) (x := m.1 70 2) (y := x1) rfl rfl (by omega) (by omega)
  refine hQ _ _ (Ok.set70 hO (by decide) (fun lo hi h => ?_)) rfl (Or.inl ⟨⟨hc, hc1⟩, by omega, f⟩)
  rcases h with h | h
  · cases h
  · cases h; omega
