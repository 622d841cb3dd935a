/-! TELL, FORGET, HOLD, RESTORE, READ OF BOTH, exactly as far as told, slots, place, flats go -/
section OPR
variable {m : dM} {Q : Int32 → dM → Prop}
def E11t (x1 : Int32) (m : dM) (r : Int32) (m' : dM) : Prop := ((0 ≤ x1.toInt ∧ x1.toInt < (m.1 2 0).toInt ∧ (m.1 67 3).toInt < 20) ∧ r.toInt = (m.1 67 3).toInt ∧ (m'.1 67 3).toInt = (m.1 67 3).toInt + 1 ∧ ∀ k j : Nat, k ≠ 68 → k ≠ 69 → ¬ (k = 67 ∧ j = 3) → m'.1 k j = m.1 k j) ∨ (¬ (0 ≤ x1.toInt ∧ x1.toInt < (m.1 2 0).toInt ∧ (m.1 67 3).toInt < 20) ∧ r.toInt = -1 ∧ m' = m)
def E12t (x1 : Int32) (m : dM) (r : Int32) (m' : dM) : Prop := ((0 ≤ x1.toInt ∧ x1.toInt < (m.1 80 (m.1 70 18).toNatClampNeg).toInt ∧ (m.1 70 63).toInt ≠ 20) ∧ r.toInt = (m.1 70 63).toInt ∧ (m'.1 70 63).toInt = (m.1 70 63).toInt + 1 ∧ ∀ k j : Nat, k ≠ 112 → k ≠ 113 → ¬ (k = 70 ∧ j = 63) → m'.1 k j = m.1 k j) ∨ (¬ (0 ≤ x1.toInt ∧ x1.toInt < (m.1 80 (m.1 70 18).toNatClampNeg).toInt ∧ (m.1 70 63).toInt ≠ 20) ∧ r.toInt = -1 ∧ m' = m)
theorem z_X11_tell {x1 x2 : Int32} (hO : Ok m) (h2 : x2 = 0 ∨ x2 = 1) (hQ : ∀ (r : Int32) (m' : dM), Ok m' ∧ E11t x1 m r m' → Q r m') : c_X11_tell_0 3 x1 x2 m Q := by
  have b := hO.s (k := 67) (j := 3) rfl
  have no : ¬ (0 ≤ x1.toInt ∧ x1.toInt < (m.1 2 0).toInt ∧ (m.1 67 3).toInt < 20) → Q (-1 : Int32) m := fun q => hQ _ _ ⟨hO, Or.inr ⟨q, by decide, rfl⟩⟩
  have n0 : ¬ (0 ≤ x1.toInt ∧ x1.toInt < (m.1 2 0).toInt) → ((0 : Int32).toInt = 0 → Q (-1 : Int32) m) ∧ ((0 : Int32).toInt ≠ 0 → c_X9_add_67 2 x1 x2 m (fun r2 m2 => Q r2 m2)) := fun q => ⟨fun _ => no (fun w => q ⟨w.1, w.2.1⟩), fun w => absurd rfl w⟩
  refine v_X11_tell_0 (Wp.deep (d := 1) (v_X11_isFlat_0 ⟨fun q => v_X11_isFlat_0_19 (n0 (by omega)), fun q => ⟨fun q2 => v_X11_isFlat_0_19 (n0 (by omega)), fun q2 => ⟨fun w => absurd w (by decide), fun _ => ?_⟩⟩⟩) (Nat.le_of_ble_eq_true rfl))
  refine Wp.deep (d := 1) (v_X9_add_67 ⟨fun q3 => ⟨by omega, h2, by omega, hQ _ _ ⟨?_, Or.inl ⟨⟨q, q2, q3⟩, ?_, ?_, fun k j e1 e2 e3 => ?_⟩⟩⟩, fun q3 => no (fun w => by omega)⟩) (Nat.le_of_ble_eq_true rfl)
  all_goals have f := dAddE (X := (m.1 67 3).toInt) (Y := 1) (x := m.1 67 3) (y := (1 : Int32)) rfl (by decide) (by omega) (by omega)
  · refine Ok.gen (Ok.gen0 (Ok.gen0 hO (by decide) rfl rfl) (by decide) rfl rfl) (by decide) (fun lo hi h => ?_)
    rcases h with h | h
    · cases h
    · cases h; omega
  · have f2 := dSubE (X := (m.1 67 3).toInt + 1) (Y := 1) (x := m.1 67 3 + 1) (y := (1 : Int32)) f (by decide) (by omega) (by omega)
    omega
  · exact f
  · rw [dSet_e, if_neg e3, dSet_k e2, dSet_k e1]
theorem z_X12_tell {x1 x2 : Int32} (hO : Ok m) (hQ : ∀ (r : Int32) (m' : dM), Ok m' ∧ E12t x1 m r m' → Q r m') : c_X12_tell_70 3 x1 x2 m Q := by
  have b := hO.s (k := 70) (j := 63) rfl
  have b18 := hO.s (k := 70) (j := 18) rfl
  have b80 := hO.s (k := 80) (j := (m.1 70 18).toNatClampNeg) rfl
  have f80 := dSubE (X := (m.1 80 (m.1 70 18).toNatClampNeg).toInt) (Y := 1) (x := m.1 80 (m.1 70 18).toNatClampNeg) (y := (1 : Int32)) rfl (by decide) (by omega) (by omega)
  have no : ¬ (0 ≤ x1.toInt ∧ x1.toInt < (m.1 80 (m.1 70 18).toNatClampNeg).toInt ∧ (m.1 70 63).toInt ≠ 20) → j_X12_tell_70_17 3 m Q := fun q => v_X12_tell_70_17 (hQ _ _ ⟨hO, Or.inr ⟨q, by decide, rfl⟩⟩)
  have st : ∀ v : Int32, (0 ≤ x1.toInt ∧ x1.toInt < (m.1 80 (m.1 70 18).toNatClampNeg).toInt ∧ (m.1 70 63).toInt ≠ 20) → Q (((m.1 70 63) + (1 : Int32)) - (1 : Int32)) (dSet (dSet (dSet m 112 (m.1 70 63).toNatClampNeg x1) 113 (m.1 70 63).toNatClampNeg v) 70 63 ((m.1 70 63) + (1 : Int32))) := fun v q => by
    have f := dAddE (X := (m.1 70 63).toInt) (Y := 1) (x := m.1 70 63) (y := (1 : Int32)) rfl (by decide) (by omega) (by omega)
    have f2 := dSubE (X := (m.1 70 63).toInt + 1) (Y := 1) (x := m.1 70 63 + 1) (y := (1 : Int32)) f (by decide) (by omega) (by omega)
    refine hQ _ _ ⟨Ok.set70 (Ok.gen0 (Ok.gen0 hO (by decide) rfl rfl) (by decide) rfl rfl) (by decide) (fun lo hi h => ?_), Or.inl ⟨q, by omega, f, fun k j e1 e2 e3 => by rw [dSet_e, if_neg e3, dSet_k e2, dSet_k e1]⟩⟩
    rcases h with h | h
    · cases h
    · cases h; omega
  have e0 : (0 : Int32).toInt = 0 := by decide
  have n0 : ¬ (0 ≤ x1.toInt ∧ x1.toInt < (m.1 80 (m.1 70 18).toNatClampNeg).toInt) → j_X12_tell_70_17 3 m Q := fun q => no (fun w => q ⟨w.1, w.2.1⟩)
  refine v_X12_tell_70 ⟨fun q => no (fun w => w.2.2 q), fun q => v_X12_isFlat_70 ⟨by omega, Wp.deep (d := 1) (v_X12_in ⟨fun q2 => v_X12_in_14 ⟨Or.inl rfl, fun w => absurd rfl w, fun _ => n0 (by omega)⟩, fun q2 => ⟨fun q3 => v_X12_in_14 ⟨Or.inl rfl, fun w => absurd rfl w, fun _ => n0 (by omega)⟩, fun q3 => ⟨Or.inr rfl, fun _ => ⟨by omega, fun _ => ⟨by omega, st _ ⟨by omega, by omega, q⟩⟩, fun _ => ⟨by omega, st _ ⟨by omega, by omega, q⟩⟩⟩, fun w => absurd w (by decide)⟩⟩⟩) (Nat.le_of_ble_eq_true rfl)⟩⟩
theorem j_tell {x1 : Int32} {m1 m2 : dM} {r1 r2 : Int32} (hO : Ok m) (hT : Rq m) (h1 : E11t x1 m r1 m1) (h2 : E12t x1 m1 r2 m2) : Rq m2 ∧ r1 = r2 := by
  have b := hO.s (k := 67) (j := 3) rfl
  obtain ⟨hq, ⟨o1, o2, o3, o4⟩⟩ := hT
  rcases h1 with ⟨a, b1, c, d⟩ | ⟨a, b1, T⟩
  · have d18 : m1.1 70 18 = m.1 70 18 := d 70 18 (by decide) (by decide) (by decide)
    have d63 : m1.1 70 63 = m.1 70 63 := d 70 63 (by decide) (by decide) (by decide)
    have d80 : ∀ j : Nat, m1.1 80 j = m.1 80 j := fun j => d 80 j (by decide) (by decide) (by omega)
    rcases h2 with ⟨a2, b2, c2, d2⟩ | ⟨a2, b2, T2⟩
    · rw [d63] at b2 c2
      have r0 : ∀ k j : Nat, k ≠ 67 → k ≠ 68 → k ≠ 69 → k ≠ 112 → k ≠ 113 → ¬ (k = 70 ∧ j = 63) → m2.1 k j = m.1 k j := fun k j e1 e2 e3 e4 e5 e6 => by rw [d2 k j e4 e5 e6, d k j e2 e3 (fun w => e1 w.1)]
      refine ⟨⟨hq.tp ⟨r0 0 1 (by decide) (by decide) (by decide) (by decide) (by decide) (by decide), r0 70 2 (by decide) (by decide) (by decide) (by decide) (by decide) (by decide), funext fun j => r0 1 j (by decide) (by decide) (by decide) (by decide) (by decide) (by omega), funext fun j => r0 71 j (by decide) (by decide) (by decide) (by decide) (by decide) (by omega)⟩, ?_, ?_, ?_, ?_⟩, Int32.toInt_inj.mp (by omega)⟩
      · rw [r0 0 2 (by decide) (by decide) (by decide) (by decide) (by decide) (by decide), r0 70 17 (by decide) (by decide) (by decide) (by decide) (by decide) (by decide)]; exact o1
      · rw [d2 67 3 (by decide) (by decide) (by decide)]; omega
      · rw [r0 2 0 (by decide) (by decide) (by decide) (by decide) (by decide) (by decide), r0 70 18 (by decide) (by decide) (by decide) (by decide) (by decide) (by decide), r0 80 _ (by decide) (by decide) (by decide) (by decide) (by decide) (by omega)]; exact o3
      · intro i hi
        rw [r0 51 4 (by decide) (by decide) (by decide) (by decide) (by decide) (by decide), r0 115 i (by decide) (by decide) (by decide) (by decide) (by decide) (by omega)]; exact o4 i hi
    · rw [d18, d63, d80] at a2; exfalso; omega
  · subst T
    rcases h2 with ⟨a2, -⟩ | ⟨a2, b2, T2⟩
    · exfalso; omega
    · subst T2
      exact ⟨⟨hq, ⟨o1, o2, o3, o4⟩⟩, Int32.toInt_inj.mp (by omega)⟩
/-- forget -/
def E11o (m : dM) (r : Int32) (m' : dM) : Prop := r = m.1 67 3 ∧ m'.1 67 3 = 0 ∧ ∀ k j : Nat, ¬ (k = 67 ∧ j = 3) → m'.1 k j = m.1 k j
def E12o (m : dM) (r : Int32) (m' : dM) : Prop := r = m.1 70 63 ∧ m'.1 70 63 = 0 ∧ ∀ k j : Nat, ¬ (k = 70 ∧ j = 63) → m'.1 k j = m.1 k j
theorem z_X11_forget (hO : Ok m) (hQ : ∀ (r : Int32) (m' : dM), Ok m' ∧ E11o m r m' → Q r m') : c_X11_forget_0 2 m Q := by
  refine v_X11_forget_0 (Wp.deep (d := 1) (v_X9_clear_67 (hQ _ _ ⟨?_, rfl, dSet_s _ _ _ _, fun k j e => by rw [dSet_e, if_neg e]⟩)) (Nat.le_of_ble_eq_true rfl))
  refine Ok.gen hO (by decide) (fun lo hi h => ?_)
  rcases h with h | h
  · cases h
  · cases h; decide
theorem z_X12_forget (hO : Ok m) (hQ : ∀ (r : Int32) (m' : dM), Ok m' ∧ E12o m r m' → Q r m') : c_X12_forget_70 1 m Q := by
  refine v_X12_forget_70 (hQ _ _ ⟨Ok.set70 hO (by decide) (fun lo hi h => ?_), rfl, dSet_s _ _ _ _, fun k j e => by rw [dSet_e, if_neg e]⟩)
  rcases h with h | h
  · cases h
  · cases h; decide
theorem j_forget {m1 m2 : dM} {r1 r2 : Int32} (hT : Rq m) (h1 : E11o m r1 m1) (h2 : E12o m1 r2 m2) : Rq m2 ∧ r1 = r2 := by
  obtain ⟨hq, ⟨o1, o2, o3, o4⟩⟩ := hT
  obtain ⟨a, b, c⟩ := h1
  obtain ⟨a2, b2, c2⟩ := h2
  have r0 : ∀ k j : Nat, k ≠ 67 → ¬ (k = 70 ∧ j = 63) → m2.1 k j = m.1 k j := fun k j e1 e2 => by rw [c2 k j e2, c k j (fun w => e1 w.1)]
  refine ⟨⟨hq.tp ⟨r0 0 1 (by decide) (by decide), r0 70 2 (by decide) (by decide), funext fun j => r0 1 j (by decide) (by omega), funext fun j => r0 71 j (by decide) (by omega)⟩, ?_, ?_, ?_, ?_⟩, Int32.toInt_inj.mp ?_⟩
  · rw [r0 0 2 (by decide) (by decide), r0 70 17 (by decide) (by decide)]; exact o1
  · rw [c2 67 3 (by decide), b, b2]
  · rw [r0 2 0 (by decide) (by decide), r0 70 18 (by decide) (by decide), r0 80 _ (by decide) (by omega)]; exact o3
  · intro i hi
    rw [r0 51 4 (by decide) (by decide), r0 115 i (by decide) (by omega)]; exact o4 i hi
  · rw [a, a2, c 70 63 (by decide)]; exact o2
/-- hold -/
def E11h (x1 : Int32) (m : dM) (r : Int32) (m' : dM) : Prop := ((0 ≤ x1.toInt ∧ x1.toInt ≤ 2) ∧ r = 1 ∧ m'.1 51 4 = (m.1 51 4) ||| ((1 : Int32) <<< (x1 &&& 31)) ∧ ∀ k j : Nat, kp k j = true → ¬ (k = 51 ∧ j = 4) → m'.1 k j = m.1 k j) ∨ (¬ (0 ≤ x1.toInt ∧ x1.toInt ≤ 2) ∧ r = 0 ∧ m' = m)
def E12h (x1 : Int32) (m : dM) (r : Int32) (m' : dM) : Prop := ((0 ≤ x1.toInt ∧ x1.toInt ≤ 2) ∧ r = 1 ∧ (∀ j : Nat, m'.1 115 j = if j = x1.toNatClampNeg then 1 else m.1 115 j) ∧ ∀ k j : Nat, k ≠ 115 → k ≠ 116 → m'.1 k j = m.1 k j) ∨ (¬ (0 ≤ x1.toInt ∧ x1.toInt ≤ 2) ∧ r = 0 ∧ m' = m)
theorem z_X11_hold {x1 : Int32} (hO : Ok m) (hQ : ∀ (r : Int32) (m' : dM), Ok m' ∧ E11h x1 m r m' → Q r m') : c_X11_hold_0 3 x1 m Q := by
  have no : ¬ (0 ≤ x1.toInt ∧ x1.toInt ≤ 2) → j_X6_store_51_47_9 2 m (fun r1 m1 => (r1 = 0 ∨ r1 = 1) ∧ Q r1 m1) := fun q => v_X6_store_51_47_9 ⟨Or.inl rfl, hQ _ _ ⟨hO, Or.inr ⟨q, rfl, rfl⟩⟩⟩
  have e3 : (3 : Int32).toInt = 3 := by decide
  refine v_X11_hold_0 (v_X6_store_51_47 ⟨fun q => no (by omega), fun q => ⟨fun q2 => ?_, fun q2 => no (by omega)⟩⟩)
  have f := dMulE (X := x1.toInt) (Y := 33) (x := x1) (y := (33 : Int32)) rfl (by decide) (by omega) (by omega)
  refine s_X7_writeTo_47_53 hO.1 hO.2 (by omega) (fun m1 I1 => ⟨Or.inr rfl, hQ _ _ ⟨Ok.gen0 (Ok.of hO.1 I1) (by decide) rfl rfl, Or.inl ⟨⟨q, by omega⟩, rfl, ?_, fun k j hk e => ?_⟩⟩⟩)
  · rw [dSet_s, Kp.of I1 51 4 rfl]
  · rw [dSet_e, if_neg e]; exact Kp.of I1 k j hk
theorem z_X12_hold {x1 : Int32} (hO : Ok m) (hQ : ∀ (r : Int32) (m' : dM), Ok m' ∧ E12h x1 m r m' → Q r m') : c_X12_hold_70 2 x1 m Q := by
  have e0 : (0 : Int32).toInt = 0 := by decide
  have e2 : (2 : Int32).toInt = 2 := by decide
  have loop : ∀ (f i : Nat) (x2 : Int32) (M : dM), i + f = 58 → x2.toInt = (i : Int) → 0 ≤ x1.toInt ∧ x1.toInt ≤ 2 → Ok M → (∀ j : Nat, M.1 115 j = if j = x1.toNatClampNeg then 1 else m.1 115 j) → (∀ k j : Nat, k ≠ 115 → k ≠ 116 → M.1 k j = m.1 k j) → j_X12_hold_70_20 2 x1 x2 M Q := by
    intro f
    induction f with
    | zero => intro i x2 M hi h2 h1 O T T2; exact v_X12_hold_70_20 ⟨fun _ => hQ _ _ ⟨O, Or.inl ⟨h1, rfl, T, T2⟩⟩, fun q => by exfalso; omega⟩
    | succ f ih =>
      intro i x2 M hi h2 h1 O T T2
      have fm := dMulE (X := 58) (Y := x1.toInt) (x := (58 : Int32)) (y := x1) (by decide) rfl (by omega) (by omega)
      have fa := dAddE (X := 58 * x1.toInt) (Y := (i : Int)) (x := (58 : Int32) * x1) (y := x2) fm h2 (by omega) (by omega)
      exact v_X12_hold_70_20 ⟨fun q => by exfalso; omega, fun _ => ⟨by omega, by omega, ih (i + 1) _ _ (by omega) (d_inc h2 (by omega)) h1 (Ok.gR O (by decide) rfl rfl) (fun j => by rw [dSet_k (by decide)]; exact T j) (fun k j a b => by rw [dSet_k b]; exact T2 k j a b)⟩⟩
  have no : ¬ (0 ≤ x1.toInt ∧ x1.toInt ≤ 2) → Q 0 m := fun q => hQ _ _ ⟨hO, Or.inr ⟨q, rfl, rfl⟩⟩
  refine v_X12_hold_70 (v_X12_in ⟨fun q => v_X12_in_14 ⟨fun w => absurd rfl w, fun _ => no (by omega)⟩, fun q => ⟨fun q2 => v_X12_in_14 ⟨fun w => absurd rfl w, fun _ => no (by omega)⟩, fun q2 => ⟨fun _ => ⟨by omega, loop 58 0 _ _ rfl (by decide) ⟨by omega, by omega⟩ (Ok.gen0 hO (by decide) rfl rfl) (fun j => ?_) (fun k j a b => by rw [dSet_k a])⟩, fun w => absurd w (by decide)⟩⟩⟩)
  rw [dSet_e]
  by_cases z : j = x1.toNatClampNeg
  · rw [if_pos ⟨rfl, z⟩, if_pos z]
  · rw [if_neg (fun w => z w.2), if_neg z]
theorem j_hold {x1 : Int32} {m1 m2 : dM} {r1 r2 : Int32} (hT : Rq m) (h1 : E11h x1 m r1 m1) (h2 : E12h x1 m1 r2 m2) : Rq m2 ∧ r1 = r2 := by
  obtain ⟨hq, ⟨o1, o2, o3, o4⟩⟩ := hT
  rcases h1 with ⟨a, b, c, d⟩ | ⟨a, b, T⟩
  · rcases h2 with ⟨a2, b2, c2, d2⟩ | ⟨a2, -⟩
    · have r0 : ∀ k j : Nat, kp k j = true → k ≠ 51 → k ≠ 115 → k ≠ 116 → m2.1 k j = m.1 k j := fun k j e1 e2 e3 e4 => by rw [d2 k j e3 e4, d k j e1 (fun w => e2 w.1)]
      obtain ⟨i, hi⟩ : ∃ i : Nat, x1.toInt = (i : Int) := ⟨x1.toInt.toNat, by omega⟩
      have ex : x1 = Int32.ofNat i := by
        apply d_ce
        rw [hi]
        have : i = 0 ∨ i = 1 ∨ i = 2 := by omega
        rcases this with rfl | rfl | rfl <;> decide
      refine ⟨⟨hq.tp ⟨r0 0 1 rfl (by decide) (by decide) (by decide), r0 70 2 rfl (by decide) (by decide) (by decide), funext fun j => r0 1 j rfl (by decide) (by decide) (by decide), funext fun j => r0 71 j rfl (by decide) (by decide) (by decide)⟩, ?_, ?_, ?_, ?_⟩, by rw [b, b2]⟩
      · rw [r0 0 2 rfl (by decide) (by decide) (by decide), r0 70 17 rfl (by decide) (by decide) (by decide)]; exact o1
      · rw [r0 67 3 rfl (by decide) (by decide) (by decide), r0 70 63 rfl (by decide) (by decide) (by decide)]; exact o2
      · rw [r0 2 0 rfl (by decide) (by decide) (by decide), r0 70 18 rfl (by decide) (by decide) (by decide), r0 80 _ rfl (by decide) (by decide) (by decide)]; exact o3
      · intro j hj
        rw [d2 51 4 (by decide) (by decide), c, c2, d_cn hi, ex, hb_or _ i j (by omega) (by omega), d 115 j rfl (by omega)]
        by_cases z : j = i
        · rw [if_pos z]
          exact ⟨fun _ => by decide, fun _ => Or.inl z⟩
        · rw [if_neg z]
          exact ⟨fun w => by rcases w with w | w; exact absurd w z; exact (o4 j hj).mp w, fun w => Or.inr ((o4 j hj).mpr w)⟩
    · exact absurd a a2
  · subst T
    rcases h2 with ⟨a2, -⟩ | ⟨a2, b2, T2⟩
    · exact absurd a2 a
    · subst T2
      exact ⟨⟨hq, ⟨o1, o2, o3, o4⟩⟩, by rw [b, b2]⟩
end OPR
