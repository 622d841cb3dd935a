/-! THE TAPES OF BOTH -/
def Tp (m m' : dM) : Prop := m'.1 0 1 = m.1 0 1 ∧ m'.1 70 2 = m.1 70 2 ∧ m'.1 1 = m.1 1 ∧ m'.1 71 = m.1 71
/-- both tapes bear the same -/
def Tq (m : dM) : Prop := (m.1 0 1).toInt = (m.1 70 2).toInt ∧ ∀ i : Nat, (i : Int) < (m.1 0 1).toInt → (m.1 1 i) &&& 255 = (m.1 71 i) &&& 255
theorem Tp.kp {m m' : dM} (h : Kp m m') : Tp m m' := ⟨h 0 1 rfl, h 70 2 rfl, funext fun j => h 1 j rfl, funext fun j => h 71 j rfl⟩
theorem Tp.rf (m : dM) : Tp m m := ⟨rfl, rfl, rfl, rfl⟩
theorem Tq.tp {m m' : dM} (h : Tq m) (hp : Tp m m') : Tq m' := by
  obtain ⟨a, b, c, d⟩ := hp
  unfold Tq
  rw [a, b, c, d]
  exact h
theorem Tp.tr {a b c : dM} (h : Tp a b) (h' : Tp b c) : Tp a c := ⟨h'.1.trans h.1, h'.2.1.trans h.2.1, h'.2.2.1.trans h.2.2.1, h'.2.2.2.trans h.2.2.2⟩
section HND
variable {m : dM} {Q : Int32 → dM → Prop}
theorem Ok.gR {k j : Nat} {v : Int32} (hO : Ok m) (hk : (k ≠ 2 ∧ k ≠ 7 ∧ k ≠ 70) ∧ (k < 82 ∨ 103 < k)) (hw : wT k j = fR) (hs : sT k j = none) : Ok (dSet m k j v) := hO.gen hk (fun lo hi h => by
  rcases h with h | h
  · rw [hw] at h; cases h; exact ⟨e_lo v, e_hi v⟩
  · rw [hs] at h; cases h)
theorem b_isFlat11 {x1 : Int32} (h1 : Q 1 m) (h0 : Q 0 m) : c_X11_isFlat_0 1 x1 m Q := v_X11_isFlat_0 ⟨fun _ => v_X11_isFlat_0_19 h0, fun _ => ⟨fun _ => v_X11_isFlat_0_19 h0, fun _ => h1⟩⟩
theorem b_in {x0 x1 x2 : Int32} (h1 : x1.toInt ≤ x0.toInt → x0.toInt ≤ x2.toInt → Q 1 m) (h0 : Q 0 m) : c_X12_in 1 x0 x1 x2 m Q := v_X12_in ⟨fun _ => v_X12_in_14 h0, fun a => ⟨fun _ => v_X12_in_14 h0, fun b => h1 a b⟩⟩
theorem b_isFlat12 {x1 : Int32} (hO : Ok m) (h1 : Q 1 m) (h0 : Q 0 m) : c_X12_isFlat_70 2 x1 m Q := by
  have b := hO.s (k := 70) (j := 18) rfl
  exact v_X12_isFlat_70 ⟨by omega, b_in (fun _ _ => ⟨Or.inr rfl, h1⟩) ⟨Or.inl rfl, h0⟩⟩
theorem b_X11_tell {x1 x2 : Int32} (hO : Ok m) (h2 : x2 = 0 ∨ x2 = 1) (hQ : ∀ (r : Int32) (m' : dM), Ok m' ∧ Tp m m' → Q r m') : c_X11_tell_0 3 x1 x2 m Q := by
  have b := hO.s (k := 67) (j := 3) rfl
  refine v_X11_tell_0 (Wp.deep (b_isFlat11 ⟨fun q => absurd q (by decide), fun _ => ?_⟩ ⟨fun _ => hQ _ _ ⟨hO, Tp.rf m⟩, fun q => absurd rfl q⟩) (Nat.le_of_ble_eq_true rfl))
  refine Wp.deep (d := 1) (v_X9_add_67 ⟨fun q => ⟨by omega, h2, by omega, hQ _ _ ⟨?_, rfl, rfl, rfl, rfl⟩⟩, fun _ => hQ _ _ ⟨hO, Tp.rf m⟩⟩) (Nat.le_of_ble_eq_true rfl)
  have f := dAddE (X := (m.1 67 3).toInt) (Y := 1) (x := m.1 67 3) (y := (1 : Int32)) rfl (by decide) (by omega) (by omega)
  refine Ok.gen (Ok.gen0 (Ok.gen0 hO (by decide) rfl rfl) (by decide) rfl rfl) (by decide) (fun lo hi h => ?_)
  rcases h with h | h
  · cases h
  · cases h; omega
theorem b_X11_forget (hO : Ok m) (hQ : ∀ (r : Int32) (m' : dM), Ok m' ∧ Tp m m' → Q r m') : c_X11_forget_0 2 m Q := by
  refine v_X11_forget_0 (Wp.deep (d := 1) (v_X9_clear_67 (hQ _ _ ⟨?_, rfl, rfl, rfl, rfl⟩)) (Nat.le_of_ble_eq_true rfl))
  refine Ok.gen hO (by decide) (fun lo hi h => ?_)
  rcases h with h | h
  · cases h
  · cases h; decide
theorem b_X11_hold {x1 : Int32} (hO : Ok m) (hQ : ∀ (r : Int32) (m' : dM), Ok m' ∧ Tp m m' → Q r m') : c_X11_hold_0 3 x1 m Q := by
  have no : j_X6_store_51_47_9 2 m (fun r1 m1 => (r1 = 0 ∨ r1 = 1) ∧ Q r1 m1) := v_X6_store_51_47_9 ⟨Or.inl rfl, hQ _ _ ⟨hO, Tp.rf m⟩⟩
  refine v_X11_hold_0 (v_X6_store_51_47 ⟨fun _ => no, fun q => ⟨fun q2 => ?_, fun _ => no⟩⟩)
  have e3 : (3 : Int32).toInt = 3 := by decide
  have f := dMulE (X := x1.toInt) (Y := 33) (x := x1) (y := (33 : Int32)) rfl (by decide) (by omega) (by omega)
  refine s_X7_writeTo_47_53 hO.1 hO.2 (by omega) (fun m1 I1 => ⟨Or.inr rfl, hQ _ _ ⟨?_, ?_⟩⟩)
  · exact Ok.gen0 (Ok.of hO.1 I1) (by decide) rfl rfl
  · have t := Tp.kp (Kp.of I1)
    exact ⟨t.1, t.2.1, t.2.2.1, t.2.2.2⟩
theorem b_X12_tell {x1 x2 : Int32} (hO : Ok m) (hQ : ∀ (r : Int32) (m' : dM), Ok m' ∧ Tp m m' → Q r m') : c_X12_tell_70 3 x1 x2 m Q := by
  have b := hO.s (k := 70) (j := 63) rfl
  have no : j_X12_tell_70_17 3 m Q := v_X12_tell_70_17 (hQ _ _ ⟨hO, Tp.rf m⟩)
  have st : ∀ v : Int32, (m.1 70 63).toInt ≠ 20 → Q (((m.1 70 63) + (1 : Int32)) - (1 : Int32)) (dSet (dSet (dSet m 112 (m.1 70 63).toNatClampNeg x1) 113 (m.1 70 63).toNatClampNeg v) 70 63 ((m.1 70 63) + (1 : Int32))) := fun v q => by
    have f := dAddE (X := (m.1 70 63).toInt) (Y := 1) (x := m.1 70 63) (y := (1 : Int32)) rfl (by decide) (by omega) (by omega)
    refine hQ _ _ ⟨Ok.set70 (Ok.gen0 (Ok.gen0 hO (by decide) rfl rfl) (by decide) rfl rfl) (by decide) (fun lo hi h => ?_), rfl, rfl, rfl, rfl⟩
    rcases h with h | h
    · cases h
    · cases h; omega
  refine v_X12_tell_70 ⟨fun _ => no, fun q => b_isFlat12 hO ⟨fun _ => ⟨by omega, fun _ => ⟨by omega, st _ q⟩, fun _ => ⟨by omega, st _ q⟩⟩, fun w => absurd w (by decide)⟩ ⟨fun w => absurd rfl w, fun _ => no⟩⟩
theorem b_X12_forget (hO : Ok m) (hQ : ∀ (r : Int32) (m' : dM), Ok m' ∧ Tp m m' → Q r m') : c_X12_forget_70 1 m Q := by
  refine v_X12_forget_70 (hQ _ _ ⟨Ok.set70 hO (by decide) (fun lo hi h => ?_), rfl, rfl, rfl, rfl⟩)
  rcases h with h | h
  · cases h
  · cases h; decide
theorem b_X12_hold {x1 : Int32} (hO : Ok m) (hQ : ∀ (r : Int32) (m' : dM), Ok m' ∧ Tp m m' → Q r m') : c_X12_hold_70 2 x1 m Q := by
  have loop : ∀ (f i : Nat) (x2 : Int32) (M : dM), i + f = 58 → x2.toInt = (i : Int) → 0 ≤ x1.toInt ∧ x1.toInt ≤ 2 → Ok M → Tp m M → j_X12_hold_70_20 2 x1 x2 M Q := by
    intro f
    induction f with
    | zero => intro i x2 M hi h2 h1 O T; exact v_X12_hold_70_20 ⟨fun _ => hQ _ _ ⟨O, T⟩, fun q => by exfalso; omega⟩
    | succ f ih =>
      intro i x2 M hi h2 h1 O T
      have fm := dMulE (X := 58) (Y := x1.toInt) (x := (58 : Int32)) (y := x1) (by decide) rfl (by omega) (by omega)
      have fa := dAddE (X := 58 * x1.toInt) (Y := (i : Int)) (x := (58 : Int32) * x1) (y := x2) fm h2 (by omega) (by omega)
      exact v_X12_hold_70_20 ⟨fun q => by exfalso; omega, fun _ => ⟨by omega, by omega, ih (i + 1) _ _ (by omega) (d_inc h2 (by omega)) h1 (Ok.gR O (by decide) rfl rfl) ⟨T.1, T.2.1, T.2.2.1, T.2.2.2⟩⟩⟩
  refine v_X12_hold_70 (b_in (fun a b => ⟨fun _ => ⟨?_, ?_⟩, fun q => absurd q (by decide)⟩) ⟨fun q => absurd rfl q, fun _ => hQ _ _ ⟨hO, Tp.rf m⟩⟩)
  · have e0 : (0 : Int32).toInt = 0 := by decide
    have e2 : (2 : Int32).toInt = 2 := by decide
    omega
  · exact loop 58 0 _ _ rfl (by decide) ⟨a, b⟩ (Ok.gen0 hO (by decide) rfl rfl) ⟨rfl, rfl, rfl, rfl⟩
end HND
