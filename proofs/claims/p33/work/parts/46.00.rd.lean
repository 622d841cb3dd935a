/-! THE REFERENCE's read, 1: going on, failing (by hand) -/
def flt (m : dM) : Int := (m.1 70 13).toInt
def tt (m : dM) : Int := (m.1 70 11).toInt
def wst (m : dM) : Int := (m.1 70 15).toInt
def cds (m : dM) : Int := (m.1 70 46).toInt
def brs (m : dM) : Int := (m.1 70 40).toInt
def nms (m : dM) : Int := (m.1 70 20).toInt
def opn (m : dM) : Int := (m.1 70 12).toInt
def wtg (m : dM) : Int := (m.1 70 50).toInt
def Wz (m m' : dM) : Prop := (wst m' = 0 → wst m = 0) ∧ (0 ≤ wst m → 0 ≤ wst m')
theorem Wz.tr {m m' m'' : dM} (h : Wz m m') (h' : Wz m' m'') : Wz m m'' := ⟨fun q => h.1 (h'.1 q), fun q => h'.2 (h.2 q)⟩
theorem Wz.eq {m m' : dM} (h : wst m' = wst m) : Wz m m' := by unfold Wz; rw [h]; exact ⟨fun q => q, fun q => q⟩
/-- only where it stands, and faults, have changed; n more gone by, or a fault -/
def Mv (n : Int) (m m' : dM) : Prop := (∀ k : Nat, k ≠ 70 → m'.1 k = m.1 k) ∧ (∀ j : Nat, j ≠ 11 → j ≠ 13 → j ≠ 14 → j ≠ 15 → j ≠ 16 → m'.1 70 j = m.1 70 j) ∧ (0 ≤ tt m' ∧ tt m' ≤ 400) ∧ ((flt m = 0 ∧ flt m' = 0 ∧ tt m' = tt m + n) ∨ (0 < flt m' ∧ tt m ≤ tt m' ∧ tt m' ≤ tt m + n)) ∧ Wz m m'
theorem Mv.tr {a b : Int} {m m' m'' : dM} (h : Mv a m m') (h' : Mv b m' m'') (ha : 0 ≤ a) (hb : 0 ≤ b) : Mv (a + b) m m'' := by
  obtain ⟨h1, h2, h3, h4, h5⟩ := h
  obtain ⟨k1, k2, k3, k4, k5⟩ := h'
  refine ⟨fun k hk => (k1 k hk).trans (h1 k hk), fun j a1 a2 a3 a4 a5 => (k2 j a1 a2 a3 a4 a5).trans (h2 j a1 a2 a3 a4 a5), k3, ?_, h5.tr k5⟩
  rcases h4 with h4 | h4
  · rcases k4 with k4 | k4
    · left; omega
    · right; omega
  · rcases k4 with k4 | k4
    · exfalso; omega
    · right; omega
theorem Mv.rf {m : dM} (h : 0 ≤ tt m ∧ tt m ≤ 400) (hf : 0 ≤ flt m) : Mv 0 m m := by
  refine ⟨fun _ _ => rfl, fun _ _ _ _ _ _ => rfl, h, ?_, Wz.eq rfl⟩
  by_cases h0 : flt m = 0
  · left; omega
  · right; omega
theorem Mv.fl {n : Int} {m m' : dM} (h : Mv n m m') : 0 ≤ flt m' := by
  rcases h.2.2.2.1 with q | q <;> omega
theorem p_fail {x1 : Int32} {m : dM} {Q : dM → Prop} (ht : 0 ≤ tt m ∧ tt m ≤ 400) (hx : 1 ≤ x1.toInt) (hQ : ∀ m', Mv 0 m m' → 0 < flt m' → Q m') : c_X12_fail_70 1 x1 m Q := by
  refine v_X12_fail_70 ⟨fun hc => ⟨⟨ht.1, by have := ht.2; unfold tt at this; omega⟩, ?_⟩, fun hc => ?_⟩
  · have e : flt (dSet (dSet m 70 13 x1) 70 14 (m.1 74 (m.1 70 11).toNatClampNeg)) = x1.toInt := rfl
    refine hQ _ ⟨fun k hk => by rw [dSet_k hk, dSet_k hk], fun j a1 a2 a3 a4 a5 => by rw [dSet_j a3, dSet_j a2], ht, ?_, Wz.eq rfl⟩ (by omega)
    right
    have e2 : tt (dSet (dSet m 70 13 x1) 70 14 (m.1 74 (m.1 70 11).toNatClampNeg)) = tt m := rfl
    omega
  · exact hQ _ (Mv.rf ht (Int.le_of_lt hc)) hc
theorem p_goesOn {m : dM} {Q : dM → Prop} (ht : 0 ≤ tt m ∧ tt m ≤ 400) (hf : 0 ≤ flt m) (hQ : ∀ m', Mv 1 m m' → Q m') : c_X12_goesOn_70 2 m Q := by
  refine v_X12_goesOn_70 ⟨fun hc => ?_, fun hc => ?_⟩
  · have hc : tt m ≠ 400 := hc
    have et : (m.1 70 11).toInt = tt m := rfl
    have f := dAddE (X := tt m) (Y := 1) (x := m.1 70 11) (y := (1 : Int32)) rfl (by decide) (by omega) (by omega)
    refine v_X12_goesOn_70_28 (hQ _ ?_)
    have e1 : tt (dSet m 70 11 (m.1 70 11 + 1)) = tt m + 1 := f
    have e2 : flt (dSet m 70 11 (m.1 70 11 + 1)) = flt m := rfl
    refine ⟨fun k hk => dSet_k hk, fun j a1 a2 a3 a4 a5 => dSet_j a1, by omega, ?_, Wz.eq rfl⟩
    by_cases h0 : flt m = 0
    · left; omega
    · right; omega
  · refine Wp.deep (p_fail ht (by decide) (fun m' h h' => ?_)) (Nat.le_of_ble_eq_true rfl)
    refine v_X12_goesOn_70_28 (hQ _ ⟨h.1, h.2.1, h.2.2.1, ?_, h.2.2.2.2⟩)
    right
    rcases h.2.2.2.1 with q | q <;> omega
theorem p_is {x1 : Int32} {m : dM} {Q : Int32 → dM → Prop} (ht : 0 ≤ tt m ∧ tt m ≤ 400) (h1 : flt m = 0 → (m.1 73 (m.1 70 11).toNatClampNeg).toInt = x1.toInt → Q 1 m) (h0 : ¬ (flt m = 0 ∧ (m.1 73 (m.1 70 11).toNatClampNeg).toInt = x1.toInt) → Q 0 m) : c_X12_is_70 1 x1 m Q := by
  refine v_X12_is_70 ⟨fun hc => v_X12_is_70_24 (h0 (fun q => hc q.1)), fun hc => ⟨⟨ht.1, by have := ht.2; unfold tt at this; omega⟩, fun hk => v_X12_is_70_24 (h0 (fun q => hk q.2)), fun hk => h1 hc hk⟩⟩
theorem p_must {x1 : Int32} {m : dM} {Q : dM → Prop} (ht : 0 ≤ tt m ∧ tt m ≤ 400) (hf : 0 ≤ flt m) (hQ : ∀ m', Mv 1 m m' → Q m') : c_X12_must_70 3 x1 m Q := by
  refine v_X12_must_70 ?_
  refine Wp.deep (p_is ht (fun h1 h2 => ⟨fun h => absurd h (by decide), fun _ => ?_⟩) (fun h1 => ⟨fun _ => ?_, fun h => absurd rfl h⟩)) (Nat.le_of_ble_eq_true rfl)
  · exact Wp.deep (p_goesOn ht hf (fun m' h => v_X12_must_70_20 (hQ _ h))) (Nat.le_of_ble_eq_true rfl)
  · refine Wp.deep (p_fail ht (by decide) (fun m' h h' => v_X12_must_70_20 (hQ _ ⟨h.1, h.2.1, h.2.2.1, ?_, h.2.2.2.2⟩))) (Nat.le_of_ble_eq_true rfl)
    right
    rcases h.2.2.2.1 with q | q <;> omega
theorem p_wrong {x1 x2 : Int32} {m : dM} {Q : dM → Prop} (ht : 0 ≤ tt m ∧ tt m ≤ 400) (hf : 0 ≤ flt m) (hx : 1 ≤ x1.toInt) (h2 : 0 ≤ x2.toInt ∧ x2.toInt ≤ 400) (hQ : ∀ m', Mv 0 m m' → (flt m' = 0 → wst m' ≠ 0) → Q m') : c_X12_wrong_70 1 x1 x2 m Q := by
  have rf := Mv.rf ht hf
  have st : flt m = 0 → j_X12_wrong_70_46 1 x1 (m.1 74 x2.toNatClampNeg) m Q := fun h0 => by
    refine v_X12_wrong_70_46 (hQ _ ⟨fun k hk => by rw [dSet_k hk, dSet_k hk], fun j a1 a2 a3 a4 a5 => by rw [dSet_j a5, dSet_j a4], ht, Or.inl ⟨h0, h0, by show tt m = tt m + 0; omega⟩, ⟨fun h => ?_, fun _ => ?_⟩⟩ (fun _ h => ?_))
    · have h : x1.toInt = 0 := h
      exfalso; omega
    · show 0 ≤ x1.toInt
      omega
    · have h : x1.toInt = 0 := h
      omega
  have hfl : ¬ 0 < flt m → flt m = 0 := fun h => by omega
  refine v_X12_wrong_70 ⟨by omega, fun hc => v_X12_wrong_70_45 (hQ _ rf (fun h => by have hc : 0 < flt m := hc; omega)), fun hc => ⟨fun hw => st (hfl (by show ¬ 0 < flt m; unfold flt; omega)), fun hw => ⟨fun _ => v_X12_wrong_70_45 (hQ _ rf (fun _ => hw)), fun _ => ⟨fun _ => st (hfl (by show ¬ 0 < flt m; unfold flt; omega)), fun _ => ⟨fun _ => st (hfl (by show ¬ 0 < flt m; unfold flt; omega)), fun _ => v_X12_wrong_70_45 (hQ _ rf (fun _ => hw))⟩⟩⟩⟩⟩
/-! names, flats, numbers -/
theorem p_named_12 {x1 : Int32} {mb : dM} {Q : Int32 → dM → Prop} (hx1 : 0 ≤ x1.toInt ∧ x1.toInt ≤ 400) (hQ : ∀ m', Mv 0 mb m' → Q x1 m') : ∀ n : Nat, ∀ (x2 : Int32) (m : dM), Mv 0 mb m → nms m ≤ 15 → 0 ≤ x2.toInt ∧ x2.toInt ≤ 15 → 15 - x2.toInt < (n : Int) → j_X12_named_70_12 4 x1 x2 m Q := by
  intro n
  induction n with
  | zero => intro x2 m hm hn h2 hμ; exfalso; omega
  | succ n ih =>
    intro x2 m hm hn h2 hμ
    have fin : j_X12_named_70_55 4 x1 m Q := v_X12_named_70_55 (hQ _ hm)
    refine v_X12_named_70_12 ⟨fun _ => fin, fun hc => ⟨fun _ => fin, fun h0 => ?_⟩⟩
    have hc : x2.toInt < nms m := hc
    have f := dAddE (X := x2.toInt) (Y := 1) (x := x2) (y := (1 : Int32)) rfl (by decide) (by omega) (by omega)
    have nx : ∀ m', Mv 0 m m' → j_X12_named_70_49 4 x1 x2 m' Q := fun m' h => by
      refine v_X12_named_70_49 (ih _ _ (hm.tr h (by decide) (by decide)) ?_ (by omega) (by omega))
      have e : nms m' = nms m := by unfold nms; rw [h.2.1 20 (by decide) (by decide) (by decide) (by decide) (by decide)]
      omega
    refine ⟨by omega, ⟨by omega, fun _ => nx m (Mv.rf hm.2.2.1 hm.fl), fun _ => ?_⟩⟩
    exact Wp.deep (p_wrong hm.2.2.1 hm.fl (by decide) hx1 (fun m' h _ => nx m' h)) (Nat.le_of_ble_eq_true rfl)
theorem p_named {m : dM} {Q : Int32 → dM → Prop} (ht : 0 ≤ tt m ∧ tt m ≤ 400) (hf : 0 ≤ flt m) (hn : nms m ≤ 15) (hQ : ∀ (r : Int32) (m' : dM), Mv 1 m m' → 0 ≤ r.toInt ∧ r.toInt ≤ 400 → Q r m') : c_X12_named_70 4 m Q := by
  refine v_X12_named_70 ?_
  refine p_must ht hf (fun m1 h1 => ?_)
  have e : nms m1 = nms m := by unfold nms; rw [h1.2.1 20 (by decide) (by decide) (by decide) (by decide) (by decide)]
  exact p_named_12 (mb := m1) ht (fun m' h => hQ _ _ (by have := h1.tr h (by decide) (by decide); exact this) ht) 17 _ _ (Mv.rf h1.2.2.1 h1.fl) (by omega) (by decide) (by decide)
theorem p_knownFlat_21 {x1 : Int32} {m : dM} {Q : Int32 → dM → Prop} (ht : 0 ≤ tt m ∧ tt m ≤ 400) (hf : 0 ≤ flt m) (hn : nms m ≤ 15) (h79 : ∀ j, -1 ≤ (m.1 79 j).toInt ∧ (m.1 79 j).toInt ≤ 6) (hx1 : 0 ≤ x1.toInt ∧ x1.toInt ≤ 400) (hQ : ∀ (r : Int32) (m' : dM), Mv 0 m m' → -1 ≤ r.toInt ∧ r.toInt ≤ 6 → (flt m' = 0 → wst m' = 0 → 0 ≤ r.toInt) → Q r m') : ∀ n : Nat, ∀ x2 : Int32, 0 ≤ x2.toInt ∧ x2.toInt ≤ 15 → 15 - x2.toInt < (n : Int) → j_X12_knownFlat_70_21 4 x1 x2 m Q := by
  intro n
  induction n with
  | zero => intro x2 h2 hμ; exfalso; omega
  | succ n ih =>
    intro x2 h2 hμ
    refine v_X12_knownFlat_70_21 ⟨fun _ => ?_, fun hc => ?_⟩
    · exact Wp.deep (p_wrong ht hf (by decide) hx1 (fun m' h h' => hQ _ _ h (by decide) (fun a b => absurd b (h' a)))) (Nat.le_of_ble_eq_true rfl)
    · have hc : x2.toInt < nms m := hc
      have f := dAddE (X := x2.toInt) (Y := 1) (x := x2) (y := (1 : Int32)) rfl (by decide) (by omega) (by omega)
      have nx : j_X12_knownFlat_70_61 4 x1 x2 m Q := v_X12_knownFlat_70_61 (ih _ (by omega) (by omega))
      refine ⟨by omega, ⟨by omega, fun _ => nx, fun _ => ⟨by omega, fun _ => nx, fun h0 => ⟨by omega, ?_⟩⟩⟩⟩
      exact hQ _ _ (Mv.rf ht hf) (h79 _) (fun _ _ => h0)
theorem p_knownFlat {m : dM} {Q : Int32 → dM → Prop} (ht : 0 ≤ tt m ∧ tt m ≤ 400) (hf : 0 ≤ flt m) (hn : nms m ≤ 15) (h79 : ∀ j, -1 ≤ (m.1 79 j).toInt ∧ (m.1 79 j).toInt ≤ 6) (hQ : ∀ (r : Int32) (m' : dM), Mv 1 m m' → -1 ≤ r.toInt ∧ r.toInt ≤ 6 → (flt m' = 0 → wst m' = 0 → 0 ≤ r.toInt) → Q r m') : c_X12_knownFlat_70 4 m Q := by
  refine v_X12_knownFlat_70 ?_
  refine p_must ht hf (fun m1 h1 => ⟨fun hc => ?_, fun hc => ?_⟩)
  · have e : nms m1 = nms m := by unfold nms; rw [h1.2.1 20 (by decide) (by decide) (by decide) (by decide) (by decide)]
    exact p_knownFlat_21 h1.2.2.1 h1.fl (by omega) (by rw [h1.1 79 (by decide)]; exact h79) ht (fun r m' h a b => hQ r m' (h1.tr h (by decide) (by decide)) a b) 17 _ (by decide) (by decide)
  · have hc : 0 < flt m1 := hc
    exact hQ _ _ h1 (by decide) (fun a => by exfalso; omega)
theorem p_bounded {x1 x2 : Int32} {m : dM} {Q : Int32 → dM → Prop} (ht : 0 ≤ tt m ∧ tt m ≤ 400) (hf : 0 ≤ flt m) (h75 : ∀ j, 0 ≤ (m.1 75 j).toInt ∧ (m.1 75 j).toInt ≤ 9999) (hx : 0 ≤ x1.toInt ∧ x1.toInt ≤ 9999) (hQ : ∀ (r : Int32) (m' : dM), Mv 1 m m' → 0 ≤ r.toInt ∧ r.toInt ≤ 9999 → Q r m') : c_X12_bounded_70 3 x1 x2 m Q := by
  have bad : j_X12_bounded_70_15 3 x1 m Q := by
    refine v_X12_bounded_70_15 ?_
    refine Wp.deep (p_fail ht (by decide) (fun m' h h' => hQ _ _ ⟨h.1, h.2.1, h.2.2.1, ?_, h.2.2.2.2⟩ hx)) (Nat.le_of_ble_eq_true rfl)
    right
    rcases h.2.2.2.1 with q | q <;> omega
  refine v_X12_bounded_70 ⟨fun _ => bad, fun hc => ?_⟩
  refine Wp.deep (p_is ht (fun h1 h2 => ⟨fun _ => ⟨⟨ht.1, by have := ht.2; unfold tt at this; omega⟩, ?_⟩, fun h => absurd h (by decide)⟩) (fun h1 => ⟨fun h => absurd rfl h, fun _ => bad⟩)) (Nat.le_of_ble_eq_true rfl)
  have on : ∀ m1, Mv 0 m m1 → j_X12_bounded_70_51 3 (m.1 75 (m.1 70 11).toNatClampNeg) m1 Q := fun m1 h => by
    refine v_X12_bounded_70_51 (p_goesOn h.2.2.1 h.fl (fun m' h' => hQ _ _ ?_ (h75 _)))
    exact h.tr h' (by decide) (by decide)
  have wr : j_X12_bounded_70_42 3 (m.1 75 (m.1 70 11).toNatClampNeg) m Q := by
    refine v_X12_bounded_70_42 ?_
    exact Wp.deep (p_wrong ht hf (by decide) ht (fun m' h _ => on m' h)) (Nat.le_of_ble_eq_true rfl)
  exact ⟨fun _ => wr, fun _ => ⟨fun _ => on m (Mv.rf ht hf), fun _ => wr⟩⟩
