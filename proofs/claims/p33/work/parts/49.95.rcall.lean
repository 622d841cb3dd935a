/-! THE REFERENCE: hours, undo, hold, restore -/
section RCM
variable {H : Ho} {S : Zt} {P : List Zt} {L : Nat → Zt} {s : Nat} {m : dM}
theorem mor_h {T : Zt} {M : dM} (h6 : M.1 70 56 = hoE H) (h7 : M.1 70 57 = 0) : mor H T M = sgA H (hoE H) (szH T) := by
  unfold mor
  rw [h6, h7, decide_eq_false (by decide)]
  rfl
theorem y_goes {x1 : Int32} {n : Nat} {Q : dM → Prop} (hC : CY H S s m) (hO : zOk H S) (h6 : m.1 70 56 = hoE H) (h7 : m.1 70 57 = 0) (hx : x1.toInt = (n : Int)) (hn : n ≤ 72) (hQ : ∀ m' : dM, RsF m m' → CY H (itr H n S) s m' → Q m') : c_X12_goes_70 7 x1 m Q := by
  have loop : ∀ (t i : Nat) (x2 : Int32) (T : Zt) (M : dM), i + t = n → x2.toInt = (i : Int) → RsF m M → CY H T s M → zOk H T → M.1 70 56 = hoE H → M.1 70 57 = 0 → itr H t T = itr H n S → j_X12_goes_70_2 7 x1 x2 M Q := by
    intro t
    induction t with
    | zero =>
      intro i x2 T M hi h2 hF hC' hT a b e
      have e : T = itr H n S := e
      rw [← e] at hQ
      exact v_X12_goes_70_2 ⟨fun _ => hQ M hF hC', fun q => by exfalso; omega⟩
    | succ t ih =>
      intro i x2 T M hi h2 hF hC' hT a b e
      refine v_X12_goes_70_2 ⟨fun q => by exfalso; omega, fun _ => y_hourGoes hC'.1 hC'.2.1 hC'.2.2 hT (fun M1 f1 W1 g1 Z1 L1 => ?_)⟩
      rw [mor_h a b] at Z1 L1
      exact ih (i + 1) _ (hst H T) M1 (by omega) (d_inc h2 (by omega)) (hF.tr f1.rs) ⟨W1, Z1, L1⟩ (hT.h hC.1.1) ((f1.2.1 56 (by decide) (by decide)).trans a) ((f1.2.1 57 (by decide) (by decide)).trans b) e
  exact v_X12_goes_70 (loop n 0 _ S m (by omega) (by decide) (RsF.rf m) hC hO h6 h7 rfl)
theorem y_isLong {x : Int32} {Q : Int32 → dM → Prop} (hT : 0 ≤ x.toInt ∧ x.toInt ≤ 72 → Q 1 m) (hF : ¬ (0 ≤ x.toInt ∧ x.toInt ≤ 72) → Q 0 m) : c_X12_isLong 2 x m Q := by
  have z : (0 : Int32).toInt = 0 := by decide
  have z7 := ti_72
  exact v_X12_isLong (y_in (fun q => ⟨Or.inr rfl, hT (by omega)⟩) (fun q => ⟨Or.inl rfl, hF (by omega)⟩))
theorem q_hours {x1 : Int32} {Q : Int32 → dM → Prop} (hK : KR H S P L s m) (hO : zOk H S) (hQ : ∀ m' : dM, RcF m m' → KR H (aHrs H S P x1).2.1 (aHrs H S P x1).2.2 L s m' → Q (aHrs H S P x1).1 m') : c_X12_hours_70 8 x1 m Q := by
  unfold aHrs at hQ
  refine v_X12_hours_70 (Wp.deep (y_isLong (fun q => ⟨fun _ => ⟨fun n0 => ?_, fun e0 => ?_⟩, fun z => absurd z (by decide)⟩) (fun q => ⟨fun z => absurd rfl z, fun _ => ?_⟩)) (Nat.le_of_ble_eq_true rfl))
  · rw [if_pos q, if_neg n0] at hQ
    have hx := toNat_of q.1
    refine Wp.deep (y_copies hK.1 hK.2.1 (fun M1 f1 cy a b => ?_)) (Nat.le_of_ble_eq_true rfl)
    refine y_goes cy hO a b hx (by omega) (fun M2 f2 cy2 => ?_)
    refine Wp.deep (y_records (hK.rs (f1.tr f2)) cy2.2.1 (fun M3 p q r d => ?_)) (Nat.le_of_ble_eq_true rfl)
    rw [d.2.1.1.1]
    exact hQ M3 ((f1.tr f2).rc.tr (fun k q => p k (by omega) (by omega) (by omega))) d
  · rw [if_pos q, if_pos e0] at hQ
    rw [hK.2.1.1.1]
    exact hQ m (RcF.rf m) hK
  · rw [if_neg q] at hQ
    exact hQ m (RcF.rf m) hK
theorem q_undo {Q : Int32 → dM → Prop} (hK : KR H S P L s m) (hQ : ∀ m' : dM, RcF m m' → KR H (aUnd S P).2.1 (aUnd S P).2.2 L s m' → Q (aUnd S P).1 m') : c_X12_undo_70 1 m Q := by
  obtain ⟨p1, p2, p3⟩ := hK.2.2.1
  refine v_X12_undo_70 ⟨fun ne => ?_, fun ee => ?_⟩
  · match P, p1, p2, p3, hQ with
    | [], p1, _, _, _ => exact absurd p1 ne
    | T :: P', p1, p2, p3, hQ =>
      have hQ : ∀ m' : dM, RcF m m' → KR H T P' L s m' → Q 1 m' := hQ
      rw [List.length_cons] at p1 p2
      have f := dSubE (X := ((P'.length + 1 : Nat) : Int)) (Y := 1) (x := m.1 70 61) (y := (1 : Int32)) p1 (by decide) (by omega) (by omega)
      have hT := p3 0 T rfl
      rw [List.length_cons] at hT
      have f' : (m.1 70 61 - 1).toInt = (P'.length : Int) := by omega
      have loop : ∀ (t i : Nat) (x1 : Int32) (M : dM), i + t = 58 → x1.toInt = (i : Int) → (∀ k : Nat, k ≠ 70 → k ≠ 107 → M.1 k = m.1 k) → (∀ j : Nat, j ≠ 61 → M.1 70 j = m.1 70 j) → (M.1 70 61).toInt = (P'.length : Int) → (∀ j : Nat, j < i → M.1 107 j = m.1 111 (58 * P'.length + j)) → j_X12_undo_70_21 1 x1 M Q := by
        intro t
        induction t with
        | zero =>
          intro i x1 M hi h1 hk hj h61 hv
          refine v_X12_undo_70_21 ⟨fun _ => hQ M (fun k q => hk k (by omega) (by omega)) ⟨⟨hK.1.1, hK.1.2.of (fun k a b => hk k (by omega) (by omega)) (hj 18 (by decide))⟩, ?_, ⟨h61, by omega, fun k U hU => ?_⟩, hK.2.2.2.of (hk 115 (by decide) (by decide)) (hk 116 (by decide) (by decide))⟩, fun q => by exfalso; omega⟩
          · exact (hT.of hK.1.1 (fun j hj' => by rw [hv j (by omega), show P'.length + 1 - 1 - 0 = P'.length by omega])).z
          · have hl2 : k < P'.length := (List.getElem?_eq_some_iff.mp hU).1
            have := p3 (k + 1) U hU
            rw [List.length_cons] at this
            refine this.of hK.1.1 (fun j _ => ?_)
            rw [hk 111 (by decide) (by decide), show P'.length + 1 - 1 - (k + 1) = P'.length - 1 - k by omega]
        | succ t ih =>
          intro i x1 M hi h1 hk hj h61 hv
          have fm := dMulE (X := 58) (Y := (P'.length : Int)) (x := (58 : Int32)) (y := M.1 70 61) (by decide) h61 (by omega) (by omega)
          have fa := dAddE (X := 58 * (P'.length : Int)) (Y := (i : Int)) fm h1 (by omega) (by omega)
          have fa' : ((58 : Int32) * M.1 70 61 + x1).toInt = ((58 * P'.length + i : Nat) : Int) := by rw [fa]; omega
          refine v_X12_undo_70_21 ⟨fun q => by exfalso; omega, fun _ => ⟨by omega, by omega, ?_⟩⟩
          rw [d_cn h1, d_cn fa', hk 111 (by decide) (by decide)]
          refine ih (i + 1) _ _ (by omega) (d_inc h1 (by omega)) (fun k q1 q2 => by rw [dSet_k q2]; exact hk k q1 q2) (fun j q => by rw [dSet_k (by decide)]; exact hj j q) (by rw [dSet_k (by decide)]; exact h61) (fun j hj' => ?_)
          by_cases e : j = i
          · subst e; rw [dSet_s]
          · rw [dSet_j e]; exact hv j (by omega)
      exact loop 58 0 _ _ rfl (by decide) (fun k q _ => dSet_k q) (fun j q => dSet_j q) (by rw [dSet_s]; exact f') (fun j hj' => absurd hj' (Nat.not_lt_zero j))
  · have e : P = [] := List.length_eq_zero_iff.mp (by omega)
    subst e
    exact hQ m (RcF.rf m) hK
theorem q_hold {x1 : Int32} {Q : Int32 → dM → Prop} (hK : KR H S P L s m) (hQ : ∀ (r : Int32) (m' : dM), RcF m m' → KR H S P (lHold L S x1) s m' → Q r m') : c_X12_hold_70 2 x1 m Q := by
  have z0 : (0 : Int32).toInt = 0 := by decide
  have z2 := ti_2
  refine v_X12_hold_70 (y_in (fun q => ⟨fun _ => ⟨by omega, ?_⟩, fun z => absurd z (by decide)⟩) (fun q => ⟨fun z => absurd rfl z, fun _ => hQ _ m (RcF.rf m) ⟨hK.1, hK.2.1, hK.2.2.1, fun i hi hb => ?_⟩⟩))
  · have hx := toNat_of (x := x1) (by omega)
    generalize x1.toNatClampNeg = u at *
    have loop : ∀ (t i : Nat) (x2 : Int32) (M : dM), i + t = 58 → x2.toInt = (i : Int) → (∀ k : Nat, k ≠ 115 → k ≠ 116 → M.1 k = m.1 k) → (∀ j : Nat, j ≠ u → M.1 115 j = m.1 115 j) → (∀ j : Nat, j < i → M.1 116 (58 * u + j) = m.1 107 j) → (∀ j : Nat, (j < 58 * u ∨ 58 * u + 58 ≤ j) → M.1 116 j = m.1 116 j) → j_X12_hold_70_20 2 x1 x2 M Q := by
      intro t
      induction t with
      | zero =>
        intro i x2 M hi h2 hk h115 hv ho
        refine v_X12_hold_70_20 ⟨fun _ => hQ _ M (fun k q => hk k (by omega) (by omega)) ⟨⟨hK.1.1, hK.1.2.of (fun k a b => hk k (by omega) (by omega)) (by rw [hk 70 (by decide) (by decide)])⟩, hK.2.1.of (hk 107 (by decide) (by decide)), hK.2.2.1.of (by rw [hk 70 (by decide) (by decide)]) (hk 111 (by decide) (by decide)), fun i' hi' hb => ?_⟩, fun q => by exfalso; omega⟩
        unfold lHold
        by_cases e : i' = u
        · subst e
          rw [if_pos ⟨by omega, hx⟩]
          exact hK.2.1.f.of hK.1.1 (fun j hj' => hv j (by omega))
        · rw [if_neg (by omega)]
          rw [h115 i' e] at hb
          refine (hK.2.2.2 i' hi' hb).of hK.1.1 (fun j hj' => ho _ ?_)
          omega
      | succ t ih =>
        intro i x2 M hi h2 hk h115 hv ho
        have fm := dMulE (X := 58) (Y := (u : Int)) (x := (58 : Int32)) (y := x1) (by decide) hx (by omega) (by omega)
        have fa := dAddE (X := 58 * (u : Int)) (Y := (i : Int)) fm h2 (by omega) (by omega)
        have fa' : ((58 : Int32) * x1 + x2).toInt = ((58 * u + i : Nat) : Int) := by rw [fa]; omega
        refine v_X12_hold_70_20 ⟨fun q => by exfalso; omega, fun _ => ⟨by omega, by omega, ?_⟩⟩
        rw [d_cn h2, d_cn fa', hk 107 (by decide) (by decide)]
        refine ih (i + 1) _ _ (by omega) (d_inc h2 (by omega)) (fun k q1 q2 => by rw [dSet_k q2]; exact hk k q1 q2) (fun j q => by rw [dSet_k (by decide)]; exact h115 j q) (fun j hj' => ?_) (fun j hj' => ?_)
        · by_cases e : j = i
          · subst e; rw [dSet_s]
          · rw [dSet_j (by omega)]; exact hv j (by omega)
        · rw [dSet_j (by omega)]; exact ho j hj'
    exact loop 58 0 _ _ rfl (by decide) (fun k q1 _ => dSet_k q1) (fun j q => dSet_j q) (fun j hj' => absurd hj' (Nat.not_lt_zero j)) (fun j _ => by rw [dSet_k (by decide)])
  · unfold lHold
    rw [if_neg (by omega)]
    exact hK.2.2.2 i hi hb
theorem q_restore {x1 : Int32} {held : Bool} {Q : Int32 → dM → Prop} (hK : KR H S P L s m) (hh : (0 ≤ x1.toInt ∧ x1.toInt < 3) → ((m.1 115 x1.toNatClampNeg).toInt ≠ 0 ↔ held = true)) (hQ : ∀ (r : Int32) (m' : dM), RcF m m' → KR H (aRes S P L x1 held).1 (aRes S P L x1 held).2 L s m' → Q r m') : c_X12_restore_70 2 x1 m Q := by
  have z0 : (0 : Int32).toInt = 0 := by decide
  have z2 := ti_2
  unfold aRes at hQ
  have no : ¬ ((0 ≤ x1.toInt ∧ x1.toInt < 3) ∧ held = true) → j_X12_restore_70_18 2 m Q := fun q => by
    rw [if_neg q] at hQ
    exact v_X12_restore_70_18 (hQ _ m (RcF.rf m) hK)
  refine v_X12_restore_70 (y_in (fun q => ⟨fun z => absurd z (by decide), fun _ => ⟨by omega, fun ne => ?_, fun ee => no (fun w => (hh w.1).mpr w.2 ee)⟩⟩) (fun q => ⟨fun _ => no (fun w => by omega), fun z => absurd rfl z⟩))
  have hb3 : 0 ≤ x1.toInt ∧ x1.toInt < 3 := by omega
  rw [if_pos ⟨hb3, (hh hb3).mp ne⟩] at hQ
  have hx := toNat_of hb3.1
  have hT := hK.2.2.2 x1.toNatClampNeg (by omega) ne
  generalize x1.toNatClampNeg = u at *
  have loop : ∀ (t i : Nat) (x2 : Int32) (M : dM), i + t = 58 → x2.toInt = (i : Int) → (∀ k : Nat, k ≠ 107 → M.1 k = m.1 k) → (∀ j : Nat, j < i → M.1 107 j = m.1 116 (58 * u + j)) → j_X12_restore_70_22 2 x1 x2 M Q := by
    intro t
    induction t with
    | zero =>
      intro i x2 M hi h2 hk hv
      refine v_X12_restore_70_22 ⟨fun _ => hQ _ _ (fun k q => by rw [dSet_k (by omega)]; exact hk k (by omega)) ⟨⟨hK.1.1, hK.1.2.of (fun k a b => by rw [dSet_k (by omega)]; exact hk k (by omega)) (by rw [dSet_j (by decide), hk 70 (by decide)])⟩, ?_, ⟨by rw [dSet_s]; rfl, Nat.zero_le _, fun k U hU => by cases hU⟩, hK.2.2.2.of (by rw [dSet_k (by decide)]; exact hk 115 (by decide)) (by rw [dSet_k (by decide)]; exact hk 116 (by decide))⟩, fun q => by exfalso; omega⟩
      have : RZ H 107 M (L u) := (hT.of hK.1.1 (fun j hj' => hv j (by omega))).z
      exact this.of (dSet_k (by decide))
    | succ t ih =>
      intro i x2 M hi h2 hk hv
      have fm := dMulE (X := 58) (Y := (u : Int)) (x := (58 : Int32)) (y := x1) (by decide) hx (by omega) (by omega)
      have fa := dAddE (X := 58 * (u : Int)) (Y := (i : Int)) fm h2 (by omega) (by omega)
      have fa' : ((58 : Int32) * x1 + x2).toInt = ((58 * u + i : Nat) : Int) := by rw [fa]; omega
      refine v_X12_restore_70_22 ⟨fun q => by exfalso; omega, fun _ => ⟨by omega, by omega, ?_⟩⟩
      rw [d_cn h2, d_cn fa', hk 116 (by decide)]
      refine ih (i + 1) _ _ (by omega) (d_inc h2 (by omega)) (fun k q => by rw [dSet_k q]; exact hk k q) (fun j hj' => ?_)
      by_cases e : j = i
      · subst e; rw [dSet_s]
      · rw [dSet_j e]; exact hv j (by omega)
  exact loop 58 0 _ m rfl (by decide) (fun _ _ => rfl) (fun j hj' => absurd hj' (Nat.not_lt_zero j))
end RCM
