/-! THE CLASS: questions leave how it stands, 3 -/
section CKG
variable {H : Ho} {S : Zt} {P : List Zt} {L : Nat → Zt} {m : dM}
theorem b1_le {u : Nat} (h : u ≤ 10) : 0 < (b1 u).toInt ∧ (b1 u).toInt ≤ 1024 := by
  match u, h with
  | 0, _ | 1, _ | 2, _ | 3, _ | 4, _ | 5, _ | 6, _ | 7, _ | 8, _ | 9, _ | 10, _ => decide
  | u + 11, h => omega
theorem k_payAll {x1 : Int32} {Q : Int32 → dM → Prop} {M : dM} (hW : CW H M) (hQ : ∀ r : Int32, Q r M) : c_X1_payOfAll_61 2 x1 M Q := by
  have u8 := hW.1.2.2.1
  have e22 := hW.2.1.2.1
  have loop : ∀ (t u : Nat) (x2 x3 : Int32), u + t = hoU H → x3.toInt = (u : Int) → j_X1_payOfAll_61_4 2 x1 x2 x3 M Q := by
    intro t
    induction t with
    | zero => intro u x2 x3 hu h3; exact v_X1_payOfAll_61_4 ⟨fun _ => hQ _, fun q => by exfalso; omega⟩
    | succ t ih => intro u x2 x3 hu h3; exact v_X1_payOfAll_61_4 ⟨fun q => by exfalso; omega, fun _ => k_has (fun r _ => ⟨fun _ => ih (u + 1) _ _ (by omega) (d_inc h3 (by omega)), fun _ => ⟨by omega, ih (u + 1) _ _ (by omega) (d_inc h3 (by omega))⟩⟩)⟩
  exact v_X1_payOfAll_61 (loop (hoU H) 0 _ _ (by omega) (by decide))
theorem k_together {x1 : Int32} {Q : Int32 → dM → Prop} (hK : KC H S P L m) (hO : zOk H S) (hQ : ∀ (r : Int32) (m' : dM), QC H S P L m m' → Q r m') : c_X11_together_0 7 x1 m Q := by
  have q0 := QC.rf hK
  have u8 := hK.1.1.2.2.1
  have no : j_X11_together_0_9 7 m Q := v_X11_together_0_9 (hQ _ m q0)
  refine v_X11_together_0 ⟨fun _ => no, fun _ => ⟨fun _ => ?_, fun _ => no⟩⟩
  have fin : ∀ (r1 : Int32) (M : dM), QC H S P L m M → (x1.toInt ≠ 0 → Q r1 M) ∧ (x1.toInt = 0 → c_X1_payOfAll_61 6 r1 M (fun r2 m2 => Q r2 m2)) := fun r1 M qM => ⟨fun _ => hQ _ M qM, fun _ => Wp.deep (k_payAll qM.2.1 (fun r => hQ _ M qM)) (Nat.le_of_ble_eq_true rfl)⟩
  have l89 : ∀ (t : Nat) (x3 x4 x5 x6 : Int32) (M : dM), x6.toInt + (t : Int) = 1025 → 0 ≤ x6.toInt → QC H S P L m M → j_X1_bestTogether_61_47_89 6 x3 x4 x5 x6 M (fun r1 m1 => (x1.toInt ≠ 0 → Q r1 m1) ∧ (x1.toInt = 0 → c_X1_payOfAll_61 6 r1 m1 (fun r2 m2 => Q r2 m2))) := by
    intro t
    induction t with
    | zero =>
      intro x3 x4 x5 x6 M h6 h0 qM
      have b := b1_le (u := hoU H) (by omega)
      refine v_X1_bestTogether_61_47_89 ?_
      rw [b1_of qM.2.1.2.1.2.1]
      exact ⟨fun _ => fin _ M qM, fun q => by exfalso; omega⟩
    | succ t ih =>
      intro x3 x4 x5 x6 M h6 h0 qM
      have b := b1_le (u := hoU H) (by omega)
      have f := dAddE (X := x6.toInt) (Y := 1) (x := x6) (y := (1 : Int32)) rfl (by decide) (by omega) (by omega)
      have on : ∀ (y z : Int32) (M1 : dM), QC H S P L m M1 → j_X1_bestTogether_61_47_148 6 x3 y z x6 M1 (fun r1 m1 => (x1.toInt ≠ 0 → Q r1 m1) ∧ (x1.toInt = 0 → c_X1_payOfAll_61 6 r1 m1 (fun r2 m2 => Q r2 m2))) := fun y z M1 q1 => v_X1_bestTogether_61_47_148 (ih _ _ _ _ M1 (by omega) (by omega) q1)
      refine v_X1_bestTogether_61_47_89 ?_
      rw [b1_of qM.2.1.2.1.2.1]
      exact ⟨fun _ => fin _ M qM, fun q => ⟨fun _ => on _ _ M qM, fun _ => Wp.deep (k_payAll qM.2.1 (fun r => ⟨fun _ => on _ _ M qM, fun _ => k_goingWith qM hO (fun M2 q2 => ⟨fun _ => on _ _ M2 q2, fun _ => Wp.deep (k_payAll q2.2.1 (fun r => on _ _ M2 q2)) (Nat.le_of_ble_eq_true rfl)⟩)⟩)) (Nat.le_of_ble_eq_true rfl)⟩⟩
  refine v_X1_bestTogether_61_47 (Wp.deep (k_ways q0 hO (fun M q1 l1 => ?_)) (Nat.le_of_ble_eq_true rfl))
  have l17 : ∀ (t u : Nat) (x2 x3 x4 : Int32) (M : dM), u + t = hoU H → x4.toInt = (u : Int) → QC H S P L m M → j_X1_bestTogether_61_47_17 6 x2 x3 x4 M (fun r1 m1 => (x1.toInt ≠ 0 → Q r1 m1) ∧ (x1.toInt = 0 → c_X1_payOfAll_61 6 r1 m1 (fun r2 m2 => Q r2 m2))) := by
    intro t
    induction t with
    | zero =>
      intro u x2 x3 x4 M hu h4 qM
      have e22 := qM.2.1.2.1.2.1
      exact v_X1_bestTogether_61_47_17 ⟨fun _ => l89 1024 _ _ _ _ M (by decide) (by decide) qM, fun q => by exfalso; omega⟩
    | succ t ih =>
      intro u x2 x3 x4 M hu h4 qM
      have e22 := qM.2.1.2.1.2.1
      exact v_X1_bestTogether_61_47_17 ⟨fun q => by exfalso; omega, fun _ => Wp.deep (y_pay47 qM.2.1 qM.2.2.1 h4 (by omega) (fun M2 f2 => ⟨by omega, by omega, Wp.deep (k_has (fun r _ => ⟨fun _ => ih (u + 1) _ _ _ _ (by omega) (d_inc h4 (by omega)) ((qM.va f2).s61 (Or.inr rfl)), fun _ => ih (u + 1) _ _ _ _ (by omega) (d_inc h4 (by omega)) ((qM.va f2).s61 (Or.inr rfl))⟩)) (Nat.le_of_ble_eq_true rfl)⟩)) (Nat.le_of_ble_eq_true rfl)⟩
  exact l17 (hoU H) 0 _ _ _ M (by omega) (by decide) q1
theorem k_when {x1 : Int32} {Q : Int32 → dM → Prop} (hK : KC H S P L m) (hO : zOk H S) (hQ : ∀ (r : Int32) (m' : dM), QC H S P L m m' → Q r m') : c_X11_when_0 6 x1 m Q := by
  have q0 := QC.rf hK
  have u8 := hK.1.1.2.2.1
  refine v_X11_when_0 (Wp.deep (y_isUsec hK.1 (fun hu => ⟨fun z => absurd z (by decide), fun _ => ?_⟩) (fun hu => ⟨fun _ => hQ _ m q0, fun z => absurd rfl z⟩)) (Nat.le_of_ble_eq_true rfl))
  have loop : ∀ (t : Nat) (x3 x4 x5 : Int32) (M : dM), x5.toInt + (t : Int) = 24 → 0 ≤ x5.toInt → QC H S P L m M → j_X1_firstStart_61_47_28 5 x1 x3 x4 x5 M Q := by
    intro t
    induction t with
    | zero => intro x3 x4 x5 M h5 h0 qM; exact v_X1_firstStart_61_47_28 ⟨fun _ => hQ _ M qM, fun q => by exfalso; omega⟩
    | succ t ih =>
      intro x3 x4 x5 M h5 h0 qM
      have f := dAddE (X := x5.toInt) (Y := 1) (x := x5) (y := (1 : Int32)) rfl (by decide) (by omega) (by omega)
      refine v_X1_firstStart_61_47_28 ⟨fun q => by exfalso; omega, fun _ => Wp.deep (y_usesAt47 qM.2.1 qM.2.2.1 (hO.g1 hK.1.1) (fun M1 f1 w1 l1 => ?_)) (Nat.le_of_ble_eq_true rfl)⟩
      have q1 := qM.sc f1.sf w1
      refine Wp.deep (y_putOn47 w1 q1.2.2.1 (hO.g1 hK.1.1) (fun M2 f2 w2 l2 d2 => ?_)) (Nat.le_of_ble_eq_true rfl)
      have q2 := q1.sc f2 w2
      exact y_going47 w2 q2.2.2.1 d2 (fun M3 f3 => ⟨fun _ => ⟨fun _ => ih _ _ _ M3 (by omega) (by omega) (q2.va f3), fun _ => hQ _ M3 (q2.va f3)⟩, fun _ => ⟨fun _ => ih _ _ _ M3 (by omega) (by omega) (q2.va f3), fun _ => hQ _ M3 (q2.va f3)⟩⟩)
  exact v_X1_firstStart_61_47 ⟨by omega, by omega, loop 24 _ _ _ m (by decide) (by decide) q0⟩
theorem k_cutBy : ∀ (s : Nat) (x1 x2 x3 x4 : Int32) (M : dM) (Q : Int32 → dM → Prop), CW H M → x4.toInt ≤ (s : Int) → -10 ≤ x4.toInt → s ≤ 3 → 0 ≤ x3.toInt → x3.toInt ≤ 11 → (∀ r : Int32, Q r M) → c_X1_cutBy_2 (3 + s) x1 x2 x3 x4 M Q := by
  intro s
  induction s with
  | zero =>
    intro x1 x2 x3 x4 M Q hW h4 h4' hs h3 h3' hQ
    exact v_X1_cutBy_2 ⟨fun q => by exfalso; omega, fun _ => k_lit hW (fun r => Wp.deep (d := 1) (k_has (fun r2 _ => ⟨fun _ => hQ _, fun _ => hQ _⟩)) (Nat.le_of_ble_eq_true rfl))⟩
  | succ s ih =>
    intro x1 x2 x3 x4 M Q hW h4 h4' hs h3 h3' hQ
    have w10 := hW.1.2.1
    have e21 := hW.2.1.1.2.1.1
    have fs := dSubE (X := x4.toInt) (Y := 1) (x := x4) (y := (1 : Int32)) rfl (by decide) (by omega) (by omega)
    have loop : 0 < x4.toInt → ∀ (t : Nat) (x5 : Int32), x5.toInt + (t : Int) = 12 → 0 ≤ x5.toInt → j_X1_cutBy_2_26 (3 + (s + 1)) x1 x2 x4 x5 M Q := by
      intro p4 t
      induction t with
      | zero => intro x5 h5 h0; exact v_X1_cutBy_2_26 ⟨fun _ => hQ _, fun q => by exfalso; omega⟩
      | succ t ih2 =>
        intro x5 h5 h0
        have f := dAddE (X := x5.toInt) (Y := 1) (x := x5) (y := (1 : Int32)) rfl (by decide) (by omega) (by omega)
        have on : j_X1_cutBy_2_79 (3 + (s + 1)) x1 x2 x4 x5 M Q := v_X1_cutBy_2_79 (ih2 _ (by omega) (by omega))
        exact v_X1_cutBy_2_26 ⟨fun _ => hQ _, fun q => Wp.deep (d := 1) (d' := 3 + s) (k_has (fun r _ => ⟨fun _ => on, fun _ => ih _ _ _ _ M _ hW (by omega) (by omega) (by omega) (by omega) (by omega) (fun r2 => ⟨fun _ => on, fun _ => hQ _⟩)⟩)) (show 1 ≤ 3 + s by omega)⟩
    refine v_X1_cutBy_2 ⟨fun q => loop q (12 - x3.toInt).toNat _ (by omega) h3, fun _ => Wp.deep (d := 2) (d' := 3 + s) (k_lit hW (fun r => Wp.deep (d := 1) (d' := 3 + s) (k_has (fun r2 _ => ⟨fun _ => hQ _, fun _ => hQ _⟩)) (show 1 ≤ 3 + s by omega))) (show 2 ≤ 3 + s by omega)⟩
theorem k_cut {x1 x2 : Int32} {Q : Int32 → dM → Prop} (hK : KC H S P L m) (hQ : ∀ (r : Int32) (m' : dM), QC H S P L m m' → Q r m') : c_X11_cut_0 8 x1 x2 m Q := by
  have q0 := QC.rf hK
  have no : j_X11_cut_0_18 8 m Q := v_X11_cut_0_18 (hQ _ m q0)
  refine v_X11_cut_0 (Wp.deep (y_isFlatc hK.1 (fun hu => ⟨fun z => absurd z (by decide), fun _ => ⟨fun _ => no, fun _ => ⟨fun _ => ?_, fun _ => no⟩⟩⟩) (fun hu => ⟨fun _ => no, fun z => absurd rfl z⟩)) (Nat.le_of_ble_eq_true rfl))
  have fin : ∀ r2 : Int32, (0 ≤ r2.toInt → (x2.toInt ≠ (-1) → c_X11_bitAt 7 r2 x2 m (fun r3 m3 => Q r3 m3)) ∧ (x2.toInt = (-1) → c_J6_bitCount 7 r2 m (fun r4 m4 => Q r4 m4))) ∧ (r2.toInt < 0 → Q (-2 : Int32) m) := fun r2 => ⟨fun _ => ⟨fun _ => Wp.deep (k_bitAt (fun r => hQ _ m q0)) (Nat.le_of_ble_eq_true rfl), fun _ => Wp.deep (k_count (fun r => hQ _ m q0)) (Nat.le_of_ble_eq_true rfl)⟩, fun _ => hQ _ m q0⟩
  have loop : ∀ (t : Nat) (x3 : Int32), x3.toInt + (t : Int) = 4 → 0 ≤ x3.toInt → j_X1_leastCut_61_47_2 7 x1 x3 m (fun r2 m2 => (0 ≤ r2.toInt → (x2.toInt ≠ (-1) → c_X11_bitAt 7 r2 x2 m2 (fun r3 m3 => Q r3 m3)) ∧ (x2.toInt = (-1) → c_J6_bitCount 7 r2 m2 (fun r4 m4 => Q r4 m4))) ∧ (r2.toInt < 0 → Q (-2 : Int32) m2)) := by
    intro t
    induction t with
    | zero => intro x3 h3 h0; exact v_X1_leastCut_61_47_2 ⟨fun _ => fin _, fun q => by exfalso; omega⟩
    | succ t ih =>
      intro x3 h3 h0
      have f := dAddE (X := x3.toInt) (Y := 1) (x := x3) (y := (1 : Int32)) rfl (by decide) (by omega) (by omega)
      exact v_X1_leastCut_61_47_2 ⟨fun q => by exfalso; omega, fun _ => k_cutBy 3 _ _ _ _ m _ hK.1 (by omega) (by omega) (by omega) (by decide) (by decide) (fun r => ⟨fun _ => ih _ (by omega) (by omega), fun _ => fin _⟩)⟩
  exact v_X1_leastCut_61_47 (loop 4 _ (by decide) (by decide))
theorem k_isSo {x1 x2 : Int32} {Q : Int32 → dM → Prop} {M : dM} (h3 : (M.1 67 3).toInt ≤ 20) (hQ : ∀ r : Int32, Q r M) : c_X9_isSo_67 2 x1 x2 M Q := by
  have loop : ∀ (t : Nat) (x3 : Int32), x3.toInt + (t : Int) = 20 → 0 ≤ x3.toInt → j_X9_isSo_67_2 2 x1 x2 x3 M Q := by
    intro t
    induction t with
    | zero => intro x3 h h0; exact v_X9_isSo_67_2 ⟨fun _ => v_X9_isSo_67_42 (hQ _), fun _ => ⟨fun _ => v_X9_isSo_67_42 (hQ _), fun q => by exfalso; omega⟩⟩
    | succ t ih =>
      intro x3 h h0
      have f := dAddE (X := x3.toInt) (Y := 1) (x := x3) (y := (1 : Int32)) rfl (by decide) (by omega) (by omega)
      exact v_X9_isSo_67_2 ⟨fun _ => v_X9_isSo_67_42 (hQ _), fun _ => ⟨fun _ => v_X9_isSo_67_42 (hQ _), fun q => ⟨by omega, k_has (fun r _ => ⟨by omega, fun _ => ih _ (by omega) (by omega), fun _ => hQ _⟩)⟩⟩⟩
  exact v_X9_isSo_67 (loop 20 _ (by decide) (by decide))
theorem k_susp {x1 x2 : Int32} {Q : Int32 → dM → Prop} {M : dM} (hW : CW H M) (h3 : (M.1 67 3).toInt ≤ 20) (hQ : ∀ r : Int32, Q r M) : c_X9_suspects_67 3 x1 x2 M Q := by
  have w10 := hW.1.2.1
  have e21 := hW.2.1.1.2.1.1
  have loop : ∀ (t w : Nat) (x3 x4 : Int32), w + t = hoW H → x4.toInt = (w : Int) → j_X9_suspects_67_5 3 x1 x2 x3 x4 M Q := by
    intro t
    induction t with
    | zero => intro w x3 x4 hw h4; exact v_X9_suspects_67_5 ⟨fun _ => hQ _, fun q => by exfalso; omega⟩
    | succ t ih =>
      intro w x3 x4 hw h4
      have on : ∀ y : Int32, j_X9_suspects_67_54 3 x1 x2 y x4 M Q := fun y => v_X9_suspects_67_54 (ih (w + 1) _ _ (by omega) (d_inc h4 (by omega)))
      exact v_X9_suspects_67_5 ⟨fun q => by exfalso; omega, fun _ => Wp.deep (k_has (fun r _ => ⟨fun _ => on _, fun _ => k_lit hW (fun r2 => k_isSo h3 (fun r3 => ⟨fun _ => on _, fun _ => on _⟩))⟩)) (Nat.le_of_ble_eq_true rfl)⟩
  exact v_X9_suspects_67 (loop (hoW H) 0 _ _ (by omega) (by decide))
theorem k_went {x1 x2 : Int32} {Q : Int32 → dM → Prop} (hK : KC H S P L m) (h3 : (m.1 67 3).toInt ≤ 20) (hQ : ∀ (r : Int32) (m' : dM), QC H S P L m m' → Q r m') : c_X11_went_0 4 x1 x2 m Q := by
  have q0 := QC.rf hK
  have no : j_X11_went_0_24 4 m Q := v_X11_went_0_24 (hQ _ m q0)
  exact v_X11_went_0 ⟨fun _ => no, fun _ => ⟨fun _ => no, fun _ => ⟨fun _ => no, fun _ => ⟨fun _ => k_susp hK.1 h3 (fun r => ⟨fun _ => hQ _ m q0, fun _ => Wp.deep (k_count (fun r => hQ _ m q0)) (Nat.le_of_ble_eq_true rfl)⟩), fun _ => no⟩⟩⟩⟩
theorem k_worst {x1 x2 x3 : Int32} {Q : Int32 → dM → Prop} {M : dM} (hW : CW H M) (hQ : ∀ r : Int32, Q r M) : c_X9_leftAtWorst_67 3 x1 x2 x3 M Q := by
  have w10 := hW.1.2.1
  have e21 := hW.2.1.1.2.1.1
  have loop : ∀ (t w : Nat) (x4 x5 : Int32), w + t = hoW H → x5.toInt = (w : Int) → j_X9_leftAtWorst_67_6 3 x1 x2 x3 x4 x5 M Q := by
    intro t
    induction t with
    | zero => intro w x4 x5 hw h5; exact v_X9_leftAtWorst_67_6 ⟨fun _ => Wp.deep (k_count (fun r => hQ _)) (Nat.le_of_ble_eq_true rfl), fun q => by exfalso; omega⟩
    | succ t ih =>
      intro w x4 x5 hw h5
      have on : ∀ y : Int32, j_X9_leftAtWorst_67_6 3 x1 x2 x3 y (x5 + (1 : Int32)) M Q := fun y => ih (w + 1) _ _ (by omega) (d_inc h5 (by omega))
      exact v_X9_leftAtWorst_67_6 ⟨fun q => by exfalso; omega, fun _ => Wp.deep (k_has (fun r _ => ⟨fun _ => on _, fun _ => k_lit hW (fun r2 => Wp.deep (d := 1) (k_has (fun r3 _ => ⟨fun _ => on _, fun _ => on _⟩)) (Nat.le_of_ble_eq_true rfl))⟩)) (Nat.le_of_ble_eq_true rfl)⟩
  exact v_X9_leftAtWorst_67 (loop (hoW H) 0 _ _ (by omega) (by decide))
theorem k_ask {x1 : Int32} {Q : Int32 → dM → Prop} (hK : KC H S P L m) (h3 : (m.1 67 3).toInt ≤ 20) (hQ : ∀ (r : Int32) (m' : dM), QC H S P L m m' → Q r m') : c_X11_ask_0 5 x1 m Q := by
  have q0 := QC.rf hK
  have f7 := hK.1.1.1
  have e20 := hK.1.2.1.1.1.1
  have no : j_X11_ask_0_15 5 m Q := v_X11_ask_0_15 (hQ _ m q0)
  refine v_X11_ask_0 ⟨fun _ => no, fun _ => ⟨fun _ => ?_, fun _ => no⟩⟩
  have fin : ∀ y : Int32, j_X9_bestQuestion_67_65 4 y m Q := fun y => v_X9_bestQuestion_67_65 (hQ _ m q0)
  have loop : ∀ (x3 : Int32) (t f : Nat) (x4 x5 x6 : Int32), f + t = hoF H → x6.toInt = (f : Int) → j_X9_bestQuestion_67_18 4 (m.1 47 3) x3 x4 x5 x6 m Q := by
    intro x3 t
    induction t with
    | zero => intro f x4 x5 x6 hf h6; exact v_X9_bestQuestion_67_18 ⟨fun _ => fin _, fun q => by exfalso; omega⟩
    | succ t ih =>
      intro f x4 x5 x6 hf h6
      have on : ∀ y z : Int32, j_X9_bestQuestion_67_59 4 (m.1 47 3) x3 y z x6 m Q := fun y z => v_X9_bestQuestion_67_59 (ih (f + 1) _ _ _ (by omega) (d_inc h6 (by omega)))
      exact v_X9_bestQuestion_67_18 ⟨fun q => by exfalso; omega, fun _ => ⟨fun _ => fin _, fun _ => k_worst hK.1 (fun r => ⟨fun _ => on _ _, fun _ => on _ _⟩)⟩⟩
  exact v_X9_bestQuestion_67 (k_susp hK.1 h3 (fun r => loop _ (hoF H) 0 _ _ _ (by omega) (by decide)))
/-- what a call leaves that changes none of these cells -/
theorem KC.fr {m' : dM} (h : KC H S P L m) (e : ∀ k : Nat, 2 ≤ k → k ≤ 60 → m'.1 k = m.1 k) : KC H S P L m' := ⟨⟨h.1.1, h.1.2.1.of (fun k a b _ => e k (by omega) (by omega)), h.1.2.2.of (fun k a b => e k (by omega) (by omega))⟩, h.2.1.of (fun k a b => e k (by omega) (by omega)), h.2.2.1.of (by rw [e 51 (by omega) (by omega)]) (by rw [e 51 (by omega) (by omega)]) (e 52 (by omega) (by omega)), h.2.2.2.of (by rw [e 51 (by omega) (by omega)]) (e 53 (by omega) (by omega))⟩
end CKG
