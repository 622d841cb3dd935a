/-! THE REFERENCE: questions leave how it stands, 3 -/
section RKG
variable {H : Ho} {S : Zt} {P : List Zt} {L : Nat → Zt} {s : Nat} {m : dM}
theorem r_cut {x1 x2 : Int32} {Q : Int32 → dM → Prop} (hK : KR H S P L s m) (hQ : ∀ (r : Int32) (m' : dM), RsF m m' → Q r m') : c_X12_cut_70 8 x1 x2 m Q := by
  have f7 := hK.1.1.1
  have w10 := hK.1.1.2.1
  have no : j_X12_cut_70_17 8 m Q := v_X12_cut_70_17 (hQ _ m (RsF.rf m))
  refine v_X12_cut_70 (Wp.deep (y_isFlatr hK.1 (fun hu => ⟨fun z => absurd z (by decide), fun _ => Wp.deep (y_in (fun h => ⟨fun _ => Wp.deep (r_goneBits hK (fun r3 => ?_)) (Nat.le_of_ble_eq_true rfl), fun z => absurd z (by decide)⟩) (fun _ => ⟨fun z => absurd rfl z, fun _ => no⟩)) (Nat.le_of_ble_eq_true rfl)⟩) (fun hu => ⟨fun _ => no, fun z => absurd rfl z⟩)) (Nat.le_of_ble_eq_true rfl))
  have hx := toNat_of hu.1
  have b := b1_le (u := hoW H) (by omega)
  have bt' : ∀ (y : Int32) (M : dM) (Q' : Int32 → dM → Prop), (∀ r : Int32, Q' r M) → c_X12_bits 7 y M Q' := fun y M Q' h => Wp.deep (r_bits h) (Nat.le_of_ble_eq_true rfl)
  have loop : ∀ (t : Nat) (x4 x5 : Int32) (M : dM), x5.toInt + (t : Int) = 1025 → 0 ≤ x5.toInt → RsF m M → j_X12_cut_70_30 8 x1 x2 r3 x4 x5 M Q := by
    intro t
    induction t with
    | zero =>
      intro x4 x5 M h5 h0 fM
      have hKM := hK.rs fM
      have a := hKM.1.2.1.1
      refine v_X12_cut_70_30 ?_
      rw [d_cn a.1, b1_of hKM.1.2.1.2.2.1.1]
      exact ⟨by omega, fun _ => ⟨fun _ => ⟨fun _ => Wp.deep (r_ith (fun r => hQ _ M fM)) (Nat.le_of_ble_eq_true rfl), fun _ => bt' _ M _ (fun r => hQ _ M fM)⟩, fun _ => hQ _ M fM⟩, fun q => by exfalso; omega⟩
    | succ t ih =>
      intro x4 x5 M h5 h0 fM
      have hKM := hK.rs fM
      have a := hKM.1.2.1.1
      have f := dAddE (X := x5.toInt) (Y := 1) (x := x5) (y := (1 : Int32)) rfl (by decide) (by omega) (by omega)
      refine v_X12_cut_70_30 ?_
      rw [d_cn a.1, b1_of hKM.1.2.1.2.2.1.1]
      refine ⟨by omega, fun _ => ⟨fun _ => ⟨fun _ => Wp.deep (r_ith (fun r => hQ _ M fM)) (Nat.le_of_ble_eq_true rfl), fun _ => bt' _ M _ (fun r => hQ _ M fM)⟩, fun _ => hQ _ M fM⟩, fun q => ?_⟩
      have on : ∀ (y : Int32) (M1 : dM), RsF m M1 → j_X12_cut_70_127 8 x1 x2 r3 y x5 M1 Q := fun y M1 f1 => v_X12_cut_70_127 (ih _ _ M1 (by omega) (by omega) f1)
      have tr : j_X12_cut_70_109 8 x1 x2 r3 x4 x5 M Q := v_X12_cut_70_109 (y_loses hK fM (fun M1 f1 W1 L1 => Wp.deep (y_isLit L1 hx (by omega) (fun _ => ⟨fun _ => on _ M1 f1, fun _ => on _ M1 f1⟩) (fun _ => ⟨fun _ => on _ M1 f1, fun _ => on _ M1 f1⟩)) (Nat.le_of_ble_eq_true rfl)))
      exact bt' _ M _ (fun _ => ⟨fun _ => on _ M fM, fun _ => ⟨fun _ => ⟨fun _ => tr, fun _ => bt' _ M _ (fun _ => bt' _ M _ (fun _ => ⟨fun _ => on _ M fM, fun _ => bt' _ M _ (fun _ => bt' _ M _ (fun _ => ⟨fun _ => tr, fun _ => Wp.deep (r_earlier (fun _ => ⟨fun _ => tr, fun _ => on _ M fM⟩)) (Nat.le_of_ble_eq_true rfl)⟩))⟩))⟩, fun _ => on _ M fM⟩⟩)
  exact loop 1025 _ _ m (by decide) (by decide) (RsF.rf m)
theorem r_share {x1 x2 : Int32} {Q : Int32 → dM → Prop} (hK : KR H S P L s m) (hQ : ∀ (r : Int32) (m' : dM), RsF m m' → Q r m') : c_X12_share_70 7 x1 x2 m Q := by
  have f7 := hK.1.1.1
  have no : j_X12_share_70_16 7 m Q := v_X12_share_70_16 (hQ _ m (RsF.rf m))
  refine v_X12_share_70 (Wp.deep (y_isFlatr hK.1 (fun hu => ⟨fun z => absurd z (by decide), fun _ => Wp.deep (y_isWire hK.1.2.1 (fun hw => ⟨fun _ => ?_, fun z => absurd z (by decide)⟩) (fun _ => ⟨fun z => absurd rfl z, fun _ => no⟩)) (Nat.le_of_ble_eq_true rfl)⟩) (fun hu => ⟨fun _ => no, fun z => absurd rfl z⟩)) (Nat.le_of_ble_eq_true rfl))
  have hx := toNat_of hu.1
  exact y_copies hK.1 hK.2.1 (fun M f cy _ _ => ⟨by omega, fun _ => hQ _ M f, fun _ => Wp.deep (y_ampsOn cy hx (hQ _ M f)) (Nat.le_of_ble_eq_true rfl)⟩)
theorem r_without {x1 : Int32} {Q : Int32 → dM → Prop} (hK : KR H S P L s m) (hQ : ∀ (r : Int32) (m' : dM), RsF m m' → Q r m') : c_X12_without_70 8 x1 m Q :=
  v_X12_without_70 (Wp.deep (y_isWire hK.1.2.1 (fun hu => ⟨fun _ => y_loses hK (RsF.rf m) (fun M f W1 L1 => Wp.deep (y_darkBits W1 L1 (hQ _ M f)) (Nat.le_of_ble_eq_true rfl)), fun z => absurd z (by decide)⟩) (fun hu => ⟨fun z => absurd rfl z, fun _ => hQ _ m (RsF.rf m)⟩)) (Nat.le_of_ble_eq_true rfl))
theorem r_needed {Q : Int32 → dM → Prop} (hK : KR H S P L s m) (hQ : ∀ (r : Int32) (m' : dM), RsF m m' → Q r m') : c_X12_needed_70 8 m Q := by
  have w10 := hK.1.1.2.1
  have loop : ∀ (t w : Nat) (x1 x2 x3 : Int32) (M : dM), w + t = hoW H → x3.toInt = (w : Int) → RsF m M → j_X12_needed_70_13 8 x1 x2 x3 M Q := by
    intro t
    induction t with
    | zero =>
      intro w x1 x2 x3 M hw h3 fM
      have hKM := hK.rs fM
      have a := hKM.1.2.1.1
      refine v_X12_needed_70_13 ?_
      rw [d_cn a.1, hKM.1.2.1.2.2.1.1, a.1]
      exact ⟨by omega, fun _ => hQ _ M fM, fun q => by exfalso; omega⟩
    | succ t ih =>
      intro w x1 x2 x3 M hw h3 fM
      have hKM := hK.rs fM
      have a := hKM.1.2.1.1
      have e10 := d_add (k := x3) (K := w) (x := (10 : Int32)) (i := 10) (by decide) h3 (by omega)
      have on : ∀ (y : Int32) (M1 : dM), RsF m M1 → j_X12_needed_70_63 8 x1 y x3 M1 Q := fun y M1 f1 => v_X12_needed_70_63 (ih (w + 1) _ _ _ M1 (by omega) (d_inc h3 (by omega)) f1)
      refine v_X12_needed_70_13 ?_
      rw [d_cn a.1, hKM.1.2.1.2.2.1.1, a.1]
      exact ⟨by omega, fun q => by exfalso; omega, fun _ => ⟨by omega, fun _ => y_loses hK fM (fun M1 f1 W1 L1 => Wp.deep (y_darkBits W1 L1 ⟨fun _ => on _ M1 f1, fun _ => on _ M1 f1⟩) (Nat.le_of_ble_eq_true rfl)), fun _ => on _ M fM⟩⟩
  exact v_X12_needed_70 (Wp.deep (y_copies hK.1 hK.2.1 (fun M f cy _ _ => Wp.deep (y_darkBits cy.1 cy.2.2 (loop (hoW H) 0 _ _ _ M (by omega) (by decide) f)) (Nat.le_of_ble_eq_true rfl))) (Nat.le_of_ble_eq_true rfl))
theorem r_hottest {x1 : Int32} {Q : Int32 → dM → Prop} (hK : KR H S P L s m) (hQ : ∀ (r : Int32) (m' : dM), RsF m m' → Q r m') : c_X12_hottest_70 7 x1 m Q := by
  have w10 := hK.1.1.2.1
  refine v_X12_hottest_70 (Wp.deep (y_in (fun h => ⟨fun _ => y_copies hK.1 hK.2.1 (fun M f cy _ _ => Wp.deep (y_onNow cy ?_) (Nat.le_of_ble_eq_true rfl)), fun z => absurd z (by decide)⟩) (fun _ => ⟨fun z => absurd rfl z, fun _ => hQ _ m (RsF.rf m)⟩)) (Nat.le_of_ble_eq_true rfl))
  have a := cy.1.2.1.1
  have loop : ∀ (t w : Nat) (x2 x3 x4 x5 : Int32), w + t = hoW H → x5.toInt = (w : Int) → j_X12_hottest_70_34 7 x1 x2 x3 x4 x5 M Q := by
    intro t
    induction t with
    | zero =>
      intro w x2 x3 x4 x5 hw h5
      refine v_X12_hottest_70_34 ?_
      rw [d_cn a.1, cy.1.2.1.2.2.1.1, a.1]
      exact ⟨by omega, fun _ => ⟨fun _ => hQ _ M f, fun _ => hQ _ M f⟩, fun q => by exfalso; omega⟩
    | succ t ih =>
      intro w x2 x3 x4 x5 hw h5
      have on : ∀ y z : Int32, j_X12_hottest_70_95 7 x1 x2 y z x5 M Q := fun y z => v_X12_hottest_70_95 (ih (w + 1) _ _ _ _ (by omega) (d_inc h5 (by omega)))
      have on2 : ∀ y : Int32, j_X12_hottest_70_88 7 x1 x2 x5 y M Q := fun y => v_X12_hottest_70_88 (on _ _)
      refine v_X12_hottest_70_34 ?_
      rw [d_cn a.1, cy.1.2.1.2.2.1.1, a.1]
      exact ⟨by omega, fun q => by exfalso; omega, fun _ => Wp.deep (y_loadBy cy.1 cy.2.2 h5 (by omega) ⟨by omega, Wp.deep (y_isWhole cy.1.2.1 (cy.2.1.rg (r := 0)) h5 (by omega) (fun _ => ⟨fun z => absurd z (by decide), fun _ => ⟨fun _ => on2 _, fun _ => ⟨fun _ => on2 _, fun _ => on _ _⟩⟩⟩) (fun _ => ⟨fun _ => on _ _, fun z => absurd rfl z⟩)) (Nat.le_of_ble_eq_true rfl)⟩) (Nat.le_of_ble_eq_true rfl)⟩
  exact loop (hoW H) 0 _ _ _ _ (by omega) (by decide)
theorem r_clash {x1 x2 : Int32} {Q : Int32 → dM → Prop} (hK : KR H S P L s m) (hQ : ∀ (r : Int32) (m' : dM), RsF m m' → Q r m') : c_X12_clash_70 7 x1 x2 m Q := by
  obtain ⟨o1, o2, o3, o4, o5, o6⟩ := hK.1.1
  have no : j_X12_clash_70_21 7 m Q := v_X12_clash_70_21 (hQ _ m (RsF.rf m))
  refine v_X12_clash_70 (Wp.deep (y_isUser hK.1 (fun hu => ⟨fun z => absurd z (by decide), fun _ => Wp.deep (y_isUser hK.1 (fun hv => ⟨fun z => absurd z (by decide), fun _ => ⟨fun _ => ?_, fun _ => no⟩⟩) (fun _ => ⟨fun _ => no, fun z => absurd rfl z⟩)) (Nat.le_of_ble_eq_true rfl)⟩) (fun hu => ⟨fun _ => no, fun z => absurd rfl z⟩)) (Nat.le_of_ble_eq_true rfl))
  have hx := toNat_of hu.1
  have hy := toNat_of hv.1
  refine y_copies hK.1 hK.2.1 (fun M f cy _ _ => ?_)
  have c1 := (o5 x1.toNatClampNeg (by omega)).1
  have c2 := (o5 x2.toNatClampNeg (by omega)).1
  have n0 : j_X12_clash_70_51 7 M Q := v_X12_clash_70_51 (hQ _ M f)
  have go : ∀ (on h : Int32) (M1 : dM) (Q' : Int32 → dM → Prop), RsF m M1 → CY H S s M1 → (∀ (r : Int32) (M2 : dM), RsF m M2 → CY H S s M2 → Q' r M2) → c_X12_goingBits_70 6 on h (0 : Int32) M1 Q' := fun on h M1 Q' f1 c1 hq => Wp.deep (y_goingBits c1.1 c1.2.1 c1.2.2 (fun M2 f2 => hq _ M2 (f1.tr f2.rs) (c1.xa f2))) (Nat.le_of_ble_eq_true rfl)
  exact Wp.deep (y_flatAt cy.1 hx (by omega) (fun r hr => Wp.deep (y_isLit cy.2.2 hr (by omega) (fun _ => ⟨fun z => absurd z (by decide), fun _ => Wp.deep (y_flatAt cy.1 hy (by omega) (fun r2 hr2 => Wp.deep (y_isLit cy.2.2 hr2 (by omega) (fun _ => ⟨fun _ => go _ _ M _ f cy (fun _ M2 f2 c2 => go _ _ M2 _ f2 c2 (fun _ M3 f3 c3 => go _ _ M3 _ f3 c3 (fun _ M4 f4 c4 => Wp.deep (r_bits (fun r => hQ _ M4 f4)) (Nat.le_of_ble_eq_true rfl)))), fun z => absurd z (by decide)⟩) (fun _ => ⟨fun z => absurd rfl z, fun _ => n0⟩)) (Nat.le_of_ble_eq_true rfl))) (Nat.le_of_ble_eq_true rfl)⟩) (fun _ => ⟨fun _ => n0, fun z => absurd rfl z⟩)) (Nat.le_of_ble_eq_true rfl))) (Nat.le_of_ble_eq_true rfl)
theorem r_then {x1 x2 : Int32} {Q : Int32 → dM → Prop} (hK : KR H S P L s m) (hO : zOk H S) (hQ : ∀ (r : Int32) (m' : dM), RsF m m' → Q r m') : c_X12_then_70 8 x1 x2 m Q := by
  have w10 := hK.1.1.2.1
  have no : j_X12_then_70_16 8 m Q := v_X12_then_70_16 (hQ _ m (RsF.rf m))
  refine v_X12_then_70 (Wp.deep (y_isLong (fun h => ⟨fun z => absurd z (by decide), fun _ => Wp.deep (y_in (fun h2 => ⟨fun _ => Wp.deep (y_copies hK.1 hK.2.1 (fun M f cy a6 a7 => y_goes cy hO a6 a7 (toNat_of h.1) (by have := toNat_of h.1; omega) (fun M2 f2 c2 => ?_))) (Nat.le_of_ble_eq_true rfl), fun z => absurd z (by decide)⟩) (fun _ => ⟨fun z => absurd rfl z, fun _ => no⟩)) (Nat.le_of_ble_eq_true rfl)⟩) (fun _ => ⟨fun _ => no, fun z => absurd rfl z⟩)) (Nat.le_of_ble_eq_true rfl))
  have F2 := f.tr f2
  have a := c2.1.2.1.1
  have e0 := ti_0
  refine ⟨fun _ => ?_, fun q => ?_⟩
  · have loop : ∀ (t w : Nat) (x3 x4 : Int32), w + t = hoW H → x4.toInt = (w : Int) → j_X12_then_70_57 8 x3 x4 M2 Q := by
      intro t
      induction t with
      | zero =>
        intro w x3 x4 hw h4
        refine v_X12_then_70_57 ?_
        rw [d_cn a.1, c2.1.2.1.2.2.1.1, a.1]
        exact ⟨by omega, fun _ => hQ _ M2 F2, fun q => by exfalso; omega⟩
      | succ t ih =>
        intro w x3 x4 hw h4
        have e10 := d_add (k := x4) (K := w) (x := (10 : Int32)) (i := 10) (by decide) h4 (by omega)
        refine v_X12_then_70_57 ?_
        rw [d_cn a.1, c2.1.2.1.2.2.1.1, a.1]
        exact ⟨by omega, fun q => by exfalso; omega, fun _ => ⟨by omega, ih (w + 1) _ _ (by omega) (d_inc h4 (by omega))⟩⟩
    exact loop (hoW H) 0 _ _ (by omega) (by decide)
  · have f56 := dAddE (X := 56) (Y := x2.toInt) (x := (56 : Int32)) (y := x2) (by decide) rfl (by omega) (by omega)
    exact ⟨by omega, by omega, hQ _ M2 F2⟩
theorem r_litIn {x1 x2 : Int32} {Q : Int32 → dM → Prop} (hK : KR H S P L s m) (hO : zOk H S) (hQ : ∀ (r : Int32) (m' : dM), RsF m m' → Q r m') : c_X12_litIn_70 8 x1 x2 m Q := by
  have f7 := hK.1.1.1
  have no : j_X12_litIn_70_15 8 m Q := v_X12_litIn_70_15 (hQ _ m (RsF.rf m))
  exact v_X12_litIn_70 (Wp.deep (y_isFlatr hK.1 (fun hu => ⟨fun z => absurd z (by decide), fun _ => Wp.deep (y_isLong (fun h => ⟨fun _ => Wp.deep (y_copies hK.1 hK.2.1 (fun M f cy a6 a7 => y_goes cy hO a6 a7 (toNat_of h.1) (by have := toNat_of h.1; omega) (fun M2 f2 c2 => Wp.deep (y_isLit c2.2.2 (toNat_of hu.1) (by have := toNat_of hu.1; omega) (fun _ => ⟨fun _ => hQ _ M2 (f.tr f2), fun _ => hQ _ M2 (f.tr f2)⟩) (fun _ => ⟨fun _ => hQ _ M2 (f.tr f2), fun _ => hQ _ M2 (f.tr f2)⟩)) (Nat.le_of_ble_eq_true rfl)))) (Nat.le_of_ble_eq_true rfl), fun z => absurd z (by decide)⟩) (fun _ => ⟨fun z => absurd rfl z, fun _ => no⟩)) (Nat.le_of_ble_eq_true rfl)⟩) (fun hu => ⟨fun _ => no, fun z => absurd rfl z⟩)) (Nat.le_of_ble_eq_true rfl))
theorem r_year {x1 x2 : Int32} {Q : Int32 → dM → Prop} (hK : KR H S P L s m) (hO : zOk H S) (hQ : ∀ (r : Int32) (m' : dM), RsF m m' → Q r m') : c_X12_year_70 7 x1 x2 m Q := by
  have no : j_X12_year_70_17 7 m Q := v_X12_year_70_17 (hQ _ m (RsF.rf m))
  refine v_X12_year_70 (Wp.deep (y_isLong (fun h => ⟨fun z => absurd z (by decide), fun _ => Wp.deep (y_in (fun h2 => ⟨fun _ => ?_, fun z => absurd z (by decide)⟩) (fun _ => ⟨fun z => absurd rfl z, fun _ => no⟩)) (Nat.le_of_ble_eq_true rfl)⟩) (fun _ => ⟨fun _ => no, fun z => absurd rfl z⟩)) (Nat.le_of_ble_eq_true rfl))
  have e1 := ti_1
  have e20 := ti_20
  have e0 := ti_0
  have l24 : ∀ (t : Nat) (x3 x4 : Int32) (M : dM), x4.toInt + (t : Int) = x2.toInt → 0 ≤ x4.toInt → RsF m M → j_X12_year_70_24 7 x1 x2 x3 x4 M Q := by
    intro t
    induction t with
    | zero => intro x3 x4 M h4 h04 fM; exact v_X12_year_70_24 ⟨fun _ => hQ _ M fM, fun q => by exfalso; omega⟩
    | succ t ih =>
      intro x3 x4 M h4 h04 fM
      have hKM := hK.rs fM
      have f4 := dAddE (X := x4.toInt) (Y := 1) (x := x4) (y := (1 : Int32)) rfl (by decide) (by omega) (by omega)
      have l85 : ∀ (y : Int32) (M1 : dM), RsF m M1 → j_X12_year_70_85 7 x1 x2 y x4 M1 Q := fun y M1 f1 => v_X12_year_70_85 (ih _ _ M1 (by omega) (by omega) f1)
      refine v_X12_year_70_24 ⟨fun q => by exfalso; omega, fun _ => y_copies hKM.1 hKM.2.1 (fun M1 f1 cy _ _ => ?_)⟩
      have l51 : ∀ (t2 : Nat) (x5 x6 : Int32) (T : Zt) (M2 : dM), x6.toInt + (t2 : Int) = x1.toInt → 0 ≤ x6.toInt → RsF m M2 → CY H T s M2 → zOk H T → j_X12_year_70_51 7 x1 x2 x3 x4 x5 x6 M2 Q := by
        intro t2
        induction t2 with
        | zero => intro x5 x6 T M2 h6 h06 f2 c2 hT; exact v_X12_year_70_51 ⟨fun _ => ⟨fun _ => l85 _ M2 f2, fun _ => l85 _ M2 f2⟩, fun q => by exfalso; omega⟩
        | succ t2 ih2 =>
          intro x5 x6 T M2 h6 h06 f2 c2 hT
          have f6 := dAddE (X := x6.toInt) (Y := 1) (x := x6) (y := (1 : Int32)) rfl (by decide) (by omega) (by omega)
          exact v_X12_year_70_51 ⟨fun q => by exfalso; omega, fun _ => r_hour c2 hT f2 (fun T' M3 f3 c3 h3 => ⟨fun _ => v_X12_year_70_71 (ih2 _ _ T' M3 (by omega) (by omega) f3 c3 h3), fun _ => v_X12_year_70_71 (ih2 _ _ T' M3 (by omega) (by omega) f3 c3 h3)⟩)⟩
      exact l51 x1.toNatClampNeg _ _ S _ (by have := toNat_of h.1; omega) (by decide) ((fM.tr f1).s70 (by decide)) ⟨cy.1.rs ((RsF.rf M1).s70 (by decide)), cy.2.1.of (dSet_k (by decide)), cy.2.2.of (dSet_k (by decide)) (dSet_k (by decide))⟩ hO
  exact l24 x2.toNatClampNeg _ _ m (by have := toNat_of (x := x2) (by omega); omega) (by decide) (RsF.rf m)
theorem r_wentBits {x1 : Int32} {Q : Int32 → dM → Prop} (hK : KR H S P L s m) (h1 : x1.toInt ≤ 20) (hQ : ∀ (r : Int32) (m' : dM), RsF m m' → Q r m') : c_X12_wentBits_70 8 x1 m Q := by
  have w10 := hK.1.1.2.1
  have loop : ∀ (t w : Nat) (x2 x3 : Int32) (M : dM), w + t = hoW H → x3.toInt = (w : Int) → RsF m M → j_X12_wentBits_70_4 8 x1 x2 x3 M Q := by
    intro t
    induction t with
    | zero =>
      intro w x2 x3 M hw h3 fM
      have hKM := hK.rs fM
      have a := hKM.1.2.1.1
      refine v_X12_wentBits_70_4 ?_
      rw [d_cn a.1, hKM.1.2.1.2.2.1.1, a.1]
      exact ⟨by omega, fun _ => hQ _ M fM, fun q => by exfalso; omega⟩
    | succ t ih =>
      intro w x2 x3 M hw h3 fM
      have hKM := hK.rs fM
      have a := hKM.1.2.1.1
      have e10 := d_add (k := x3) (K := w) (x := (10 : Int32)) (i := 10) (by decide) h3 (by omega)
      have on : ∀ (y : Int32) (M1 : dM), RsF m M1 → j_X12_wentBits_70_108 8 x1 y x3 M1 Q := fun y M1 f1 => v_X12_wentBits_70_108 (ih (w + 1) _ _ M1 (by omega) (d_inc h3 (by omega)) f1)
      refine v_X12_wentBits_70_4 ?_
      rw [d_cn a.1, hKM.1.2.1.2.2.1.1, a.1]
      refine ⟨by omega, fun q => by exfalso; omega, fun _ => ⟨by omega, fun _ => y_loses hK fM (fun M1 f1 W1 L1 => Wp.deep (y_litBits W1 L1 ⟨by omega, ?_⟩) (Nat.le_of_ble_eq_true rfl)), fun _ => on _ M fM⟩⟩
      have F2 : ∀ v : Int32, RsF m (dSet M1 114 x3.toNatClampNeg v) := fun v => ⟨fun k q1 q2 q3 => by rw [dSet_k q3]; exact f1.1 k q1 q2 q3, fun j q1 q2 q3 q4 => by rw [dSet_k (by decide)]; exact f1.2.1 j q1 q2 q3 q4, f1.2.2⟩
      have l56 : ∀ (v : Int32) (t2 : Nat) (x4 x5 : Int32), x5.toInt + (t2 : Int) = 20 → 0 ≤ x5.toInt → j_X12_wentBits_70_56 8 x1 x2 x3 x4 x5 (dSet M1 114 x3.toNatClampNeg v) Q := by
        intro v t2
        induction t2 with
        | zero => intro x4 x5 h5 h05; exact v_X12_wentBits_70_56 ⟨fun _ => ⟨fun _ => on _ _ (F2 v), fun _ => on _ _ (F2 v)⟩, fun q => by exfalso; omega⟩
        | succ t2 ih2 =>
          intro x4 x5 h5 h05
          have f5 := dAddE (X := x5.toInt) (Y := 1) (x := x5) (y := (1 : Int32)) rfl (by decide) (by omega) (by omega)
          exact v_X12_wentBits_70_56 ⟨fun _ => ⟨fun _ => on _ _ (F2 v), fun _ => on _ _ (F2 v)⟩, fun q => ⟨by omega, by omega, by omega, fun _ => v_X12_wentBits_70_91 (ih2 _ _ (by omega) (by omega)), fun _ => v_X12_wentBits_70_91 (ih2 _ _ (by omega) (by omega))⟩⟩
      exact l56 _ 20 _ _ (by decide) (by decide)
  exact v_X12_wentBits_70 (loop (hoW H) 0 _ _ m (by omega) (by decide) (RsF.rf m))
theorem r_went {x1 x2 : Int32} {Q : Int32 → dM → Prop} (hK : KR H S P L s m) (h63 : (m.1 70 63).toInt ≤ 20) (hQ : ∀ (r : Int32) (m' : dM), RsF m m' → Q r m') : c_X12_went_70 9 x1 x2 m Q := by
  have no : j_X12_went_70_21 9 m Q := v_X12_went_70_21 (hQ _ m (RsF.rf m))
  exact v_X12_went_70 (Wp.deep (y_in (fun h => ⟨fun z => absurd z (by decide), fun _ => Wp.deep (y_in (fun h2 => ⟨fun _ => r_wentBits hK (by omega) (fun r M f => ⟨fun _ => hQ _ M f, fun _ => Wp.deep (r_bits (fun r => hQ _ M f)) (Nat.le_of_ble_eq_true rfl)⟩), fun z => absurd z (by decide)⟩) (fun _ => ⟨fun z => absurd rfl z, fun _ => no⟩)) (Nat.le_of_ble_eq_true rfl)⟩) (fun _ => ⟨fun _ => no, fun z => absurd rfl z⟩)) (Nat.le_of_ble_eq_true rfl))
theorem r_ask {x1 : Int32} {Q : Int32 → dM → Prop} (hK : KR H S P L s m) (h63 : (m.1 70 63).toInt ≤ 20) (hQ : ∀ (r : Int32) (m' : dM), RsF m m' → Q r m') : c_X12_ask_70 9 x1 m Q := by
  have f7 := hK.1.1.1
  have w10 := hK.1.1.2.1
  refine v_X12_ask_70 (Wp.deep (y_in (fun h => ⟨fun _ => r_wentBits hK (by omega) (fun r2 M f => ?_), fun z => absurd z (by decide)⟩) (fun _ => ⟨fun z => absurd rfl z, fun _ => hQ _ m (RsF.rf m)⟩)) (Nat.le_of_ble_eq_true rfl))
  have hKM := hK.rs f
  have a := hKM.1.2.1.1
  have fin : ∀ y : Int32, j_X12_ask_70_153 9 y M Q := fun y => v_X12_ask_70_153 (hQ _ M f)
  have loop : ∀ (t g : Nat) (x3 x4 x5 : Int32), g + t = hoF H → x5.toInt = (g : Int) → j_X12_ask_70_29 9 r2 x3 x4 x5 M Q := by
    intro t
    induction t with
    | zero =>
      intro g x3 x4 x5 hg h5
      refine v_X12_ask_70_29 ?_
      rw [d_cn a.1, hKM.1.2.1.2.1.1, a.1]
      exact ⟨by omega, fun _ => fin _, fun q => by exfalso; omega⟩
    | succ t ih =>
      intro g x3 x4 x5 hg h5
      have on : ∀ y z : Int32, j_X12_ask_70_147 9 r2 y z x5 M Q := fun y z => v_X12_ask_70_147 (ih (g + 1) _ _ _ (by omega) (d_inc h5 (by omega)))
      have on2 : ∀ y : Int32, j_X12_ask_70_140 9 r2 x5 y M Q := fun y => v_X12_ask_70_140 (on _ _)
      have inner : ∀ (u w : Nat) (x6 x7 : Int32), w + u = hoW H → x7.toInt = (w : Int) → j_X12_ask_70_53 9 r2 x3 x4 x5 x6 x7 M Q := by
        intro u
        induction u with
        | zero =>
          intro w x6 x7 hw h7
          refine v_X12_ask_70_53 ?_
          rw [d_cn a.1, hKM.1.2.1.2.2.1.1, a.1]
          exact ⟨by omega, fun _ => Wp.deep (r_bits (fun r => ⟨fun _ => Wp.deep (r_bits (fun r => ⟨fun _ => on2 _, fun _ => ⟨fun _ => on2 _, fun _ => on _ _⟩⟩)) (Nat.le_of_ble_eq_true rfl), fun _ => ⟨fun _ => on2 _, fun _ => ⟨fun _ => on2 _, fun _ => on _ _⟩⟩⟩)) (Nat.le_of_ble_eq_true rfl), fun q => by exfalso; omega⟩
        | succ u ih2 =>
          intro w x6 x7 hw h7
          have n94 : ∀ y : Int32, j_X12_ask_70_94 9 r2 x3 x4 x5 y x7 M Q := fun y => v_X12_ask_70_94 (ih2 (w + 1) _ _ (by omega) (d_inc h7 (by omega)))
          refine v_X12_ask_70_53 ?_
          rw [d_cn a.1, hKM.1.2.1.2.2.1.1, a.1]
          exact ⟨by omega, fun q => by exfalso; omega, fun _ => ⟨fun _ => n94 _, fun _ => ⟨by omega, n94 _⟩⟩⟩
      refine v_X12_ask_70_29 ?_
      rw [d_cn a.1, hKM.1.2.1.2.1.1, a.1]
      exact ⟨by omega, fun q => by exfalso; omega, fun _ => ⟨fun _ => fin _, fun _ => inner (hoW H) 0 _ _ (by omega) (by decide)⟩⟩
  exact loop (hoF H) 0 _ _ _ (by omega) (by decide)
theorem r_count {x1 : Int32} {Q : Int32 → dM → Prop} (hK : KR H S P L s m) (hQ : ∀ (r : Int32) (m' : dM), RsF m m' → Q r m') : c_X12_count_70 7 x1 m Q := by
  have w10 := hK.1.1.2.1
  refine v_X12_count_70 (y_copies hK.1 hK.2.1 (fun M f cy _ _ => ?_))
  have a := cy.1.2.1.1
  have q0 : ∀ r : Int32, Q r M := fun r => hQ r M f
  have l228 : ∀ (t w : Nat) (x2 x3 : Int32), w + t = hoW H → x3.toInt = (w : Int) → j_X12_count_70_228 7 x2 x3 M Q := by
    intro t
    induction t with
    | zero =>
      intro w x2 x3 hw h3
      refine v_X12_count_70_228 ?_
      rw [d_cn a.1, cy.1.2.1.2.2.1.1, a.1]
      exact ⟨by omega, fun _ => q0 _, fun q => by exfalso; omega⟩
    | succ t ih =>
      intro w x2 x3 hw h3
      have e30 := d_add (k := x3) (K := w) (x := (30 : Int32)) (i := 30) (by decide) h3 (by omega)
      refine v_X12_count_70_228 ?_
      rw [d_cn a.1, cy.1.2.1.2.2.1.1, a.1]
      exact ⟨by omega, fun q => by exfalso; omega, fun _ => ⟨by omega, ih (w + 1) _ _ (by omega) (d_inc h3 (by omega))⟩⟩
  have l265 : ∀ (t w : Nat) (x2 x3 : Int32), w + t = hoW H → x3.toInt = (w : Int) → j_X12_count_70_265 7 x2 x3 M Q := by
    intro t
    induction t with
    | zero =>
      intro w x2 x3 hw h3
      refine v_X12_count_70_265 ?_
      rw [d_cn a.1, cy.1.2.1.2.2.1.1, a.1]
      exact ⟨by omega, fun _ => q0 _, fun q => by exfalso; omega⟩
    | succ t ih =>
      intro w x2 x3 hw h3
      have on : ∀ y : Int32, j_X12_count_70_295 7 y x3 M Q := fun y => v_X12_count_70_295 (ih (w + 1) _ _ (by omega) (d_inc h3 (by omega)))
      refine v_X12_count_70_265 ?_
      rw [d_cn a.1, cy.1.2.1.2.2.1.1, a.1]
      exact ⟨by omega, fun q => by exfalso; omega, fun _ => Wp.deep (y_isWhole cy.1.2.1 (cy.2.1.rg (r := 0)) h3 (by omega) (fun _ => ⟨fun z => absurd z (by decide), fun _ => ⟨by omega, on _⟩⟩) (fun _ => ⟨fun _ => on _, fun z => absurd rfl z⟩)) (Nat.le_of_ble_eq_true rfl)⟩
  have hKM := hK.rs f
  exact ⟨fun _ => ⟨by omega, q0 _⟩, fun _ => ⟨by omega, q0 _⟩, fun _ => ⟨by omega, q0 _⟩, fun _ => q0 _, fun _ => q0 _, fun _ => q0 _, fun _ => Wp.deep (r_goneBits hKM q0) (Nat.le_of_ble_eq_true rfl), fun _ => Wp.deep (y_litBits cy.1 cy.2.2 (q0 _)) (Nat.le_of_ble_eq_true rfl), fun _ => Wp.deep (y_onNow cy (q0 _)) (Nat.le_of_ble_eq_true rfl), fun _ => q0 _, fun _ => q0 _, fun _ => q0 _, fun _ => ⟨fun _ => ⟨fun _ => ⟨fun _ => q0 _, fun _ => q0 _⟩, fun _ => ⟨fun _ => q0 _, fun _ => q0 _⟩⟩, fun _ => ⟨fun _ => ⟨fun _ => q0 _, fun _ => q0 _⟩, fun _ => ⟨fun _ => q0 _, fun _ => q0 _⟩⟩⟩, fun _ => Wp.deep (y_isSurge cy.1 cy.2.1.1.1 ⟨fun _ => q0 _, fun _ => q0 _⟩) (Nat.le_of_ble_eq_true rfl), fun _ => l228 (hoW H) 0 _ _ (by omega) (by decide), fun _ => l265 (hoW H) 0 _ _ (by omega) (by decide), fun _ => q0 _⟩
end RKG
