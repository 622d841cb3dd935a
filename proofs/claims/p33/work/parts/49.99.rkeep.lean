/-! THE REFERENCE: questions leave how it stands -/
section RKE
variable {H : Ho} {S : Zt} {P : List Zt} {L : Nat → Zt} {s : Nat} {m : dM}
theorem CY.xa {M M' : dM} (h : CY H S s M) (hF : XaF M M') : CY H S s M' := ⟨h.1.xa hF, h.2.1.xa hF (Or.inr rfl), h.2.2.xa hF⟩
theorem y_onNow {Q : Int32 → dM → Prop} {M : dM} (hC : CY H S s M) (hQ : Q (onA H S (hod (szH S))) M) : c_X12_onNow_70 3 M Q := by
  refine v_X12_onNow_70 ?_
  rw [hC.2.1.1.1]
  exact y_onAt hC.1 hC.2.1 hC.2.2 hQ
theorem y_ampsOn {x : Int32} {f : Nat} {Q : Int32 → dM → Prop} {M : dM} (hC : CY H S s M) (hx : x.toInt = (f : Int)) (hQ : Q (amf H (onA H S (hod (szH S))) f (hoU H)) M) : c_X12_ampsOn_70 4 x M Q := by
  have u8 := hC.1.1.2.2.1
  have a := hC.1.2.1.1
  refine v_X12_ampsOn_70 (y_onNow hC ?_)
  generalize onA H S (hod (szH S)) = on at hQ ⊢
  have loop : ∀ (t u : Nat) (x3 x4 : Int32), u + t = hoU H → x4.toInt = (u : Int) → x3 = amf H on f u → j_X12_ampsOn_70_10 4 x on x3 x4 M Q := by
    intro t
    induction t with
    | zero =>
      intro u x3 x4 hu h4 h3
      refine v_X12_ampsOn_70_10 ?_
      rw [d_cn a.1, hC.1.2.2.1, a.1]
      refine ⟨by omega, fun _ => ?_, fun q => by exfalso; omega⟩
      rw [h3, show u = hoU H by omega]
      exact hQ
    | succ t ih =>
      intro u x3 x4 hu h4 h3
      have se : amf H on f (u + 1) = amf H on f u + cond (bt on u && decide (hoH H u = f)) (hoM H u) 0 := rfl
      have on2 : ∀ y : Int32, y = amf H on f (u + 1) → j_X12_ampsOn_70_53 4 x on y x4 M Q := fun y hy => v_X12_ampsOn_70_53 (ih (u + 1) _ _ (by omega) (d_inc h4 (by omega)) hy)
      refine v_X12_ampsOn_70_10 ?_
      rw [d_cn a.1, hC.1.2.2.1, a.1, bt_s h4 (by omega)]
      refine ⟨by omega, fun q => by exfalso; omega, fun _ => ?_⟩
      cases e : bt on u with
      | false =>
        rw [e, Bool.false_and, cond_false, Int32.add_zero] at se
        exact ⟨fun _ => on2 _ (by rw [se, h3]), fun q => absurd q (by decide)⟩
      | true =>
        rw [e, Bool.true_and] at se
        refine ⟨fun q => absurd rfl q, fun _ => Wp.deep (y_flatAt hC.1 h4 (by omega) (fun r hr => ⟨fun ne => on2 _ ?_, fun ee => Wp.deep (y_ampsAt hC.1 h4 (by omega) (on2 _ ?_)) (Nat.le_of_ble_eq_true rfl)⟩)) (Nat.le_of_ble_eq_true rfl)⟩
        · rw [decide_eq_false (by omega), cond_false, Int32.add_zero] at se
          rw [se, h3]
        · rw [decide_eq_true (by omega), cond_true] at se
          rw [se, h3]
  exact loop (hoU H) 0 _ _ (by omega) (by decide) rfl
theorem r_flat {x1 x2 : Int32} {Q : Int32 → dM → Prop} (hK : KR H S P L s m) (hQ : ∀ (r : Int32) (m' : dM), RsF m m' → Q r m') : c_X12_flat_70 7 x1 x2 m Q := by
  have f7 := hK.1.1.1
  refine v_X12_flat_70 (Wp.deep (y_isFlatr hK.1 (fun hu => ⟨fun _ => ?_, fun z => absurd z (by decide)⟩) (fun hu => ⟨fun z => absurd rfl z, fun _ => hQ _ m (RsF.rf m)⟩)) (Nat.le_of_ble_eq_true rfl))
  have hx := toNat_of hu.1
  refine y_copies hK.1 hK.2.1 (fun M f cy _ _ => ?_)
  have a := cy.1.2.1.1
  have e7 := y_idx (C := 7) (c := (7 : Int32)) (by decide) a.1 a.2 hx (by decide) (by omega)
  have e40 := d_add (k := x1) (K := x1.toNatClampNeg) (x := (40 : Int32)) (i := 40) (by decide) hx (by omega)
  have li : ∀ (Q' : Int32 → dM → Prop), (∀ r : Int32, Q' r M) → c_X12_isLit_70 6 x1 M Q' := fun Q' hq => Wp.deep (y_isLit cy.2.2 hx (by omega) (fun _ => hq _) (fun _ => hq _)) (Nat.le_of_ble_eq_true rfl)
  exact ⟨fun _ => ⟨by omega, hQ _ M f⟩, fun _ => li _ (fun r => ⟨fun _ => hQ _ M f, fun _ => hQ _ M f⟩), fun _ => ⟨by omega, hQ _ M f⟩, fun _ => li _ (fun r => ⟨fun _ => hQ _ M f, fun _ => ⟨by omega, hQ _ M f⟩⟩), fun _ => Wp.deep (y_quarrelOf cy.1 cy.2.1 hx (by omega) (fun M2 f2 => hQ _ M2 (f.tr f2.rs))) (Nat.le_of_ble_eq_true rfl), fun _ => Wp.deep (y_ampsOn cy hx (hQ _ M f)) (Nat.le_of_ble_eq_true rfl), fun _ => hQ _ M f⟩
theorem r_wire {x1 x2 : Int32} {Q : Int32 → dM → Prop} (hK : KR H S P L s m) (hQ : ∀ (r : Int32) (m' : dM), RsF m m' → Q r m') : c_X12_wire_70 7 x1 x2 m Q := by
  have w10 := hK.1.1.2.1
  refine v_X12_wire_70 (Wp.deep (y_isWire hK.1.2.1 (fun hu => ⟨fun _ => ?_, fun z => absurd z (by decide)⟩) (fun hu => ⟨fun z => absurd rfl z, fun _ => hQ _ m (RsF.rf m)⟩)) (Nat.le_of_ble_eq_true rfl))
  have hx := toNat_of hu.1
  refine y_copies hK.1 hK.2.1 (fun M f cy _ _ => ?_)
  have a := cy.1.2.1.1
  have e0 := y_idx (C := 10) (c := (10 : Int32)) (by decide) a.1 a.2 hx (by decide) (by omega)
  have e10 := d_add (k := x1) (K := x1.toNatClampNeg) (x := (10 : Int32)) (i := 10) (by decide) hx (by omega)
  have e20 := d_add (k := x1) (K := x1.toNatClampNeg) (x := (20 : Int32)) (i := 20) (by decide) hx (by omega)
  have e30 := d_add (k := x1) (K := x1.toNatClampNeg) (x := (30 : Int32)) (i := 30) (by decide) hx (by omega)
  exact ⟨fun _ => ⟨by omega, hQ _ M f⟩, fun _ => ⟨by omega, hQ _ M f⟩, fun _ => ⟨by omega, hQ _ M f⟩, fun _ => ⟨by omega, hQ _ M f⟩, fun _ => ⟨by omega, hQ _ M f⟩, fun _ => ⟨by omega, hQ _ M f⟩, fun _ => Wp.deep (y_onNow cy (Wp.deep (y_loadBy cy.1 cy.2.2 hx (by omega) (hQ _ M f)) (Nat.le_of_ble_eq_true rfl))) (Nat.le_of_ble_eq_true rfl), fun _ => Wp.deep (y_costsOf cy.1 cy.2.1 hx (by omega) (fun M2 f2 => hQ _ M2 (f.tr f2.rs))) (Nat.le_of_ble_eq_true rfl), fun _ => Wp.deep (y_onNow cy (Wp.deep (y_doesGo cy.1 cy.2.1 cy.2.2 hx (by omega) (fun M2 f2 => ⟨fun _ => hQ _ M2 (f.tr f2.rs), fun _ => hQ _ M2 (f.tr f2.rs)⟩)) (Nat.le_of_ble_eq_true rfl))) (Nat.le_of_ble_eq_true rfl), fun _ => hQ _ M f⟩
theorem r_use {x1 x2 : Int32} {Q : Int32 → dM → Prop} (hK : KR H S P L s m) (hQ : ∀ (r : Int32) (m' : dM), RsF m m' → Q r m') : c_X12_use_70 7 x1 x2 m Q := by
  have u8 := hK.1.1.2.2.1
  refine v_X12_use_70 (Wp.deep (y_isUser hK.1 (fun hu => ⟨fun _ => ?_, fun z => absurd z (by decide)⟩) (fun hu => ⟨fun z => absurd rfl z, fun _ => hQ _ m (RsF.rf m)⟩)) (Nat.le_of_ble_eq_true rfl))
  have hx := toNat_of hu.1
  refine y_copies hK.1 hK.2.1 (fun M f cy _ _ => ?_)
  have a := cy.1.2.1.1
  have e0 := y_idx (C := 8) (c := (8 : Int32)) (by decide) a.1 a.2 hx (by decide) (by omega)
  have e47 := d_add (k := x1) (K := x1.toNatClampNeg) (x := (47 : Int32)) (i := 47) (by decide) hx (by omega)
  exact ⟨fun _ => Wp.deep (y_flatAt cy.1 hx (by omega) (fun r _ => hQ _ M f)) (Nat.le_of_ble_eq_true rfl), fun _ => Wp.deep (y_ampsAt cy.1 hx (by omega) (hQ _ M f)) (Nat.le_of_ble_eq_true rfl), fun _ => ⟨by omega, hQ _ M f⟩, fun _ => ⟨by omega, hQ _ M f⟩, fun _ => ⟨by omega, hQ _ M f⟩, fun _ => Wp.deep (y_onNow cy (hQ _ M f)) (Nat.le_of_ble_eq_true rfl), fun _ => Wp.deep (y_paysOf cy.1 cy.2.1 hx (by omega) (fun M2 f2 => hQ _ M2 (f.tr f2.rs))) (Nat.le_of_ble_eq_true rfl), fun _ => hQ _ M f⟩
theorem r_way {x1 x2 : Int32} {Q : Int32 → dM → Prop} (hK : KR H S P L s m) (hQ : ∀ (r : Int32) (m' : dM), RsF m m' → Q r m') : c_X12_way_70 7 x1 x2 m Q := by
  have f7 := hK.1.1.1
  have no : j_X12_way_70_12 7 m Q := v_X12_way_70_12 (hQ _ m (RsF.rf m))
  refine v_X12_way_70 (Wp.deep (y_isFlatr hK.1 (fun hu => ⟨fun z => absurd z (by decide), fun _ => ⟨fun h2 => ?_, fun _ => no⟩⟩) (fun hu => ⟨fun _ => no, fun z => absurd rfl z⟩)) (Nat.le_of_ble_eq_true rfl))
  have hx := toNat_of hu.1
  refine y_copies hK.1 hK.2.1 (fun M f cy _ _ => ?_)
  refine Wp.deep (y_isLit cy.2.2 hx (by omega) (fun g => ⟨fun _ => ⟨by omega, fun lt' => ?_, fun _ => hQ _ M f⟩, fun z => absurd z (by decide)⟩) (fun g => ⟨fun z => absurd rfl z, fun _ => hQ _ M f⟩)) (Nat.le_of_ble_eq_true rfl)
  have hG : RG (hoW H) (bt (szG S)) M := cy.2.1.rg (r := 0)
  have loop : ∀ (t i f' : Nat) (x3 x4 : Int32), i + t = 7 → x4.toInt = (i : Int) → x3.toInt = (f' : Int) → f' < hoF H → (x2.toInt < (i : Int) + (wyD H (szG S) f' : Int) ∧ i + wyD H (szG S) f' ≤ 6 ∧ (i : Int) ≤ x2.toInt) → j_X12_way_70_46 7 x2 x3 x4 M Q := by
    intro t
    induction t with
    | zero => intro i f' x3 x4 hi h4 h3 hf hd; exfalso; omega
    | succ t ih =>
      intro i f' x3 x4 hi h4 h3 hf hd
      refine v_X12_way_70_46 ⟨fun q => ?_, fun q => ?_⟩
      · obtain ⟨n, hn⟩ : ∃ n, wyD H (szG S) f' = n + 1 := ⟨wyD H (szG S) f' - 1, by omega⟩
        exact Wp.deep (y_wireFrom cy.1.2.1 hG cy.2.2.1 h3 (by omega) (by omega : n < 6) hn (fun r hr => hQ _ M f)) (Nat.le_of_ble_eq_true rfl)
      · obtain ⟨n, hn⟩ : ∃ n, wyD H (szG S) f' = n + 1 := ⟨wyD H (szG S) f' - 1, by omega⟩
        have nk := nx_ok (nf := hoF H) (nw := hoW H) (e1 := hoA H) (e2 := hoB H) (G := bt (szG S)) (n := n) (f := f') (by omega) hn
        have en := (cy.1.1.2.2.2.1 _ nk.1)
        refine Wp.deep (y_wireFrom cy.1.2.1 hG cy.2.2.1 h3 (by omega) (by omega : n < 6) hn (fun r hr => Wp.deep (y_otherEnd cy.1.2.1 hr nk.1 h3 (fun r2 ht hr2 => ih (i + 1) _ _ _ (by omega) (d_inc h4 (by omega)) hr2 ?_ ?_) (fun no2 => ?_)) (Nat.le_of_ble_eq_true rfl))) (Nat.le_of_ble_eq_true rfl)
        · unfold ot; split <;> omega
        · have dn : wyD H (szG S) (ot (hoA H) (hoB H) (nx (hoF H) (hoW H) (hoA H) (hoB H) (bt (szG S)) f') f') = n := nk.2.2
          rw [dn]
          omega
        · exfalso
          have k2 := nk.2.1
          unfold tch at k2
          rw [Bool.and_eq_true, Bool.or_eq_true, decide_eq_true_eq, decide_eq_true_eq] at k2
          exact no2 k2.2
  have lit : wyD H (szG S) x1.toNatClampNeg ≠ 99 := by
    unfold lt at g
    exact of_decide_eq_true g
  have e109 := cy.2.2.1 x1.toNatClampNeg (by omega)
  have b0 := dD_le (nf := hoF H) (nw := hoW H) (e1 := hoA H) (e2 := hoB H) (G := bt (szG S)) (f := x1.toNatClampNeg)
  have b0 : wyD H (szG S) x1.toNatClampNeg ≤ 6 ∨ wyD H (szG S) x1.toNatClampNeg = 99 := b0
  exact loop 7 0 x1.toNatClampNeg _ _ rfl (by decide) hx (by omega) ⟨by omega, by omega, by omega⟩
theorem zOk.hh (hH : hOk H) (h : zOk H S) (x : Int32) : zOk H (wsz H (pst H S) x) := (h.p).w hH _
/-- hours gone by on the copy, whatever surges -/
theorem r_hour {Q : dM → Prop} {M : dM} {T : Zt} (hC : CY H T s M) (hO : zOk H T) (hF : RsF m M) (hQ : ∀ (T' : Zt) (m' : dM), RsF m m' → CY H T' s m' → zOk H T' → Q m') : c_X12_hourGoes_70 6 M Q :=
  y_hourGoes hC.1 hC.2.1 hC.2.2 hO (fun M1 f1 W1 g1 Z1 L1 => hQ _ M1 (hF.tr f1.rs) ⟨W1, Z1, L1⟩ (zOk.hh hC.1.1 hO _))
theorem r_still {Q : dM → Prop} {M : dM} (hK : KR H S P L s m) (hF : RsF m M) (hQ : ∀ m' : dM, RsF m m' → CY H S s m' → Q m') : c_X12_copiesStill_70 7 M Q := by
  have hK' := hK.rs hF
  refine v_X12_copiesStill_70 (y_copies hK'.1 hK'.2.1 (fun M1 f cy _ _ => hQ _ ((hF.tr f).s70 (by decide)) ⟨cy.1.rs ((RsF.rf M1).s70 (by decide)), cy.2.1.of (dSet_k (by decide)), cy.2.2.of (dSet_k (by decide)) (dSet_k (by decide))⟩))
theorem r_peak {x1 x2 x3 : Int32} {Q : Int32 → dM → Prop} (hK : KR H S P L s m) (hO : zOk H S) (hQ : ∀ (r : Int32) (m' : dM), RsF m m' → Q r m') : c_X12_peak_70 8 x1 x2 x3 m Q := by
  have w10 := hK.1.1.2.1
  have no : j_X12_peak_70_27 8 m Q := v_X12_peak_70_27 (hQ _ m (RsF.rf m))
  refine v_X12_peak_70 (Wp.deep (y_isWire hK.1.2.1 (fun hu => ⟨fun z => absurd z (by decide), fun _ => Wp.deep (y_in (fun h2 => ⟨fun z => absurd z (by decide), fun _ => Wp.deep (y_in (fun h3 => ⟨fun _ => ?_, fun z => absurd z (by decide)⟩) (fun _ => ⟨fun z => absurd rfl z, fun _ => no⟩)) (Nat.le_of_ble_eq_true rfl)⟩) (fun _ => ⟨fun _ => no, fun z => absurd rfl z⟩)) (Nat.le_of_ble_eq_true rfl)⟩) (fun hu => ⟨fun _ => no, fun z => absurd rfl z⟩)) (Nat.le_of_ble_eq_true rfl))
  have hx := toNat_of hu.1
  have e1 := ti_1
  have e48 := ti_48
  refine r_still hK (RsF.rf m) (fun M f cy => ?_)
  have loop : ∀ (t : Nat) (x4 x5 x6 : Int32) (T : Zt) (M : dM), x6.toInt + (t : Int) = x2.toInt → 0 ≤ x6.toInt → RsF m M → CY H T s M → zOk H T → j_X12_peak_70_42 8 x1 x2 x3 x4 x5 x6 M Q := by
    intro t
    induction t with
    | zero => intro x4 x5 x6 T M h6 h0 fM cM hT; exact v_X12_peak_70_42 ⟨fun _ => ⟨fun _ => hQ _ M fM, fun _ => hQ _ M fM⟩, fun q => by exfalso; omega⟩
    | succ t ih =>
      intro x4 x5 x6 T M h6 h0 fM cM hT
      have f := dAddE (X := x6.toInt) (Y := 1) (x := x6) (y := (1 : Int32)) rfl (by decide) (by omega) (by omega)
      have on : ∀ y z : Int32, j_X12_peak_70_86 8 x1 x2 x3 y z x6 M Q := fun y z => v_X12_peak_70_86 (Wp.deep (r_hour cM hT fM (fun T' M1 f1 c1 h1 => ih _ _ _ T' M1 (by omega) (by omega) f1 c1 h1)) (Nat.le_of_ble_eq_true rfl))
      exact v_X12_peak_70_42 ⟨fun q => by exfalso; omega, fun _ => Wp.deep (y_isWhole cM.1.2.1 (cM.2.1.rg (r := 0)) hx (by omega) (fun _ => ⟨fun z => absurd z (by decide), fun _ => Wp.deep (y_onNow cM (Wp.deep (y_loadBy cM.1 cM.2.2 hx (by omega) ⟨fun _ => on _ _, fun _ => on _ _⟩) (Nat.le_of_ble_eq_true rfl))) (Nat.le_of_ble_eq_true rfl)⟩) (fun _ => ⟨fun _ => ⟨fun _ => on _ _, fun _ => on _ _⟩, fun z => absurd rfl z⟩)) (Nat.le_of_ble_eq_true rfl)⟩
  exact loop x2.toNatClampNeg _ _ _ S M (by have := toNat_of (x := x2) (by omega); have := ti_0; omega) (by decide) f cy hO
theorem r_firstGoing {Q : Int32 → dM → Prop} {M : dM} {T : Zt} (hC : CY H T s M) (hO : zOk H T) (hF : RsF m M) (hQ : ∀ (r : Int32) (m' : dM), RsF m m' → Q r m') : c_X12_firstGoing_70 7 M Q := by
  have loop : ∀ (t : Nat) (x1 : Int32) (T : Zt) (M : dM), x1.toInt + (t : Int) = 201 → 0 ≤ x1.toInt → RsF m M → CY H T s M → zOk H T → j_X12_firstGoing_70_2 7 x1 M Q := by
    intro t
    induction t with
    | zero => intro x1 T M h1 h0 fM cM hT; exact v_X12_firstGoing_70_2 ⟨fun _ => hQ _ M fM, fun q => by exfalso; omega⟩
    | succ t ih =>
      intro x1 T M h1 h0 fM cM hT
      have f := dAddE (X := x1.toInt) (Y := 1) (x := x1) (y := (1 : Int32)) rfl (by decide) (by omega) (by omega)
      exact v_X12_firstGoing_70_2 ⟨fun q => by exfalso; omega, fun _ => r_hour cM hT fM (fun T' M1 f1 c1 h1 => ⟨fun _ => ih _ T' M1 (by omega) (by omega) f1 c1 h1, fun _ => hQ _ M1 f1⟩)⟩
  exact v_X12_firstGoing_70 (loop 200 _ T M (by decide) (by decide) hF hC hO)
theorem r_first {x1 : Int32} {Q : Int32 → dM → Prop} (hK : KR H S P L s m) (hO : zOk H S) (hQ : ∀ (r : Int32) (m' : dM), RsF m m' → Q r m') : c_X12_first_70 8 x1 m Q := by
  refine v_X12_first_70 (Wp.deep (y_in (fun h => ⟨fun _ => r_still hK (RsF.rf m) (fun M f cy => r_firstGoing cy hO f (fun r M2 f2 => ⟨fun _ => ⟨fun _ => ?_, fun _ => hQ _ M2 f2⟩, fun _ => hQ _ M2 f2⟩)), fun z => absurd z (by decide)⟩) (fun _ => ⟨fun z => absurd rfl z, fun _ => hQ _ m (RsF.rf m)⟩)) (Nat.le_of_ble_eq_true rfl))
  have loop : ∀ (t : Nat) (x0 x1 : Int32), x1.toInt + (t : Int) = 10 → 0 ≤ x1.toInt → j_X12_lowestOf_2 7 x0 x1 M2 (fun r4 m4 => Q r4 m4) := by
    intro t
    induction t with
    | zero => intro x0 x1 h1 h0; exact v_X12_lowestOf_2 ⟨fun _ => v_X12_lowestOf_22 (hQ _ M2 f2), fun q => by exfalso; omega⟩
    | succ t ih =>
      intro x0 x1 h1 h0
      have f := dAddE (X := x1.toInt) (Y := 1) (x := x1) (y := (1 : Int32)) rfl (by decide) (by omega) (by omega)
      exact v_X12_lowestOf_2 ⟨fun _ => v_X12_lowestOf_22 (hQ _ M2 f2), fun _ => ⟨fun _ => v_X12_lowestOf_22 (hQ _ M2 f2), fun _ => ih _ _ (by omega) (by omega)⟩⟩
  exact v_X12_lowestOf (loop 10 _ _ (by decide) (by decide))
end RKE
