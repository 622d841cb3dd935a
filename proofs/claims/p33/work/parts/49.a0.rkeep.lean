/-! THE REFERENCE: questions leave how it stands, 2 -/
section RKF
variable {H : Ho} {S : Zt} {P : List Zt} {L : Nat → Zt} {s : Nat} {m : dM}
theorem r_bits {x0 : Int32} {Q : Int32 → dM → Prop} {M : dM} (hQ : ∀ r : Int32, Q r M) : c_X12_bits 1 x0 M Q := by
  have loop : ∀ (t : Nat) (x1 x2 : Int32), x2.toInt + (t : Int) = 10 → 0 ≤ x2.toInt → j_X12_bits_4 1 x0 x1 x2 M Q := by
    intro t
    induction t with
    | zero => intro x1 x2 h h0; exact v_X12_bits_4 ⟨fun _ => hQ _, fun q => by exfalso; omega⟩
    | succ t ih =>
      intro x1 x2 h h0
      have f := dAddE (X := x2.toInt) (Y := 1) (x := x2) (y := (1 : Int32)) rfl (by decide) (by omega) (by omega)
      exact v_X12_bits_4 ⟨fun q => by exfalso; omega, fun _ => ih _ _ (by omega) (by omega)⟩
  exact v_X12_bits (loop 10 _ _ (by decide) (by decide))
theorem r_ith {x0 x1 : Int32} {Q : Int32 → dM → Prop} {M : dM} (hQ : ∀ r : Int32, Q r M) : c_X12_ithOf 1 x0 x1 M Q := by
  have loop : ∀ (t : Nat) (x2 x3 : Int32), x3.toInt + (t : Int) = 10 → 0 ≤ x3.toInt → j_X12_ithOf_4 1 x0 x1 x2 x3 M Q := by
    intro t
    induction t with
    | zero => intro x2 x3 h h0; exact v_X12_ithOf_4 ⟨fun _ => hQ _, fun q => by exfalso; omega⟩
    | succ t ih =>
      intro x2 x3 h h0
      have f := dAddE (X := x3.toInt) (Y := 1) (x := x3) (y := (1 : Int32)) rfl (by decide) (by omega) (by omega)
      have on : ∀ y : Int32, j_X12_ithOf_31 1 x0 x1 y x3 M Q := fun y => v_X12_ithOf_31 (ih _ _ (by omega) (by omega))
      exact v_X12_ithOf_4 ⟨fun q => by exfalso; omega, fun _ => ⟨fun _ => ⟨fun _ => on _, fun _ => hQ _⟩, fun _ => on _⟩⟩
  exact v_X12_ithOf (loop 10 _ _ (by decide) (by decide))
theorem r_earlier {x0 x1 : Int32} {Q : Int32 → dM → Prop} {M : dM} (hQ : ∀ r : Int32, Q r M) : c_X12_isEarlier 2 x0 x1 M Q := by
  have loop : ∀ (t : Nat) (x2 : Int32), x2.toInt + (t : Int) = 3 → 0 ≤ x2.toInt → j_X12_isEarlier_2 2 x0 x1 x2 M Q := by
    intro t
    induction t with
    | zero => intro x2 h h0; exact v_X12_isEarlier_2 ⟨fun _ => hQ _, fun q => by exfalso; omega⟩
    | succ t ih =>
      intro x2 h h0
      have f := dAddE (X := x2.toInt) (Y := 1) (x := x2) (y := (1 : Int32)) rfl (by decide) (by omega) (by omega)
      exact v_X12_isEarlier_2 ⟨fun q => by exfalso; omega, fun _ => r_ith (fun r1 => r_ith (fun r2 => ⟨fun _ => ih _ (by omega) (by omega), fun _ => r_ith (fun r3 => r_ith (fun r4 => ⟨fun _ => hQ _, fun _ => hQ _⟩))⟩))⟩
  exact v_X12_isEarlier (loop 3 _ (by decide) (by decide))
theorem y_usesLit {Q : Int32 → dM → Prop} {M : dM} (hC : CY H S s M) (hQ : Q (bs (fun u => lt H (szG S) (hoH H u)) (hoU H)) M) : c_X12_usesLit_70 2 M Q := by
  obtain ⟨o1, o2, o3, o4, o5, o6⟩ := hC.1.1
  have a := hC.1.2.1.1
  have loop : ∀ (t u : Nat) (x1 x2 : Int32), u + t = hoU H → x2.toInt = (u : Int) → x1 = bs (fun u => lt H (szG S) (hoH H u)) u → j_X12_usesLit_70_4 2 x1 x2 M Q := by
    intro t
    induction t with
    | zero =>
      intro u x1 x2 hu h2 h1
      refine v_X12_usesLit_70_4 ?_
      rw [d_cn a.1, hC.1.2.2.1, a.1]
      refine ⟨by omega, fun _ => ?_, fun q => by exfalso; omega⟩
      rw [h1, show u = hoU H by omega]
      exact hQ
    | succ t ih =>
      intro u x1 x2 hu h2 h1
      have c1 := (o5 u (by omega)).1
      have on : ∀ y : Int32, y = bs (fun u => lt H (szG S) (hoH H u)) (u + 1) → j_X12_usesLit_70_35 2 y x2 M Q := fun y hy => v_X12_usesLit_70_35 (ih (u + 1) _ _ (by omega) (d_inc h2 (by omega)) hy)
      refine v_X12_usesLit_70_4 ?_
      rw [d_cn a.1, hC.1.2.2.1, a.1, b1_of h2]
      refine ⟨by omega, fun q => by exfalso; omega, fun _ => y_flatAt hC.1 h2 (by omega) (fun r hr => y_isLit hC.2.2 hr (by omega) (fun g => ⟨fun z => absurd z (by decide), fun _ => on _ ?_⟩) (fun g => ⟨fun _ => on _ ?_, fun z => absurd rfl z⟩))⟩
      · show x1 ||| b1 u = cond (lt H (szG S) (hoH H u)) (bs (fun u => lt H (szG S) (hoH H u)) u ||| b1 u) (bs (fun u => lt H (szG S) (hoH H u)) u)
        rw [g, cond_true, h1]
      · show x1 = cond (lt H (szG S) (hoH H u)) (bs (fun u => lt H (szG S) (hoH H u)) u ||| b1 u) (bs (fun u => lt H (szG S) (hoH H u)) u)
        rw [g, cond_false, h1]
  exact v_X12_usesLit_70 (loop (hoU H) 0 _ _ (by omega) (by decide) rfl)
theorem r_together {x1 : Int32} {Q : Int32 → dM → Prop} (hK : KR H S P L s m) (hQ : ∀ (r : Int32) (m' : dM), RsF m m' → Q r m') : c_X12_together_70 7 x1 m Q := by
  have u8 := hK.1.1.2.2.1
  refine v_X12_together_70 (Wp.deep (y_in (fun h => ⟨fun _ => y_copies hK.1 hK.2.1 (fun M f cy _ _ => Wp.deep (y_usesLit cy ?_) (Nat.le_of_ble_eq_true rfl)), fun z => absurd z (by decide)⟩) (fun _ => ⟨fun z => absurd rfl z, fun _ => hQ _ m (RsF.rf m)⟩)) (Nat.le_of_ble_eq_true rfl))
  have b := b1_le (u := hoU H) (by omega)
  have loop : ∀ (t : Nat) (x2 x3 x4 x5 : Int32) (M : dM), x5.toInt + (t : Int) = 1025 → 0 ≤ x5.toInt → RsF m M → CY H S s M → j_X12_together_70_28 7 x1 x2 x3 x4 x5 M Q := by
    intro t
    induction t with
    | zero =>
      intro x2 x3 x4 x5 M h5 h0 fM cM
      have a := cM.1.2.1.1
      refine v_X12_together_70_28 ?_
      rw [d_cn a.1, b1_of cM.1.2.2.1]
      exact ⟨by omega, fun _ => ⟨fun _ => hQ _ M fM, fun _ => hQ _ M fM⟩, fun q => by exfalso; omega⟩
    | succ t ih =>
      intro x2 x3 x4 x5 M h5 h0 fM cM
      have a := cM.1.2.1.1
      have f := dAddE (X := x5.toInt) (Y := 1) (x := x5) (y := (1 : Int32)) rfl (by decide) (by omega) (by omega)
      refine v_X12_together_70_28 ?_
      rw [d_cn a.1, b1_of cM.1.2.2.1]
      refine ⟨by omega, fun _ => ⟨fun _ => hQ _ M fM, fun _ => hQ _ M fM⟩, fun q => ?_⟩
      have on : ∀ (y z : Int32) (M1 : dM), RsF m M1 → CY H S s M1 → j_X12_together_70_101 7 x1 x2 y z x5 M1 Q := fun y z M1 f1 c1 => v_X12_together_70_101 (ih _ _ _ _ M1 (by omega) (by omega) f1 c1)
      exact ⟨fun _ => Wp.deep (y_paysAll cM.1 cM.2.1 (fun M1 f1 => ⟨fun _ => on _ _ M1 (fM.tr f1.rs) (cM.xa f1), fun _ => Wp.deep (y_goingBits (cM.xa f1).1 (cM.xa f1).2.1 (cM.xa f1).2.2 (fun M2 f2 => ⟨fun _ => on _ _ M2 ((fM.tr f1.rs).tr f2.rs) ((cM.xa f1).xa f2), fun _ => on _ _ M2 ((fM.tr f1.rs).tr f2.rs) ((cM.xa f1).xa f2)⟩)) (Nat.le_of_ble_eq_true rfl)⟩)) (Nat.le_of_ble_eq_true rfl), fun _ => on _ _ M fM cM⟩
  exact loop 1024 _ _ _ _ M (by decide) (by decide) f cy
theorem r_when {x1 : Int32} {Q : Int32 → dM → Prop} (hK : KR H S P L s m) (hB : ∀ u : Nat, u < hoU H → 0 ≤ (hoO H u).toInt ∧ (hoO H u).toInt ≤ (hoI H u).toInt ∧ (hoI H u).toInt ≤ 23) (hQ : ∀ (r : Int32) (m' : dM), RsF m m' → Q r m') : c_X12_when_70 7 x1 m Q := by
  obtain ⟨o1, o2, o3, o4, o5, o6⟩ := hK.1.1
  refine v_X12_when_70 (Wp.deep (y_isUser hK.1 (fun hu => ⟨fun _ => ?_, fun z => absurd z (by decide)⟩) (fun hu => ⟨fun z => absurd rfl z, fun _ => hQ _ m (RsF.rf m)⟩)) (Nat.le_of_ble_eq_true rfl))
  have hx := toNat_of hu.1
  generalize x1.toNatClampNeg = u at hx
  refine y_copies hK.1 hK.2.1 (fun M f cy _ _ => ?_)
  have b := hB u (by omega)
  have c1 := (o5 u (by omega)).1
  have idx : ∀ M : dM, CY H S s M → (((8 : Int32) * (M.1 70 18)) + x1).toInt = ((8 * s + u : Nat) : Int) := fun M cM => y_idx (C := 8) (c := (8 : Int32)) (by decide) cM.1.2.1.1.1 cM.1.2.1.1.2 hx (by decide) (by omega)
  have s1 := hK.1.2.1.1.2
  have fl := dSubE (X := (hoI H u).toInt) (Y := (hoO H u).toInt) (x := hoI H u) (y := hoO H u) rfl rfl (by omega) (by omega)
  have e0 := idx M cy
  obtain ⟨d1, d2, d3, d4⟩ := cy.1.2.2.2.2.2.1 u (by omega)
  rw [d_cn e0, d3, d4]
  refine ⟨by omega, by omega, ?_⟩
  have l46 : ∀ (t : Nat) (x3 : Int32) (M : dM), x3.toInt + (t : Int) = 24 → 0 ≤ x3.toInt → RsF m M → CY H S s M → j_X12_when_70_46 7 x1 (hoI H u - hoO H u) x3 M Q := by
    intro t
    induction t with
    | zero =>
      intro x3 M h3 h0 fM cM
      have fa := dAddE (X := x3.toInt) (Y := (hoI H u - hoO H u).toInt) (x := x3) (y := hoI H u - hoO H u) rfl rfl (by omega) (by omega)
      exact v_X12_when_70_46 ⟨fun _ => hQ _ M fM, fun q => by exfalso; omega⟩
    | succ t ih =>
      intro x3 M h3 h0 fM cM
      have fa := dAddE (X := x3.toInt) (Y := (hoI H u - hoO H u).toInt) (x := x3) (y := hoI H u - hoO H u) rfl rfl (by omega) (by omega)
      have f1 := dAddE (X := x3.toInt) (Y := 1) (x := x3) (y := (1 : Int32)) rfl (by decide) (by omega) (by omega)
      refine v_X12_when_70_46 ⟨fun _ => hQ _ M fM, fun q => ?_⟩
      have nx' : ∀ (M1 : dM), RsF m M1 → CY H S s M1 → ∀ r1 : Int32, (r1.toInt = 0 → j_X12_when_70_46 7 x1 (hoI H u - hoO H u) (x3 + (1 : Int32)) M1 Q) ∧ (r1.toInt ≠ 0 → Q x3 M1) := fun M1 fM1 cM1 r1 => ⟨fun _ => ih _ M1 (by omega) (by omega) fM1 cM1, fun _ => hQ _ M1 fM1⟩
      have e1 := idx M cM
      obtain ⟨g1, g2, g3, g4⟩ := cM.1.2.2.2.2.2.1 u (by omega)
      refine v_X12_canBegin_70 ?_
      rw [d_cn e1, g3, g4]
      refine ⟨by omega, by omega, ?_⟩
      have l33 : ∀ (t2 : Nat) (x4 : Int32) (M1 : dM), x4.toInt + (t2 : Int) = 60 → 0 ≤ x4.toInt → RsF m M1 → CY H S s M1 → j_X12_canBegin_70_33 6 x1 x3 (hoI H u - hoO H u) x4 M1 (fun r1 m1 => (r1.toInt = 0 → j_X12_when_70_46 7 x1 (hoI H u - hoO H u) (x3 + (1 : Int32)) m1 Q) ∧ (r1.toInt ≠ 0 → Q x3 m1)) := by
        intro t2
        induction t2 with
        | zero => intro x4 M1 h4 h04 fM1 cM1; exact v_X12_canBegin_70_33 ⟨fun _ => nx' M1 fM1 cM1 _, fun q => by exfalso; omega⟩
        | succ t2 ih2 =>
          intro x4 M1 h4 h04 fM1 cM1
          have f4 := dAddE (X := x4.toInt) (Y := 1) (x := x4) (y := (1 : Int32)) rfl (by decide) (by omega) (by omega)
          have on : ∀ y : Int32, j_X12_canBegin_70_75 6 x1 x3 (hoI H u - hoO H u) x4 y M1 (fun r1 m1 => (r1.toInt = 0 → j_X12_when_70_46 7 x1 (hoI H u - hoO H u) (x3 + (1 : Int32)) m1 Q) ∧ (r1.toInt ≠ 0 → Q x3 m1)) := fun y => v_X12_canBegin_70_75 (y_goingBits cM1.1 cM1.2.1 cM1.2.2 (fun M2 f2 => ⟨fun _ => ih2 _ M2 (by omega) (by omega) (fM1.tr f2.rs) (cM1.xa f2), fun _ => nx' M2 (fM1.tr f2.rs) (cM1.xa f2) _⟩))
          exact v_X12_canBegin_70_33 ⟨fun _ => nx' M1 fM1 cM1 _, fun _ => Wp.deep (y_onAt cM1.1 cM1.2.1 cM1.2.2 (Wp.deep (y_flatAt cM1.1 hx (by omega) (fun r hr => Wp.deep (y_isLit cM1.2.2 hr (by omega) (fun _ => ⟨fun _ => on _, fun _ => on _⟩) (fun _ => ⟨fun _ => on _, fun _ => on _⟩)) (Nat.le_of_ble_eq_true rfl))) (Nat.le_of_ble_eq_true rfl))) (Nat.le_of_ble_eq_true rfl)⟩
      exact l33 (60 - x3.toInt).toNat _ M (by omega) (by omega) fM cM
  exact l46 24 _ M (by decide) (by decide) f cy
theorem within_b {x lo hi : Int32} {Q : Int32 → dM → Prop} {M : dM} (h : lo.toInt ≤ hi.toInt) (hQ : ∀ r : Int32, lo.toInt ≤ r.toInt ∧ r.toInt ≤ hi.toInt → Q r M) : c_X12_within 1 x lo hi M Q := v_X12_within ⟨fun q => ⟨fun q2 => hQ _ ⟨q, q2⟩, fun q2 => hQ _ ⟨h, by omega⟩⟩, fun q => hQ _ ⟨by omega, h⟩⟩
theorem r_thick {x1 : Int32} {Q : Int32 → dM → Prop} (hK : KR H S P L s m) (hO : zOk H S) (hQ : ∀ (r : Int32) (m' : dM), RsF m m' → Q r m') : c_X12_thick_70 8 x1 m Q := by
  have w10 := hK.1.1.2.1
  refine v_X12_thick_70 (Wp.deep (y_in (fun h => ⟨fun _ => r_still hK (RsF.rf m) (fun M f cy => r_firstGoing cy hO f (fun r M2 f2 => ?_)), fun z => absurd z (by decide)⟩) (fun _ => ⟨fun z => absurd rfl z, fun _ => hQ _ m (RsF.rf m)⟩)) (Nat.le_of_ble_eq_true rfl))
  have loop : ∀ (t w : Nat) (x2 x3 x4 : Int32) (M : dM), w + t = hoW H → x4.toInt = (w : Int) → RsF m M → j_X12_thick_70_27 8 x1 x2 x3 x4 M Q := by
    intro t
    induction t with
    | zero =>
      intro w x2 x3 x4 M hw h4 fM
      have hKM := hK.rs fM
      have a := hKM.1.2.1.1
      refine v_X12_thick_70_27 ?_
      rw [d_cn a.1, hKM.1.2.1.2.2.1.1, a.1]
      exact ⟨by omega, fun _ => hQ _ M fM, fun q => by exfalso; omega⟩
    | succ t ih =>
      intro w x2 x3 x4 M hw h4 fM
      have hKM := hK.rs fM
      have a := hKM.1.2.1.1
      have e10 := d_add (k := x4) (K := w) (x := (10 : Int32)) (i := 10) (by decide) h4 (by omega)
      have on : ∀ (y z : Int32) (M1 : dM), RsF m M1 → j_X12_thick_70_105 8 x1 y z x4 M1 Q := fun y z M1 f1 => v_X12_thick_70_105 (ih (w + 1) _ _ _ M1 (by omega) (d_inc h4 (by omega)) f1)
      refine v_X12_thick_70_27 ?_
      rw [d_cn a.1, hKM.1.2.1.2.2.1.1, a.1]
      refine ⟨by omega, fun q => by exfalso; omega, fun _ => ⟨by omega, fun _ => r_still hK fM (fun M1 f1 cy1 => ⟨by omega, Wp.deep (within_b (by decide) (fun r2 hr2 => ⟨by omega, ?_⟩)) (Nat.le_of_ble_eq_true rfl)⟩), fun _ => on _ _ M fM⟩⟩
      rw [d_cn h4]
      have hT : zOk H (setR S (upd (szR S) w r2)) := by
        obtain ⟨a, b, c, d, e, f, g⟩ := hO
        refine ⟨a, b, c, d, e, fun j hj => ?_, g⟩
        show 0 ≤ (upd (szR S) w r2 j).toInt ∧ (upd (szR S) w r2 j).toInt ≤ 99
        rw [upd_j]
        have e9 := ti_99
        have e1 := ti_1
        by_cases q3 : j = w
        · rw [if_pos q3]; omega
        · rw [if_neg q3]; exact f j hj
      have c2 : CY H (setR S (upd (szR S) w r2)) s (dSet M1 108 w r2) := ⟨cy1.1.rs (RsF.rf M1).set, cy1.2.1.r hK.1.1 (by omega), cy1.2.2.of (dSet_k (by decide)) (dSet_k (by decide))⟩
      exact r_firstGoing c2 hT f1.set (fun r3 M3 f3 => ⟨fun _ => on _ _ M3 f3, fun _ => on _ _ M3 f3⟩)
  exact loop (hoW H) 0 _ _ _ M2 (by omega) (by decide) f2
/-- a copy in which some wires more are gone -/
theorem y_loses {x1 : Int32} {Q : dM → Prop} {M : dM} (hK : KR H S P L s m) (hF : RsF m M) (hQ : ∀ m' : dM, RsF m m' → RW H s m' → RL H (szG S ||| x1) m' → Q m') : c_X12_loses_70 7 x1 M Q := by
  have w10 := hK.1.1.2.1
  have hKM := hK.rs hF
  refine v_X12_loses_70 (y_copies hKM.1 hKM.2.1 (fun M1 f1 cy _ _ => ?_))
  have loop : ∀ (t i : Nat) (x2 : Int32) (M2 : dM), i + t = 10 → x2.toInt = (i : Int) → RsF m M2 → (∀ w : Nat, w < hoW H → M2.1 108 (10 + w) = bi (bt (if w < i then szG S ||| x1 else szG S) w)) → j_X12_loses_70_6 7 x1 x2 M2 Q := by
    intro t
    induction t with
    | zero =>
      intro i x2 M2 hi h2 f2 hv
      have W2 := hK.1.rs f2
      refine v_X12_loses_70_6 ⟨fun _ => Wp.deep (y_fillsWays (G := bt (szG S ||| x1)) W2.2.1 (fun w hw => ?_) (fun M3 f3 d3 v3 => hQ M3 (f2.tr f3.rs) (W2.rs f3.rs) ⟨d3, v3⟩)) (Nat.le_of_ble_eq_true rfl), fun q => by exfalso; omega⟩
      rw [hv w hw, if_pos (by omega), bi_if]
    | succ t ih =>
      intro i x2 M2 hi h2 f2 hv
      have e10 := d_add (k := x2) (K := i) (x := (10 : Int32)) (i := 10) (by decide) h2 (by omega)
      have on : ∀ M3 : dM, RsF m M3 → (∀ w : Nat, w < hoW H → M3.1 108 (10 + w) = bi (bt (if w < i + 1 then szG S ||| x1 else szG S) w)) → j_X12_loses_70_31 7 x1 x2 M3 Q := fun M3 f3 h3 => v_X12_loses_70_31 (ih (i + 1) _ M3 (by omega) (d_inc h2 (by omega)) f3 h3)
      refine v_X12_loses_70_6 ⟨fun q => by exfalso; omega, fun _ => ?_⟩
      rw [bt_s h2 (by omega), d_cn e10]
      cases e : bt x1 i with
      | false =>
        refine ⟨fun _ => on M2 f2 (fun w hw => ?_), fun q => absurd q (by decide)⟩
        rw [hv w hw]
        by_cases q : w = i
        · subst q
          rw [if_neg (by omega), if_pos (by omega), bt_or, e, Bool.or_false]
        · by_cases q2 : w < i
          · rw [if_pos q2, if_pos (by omega)]
          · rw [if_neg q2, if_neg (by omega)]
      | true =>
        refine ⟨fun q => absurd rfl q, fun _ => ⟨by omega, on _ f2.set (fun w hw => ?_)⟩⟩
        by_cases q : w = i
        · subst q
          rw [dSet_s, if_pos (by omega), bt_or, e, Bool.or_true]
          rfl
        · rw [dSet_j (by omega), hv w hw]
          by_cases q2 : w < i
          · rw [if_pos q2, if_pos (by omega)]
          · rw [if_neg q2, if_neg (by omega)]
  exact loop 10 0 _ M1 rfl (by decide) (hF.tr f1) (fun w hw => by rw [if_neg (by omega)]; exact (cy.2.1.2.1 w hw).2.1)
theorem y_litBits {g : Int32} {Q : Int32 → dM → Prop} {M : dM} (hW : RW H s M) (hL : RL H g M) (hQ : Q (bs (lt H g) (hoF H)) M) : c_X12_litBits_70 2 M Q := by
  have f7 := hW.1.1
  have a := hW.2.1.1
  have loop : ∀ (t f : Nat) (x1 x2 : Int32), f + t = hoF H → x2.toInt = (f : Int) → x1 = bs (lt H g) f → j_X12_litBits_70_4 2 x1 x2 M Q := by
    intro t
    induction t with
    | zero =>
      intro f x1 x2 hf h2 h1
      refine v_X12_litBits_70_4 ?_
      rw [d_cn a.1, hW.2.1.2.1.1, a.1]
      refine ⟨by omega, fun _ => ?_, fun q => by exfalso; omega⟩
      rw [h1, show f = hoF H by omega]
      exact hQ
    | succ t ih =>
      intro f x1 x2 hf h2 h1
      have on : ∀ y : Int32, y = bs (lt H g) (f + 1) → j_X12_litBits_70_31 2 y x2 M Q := fun y hy => v_X12_litBits_70_31 (ih (f + 1) _ _ (by omega) (d_inc h2 (by omega)) hy)
      refine v_X12_litBits_70_4 ?_
      rw [d_cn a.1, hW.2.1.2.1.1, a.1, b1_of h2]
      refine ⟨by omega, fun q => by exfalso; omega, fun _ => y_isLit hL h2 (by omega) (fun gl => ⟨fun z => absurd z (by decide), fun _ => on _ ?_⟩) (fun gl => ⟨fun _ => on _ ?_, fun z => absurd rfl z⟩)⟩
      · show x1 ||| b1 f = cond (lt H g f) (bs (lt H g) f ||| b1 f) (bs (lt H g) f)
        rw [gl, cond_true, h1]
      · show x1 = cond (lt H g f) (bs (lt H g) f ||| b1 f) (bs (lt H g) f)
        rw [gl, cond_false, h1]
  exact v_X12_litBits_70 (loop (hoF H) 0 _ _ (by omega) (by decide) rfl)
theorem y_darkBits {g : Int32} {Q : Int32 → dM → Prop} {M : dM} (hW : RW H s M) (hL : RL H g M) (hQ : Q ((b1 (hoF H) - (1 : Int32)) &&& (bs (lt H g) (hoF H) ^^^ (-1 : Int32))) M) : c_X12_darkBits_70 3 M Q := by
  have a := hW.2.1.1
  refine v_X12_darkBits_70 ?_
  rw [d_cn a.1, a.1, b1_of hW.2.1.2.1.1]
  exact ⟨by omega, y_litBits hW hL hQ⟩
theorem r_goneBits {Q : Int32 → dM → Prop} {M : dM} (hK : KR H S P L s M) (hQ : ∀ r : Int32, Q r M) : c_X12_goneBits_70 1 M Q := by
  have w10 := hK.1.1.2.1
  have a := hK.1.2.1.1
  have loop : ∀ (t w : Nat) (x1 x2 : Int32), w + t = hoW H → x2.toInt = (w : Int) → j_X12_goneBits_70_4 1 x1 x2 M Q := by
    intro t
    induction t with
    | zero =>
      intro w x1 x2 hw h2
      refine v_X12_goneBits_70_4 ?_
      rw [d_cn a.1, hK.1.2.1.2.2.1.1, a.1]
      exact ⟨by omega, fun _ => hQ _, fun q => by exfalso; omega⟩
    | succ t ih =>
      intro w x1 x2 hw h2
      have e10 := d_add (k := x2) (K := w) (x := (10 : Int32)) (i := 10) (by decide) h2 (by omega)
      have on : ∀ y : Int32, j_X12_goneBits_70_36 1 y x2 M Q := fun y => v_X12_goneBits_70_36 (ih (w + 1) _ _ (by omega) (d_inc h2 (by omega)))
      refine v_X12_goneBits_70_4 ?_
      rw [d_cn a.1, hK.1.2.1.2.2.1.1, a.1]
      exact ⟨by omega, fun q => by exfalso; omega, fun _ => ⟨by omega, fun _ => on _, fun _ => on _⟩⟩
  exact v_X12_goneBits_70 (loop (hoW H) 0 _ _ (by omega) (by decide))
end RKF
