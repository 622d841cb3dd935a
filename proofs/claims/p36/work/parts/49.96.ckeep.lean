section
/-! THE CLASS: questions leave how it stands -/
section CKE
variable {H : Ho} {S : Zt} {P : List Zt} {L : Nat → Zt} {m : dM}
theorem k_has {x0 x1 : Int32} {Q : Int32 → dM → Prop} (hQ : ∀ r : Int32, r = 0 ∨ r = 1 → Q r m) : c_X11_has 1 x0 x1 m Q := v_X11_has ⟨fun _ => hQ _ (Or.inl rfl), fun _ => hQ _ (Or.inr rfl)⟩
theorem k_count {x : Int32} {Q : Int32 → dM → Prop} (hQ : ∀ r : Int32, Q r m) : c_J6_bitCount 1 x m Q := v_J6_bitCount (hQ _)
theorem k_ends {x : Int32} {w : Nat} {Q : Int32 → dM → Prop} (hx : x.toInt = (w : Int)) (hw : w < 10) (hQ : ∀ r : Int32, Q r m) : c_X3_endsOf_2 1 x m Q := v_X3_endsOf_2 ⟨by omega, by omega, hQ _⟩
theorem k_lit {x : Int32} {Q : Int32 → dM → Prop} (hW : CW H m) (hQ : ∀ r : Int32, Q r m) : c_X3_litWithout_2 2 x m Q := by
  have f7 := hW.1.1
  have w10 := hW.1.2.1
  have e20 := hW.2.1.1.1.1
  have e21 := hW.2.1.1.2.1.1
  have fin : ∀ y : Int32, j_X3_litWithout_2_88 2 y m Q := fun y => v_X3_litWithout_2_88 (hQ y)
  have l15 : ∀ (t : Nat) (x2 x3 : Int32), 0 ≤ x3.toInt → x3.toInt + (t : Int) = 8 → j_X3_litWithout_2_15 2 x x2 x3 m Q := by
    intro t
    induction t with
    | zero => intro x2 x3 h0 h; exact v_X3_litWithout_2_15 ⟨fun _ => fin _, fun q => by exfalso; omega⟩
    | succ t ih =>
      intro x2 x3 h0 h
      have f := dAddE (X := x3.toInt) (Y := 1) (x := x3) (y := (1 : Int32)) rfl (by decide) (by omega) (by omega)
      have l29 : ∀ (u w : Nat) (y x4 x5 : Int32), w + u = hoW H → x5.toInt = (w : Int) → j_X3_litWithout_2_29 2 x y x3 x4 x5 m Q := by
        intro u
        induction u with
        | zero => intro w y x4 x5 hw h5; exact v_X3_litWithout_2_29 ⟨fun _ => ⟨fun _ => ih y _ (by omega) (by omega), fun _ => fin _⟩, fun q => by exfalso; omega⟩
        | succ u ih2 =>
          intro w y x4 x5 hw h5
          have on : ∀ z : Int32, j_X3_litWithout_2_67 2 x z x3 x4 x5 m Q := fun z => v_X3_litWithout_2_67 (ih2 (w + 1) z x4 _ (by omega) (d_inc h5 (by omega)))
          exact v_X3_litWithout_2_29 ⟨fun q => by exfalso; omega, fun _ => k_ends h5 (by omega) (fun r1 => k_has (fun r2 _ => ⟨fun _ => on _, fun _ => ⟨fun _ => on _, fun _ => on _⟩⟩))⟩
      exact v_X3_litWithout_2_15 ⟨fun _ => fin _, fun _ => l29 (hoW H) 0 _ _ _ (by omega) (by decide)⟩
  have e1 : (1 : Int32).toInt = 1 := by decide
  exact v_X3_litWithout_2 ⟨fun _ => l15 7 _ _ (by omega) (by omega), fun _ => l15 7 _ _ (by omega) (by omega)⟩
/-- behind a question -/
theorem KC.t62 {m' : dM} (h : KC H S P L m) (hF : TyF 62 m m') (hW : CW H m') : KC H S P L m' := ⟨hW, h.2.1.of (fun k a b => hF.1 k (by omega) (by omega) (by omega) (by omega)), h.2.2.1.of (by rw [hF.1 51 (by decide) (by decide) (by decide) (by decide)]) (by rw [hF.1 51 (by decide) (by decide) (by decide) (by decide)]) (hF.1 52 (by decide) (by decide) (by decide) (by decide)), h.2.2.2.of (by rw [hF.1 51 (by decide) (by decide) (by decide) (by decide)]) (hF.1 53 (by decide) (by decide) (by decide) (by decide))⟩
theorem KC.s61 {k j : Nat} {v : Int32} (h : KC H S P L m) (hk : k = 61 ∨ k = 66) : KC H S P L (dSet m k j v) := ⟨⟨h.1.1, h.1.2.1.of (fun i a b _ => dSet_k (by omega)), h.1.2.2.of (fun i a b => dSet_k (by omega))⟩, h.2.1.of (fun i a b => dSet_k (by omega)), h.2.2.1.of (by rw [dSet_k (by omega)]) (by rw [dSet_k (by omega)]) (dSet_k (by omega)), h.2.2.2.of (by rw [dSet_k (by omega)]) (dSet_k (by omega))⟩
/-- a question's answer, whatever it is, and what it leaves -/
def QC (H : Ho) (S : Zt) (P : List Zt) (L : Nat → Zt) (m m' : dM) : Prop := CcF m m' ∧ KC H S P L m'
theorem QC.rf (h : KC H S P L m) : QC H S P L m m := ⟨CcF.rf m, h⟩
theorem QC.sc {a b : dM} (h : QC H S P L m a) (hF : ScF a b) (hW : CW H b) : QC H S P L m b := ⟨h.1.tr hF.cc, h.2.sc hF hW⟩
theorem QC.va {a b : dM} (h : QC H S P L m a) (hF : VaF a b) : QC H S P L m b := ⟨h.1.tr hF.sf.cc, h.2.va hF⟩
theorem QC.t62 {a b : dM} (h : QC H S P L m a) (hF : TyF 62 a b) (hW : CW H b) : QC H S P L m b := ⟨h.1.tr (hF.cc (Or.inr rfl)), h.2.t62 hF hW⟩
theorem QC.s61 {a : dM} {k j : Nat} {v : Int32} (h : QC H S P L m a) (hk : k = 61 ∨ k = 66) : QC H S P L m (dSet a k j v) := ⟨h.1.set (by omega), h.2.s61 hk⟩
theorem k_ways {Q : dM → Prop} {M : dM} (hq : QC H S P L m M) (hO : zOk H S) (hQ : ∀ m' : dM, QC H S P L m m' → LA H (szG S) m' → Q m') : c_X0_waysNow_54_47 3 M Q := by
  refine v_X0_waysNow_54_47 ?_
  rw [hq.2.2.1.1.2.2.2.1]
  exact y_lays hq.2.1 (hO.g1 hq.2.1.1) (fun M1 f1 w1 l1 => hQ M1 (hq.sc f1.sf w1) l1)
theorem k_usesNow {Q : Int32 → dM → Prop} {M : dM} (hq : QC H S P L m M) (hO : zOk H S) (hQ : ∀ m' : dM, QC H S P L m m' → LA H (szG S) m' → Q (onA H S (hod (szH S))) m') : c_X0_usesNow_54_47 4 M Q := by
  refine v_X0_usesNow_54_47 (v_X7_hourOfDay_47 ?_)
  rw [hq.2.2.1.1.1]
  exact y_usesAt47 hq.2.1 hq.2.2.1 (hO.g1 hq.2.1.1) (fun M1 f1 w1 l1 => hQ M1 (hq.sc f1.sf w1) l1)
/-- the amps of a flat's uses that are on -/
def amf (H : Ho) (on : Int32) (f : Nat) : Nat → Int32
  | 0 => 0
  | u + 1 => amf H on f u + cond (bt on u && decide (hoH H u = f)) (hoM H u) 0
theorem k_amps {x1 x2 : Int32} {f : Nat} {Q : Int32 → dM → Prop} {M : dM} (hW : CW H M) (hx : x2.toInt = (f : Int)) (hQ : Q (amf H x1 f (hoU H)) M) : c_X0_ampsOf_54 2 x1 x2 M Q := by
  have e22 := hW.2.1.2.1
  have u8 := hW.1.2.2.1
  have loop : ∀ (t u : Nat) (x3 x4 : Int32), u + t = hoU H → x4.toInt = (u : Int) → x3 = amf H x1 f u → j_X0_ampsOf_54_5 2 x1 x2 x3 x4 M Q := by
    intro t
    induction t with
    | zero =>
      intro u x3 x4 hu h4 h3
      refine v_X0_ampsOf_54_5 ⟨fun _ => ?_, fun q => by exfalso; omega⟩
      rw [h3, show u = hoU H by omega]
      exact hQ
    | succ t ih =>
      intro u x3 x4 hu h4 h3
      obtain ⟨b1', b2', b3', b4'⟩ := hW.2.1.2.2.2.2.1 u (by omega)
      have se : amf H x1 f (u + 1) = amf H x1 f u + cond (bt x1 u && decide (hoH H u = f)) (hoM H u) 0 := rfl
      refine v_X0_ampsOf_54_5 ⟨fun q => by exfalso; omega, fun _ => y_has h4 (by omega) (fun g => ⟨fun z => absurd z (by decide), fun _ => ⟨by omega, ?_⟩⟩) (fun g => ⟨fun _ => ih (u + 1) _ _ (by omega) (d_inc h4 (by omega)) ?_, fun z => absurd rfl z⟩)⟩
      · rw [d_cn h4, b1', b2']
        refine ⟨fun ne => ih (u + 1) _ _ (by omega) (d_inc h4 (by omega)) ?_, fun ee => ⟨by omega, ih (u + 1) _ _ (by omega) (d_inc h4 (by omega)) ?_⟩⟩
        · rw [se, g, decide_eq_false (by omega), Bool.and_false, cond_false, h3]
        · rw [se, g, decide_eq_true (by omega), h3]
          rfl
      · rw [se, g, Bool.false_and, cond_false, h3]
  exact v_X0_ampsOf_54 (loop (hoU H) 0 _ _ (by omega) (by decide) rfl)
theorem k_flat {x1 x2 : Int32} {Q : Int32 → dM → Prop} (hK : KC H S P L m) (hO : zOk H S) (hQ : ∀ (r : Int32) (m' : dM), QC H S P L m m' → Q r m') : c_X11_flat_0 6 x1 x2 m Q := by
  have q0 := QC.rf hK
  have f7 := hK.1.1.1
  refine v_X11_flat_0 (Wp.deep (y_isFlatc hK.1 (fun hu => ⟨fun _ => ?_, fun z => absurd z (by decide)⟩) (fun hu => ⟨fun z => absurd rfl z, fun _ => hQ _ m q0⟩)) (Nat.le_of_ble_eq_true rfl))
  have hx := toNat_of hu.1
  refine Wp.deep (k_ways q0 hO (fun M q1 l1 => ?_)) (Nat.le_of_ble_eq_true rfl)
  refine ⟨fun _ => ⟨by omega, hQ _ M q1⟩, fun _ => Wp.deep (k_has (fun r _ => ⟨fun _ => hQ _ M q1, fun _ => hQ _ M q1⟩)) (Nat.le_of_ble_eq_true rfl), fun _ => ⟨by omega, hQ _ M q1⟩, fun _ => Wp.deep (k_has (fun r _ => ⟨fun _ => hQ _ M q1, fun _ => ⟨by omega, hQ _ M q1⟩⟩)) (Nat.le_of_ble_eq_true rfl), fun _ => Wp.deep (y_quarrel47 q1.2.1 q1.2.2.1 hx (by omega) (fun M2 f2 => hQ _ M2 (q1.va f2))) (Nat.le_of_ble_eq_true rfl), fun _ => Wp.deep (k_usesNow q1 hO (fun M2 q2 l2 => Wp.deep (k_amps q2.2.1 hx (hQ _ M2 q2)) (Nat.le_of_ble_eq_true rfl))) (Nat.le_of_ble_eq_true rfl), fun _ => hQ _ M q1⟩
theorem k_load {x : Int32} {w : Nat} {Q : Int32 → dM → Prop} (hK : KC H S P L m) (hO : zOk H S) (hx : x.toInt = (w : Int)) (hw : w < hoW H) (hQ : ∀ m' : dM, QC H S P L m m' → Q (lod H (szG S) (onA H S (hod (szH S))) w) m') : c_X0_loadNow_54_47 5 x m Q := by
  have w10 := hK.1.1.2.1
  refine v_X0_loadNow_54_47 (k_usesNow (QC.rf hK) hO (fun M q1 l1 => Wp.deep (y_putOn47 q1.2.1 q1.2.2.1 (hO.g1 hK.1.1) (fun M2 f2 w2 l2 d2 => ?_)) (Nat.le_of_ble_eq_true rfl)))
  rw [d_cn hx, d2 w hw]
  exact ⟨by omega, hQ M2 (q1.sc f2 w2)⟩
theorem k_goingWith {on : Int32} {Q : Int32 → dM → Prop} {M : dM} (hq : QC H S P L m M) (hO : zOk H S) (hQ : ∀ m' : dM, QC H S P L m m' → Q (gng H S on (hod (szH S)) 0) m') : c_X0_goingWith_54_47 5 on M Q := by
  refine v_X0_goingWith_54_47 (Wp.deep (y_putOn47 hq.2.1 hq.2.2.1 (hO.g1 hq.2.1.1) (fun M2 f2 w2 l2 d2 => v_X7_hourOfDay_47 ?_)) (Nat.le_of_ble_eq_true rfl))
  have q2 := hq.sc f2 w2
  rw [q2.2.2.1.1.1]
  exact y_going47 w2 q2.2.2.1 d2 (fun M3 f3 => hQ M3 (q2.va f3))
theorem k_wire {x1 x2 : Int32} {Q : Int32 → dM → Prop} (hK : KC H S P L m) (hO : zOk H S) (hQ : ∀ (r : Int32) (m' : dM), QC H S P L m m' → Q r m') : c_X11_wire_0 7 x1 x2 m Q := by
  have q0 := QC.rf hK
  have w10 := hK.1.1.2.1
  refine v_X11_wire_0 (Wp.deep (y_isWirec hK.1 (fun hu => ⟨fun _ => ?_, fun z => absurd z (by decide)⟩) (fun hu => ⟨fun z => absurd rfl z, fun _ => hQ _ m q0⟩)) (Nat.le_of_ble_eq_true rfl))
  have hx := toNat_of hu.1
  exact ⟨fun _ => ⟨by omega, hQ _ m q0⟩, fun _ => ⟨by omega, hQ _ m q0⟩, fun _ => ⟨by omega, hQ _ m q0⟩, fun _ => Wp.deep (k_has (fun r _ => ⟨fun _ => hQ _ m q0, fun _ => hQ _ m q0⟩)) (Nat.le_of_ble_eq_true rfl), fun _ => ⟨by omega, hQ _ m q0⟩, fun _ => Wp.deep (k_has (fun r _ => ⟨fun _ => hQ _ m q0, fun _ => hQ _ m q0⟩)) (Nat.le_of_ble_eq_true rfl), fun _ => Wp.deep (k_load hK hO hx (by omega) (fun M q1 => hQ _ M q1)) (Nat.le_of_ble_eq_true rfl), fun _ => Wp.deep (y_cost47 hK.1 hK.2.1 hx (by omega) (fun M f => hQ _ M (q0.va f))) (Nat.le_of_ble_eq_true rfl), fun _ => v_X0_goingNow_54_47 (Wp.deep (k_usesNow q0 hO (fun M q1 _ => k_goingWith q1 hO (fun M2 q2 => Wp.deep (k_has (fun r _ => ⟨fun _ => hQ _ M2 q2, fun _ => hQ _ M2 q2⟩)) (Nat.le_of_ble_eq_true rfl)))) (Nat.le_of_ble_eq_true rfl)), fun _ => hQ _ m q0⟩
theorem k_use {x1 x2 : Int32} {Q : Int32 → dM → Prop} (hK : KC H S P L m) (hO : zOk H S) (hQ : ∀ (r : Int32) (m' : dM), QC H S P L m m' → Q r m') : c_X11_use_0 5 x1 x2 m Q := by
  have q0 := QC.rf hK
  have u8 := hK.1.1.2.2.1
  refine v_X11_use_0 (Wp.deep (y_isUsec hK.1 (fun hu => ⟨fun _ => ?_, fun z => absurd z (by decide)⟩) (fun hu => ⟨fun z => absurd rfl z, fun _ => hQ _ m q0⟩)) (Nat.le_of_ble_eq_true rfl))
  have hx := toNat_of hu.1
  refine k_usesNow q0 hO (fun M q1 _ => Wp.deep (k_has (fun r _ => ?_)) (Nat.le_of_ble_eq_true rfl))
  exact ⟨fun _ => ⟨by omega, hQ _ M q1⟩, fun _ => ⟨by omega, hQ _ M q1⟩, fun _ => ⟨by omega, hQ _ M q1⟩, fun _ => ⟨by omega, hQ _ M q1⟩, fun _ => Wp.deep (k_has (fun r _ => ⟨fun _ => hQ _ M q1, fun _ => hQ _ M q1⟩)) (Nat.le_of_ble_eq_true rfl), fun _ => ⟨fun _ => hQ _ M q1, fun _ => hQ _ M q1⟩, fun _ => ⟨fun _ => hQ _ M q1, fun _ => y_pay47 q1.2.1 q1.2.2.1 hx (by omega) (fun M2 f2 => hQ _ M2 (q1.va f2))⟩, fun _ => hQ _ M q1⟩
theorem k_whole {Q : Int32 → dM → Prop} (hK : KC H S P L m) (hQ : ∀ r : Int32, Q r m) : c_X11_wholeRatings_0 2 m Q := by
  have w10 := hK.1.1.2.1
  have e21 := hK.1.2.1.1.2.1.1
  have loop : ∀ (t w : Nat) (x1 x2 : Int32), w + t = hoW H → x2.toInt = (w : Int) → j_X11_wholeRatings_0_4 2 x1 x2 m Q := by
    intro t
    induction t with
    | zero => intro w x1 x2 hw h2; exact v_X11_wholeRatings_0_4 ⟨fun _ => hQ _, fun q => by exfalso; omega⟩
    | succ t ih => intro w x1 x2 hw h2; exact v_X11_wholeRatings_0_4 ⟨fun q => by exfalso; omega, fun _ => k_has (fun r _ => ⟨fun _ => ⟨by omega, ih (w + 1) _ _ (by omega) (d_inc h2 (by omega))⟩, fun _ => ih (w + 1) _ _ (by omega) (d_inc h2 (by omega))⟩)⟩
  exact v_X11_wholeRatings_0 (loop (hoW H) 0 _ _ (by omega) (by decide))
theorem k_cnt {x1 : Int32} {Q : Int32 → dM → Prop} (hK : KC H S P L m) (hO : zOk H S) (hQ : ∀ (r : Int32) (m' : dM), QC H S P L m m' → Q r m') : c_X11_count_0 5 x1 m Q := by
  have q0 := QC.rf hK
  refine v_X11_count_0 ⟨fun _ => hQ _ m q0, fun _ => hQ _ m q0, fun _ => hQ _ m q0, fun _ => hQ _ m q0, fun _ => hQ _ m q0, fun _ => hQ _ m q0, fun _ => hQ _ m q0, fun _ => Wp.deep (k_lit hK.1 (fun r => hQ r m q0)) (Nat.le_of_ble_eq_true rfl), fun _ => k_usesNow q0 hO (fun M q1 _ => hQ _ M q1), fun _ => hQ _ m q0, fun _ => hQ _ m q0, fun _ => hQ _ m q0, fun _ => Wp.deep (k_count (fun r => hQ r m q0)) (Nat.le_of_ble_eq_true rfl), fun _ => ?_, fun _ => hQ _ m q0, fun _ => Wp.deep (k_whole hK (fun r => hQ r m q0)) (Nat.le_of_ble_eq_true rfl), fun _ => hQ _ m q0⟩
  exact v_X0_isSurge_54 (v_X0_lot (v_X0_stirred (v_X0_stirred ⟨fun q => absurd q (by decide), fun _ => ⟨by decide, ⟨fun _ => ⟨fun _ => hQ _ m q0, fun _ => hQ _ m q0⟩, fun _ => ⟨fun _ => hQ _ m q0, fun _ => hQ _ m q0⟩⟩⟩⟩)))
theorem k_share {x1 x2 : Int32} {Q : Int32 → dM → Prop} (hK : KC H S P L m) (hO : zOk H S) (hQ : ∀ (r : Int32) (m' : dM), QC H S P L m m' → Q r m') : c_X11_share_0 5 x1 x2 m Q := by
  have q0 := QC.rf hK
  have f7 := hK.1.1.1
  have no : j_X11_share_0_16 5 m Q := v_X11_share_0_16 (hQ _ m q0)
  refine v_X11_share_0 (Wp.deep (y_isFlatc hK.1 (fun hu => ⟨fun z => absurd z (by decide), fun _ => ?_⟩) (fun hu => ⟨fun _ => no, fun z => absurd rfl z⟩)) (Nat.le_of_ble_eq_true rfl))
  have hx := toNat_of hu.1
  refine Wp.deep (y_isWirec hK.1 (fun hw => ⟨fun _ => ?_, fun z => absurd z (by decide)⟩) (fun hw => ⟨fun z => absurd rfl z, fun _ => no⟩)) (Nat.le_of_ble_eq_true rfl)
  refine Wp.deep (k_ways q0 hO (fun M q1 l1 => ⟨by omega, ?_⟩)) (Nat.le_of_ble_eq_true rfl)
  exact Wp.deep (k_has (fun r _ => ⟨fun _ => hQ _ M q1, fun _ => k_usesNow q1 hO (fun M2 q2 l2 => Wp.deep (k_amps q2.2.1 hx (hQ _ M2 q2)) (Nat.le_of_ble_eq_true rfl))⟩)) (Nat.le_of_ble_eq_true rfl)
theorem k_without {x1 : Int32} {Q : Int32 → dM → Prop} (hK : KC H S P L m) (hQ : ∀ (r : Int32) (m' : dM), QC H S P L m m' → Q r m') : c_X11_without_0 3 x1 m Q := by
  have q0 := QC.rf hK
  exact v_X11_without_0 (Wp.deep (y_isWirec hK.1 (fun hu => ⟨fun z => absurd z (by decide), fun _ => v_X3_allFlats_2 (k_lit hK.1 (fun r => hQ _ m q0))⟩) (fun hu => ⟨fun _ => hQ _ m q0, fun z => absurd rfl z⟩)) (Nat.le_of_ble_eq_true rfl))
theorem k_needed {Q : Int32 → dM → Prop} (hK : KC H S P L m) (hQ : ∀ (r : Int32) (m' : dM), QC H S P L m m' → Q r m') : c_X11_needed_0 3 m Q := by
  have q0 := QC.rf hK
  have w10 := hK.1.1.2.1
  have e21 := hK.1.2.1.1.2.1.1
  have loop : ∀ (t w : Nat) (x1 x2 x3 : Int32), w + t = hoW H → x3.toInt = (w : Int) → j_X11_needed_0_19 3 x1 x2 x3 m Q := by
    intro t
    induction t with
    | zero => intro w x1 x2 x3 hw h3; exact v_X11_needed_0_19 ⟨fun _ => hQ _ m q0, fun q => by exfalso; omega⟩
    | succ t ih =>
      intro w x1 x2 x3 hw h3
      have on : ∀ y : Int32, j_X11_needed_0_72 3 x1 y x3 m Q := fun y => v_X11_needed_0_72 (ih (w + 1) _ _ _ (by omega) (d_inc h3 (by omega)))
      exact v_X11_needed_0_19 ⟨fun q => by exfalso; omega, fun _ => Wp.deep (k_has (fun r _ => ⟨fun _ => on _, fun _ => k_lit hK.1 (fun r2 => ⟨fun _ => on _, fun _ => on _⟩)⟩)) (Nat.le_of_ble_eq_true rfl)⟩
  exact v_X11_needed_0 (k_lit hK.1 (fun r => loop (hoW H) 0 _ _ _ (by omega) (by decide)))
theorem k_hottest {x1 : Int32} {Q : Int32 → dM → Prop} (hK : KC H S P L m) (hO : zOk H S) (hQ : ∀ (r : Int32) (m' : dM), QC H S P L m m' → Q r m') : c_X11_hottest_0 5 x1 m Q := by
  have q0 := QC.rf hK
  have w10 := hK.1.1.2.1
  have no : j_X11_hottest_0_9 5 m Q := v_X11_hottest_0_9 (hQ _ m q0)
  refine v_X11_hottest_0 ⟨fun _ => no, fun _ => ⟨fun _ => k_usesNow q0 hO (fun M q1 l1 => Wp.deep (y_putOn47 q1.2.1 q1.2.2.1 (hO.g1 hK.1.1) (fun M2 f2 w2 l2 d2 => ?_)) (Nat.le_of_ble_eq_true rfl)), fun _ => no⟩⟩
  have q2 := q1.sc f2 w2
  have e21 := w2.2.1.1.2.1.1
  have loop : ∀ (t w : Nat) (x2 x3 x4 : Int32), w + t = hoW H → x4.toInt = (w : Int) → j_X11_hottest_0_42 5 x1 x2 x3 x4 M2 Q := by
    intro t
    induction t with
    | zero => intro w x2 x3 x4 hw h4; exact v_X11_hottest_0_42 ⟨fun _ => ⟨fun _ => ⟨fun _ => hQ _ M2 q2, fun _ => hQ _ M2 q2⟩, fun _ => hQ _ M2 q2⟩, fun q => by exfalso; omega⟩
    | succ t ih =>
      intro w x2 x3 x4 hw h4
      have on : ∀ y z : Int32, j_X11_hottest_0_109 5 x1 y z x4 M2 Q := fun y z => v_X11_hottest_0_109 (ih (w + 1) _ _ _ (by omega) (d_inc h4 (by omega)))
      have on2 : ∀ y : Int32, j_X11_hottest_0_103 5 x1 x4 y M2 Q := fun y => v_X11_hottest_0_103 (on _ _)
      exact v_X11_hottest_0_42 ⟨fun q => by exfalso; omega, fun _ => ⟨by omega, by omega, Wp.deep (k_has (fun r _ => ⟨fun _ => on _ _, fun _ => ⟨fun _ => on2 _, fun _ => ⟨fun _ => on _ _, fun _ => on2 _⟩⟩⟩)) (Nat.le_of_ble_eq_true rfl)⟩⟩
  exact loop (hoW H) 0 _ _ _ (by omega) (by decide)
theorem k_clash {x1 x2 : Int32} {Q : Int32 → dM → Prop} (hK : KC H S P L m) (hO : zOk H S) (hQ : ∀ (r : Int32) (m' : dM), QC H S P L m m' → Q r m') : c_X11_clash_0 7 x1 x2 m Q := by
  have q0 := QC.rf hK
  have u8 := hK.1.1.2.2.1
  have no : j_X11_clash_0_37 7 m Q := v_X11_clash_0_37 (hQ _ m q0)
  refine v_X11_clash_0 (Wp.deep (y_isUsec hK.1 (fun hu => ⟨fun z => absurd z (by decide), fun _ => Wp.deep (y_isUsec hK.1 (fun hv => ⟨fun z => absurd z (by decide), fun _ => ⟨fun _ => no, fun _ => ?_⟩⟩) (fun hv => ⟨fun _ => no, fun z => absurd rfl z⟩)) (Nat.le_of_ble_eq_true rfl)⟩) (fun hu => ⟨fun _ => no, fun z => absurd rfl z⟩)) (Nat.le_of_ble_eq_true rfl))
  refine v_X1_clashOf_61_47 (Wp.deep (k_ways q0 hO (fun M q1 l1 => ⟨by omega, ?_⟩)) (Nat.le_of_ble_eq_true rfl))
  have no2 : j_X1_clashOf_61_47_47 6 M Q := v_X1_clashOf_61_47_47 (hQ _ M q1)
  exact Wp.deep (k_has (fun r _ => ⟨fun _ => no2, fun _ => ⟨by omega, Wp.deep (k_has (fun r2 _ => ⟨fun _ => k_goingWith q1 hO (fun M2 q2 => k_goingWith q2 hO (fun M3 q3 => k_goingWith q3 hO (fun M4 q4 => Wp.deep (k_count (fun r => hQ _ M4 q4)) (Nat.le_of_ble_eq_true rfl)))), fun _ => no2⟩)) (Nat.le_of_ble_eq_true rfl)⟩⟩)) (Nat.le_of_ble_eq_true rfl)
end CKE
end
section
/-! THE CLASS: questions leave how it stands, 2 -/
section CKF
variable {H : Ho} {S : Zt} {P : List Zt} {L : Nat → Zt} {m : dM}
theorem y_copy62 {Q : dM → Prop} {M : dM} (hq : QC H S P L m M) (hQ : ∀ m' : dM, QC H S P L m m' → CZ 62 m' S → Q m') : c_X7_copy_62_47 1 M Q := by
  obtain ⟨⟨z0, z1, z2, z3, z4, z5⟩, zR, zE, zD⟩ := hq.2.2.1
  refine v_X7_copy_62_47 (hQ _ (hq.t62 ⟨fun k _ _ _ q => by rw [dCpy_k (by omega), dCpy_k (by omega), dCpy_k (by omega), dSet_k (by omega), dSet_k (by omega), dSet_k (by omega), dSet_k (by omega), dSet_k (by omega), dSet_k (by omega)], fun j _ => by rw [dCpy_k (by decide), dCpy_k (by decide), dCpy_k (by decide), dSet_k (by decide), dSet_k (by decide), dSet_k (by decide), dSet_k (by decide), dSet_k (by decide), dSet_k (by decide)], rfl⟩ ⟨hq.2.1.1, hq.2.1.2.1.of (fun k a b _ => by rw [dCpy_k (by omega), dCpy_k (by omega), dCpy_k (by omega), dSet_k (by omega), dSet_k (by omega), dSet_k (by omega), dSet_k (by omega), dSet_k (by omega), dSet_k (by omega)]), hq.2.1.2.2.of (fun k a b => by rw [dCpy_k (by omega), dCpy_k (by omega), dCpy_k (by omega), dSet_k (by omega), dSet_k (by omega), dSet_k (by omega), dSet_k (by omega), dSet_k (by omega), dSet_k (by omega)])⟩) ⟨⟨?_, ?_, ?_, ?_, ?_, ?_⟩, fun j hj => ?_, fun j hj => ?_, fun j hj => ?_⟩)
  · rw [dCpy_k (by decide), dCpy_k (by decide), dCpy_k (by decide), dSet_j (by decide), dSet_j (by decide), dSet_j (by decide), dSet_j (by decide), dSet_j (by decide), dSet_s]; exact z0
  · rw [dCpy_k (by decide), dCpy_k (by decide), dCpy_k (by decide), dSet_j (by decide), dSet_j (by decide), dSet_j (by decide), dSet_j (by decide), dSet_s]; exact z1
  · rw [dCpy_k (by decide), dCpy_k (by decide), dCpy_k (by decide), dSet_j (by decide), dSet_j (by decide), dSet_j (by decide), dSet_s]; exact z2
  · rw [dCpy_k (by decide), dCpy_k (by decide), dCpy_k (by decide), dSet_j (by decide), dSet_j (by decide), dSet_s]; exact z3
  · rw [dCpy_k (by decide), dCpy_k (by decide), dCpy_k (by decide), dSet_j (by decide), dSet_s]; exact z4
  · rw [dCpy_k (by decide), dCpy_k (by decide), dCpy_k (by decide), dSet_s]; exact z5
  · rw [dCpy_k (by decide), dCpy_k (by decide), dCpy_e, if_pos (by simp; omega), dSet_k (by decide), dSet_k (by decide), dSet_k (by decide), dSet_k (by decide), dSet_k (by decide), dSet_k (by decide), show (0 : Int).toNat + (j - (0 : Int).toNat) = j by simp]; exact zR j hj
  · rw [dCpy_k (by decide), dCpy_e, if_pos (by simp; omega), dCpy_k (by decide), dSet_k (by decide), dSet_k (by decide), dSet_k (by decide), dSet_k (by decide), dSet_k (by decide), dSet_k (by decide), show (0 : Int).toNat + (j - (0 : Int).toNat) = j by simp]; exact zE j hj
  · rw [dCpy_e, if_pos (by simp; omega), dCpy_k (by decide), dCpy_k (by decide), dSet_k (by decide), dSet_k (by decide), dSet_k (by decide), dSet_k (by decide), dSet_k (by decide), dSet_k (by decide), show (0 : Int).toNat + (j - (0 : Int).toNat) = j by simp]; exact zD j hj
theorem k_way {x1 x2 : Int32} {Q : Int32 → dM → Prop} (hK : KC H S P L m) (hO : zOk H S) (hQ : ∀ (r : Int32) (m' : dM), QC H S P L m m' → Q r m') : c_X11_way_0 4 x1 x2 m Q := by
  have q0 := QC.rf hK
  have f7 := hK.1.1.1
  have w10 := hK.1.1.2.1
  have no : j_X11_way_0_12 4 m Q := v_X11_way_0_12 (hQ _ m q0)
  refine v_X11_way_0 (Wp.deep (y_isFlatc hK.1 (fun hu => ⟨fun z => absurd z (by decide), fun _ => ⟨fun h2 => ?_, fun _ => no⟩⟩) (fun hu => ⟨fun _ => no, fun z => absurd rfl z⟩)) (Nat.le_of_ble_eq_true rfl))
  have hx := toNat_of hu.1
  refine k_ways q0 hO (fun M q1 l1 => ?_)
  have hl' := l1.lit (f := x1.toNatClampNeg) (by omega) f7
  refine Wp.deep (y_has hx (by omega) (fun g => ⟨fun z => absurd z (by decide), fun _ => ?_⟩) (fun g => ⟨fun _ => hQ _ M q1, fun z => absurd rfl z⟩)) (Nat.le_of_ble_eq_true rfl)
  have no2 : j_X10_wireAt_57_14 3 M Q := v_X10_wireAt_57_14 (hQ _ M q1)
  have hH := q1.2.1.2.1.1
  have loop : ∀ (t i f : Nat) (x3 x4 : Int32), i + t = 7 → x4.toInt = (i : Int) → x3.toInt = (f : Int) → f < hoF H → (x2.toInt < (i : Int) + (wyD H (szG S) f : Int) ∧ i + wyD H (szG S) f ≤ 6) → j_X10_wireAt_57_21 3 x2 x3 x4 M Q := by
    intro t
    induction t with
    | zero =>
      intro i f x3 x4 hi h4 h3 hf hd
      have b := dD_le (nf := hoF H) (nw := hoW H) (e1 := hoA H) (e2 := hoB H) (G := bt (szG S)) (f := f)
      have b : wyD H (szG S) f ≤ 6 ∨ wyD H (szG S) f = 99 := b
      refine v_X10_wireAt_57_21 ⟨fun _ => ⟨by omega, hQ _ M q1⟩, fun q => ?_⟩
      exfalso
      omega
    | succ t ih =>
      intro i f x3 x4 hi h4 h3 hf hd
      have b := dD_le (nf := hoF H) (nw := hoW H) (e1 := hoA H) (e2 := hoB H) (G := bt (szG S)) (f := f)
      have b : wyD H (szG S) f ≤ 6 ∨ wyD H (szG S) f = 99 := b
      refine v_X10_wireAt_57_21 ⟨fun _ => ⟨by omega, hQ _ M q1⟩, fun q => ⟨by omega, ?_⟩⟩
      obtain ⟨n, hn⟩ : ∃ n, wyD H (szG S) f = n + 1 := ⟨wyD H (szG S) f - 1, by omega⟩
      have nk := nx_ok (nf := hoF H) (nw := hoW H) (e1 := hoA H) (e2 := hoB H) (G := bt (szG S)) (n := n) (f := f) (by omega) hn
      have e58 := l1.2.2.2.1 f hf (by show wyD H (szG S) f ≠ 99; omega) (by show wyD H (szG S) f ≠ 0; omega)
      obtain ⟨⟨w1, w2⟩, q1', q2', q3'⟩ := hH.2.2 _ nk.1
      rw [d_cn h3, d_cn e58, w1, h3]
      have dn : wyD H (szG S) (ot (hoA H) (hoB H) (nx (hoF H) (hoW H) (hoA H) (hoB H) (bt (szG S)) f) f) = n := nk.2.2
      refine ⟨by omega, fun ne => ⟨by omega, ih (i + 1) (hoA H (nx (hoF H) (hoW H) (hoA H) (hoB H) (bt (szG S)) f)) _ _ (by omega) (d_inc h4 (by omega)) w1 q1' ?_⟩, fun ee => ⟨by omega, ih (i + 1) (hoB H (nx (hoF H) (hoW H) (hoA H) (hoB H) (bt (szG S)) f)) _ _ (by omega) (d_inc h4 (by omega)) w2 q2' ?_⟩⟩
      · unfold ot at dn
        rw [if_neg (by omega)] at dn
        omega
      · unfold ot at dn
        rw [if_pos (by omega)] at dn
        omega
  have e59 := l1.2.1 x1.toNatClampNeg (by omega)
  have lit : wyD H (szG S) x1.toNatClampNeg ≠ 99 := by
    rw [g] at hl'
    unfold lt at hl'
    exact of_decide_eq_true hl'.symm
  have e59 : (M.1 59 x1.toNatClampNeg).toInt = ewy (wyD H (szG S) x1.toNatClampNeg) := e59
  unfold ewy at e59
  rw [if_neg lit] at e59
  refine v_X10_wireAt_57 ⟨fun _ => no2, fun _ => ⟨by omega, fun q => ?_, fun _ => no2⟩⟩
  have b0 := dD_le (nf := hoF H) (nw := hoW H) (e1 := hoA H) (e2 := hoB H) (G := bt (szG S)) (f := x1.toNatClampNeg)
  have b0 : wyD H (szG S) x1.toNatClampNeg ≤ 6 ∨ wyD H (szG S) x1.toNatClampNeg = 99 := b0
  exact loop 7 0 x1.toNatClampNeg _ _ rfl (by decide) hx (by omega) ⟨by omega, by omega⟩
theorem k_peak {x1 x2 x3 : Int32} {Q : Int32 → dM → Prop} (hK : KC H S P L m) (hO : zOk H S) (hQ : ∀ (r : Int32) (m' : dM), QC H S P L m m' → Q r m') : c_X11_peak_0 7 x1 x2 x3 m Q := by
  have q0 := QC.rf hK
  have w10 := hK.1.1.2.1
  have no : j_X11_peak_0_28 7 m Q := v_X11_peak_0_28 (hQ _ m q0)
  refine v_X11_peak_0 (Wp.deep (y_isWirec hK.1 (fun hu => ⟨fun z => absurd z (by decide), fun _ => ⟨fun _ => no, fun a1 => ⟨fun _ => no, fun a2 => ⟨fun _ => no, fun _ => ⟨fun _ => ?_, fun _ => no⟩⟩⟩⟩⟩) (fun hu => ⟨fun _ => no, fun z => absurd rfl z⟩)) (Nat.le_of_ble_eq_true rfl))
  have go : ∀ y : Int32, c_X1_peakOf_61_47 6 x1 x2 y m (fun r2 m2 => Q r2 m2) := fun y => by
    refine v_X1_peakOf_61_47 (Wp.deep (y_copy62 q0 (fun M q1 z1 => ?_)) (Nat.le_of_ble_eq_true rfl))
    have loop : ∀ (t : Nat) (x5 x6 x7 : Int32) (T : Zt) (M : dM), x7.toInt + (t : Int) = x2.toInt → 0 ≤ x7.toInt → QC H S P L m M → CZ 62 M T → zOk H T → j_X1_peakOf_61_47_17 6 x1 x2 y x5 x6 x7 M Q := by
      intro t
      induction t with
      | zero => intro x5 x6 x7 T M h7 h0 q1 z1 hT; exact v_X1_peakOf_61_47_17 ⟨fun _ => ⟨fun _ => hQ _ M q1, fun _ => hQ _ M q1⟩, fun q => by exfalso; omega⟩
      | succ t ih =>
        intro x5 x6 x7 T M h7 h0 q1 z1 hT
        have f := dAddE (X := x7.toInt) (Y := 1) (x := x7) (y := (1 : Int32)) rfl (by decide) (by omega) (by omega)
        refine v_X1_peakOf_61_47_17 ⟨fun q => by exfalso; omega, fun _ => y_passWires62 q1.2.1 z1 (hT.g1 hK.1.1) (fun M2 f2 w2 z2 _ => ⟨by omega, ?_, ?_⟩)⟩
        · intro _; exact v_X1_peakOf_61_47_65 (ih _ _ _ _ M2 (by omega) (by omega) (q1.t62 f2 w2) z2 (hT.w hK.1.1 _))
        · intro _; exact ⟨by omega, v_X1_peakOf_61_47_65 (ih _ _ _ _ M2 (by omega) (by omega) (q1.t62 f2 w2) z2 (hT.w hK.1.1 _))⟩
    exact loop x2.toNatClampNeg _ _ _ S M (by have := toNat_of (x := x2) (by omega); have := ti_0; omega) (by decide) q1 z1 hO
  exact ⟨fun _ => go _, fun _ => go _⟩
theorem k_tillGone {Q : Int32 → dM → Prop} {T : Zt} {M : dM} (hq : QC H S P L m M) (hZ : CZ 62 M T) (hT : zOk H T) (hQ : ∀ (r : Int32) (m' : dM), QC H S P L m m' → Q r m') : c_X1_trialTillGone_61 6 M Q := by
  have hO := hq.2.1.1
  have loop : ∀ (t : Nat) (x1 : Int32) (T : Zt) (M : dM), x1.toInt + (t : Int) = 201 → 0 ≤ x1.toInt → QC H S P L m M → CZ 62 M T → zOk H T → j_X1_trialTillGone_61_7 6 x1 M Q := by
    intro t
    induction t with
    | zero => intro x1 T M h1 h0 q1 z1 hT; exact v_X1_trialTillGone_61_7 ⟨fun _ => hQ _ M q1, fun q => by exfalso; omega⟩
    | succ t ih =>
      intro x1 T M h1 h0 q1 z1 hT
      have f := dAddE (X := x1.toInt) (Y := 1) (x := x1) (y := (1 : Int32)) rfl (by decide) (by omega) (by omega)
      exact v_X1_trialTillGone_61_7 ⟨fun q => by exfalso; omega, fun _ => y_passWires62 q1.2.1 z1 (hT.g1 hO) (fun M2 f2 w2 z2 _ => ⟨fun _ => ih _ _ _ (by omega) (by omega) ((q1.t62 f2 w2).s61 (Or.inl rfl)) (z2.of (fun k a b => dSet_k (by omega))) (hT.w hO _), fun _ => hQ _ _ ((q1.t62 f2 w2).s61 (Or.inl rfl))⟩)⟩
  exact v_X1_trialTillGone_61 (loop 200 _ T _ (by decide) (by decide) (hq.s61 (Or.inl rfl)) (hZ.of (fun k a b => dSet_k (by omega))) hT)
theorem k_bitAt {x0 x1 : Int32} {Q : Int32 → dM → Prop} {M : dM} (hQ : ∀ r : Int32, Q r M) : c_X11_bitAt 2 x0 x1 M Q := by
  have loop : ∀ (t : Nat) (x2 x3 : Int32), x3.toInt + (t : Int) = 32 → 0 ≤ x3.toInt → j_X11_bitAt_4 2 x0 x1 x2 x3 M Q := by
    intro t
    induction t with
    | zero => intro x2 x3 h3 h0; exact v_X11_bitAt_4 ⟨fun _ => hQ _, fun q => by exfalso; omega⟩
    | succ t ih =>
      intro x2 x3 h3 h0
      have f := dAddE (X := x3.toInt) (Y := 1) (x := x3) (y := (1 : Int32)) rfl (by decide) (by omega) (by omega)
      exact v_X11_bitAt_4 ⟨fun q => by exfalso; omega, fun _ => k_has (fun r _ => ⟨fun _ => v_X11_bitAt_28 (ih _ _ (by omega) (by omega)), fun _ => ⟨fun _ => v_X11_bitAt_28 (ih _ _ (by omega) (by omega)), fun _ => hQ _⟩⟩)⟩
  exact v_X11_bitAt (loop 32 _ _ (by decide) (by decide))
theorem k_first {x1 : Int32} {Q : Int32 → dM → Prop} (hK : KC H S P L m) (hO : zOk H S) (hQ : ∀ (r : Int32) (m' : dM), QC H S P L m m' → Q r m') : c_X11_first_0 8 x1 m Q := by
  have q0 := QC.rf hK
  have no : j_X11_first_0_9 8 m Q := v_X11_first_0_9 (hQ _ m q0)
  exact v_X11_first_0 ⟨fun _ => no, fun _ => ⟨fun _ => v_X1_firstGone_61_47 (Wp.deep (y_copy62 q0 (fun M q1 z1 => k_tillGone q1 z1 hO (fun r M2 q2 => ⟨fun _ => ⟨fun _ => v_X1_firstWire_61 (Wp.deep (k_bitAt (fun r => hQ _ M2 q2)) (Nat.le_of_ble_eq_true rfl)), fun _ => hQ _ M2 q2⟩, fun _ => hQ _ M2 q2⟩))) (Nat.le_of_ble_eq_true rfl)), fun _ => no⟩⟩
theorem k_thick {x1 : Int32} {Q : Int32 → dM → Prop} (hK : KC H S P L m) (hO : zOk H S) (hQ : ∀ (r : Int32) (m' : dM), QC H S P L m m' → Q r m') : c_X11_thick_0 8 x1 m Q := by
  have q0 := QC.rf hK
  have w10 := hK.1.1.2.1
  have no : j_X11_thick_0_11 8 m Q := v_X11_thick_0_11 (hQ _ m q0)
  refine v_X11_thick_0 ⟨fun _ => no, fun k1 => ⟨fun k20 => ?_, fun _ => no⟩⟩
  refine v_X1_bestThicker_61_47 (Wp.deep (y_copy62 q0 (fun M q1 z1 => k_tillGone q1 z1 hO (fun r M2 q2 => ?_))) (Nat.le_of_ble_eq_true rfl))
  have loop : ∀ (t w : Nat) (x3 x4 x5 : Int32) (M : dM), w + t = hoW H → x5.toInt = (w : Int) → QC H S P L m M → j_X1_bestThicker_61_47_20 7 x1 x3 x4 x5 M Q := by
    intro t
    induction t with
    | zero =>
      intro w x3 x4 x5 M hw h5 qM
      have e21 := qM.2.1.2.1.1.2.1.1
      exact v_X1_bestThicker_61_47_20 ⟨fun _ => v_X1_bestThicker_61_47_111 (hQ _ M qM), fun q => by exfalso; omega⟩
    | succ t ih =>
      intro w x3 x4 x5 M hw h5 qM
      have e21 := qM.2.1.2.1.1.2.1.1
      have on : ∀ (y z : Int32) (M1 : dM), QC H S P L m M1 → j_X1_bestThicker_61_47_105 7 x1 y z x5 M1 Q := fun y z M1 q => v_X1_bestThicker_61_47_105 (ih (w + 1) _ _ _ M1 (by omega) (d_inc h5 (by omega)) q)
      refine v_X1_bestThicker_61_47_20 ⟨fun q => by exfalso; omega, fun _ => ⟨fun _ => v_X1_bestThicker_61_47_111 (hQ _ M qM), fun _ => Wp.deep (k_has (fun r _ => ⟨fun _ => on _ _ M qM, fun _ => Wp.deep (y_copy62 qM (fun M3 q3 z3 => ⟨by omega, by omega, ?_⟩)) (Nat.le_of_ble_eq_true rfl)⟩)) (Nat.le_of_ble_eq_true rfl)⟩⟩
      rw [d_cn h5]
      have hT : zOk H (setR S (upd (szR S) w (if M3.1 63 w + x1 < (99 : Int32) then M3.1 63 w + x1 else 99))) := by
        obtain ⟨a, b, c, d, e, f, g⟩ := hO
        refine ⟨a, b, c, d, e, fun j hj => ?_, g⟩
        show 0 ≤ (upd (szR S) w (if M3.1 63 w + x1 < (99 : Int32) then M3.1 63 w + x1 else 99) j).toInt ∧ (upd (szR S) w (if M3.1 63 w + x1 < (99 : Int32) then M3.1 63 w + x1 else 99) j).toInt ≤ 99
        rw [upd_j]
        by_cases q3 : j = w
        · have lti : (M3.1 63 w + x1 < (99 : Int32)) ↔ (M3.1 63 w + x1).toInt < (99 : Int32).toInt := Int32.lt_iff_toInt_lt
          have e9 := ti_99
          have er : M3.1 63 w = szR S w := z3.2.1 w (by omega)
          have fw := f w (by omega)
          have fa := dAddE (X := (M3.1 63 w).toInt) (Y := x1.toInt) (x := M3.1 63 w) (y := x1) rfl rfl (by rw [er]; omega) (by rw [er]; omega)
          rw [er] at fa
          rw [if_pos q3]
          by_cases q : M3.1 63 w + x1 < (99 : Int32)
          · rw [if_pos q]
            have := lti.mp q
            rw [er] at this ⊢
            omega
          · rw [if_neg q]; omega
        · rw [if_neg q3]; exact f j hj
      have q4 : QC H S P L m (dSet M3 63 w (if M3.1 63 w + x1 < (99 : Int32) then M3.1 63 w + x1 else 99)) := q3.t62 ((TyF.rf 62 M3).set (by decide) (Or.inr rfl)) (q3.2.1.ty (n := 62) (by decide) (Or.inr rfl))
      exact k_tillGone q4 z3.r hT (fun r M5 q5 => ⟨fun _ => on _ _ M5 q5, fun _ => on _ _ M5 q5⟩)
  exact loop (hoW H) 0 _ _ _ M2 (by omega) (by decide) q2
theorem y_after {x1 : Int32} {n : Nat} {Q : dM → Prop} {M : dM} (hq : QC H S P L m M) (hO : zOk H S) (hx : x1.toInt = (n : Int)) (hn : n ≤ 72) (hQ : ∀ m' : dM, QC H S P L m m' → CZ 62 m' (itr H n S) → Q m') : c_X1_after_61_47 7 x1 M Q := by
  have loop : ∀ (t i : Nat) (x3 : Int32) (T : Zt) (M : dM), i + t = n → x3.toInt = (i : Int) → QC H S P L m M → CZ 62 M T → zOk H T → itr H t T = itr H n S → j_X1_after_61_47_10 7 x1 x3 M Q := by
    intro t
    induction t with
    | zero =>
      intro i x3 T M hi h3 qM zM hT e
      have e : T = itr H n S := e
      rw [← e] at hQ
      exact v_X1_after_61_47_10 ⟨fun _ => hQ M qM zM, fun q => by exfalso; omega⟩
    | succ t ih =>
      intro i x3 T M hi h3 qM zM hT e
      exact v_X1_after_61_47_10 ⟨fun q => by exfalso; omega, fun _ => y_passHour62 qM.2.1 zM hT (fun M1 f1 w1 z1 => ih (i + 1) _ _ M1 (by omega) (d_inc h3 (by omega)) (qM.t62 f1 w1) z1 (hT.h hq.2.1.1) e)⟩
  exact v_X1_after_61_47 (Wp.deep (y_copy62 hq (fun M1 q1 z1 => loop n 0 _ S M1 (by omega) (by decide) q1 z1 hO rfl)) (Nat.le_of_ble_eq_true rfl))
theorem k_then {x1 x2 : Int32} {Q : Int32 → dM → Prop} (hK : KC H S P L m) (hO : zOk H S) (hQ : ∀ (r : Int32) (m' : dM), QC H S P L m m' → Q r m') : c_X11_then_0 8 x1 x2 m Q := by
  have q0 := QC.rf hK
  have no : j_X11_then_0_19 8 m Q := v_X11_then_0_19 (hQ _ m q0)
  exact v_X11_then_0 ⟨fun _ => no, fun q1 => ⟨fun _ => no, fun q2 => ⟨fun _ => no, fun _ => ⟨fun _ => y_after q0 hO (toNat_of q1) (by have := toNat_of q1; omega) (fun M qM _ => ⟨fun _ => ⟨fun _ => Wp.deep (k_count (fun r => hQ _ M qM)) (Nat.le_of_ble_eq_true rfl), fun _ => hQ _ M qM⟩, fun _ => hQ _ M qM⟩), fun _ => no⟩⟩⟩⟩
theorem k_litIn {x1 x2 : Int32} {Q : Int32 → dM → Prop} (hK : KC H S P L m) (hO : zOk H S) (hQ : ∀ (r : Int32) (m' : dM), QC H S P L m m' → Q r m') : c_X11_litIn_0 8 x1 x2 m Q := by
  have q0 := QC.rf hK
  have no : j_X11_litIn_0_18 8 m Q := v_X11_litIn_0_18 (hQ _ m q0)
  exact v_X11_litIn_0 (Wp.deep (y_isFlatc hK.1 (fun hu => ⟨fun z => absurd z (by decide), fun _ => ⟨fun _ => no, fun q1 => ⟨fun q2 => y_after q0 hO (toNat_of q1) (by have := toNat_of q1; omega) (fun M qM _ => Wp.deep (k_lit qM.2.1 (fun r => Wp.deep (d := 1) (k_has (fun r2 _ => ⟨fun _ => hQ _ M qM, fun _ => hQ _ M qM⟩)) (Nat.le_of_ble_eq_true rfl))) (Nat.le_of_ble_eq_true rfl)), fun _ => no⟩⟩⟩) (fun hu => ⟨fun _ => no, fun z => absurd rfl z⟩)) (Nat.le_of_ble_eq_true rfl))
theorem k_year {x1 x2 : Int32} {Q : Int32 → dM → Prop} (hK : KC H S P L m) (hO : zOk H S) (hQ : ∀ (r : Int32) (m' : dM), QC H S P L m m' → Q r m') : c_X11_year_0 8 x1 x2 m Q := by
  have q0 := QC.rf hK
  have no : j_X11_year_0_21 8 m Q := v_X11_year_0_21 (hQ _ m q0)
  refine v_X11_year_0 ⟨fun _ => no, fun p1 => ⟨fun _ => no, fun p2 => ⟨fun _ => no, fun p3 => ⟨fun p4 => ?_, fun _ => no⟩⟩⟩⟩
  have calm : ∀ (x3 : Int32) (M : dM) (Q' : Int32 → dM → Prop), QC H S P L m M → (∀ (r : Int32) (m' : dM), QC H S P L m m' → Q' r m') → c_X1_isCalm_61_47 6 x1 x3 M Q' := fun x3 M Q' qM hQ' => by
    have loop : ∀ (t : Nat) (x4 : Int32) (T : Zt) (M : dM), x4.toInt + (t : Int) = x1.toInt → 0 ≤ x4.toInt → QC H S P L m M → CZ 62 M T → zOk H T → j_X1_isCalm_61_47_11 6 x1 x3 x4 M Q' := by
      intro t
      induction t with
      | zero => intro x4 T M h4 h0 qM zM hT; exact v_X1_isCalm_61_47_11 ⟨fun _ => hQ' _ M qM, fun q => by exfalso; omega⟩
      | succ t ih =>
        intro x4 T M h4 h0 qM zM hT
        have f := dAddE (X := x4.toInt) (Y := 1) (x := x4) (y := (1 : Int32)) rfl (by decide) (by omega) (by omega)
        exact v_X1_isCalm_61_47_11 ⟨fun q => by exfalso; omega, fun _ => Wp.deep (y_surgeOf qM.2.1.2.1 (y_passWires62 qM.2.1 zM (hT.g1 hK.1.1) (fun M2 f2 w2 z2 _ => ⟨fun _ => ih _ _ M2 (by omega) (by omega) (qM.t62 f2 w2) z2 (hT.w hK.1.1 _), fun _ => hQ' _ M2 (qM.t62 f2 w2)⟩))) (Nat.le_of_ble_eq_true rfl)⟩
    exact v_X1_isCalm_61_47 (Wp.deep (y_copy62 qM (fun M1 q1 z1 => loop x1.toNatClampNeg _ S M1 (by have := toNat_of p1; have := ti_0; omega) (by decide) q1 z1 hO)) (Nat.le_of_ble_eq_true rfl))
  have loop : ∀ (t : Nat) (x4 x5 : Int32) (M : dM), x5.toInt + (t : Int) = x2.toInt → 0 ≤ x5.toInt → QC H S P L m M → j_X1_calmSeeds_61_47_6 7 x1 x2 x4 x5 M Q := by
    intro t
    induction t with
    | zero => intro x4 x5 M h5 h0 qM; exact v_X1_calmSeeds_61_47_6 ⟨fun _ => hQ _ M qM, fun q => by exfalso; omega⟩
    | succ t ih =>
      intro x4 x5 M h5 h0 qM
      have f := dAddE (X := x5.toInt) (Y := 1) (x := x5) (y := (1 : Int32)) rfl (by decide) (by omega) (by omega)
      exact v_X1_calmSeeds_61_47_6 ⟨fun q => by exfalso; omega, fun _ => calm _ M _ qM (fun r M1 q1 => ⟨fun _ => ih _ _ M1 (by omega) (by omega) q1, fun _ => ih _ _ M1 (by omega) (by omega) q1⟩)⟩
  exact v_X1_calmSeeds_61_47 (loop x2.toNatClampNeg _ _ m (by have := toNat_of (x := x2) (by omega); have := ti_0; omega) (by decide) q0)
end CKF
end
section
/-! THE CLASS: questions leave how it stands, 3 -/
section CKG
variable {H : Ho} {S : Zt} {P : List Zt} {L : Nat → Zt} {m : dM}
theorem b1_le {u : Nat} (h : u ≤ 10) : 0 < (b1 u).toInt ∧ (b1 u).toInt ≤ 1024 := by
  match u, h with
  | 0, _ | 1, _ | 2, _ | 3, _ | 4, _ | 5, _ | 6, _ | 7, _ | 8, _ | 9, _ | 10, _ => decide
  | u + 11, h => omega
theorem k_payAll {x1 : Int32} {Q : Int32 → dM → Prop} {M : dM} (hW : CW H M) (hQ : ∀ r : Int32, Q r M) : c_X1_payOfAll_61 2 x1 M Q := by
  have u8 := hW.1.2.2.1
  have e22 := hW.2.1.2.1
  have loop : ∀ (t u : Nat) (x2 x3 : Int32), u + t = hoU H → x3.toInt = (u : Int) → j_X1_payOfAll_61_4 2 x1 x2 x3 M Q := by
    intro t
    induction t with
    | zero => intro u x2 x3 hu h3; exact v_X1_payOfAll_61_4 ⟨fun _ => hQ _, fun q => by exfalso; omega⟩
    | succ t ih => intro u x2 x3 hu h3; exact v_X1_payOfAll_61_4 ⟨fun q => by exfalso; omega, fun _ => k_has (fun r _ => ⟨fun _ => ih (u + 1) _ _ (by omega) (d_inc h3 (by omega)), fun _ => ⟨by omega, ih (u + 1) _ _ (by omega) (d_inc h3 (by omega))⟩⟩)⟩
  exact v_X1_payOfAll_61 (loop (hoU H) 0 _ _ (by omega) (by decide))
theorem k_together {x1 : Int32} {Q : Int32 → dM → Prop} (hK : KC H S P L m) (hO : zOk H S) (hQ : ∀ (r : Int32) (m' : dM), QC H S P L m m' → Q r m') : c_X11_together_0 7 x1 m Q := by
  have q0 := QC.rf hK
  have u8 := hK.1.1.2.2.1
  have no : j_X11_together_0_9 7 m Q := v_X11_together_0_9 (hQ _ m q0)
  refine v_X11_together_0 ⟨fun _ => no, fun _ => ⟨fun _ => ?_, fun _ => no⟩⟩
  have fin : ∀ (r1 : Int32) (M : dM), QC H S P L m M → (x1.toInt ≠ 0 → Q r1 M) ∧ (x1.toInt = 0 → c_X1_payOfAll_61 6 r1 M (fun r2 m2 => Q r2 m2)) := fun r1 M qM => ⟨fun _ => hQ _ M qM, fun _ => Wp.deep (k_payAll qM.2.1 (fun r => hQ _ M qM)) (Nat.le_of_ble_eq_true rfl)⟩
  have l89 : ∀ (t : Nat) (x3 x4 x5 x6 : Int32) (M : dM), x6.toInt + (t : Int) = 1025 → 0 ≤ x6.toInt → QC H S P L m M → j_X1_bestTogether_61_47_89 6 x3 x4 x5 x6 M (fun r1 m1 => (x1.toInt ≠ 0 → Q r1 m1) ∧ (x1.toInt = 0 → c_X1_payOfAll_61 6 r1 m1 (fun r2 m2 => Q r2 m2))) := by
    intro t
    induction t with
    | zero =>
      intro x3 x4 x5 x6 M h6 h0 qM
      have b := b1_le (u := hoU H) (by omega)
      refine v_X1_bestTogether_61_47_89 ?_
      rw [b1_of qM.2.1.2.1.2.1]
      exact ⟨fun _ => fin _ M qM, fun q => by exfalso; omega⟩
    | succ t ih =>
      intro x3 x4 x5 x6 M h6 h0 qM
      have b := b1_le (u := hoU H) (by omega)
      have f := dAddE (X := x6.toInt) (Y := 1) (x := x6) (y := (1 : Int32)) rfl (by decide) (by omega) (by omega)
      have on : ∀ (y z : Int32) (M1 : dM), QC H S P L m M1 → j_X1_bestTogether_61_47_148 6 x3 y z x6 M1 (fun r1 m1 => (x1.toInt ≠ 0 → Q r1 m1) ∧ (x1.toInt = 0 → c_X1_payOfAll_61 6 r1 m1 (fun r2 m2 => Q r2 m2))) := fun y z M1 q1 => v_X1_bestTogether_61_47_148 (ih _ _ _ _ M1 (by omega) (by omega) q1)
      refine v_X1_bestTogether_61_47_89 ?_
      rw [b1_of qM.2.1.2.1.2.1]
      exact ⟨fun _ => fin _ M qM, fun q => ⟨fun _ => on _ _ M qM, fun _ => Wp.deep (k_payAll qM.2.1 (fun r => ⟨fun _ => on _ _ M qM, fun _ => k_goingWith qM hO (fun M2 q2 => ⟨fun _ => on _ _ M2 q2, fun _ => Wp.deep (k_payAll q2.2.1 (fun r => on _ _ M2 q2)) (Nat.le_of_ble_eq_true rfl)⟩)⟩)) (Nat.le_of_ble_eq_true rfl)⟩⟩
  refine v_X1_bestTogether_61_47 (Wp.deep (k_ways q0 hO (fun M q1 l1 => ?_)) (Nat.le_of_ble_eq_true rfl))
  have l17 : ∀ (t u : Nat) (x2 x3 x4 : Int32) (M : dM), u + t = hoU H → x4.toInt = (u : Int) → QC H S P L m M → j_X1_bestTogether_61_47_17 6 x2 x3 x4 M (fun r1 m1 => (x1.toInt ≠ 0 → Q r1 m1) ∧ (x1.toInt = 0 → c_X1_payOfAll_61 6 r1 m1 (fun r2 m2 => Q r2 m2))) := by
    intro t
    induction t with
    | zero =>
      intro u x2 x3 x4 M hu h4 qM
      have e22 := qM.2.1.2.1.2.1
      exact v_X1_bestTogether_61_47_17 ⟨fun _ => l89 1024 _ _ _ _ M (by decide) (by decide) qM, fun q => by exfalso; omega⟩
    | succ t ih =>
      intro u x2 x3 x4 M hu h4 qM
      have e22 := qM.2.1.2.1.2.1
      exact v_X1_bestTogether_61_47_17 ⟨fun q => by exfalso; omega, fun _ => Wp.deep (y_pay47 qM.2.1 qM.2.2.1 h4 (by omega) (fun M2 f2 => ⟨by omega, by omega, Wp.deep (k_has (fun r _ => ⟨fun _ => ih (u + 1) _ _ _ _ (by omega) (d_inc h4 (by omega)) ((qM.va f2).s61 (Or.inr rfl)), fun _ => ih (u + 1) _ _ _ _ (by omega) (d_inc h4 (by omega)) ((qM.va f2).s61 (Or.inr rfl))⟩)) (Nat.le_of_ble_eq_true rfl)⟩)) (Nat.le_of_ble_eq_true rfl)⟩
  exact l17 (hoU H) 0 _ _ _ M (by omega) (by decide) q1
theorem k_when {x1 : Int32} {Q : Int32 → dM → Prop} (hK : KC H S P L m) (hO : zOk H S) (hQ : ∀ (r : Int32) (m' : dM), QC H S P L m m' → Q r m') : c_X11_when_0 6 x1 m Q := by
  have q0 := QC.rf hK
  have u8 := hK.1.1.2.2.1
  refine v_X11_when_0 (Wp.deep (y_isUsec hK.1 (fun hu => ⟨fun z => absurd z (by decide), fun _ => ?_⟩) (fun hu => ⟨fun _ => hQ _ m q0, fun z => absurd rfl z⟩)) (Nat.le_of_ble_eq_true rfl))
  have loop : ∀ (t : Nat) (x3 x4 x5 : Int32) (M : dM), x5.toInt + (t : Int) = 24 → 0 ≤ x5.toInt → QC H S P L m M → j_X1_firstStart_61_47_28 5 x1 x3 x4 x5 M Q := by
    intro t
    induction t with
    | zero => intro x3 x4 x5 M h5 h0 qM; exact v_X1_firstStart_61_47_28 ⟨fun _ => hQ _ M qM, fun q => by exfalso; omega⟩
    | succ t ih =>
      intro x3 x4 x5 M h5 h0 qM
      have f := dAddE (X := x5.toInt) (Y := 1) (x := x5) (y := (1 : Int32)) rfl (by decide) (by omega) (by omega)
      refine v_X1_firstStart_61_47_28 ⟨fun q => by exfalso; omega, fun _ => Wp.deep (y_usesAt47 qM.2.1 qM.2.2.1 (hO.g1 hK.1.1) (fun M1 f1 w1 l1 => ?_)) (Nat.le_of_ble_eq_true rfl)⟩
      have q1 := qM.sc f1.sf w1
      refine Wp.deep (y_putOn47 w1 q1.2.2.1 (hO.g1 hK.1.1) (fun M2 f2 w2 l2 d2 => ?_)) (Nat.le_of_ble_eq_true rfl)
      have q2 := q1.sc f2 w2
      exact y_going47 w2 q2.2.2.1 d2 (fun M3 f3 => ⟨fun _ => ⟨fun _ => ih _ _ _ M3 (by omega) (by omega) (q2.va f3), fun _ => hQ _ M3 (q2.va f3)⟩, fun _ => ⟨fun _ => ih _ _ _ M3 (by omega) (by omega) (q2.va f3), fun _ => hQ _ M3 (q2.va f3)⟩⟩)
  exact v_X1_firstStart_61_47 ⟨by omega, by omega, loop 24 _ _ _ m (by decide) (by decide) q0⟩
theorem k_cutBy : ∀ (s : Nat) (x1 x2 x3 x4 : Int32) (M : dM) (Q : Int32 → dM → Prop), CW H M → x4.toInt ≤ (s : Int) → -10 ≤ x4.toInt → s ≤ 3 → 0 ≤ x3.toInt → x3.toInt ≤ 11 → (∀ r : Int32, Q r M) → c_X1_cutBy_2 (3 + s) x1 x2 x3 x4 M Q := by
  intro s
  induction s with
  | zero =>
    intro x1 x2 x3 x4 M Q hW h4 h4' hs h3 h3' hQ
    exact v_X1_cutBy_2 ⟨fun q => by exfalso; omega, fun _ => k_lit hW (fun r => Wp.deep (d := 1) (k_has (fun r2 _ => ⟨fun _ => hQ _, fun _ => hQ _⟩)) (Nat.le_of_ble_eq_true rfl))⟩
  | succ s ih =>
    intro x1 x2 x3 x4 M Q hW h4 h4' hs h3 h3' hQ
    have w10 := hW.1.2.1
    have e21 := hW.2.1.1.2.1.1
    have fs := dSubE (X := x4.toInt) (Y := 1) (x := x4) (y := (1 : Int32)) rfl (by decide) (by omega) (by omega)
    have loop : 0 < x4.toInt → ∀ (t : Nat) (x5 : Int32), x5.toInt + (t : Int) = 12 → 0 ≤ x5.toInt → j_X1_cutBy_2_26 (3 + (s + 1)) x1 x2 x4 x5 M Q := by
      intro p4 t
      induction t with
      | zero => intro x5 h5 h0; exact v_X1_cutBy_2_26 ⟨fun _ => hQ _, fun q => by exfalso; omega⟩
      | succ t ih2 =>
        intro x5 h5 h0
        have f := dAddE (X := x5.toInt) (Y := 1) (x := x5) (y := (1 : Int32)) rfl (by decide) (by omega) (by omega)
        have on : j_X1_cutBy_2_79 (3 + (s + 1)) x1 x2 x4 x5 M Q := v_X1_cutBy_2_79 (ih2 _ (by omega) (by omega))
        exact v_X1_cutBy_2_26 ⟨fun _ => hQ _, fun q => Wp.deep (d := 1) (d' := 3 + s) (k_has (fun r _ => ⟨fun _ => on, fun _ => ih _ _ _ _ M _ hW (by omega) (by omega) (by omega) (by omega) (by omega) (fun r2 => ⟨fun _ => on, fun _ => hQ _⟩)⟩)) (show 1 ≤ 3 + s by omega)⟩
    refine v_X1_cutBy_2 ⟨fun q => loop q (12 - x3.toInt).toNat _ (by omega) h3, fun _ => Wp.deep (d := 2) (d' := 3 + s) (k_lit hW (fun r => Wp.deep (d := 1) (d' := 3 + s) (k_has (fun r2 _ => ⟨fun _ => hQ _, fun _ => hQ _⟩)) (show 1 ≤ 3 + s by omega))) (show 2 ≤ 3 + s by omega)⟩
theorem k_cut {x1 x2 : Int32} {Q : Int32 → dM → Prop} (hK : KC H S P L m) (hQ : ∀ (r : Int32) (m' : dM), QC H S P L m m' → Q r m') : c_X11_cut_0 8 x1 x2 m Q := by
  have q0 := QC.rf hK
  have no : j_X11_cut_0_18 8 m Q := v_X11_cut_0_18 (hQ _ m q0)
  refine v_X11_cut_0 (Wp.deep (y_isFlatc hK.1 (fun hu => ⟨fun z => absurd z (by decide), fun _ => ⟨fun _ => no, fun _ => ⟨fun _ => ?_, fun _ => no⟩⟩⟩) (fun hu => ⟨fun _ => no, fun z => absurd rfl z⟩)) (Nat.le_of_ble_eq_true rfl))
  have fin : ∀ r2 : Int32, (0 ≤ r2.toInt → (x2.toInt ≠ (-1) → c_X11_bitAt 7 r2 x2 m (fun r3 m3 => Q r3 m3)) ∧ (x2.toInt = (-1) → c_J6_bitCount 7 r2 m (fun r4 m4 => Q r4 m4))) ∧ (r2.toInt < 0 → Q (-2 : Int32) m) := fun r2 => ⟨fun _ => ⟨fun _ => Wp.deep (k_bitAt (fun r => hQ _ m q0)) (Nat.le_of_ble_eq_true rfl), fun _ => Wp.deep (k_count (fun r => hQ _ m q0)) (Nat.le_of_ble_eq_true rfl)⟩, fun _ => hQ _ m q0⟩
  have loop : ∀ (t : Nat) (x3 : Int32), x3.toInt + (t : Int) = 4 → 0 ≤ x3.toInt → j_X1_leastCut_61_47_2 7 x1 x3 m (fun r2 m2 => (0 ≤ r2.toInt → (x2.toInt ≠ (-1) → c_X11_bitAt 7 r2 x2 m2 (fun r3 m3 => Q r3 m3)) ∧ (x2.toInt = (-1) → c_J6_bitCount 7 r2 m2 (fun r4 m4 => Q r4 m4))) ∧ (r2.toInt < 0 → Q (-2 : Int32) m2)) := by
    intro t
    induction t with
    | zero => intro x3 h3 h0; exact v_X1_leastCut_61_47_2 ⟨fun _ => fin _, fun q => by exfalso; omega⟩
    | succ t ih =>
      intro x3 h3 h0
      have f := dAddE (X := x3.toInt) (Y := 1) (x := x3) (y := (1 : Int32)) rfl (by decide) (by omega) (by omega)
      exact v_X1_leastCut_61_47_2 ⟨fun q => by exfalso; omega, fun _ => k_cutBy 3 _ _ _ _ m _ hK.1 (by omega) (by omega) (by omega) (by decide) (by decide) (fun r => ⟨fun _ => ih _ (by omega) (by omega), fun _ => fin _⟩)⟩
  exact v_X1_leastCut_61_47 (loop 4 _ (by decide) (by decide))
theorem k_isSo {x1 x2 : Int32} {Q : Int32 → dM → Prop} {M : dM} (h3 : (M.1 67 3).toInt ≤ 20) (hQ : ∀ r : Int32, Q r M) : c_X9_isSo_67 2 x1 x2 M Q := by
  have loop : ∀ (t : Nat) (x3 : Int32), x3.toInt + (t : Int) = 20 → 0 ≤ x3.toInt → j_X9_isSo_67_2 2 x1 x2 x3 M Q := by
    intro t
    induction t with
    | zero => intro x3 h h0; exact v_X9_isSo_67_2 ⟨fun _ => v_X9_isSo_67_42 (hQ _), fun _ => ⟨fun _ => v_X9_isSo_67_42 (hQ _), fun q => by exfalso; omega⟩⟩
    | succ t ih =>
      intro x3 h h0
      have f := dAddE (X := x3.toInt) (Y := 1) (x := x3) (y := (1 : Int32)) rfl (by decide) (by omega) (by omega)
      exact v_X9_isSo_67_2 ⟨fun _ => v_X9_isSo_67_42 (hQ _), fun _ => ⟨fun _ => v_X9_isSo_67_42 (hQ _), fun q => ⟨by omega, k_has (fun r _ => ⟨by omega, fun _ => ih _ (by omega) (by omega), fun _ => hQ _⟩)⟩⟩⟩
  exact v_X9_isSo_67 (loop 20 _ (by decide) (by decide))
theorem k_susp {x1 x2 : Int32} {Q : Int32 → dM → Prop} {M : dM} (hW : CW H M) (h3 : (M.1 67 3).toInt ≤ 20) (hQ : ∀ r : Int32, Q r M) : c_X9_suspects_67 3 x1 x2 M Q := by
  have w10 := hW.1.2.1
  have e21 := hW.2.1.1.2.1.1
  have loop : ∀ (t w : Nat) (x3 x4 : Int32), w + t = hoW H → x4.toInt = (w : Int) → j_X9_suspects_67_5 3 x1 x2 x3 x4 M Q := by
    intro t
    induction t with
    | zero => intro w x3 x4 hw h4; exact v_X9_suspects_67_5 ⟨fun _ => hQ _, fun q => by exfalso; omega⟩
    | succ t ih =>
      intro w x3 x4 hw h4
      have on : ∀ y : Int32, j_X9_suspects_67_54 3 x1 x2 y x4 M Q := fun y => v_X9_suspects_67_54 (ih (w + 1) _ _ (by omega) (d_inc h4 (by omega)))
      exact v_X9_suspects_67_5 ⟨fun q => by exfalso; omega, fun _ => Wp.deep (k_has (fun r _ => ⟨fun _ => on _, fun _ => k_lit hW (fun r2 => k_isSo h3 (fun r3 => ⟨fun _ => on _, fun _ => on _⟩))⟩)) (Nat.le_of_ble_eq_true rfl)⟩
  exact v_X9_suspects_67 (loop (hoW H) 0 _ _ (by omega) (by decide))
theorem k_went {x1 x2 : Int32} {Q : Int32 → dM → Prop} (hK : KC H S P L m) (h3 : (m.1 67 3).toInt ≤ 20) (hQ : ∀ (r : Int32) (m' : dM), QC H S P L m m' → Q r m') : c_X11_went_0 4 x1 x2 m Q := by
  have q0 := QC.rf hK
  have no : j_X11_went_0_24 4 m Q := v_X11_went_0_24 (hQ _ m q0)
  exact v_X11_went_0 ⟨fun _ => no, fun _ => ⟨fun _ => no, fun _ => ⟨fun _ => no, fun _ => ⟨fun _ => k_susp hK.1 h3 (fun r => ⟨fun _ => hQ _ m q0, fun _ => Wp.deep (k_count (fun r => hQ _ m q0)) (Nat.le_of_ble_eq_true rfl)⟩), fun _ => no⟩⟩⟩⟩
theorem k_worst {x1 x2 x3 : Int32} {Q : Int32 → dM → Prop} {M : dM} (hW : CW H M) (hQ : ∀ r : Int32, Q r M) : c_X9_leftAtWorst_67 3 x1 x2 x3 M Q := by
  have w10 := hW.1.2.1
  have e21 := hW.2.1.1.2.1.1
  have loop : ∀ (t w : Nat) (x4 x5 : Int32), w + t = hoW H → x5.toInt = (w : Int) → j_X9_leftAtWorst_67_6 3 x1 x2 x3 x4 x5 M Q := by
    intro t
    induction t with
    | zero => intro w x4 x5 hw h5; exact v_X9_leftAtWorst_67_6 ⟨fun _ => Wp.deep (k_count (fun r => hQ _)) (Nat.le_of_ble_eq_true rfl), fun q => by exfalso; omega⟩
    | succ t ih =>
      intro w x4 x5 hw h5
      have on : ∀ y : Int32, j_X9_leftAtWorst_67_6 3 x1 x2 x3 y (x5 + (1 : Int32)) M Q := fun y => ih (w + 1) _ _ (by omega) (d_inc h5 (by omega))
      exact v_X9_leftAtWorst_67_6 ⟨fun q => by exfalso; omega, fun _ => Wp.deep (k_has (fun r _ => ⟨fun _ => on _, fun _ => k_lit hW (fun r2 => Wp.deep (d := 1) (k_has (fun r3 _ => ⟨fun _ => on _, fun _ => on _⟩)) (Nat.le_of_ble_eq_true rfl))⟩)) (Nat.le_of_ble_eq_true rfl)⟩
  exact v_X9_leftAtWorst_67 (loop (hoW H) 0 _ _ (by omega) (by decide))
theorem k_ask {x1 : Int32} {Q : Int32 → dM → Prop} (hK : KC H S P L m) (h3 : (m.1 67 3).toInt ≤ 20) (hQ : ∀ (r : Int32) (m' : dM), QC H S P L m m' → Q r m') : c_X11_ask_0 5 x1 m Q := by
  have q0 := QC.rf hK
  have f7 := hK.1.1.1
  have e20 := hK.1.2.1.1.1.1
  have no : j_X11_ask_0_15 5 m Q := v_X11_ask_0_15 (hQ _ m q0)
  refine v_X11_ask_0 ⟨fun _ => no, fun _ => ⟨fun _ => ?_, fun _ => no⟩⟩
  have fin : ∀ y : Int32, j_X9_bestQuestion_67_65 4 y m Q := fun y => v_X9_bestQuestion_67_65 (hQ _ m q0)
  have loop : ∀ (x3 : Int32) (t f : Nat) (x4 x5 x6 : Int32), f + t = hoF H → x6.toInt = (f : Int) → j_X9_bestQuestion_67_18 4 (m.1 47 3) x3 x4 x5 x6 m Q := by
    intro x3 t
    induction t with
    | zero => intro f x4 x5 x6 hf h6; exact v_X9_bestQuestion_67_18 ⟨fun _ => fin _, fun q => by exfalso; omega⟩
    | succ t ih =>
      intro f x4 x5 x6 hf h6
      have on : ∀ y z : Int32, j_X9_bestQuestion_67_59 4 (m.1 47 3) x3 y z x6 m Q := fun y z => v_X9_bestQuestion_67_59 (ih (f + 1) _ _ _ (by omega) (d_inc h6 (by omega)))
      exact v_X9_bestQuestion_67_18 ⟨fun q => by exfalso; omega, fun _ => ⟨fun _ => fin _, fun _ => k_worst hK.1 (fun r => ⟨fun _ => on _ _, fun _ => on _ _⟩)⟩⟩
  exact v_X9_bestQuestion_67 (k_susp hK.1 h3 (fun r => loop _ (hoF H) 0 _ _ _ (by omega) (by decide)))
/-- what a call leaves that changes none of these cells -/
theorem KC.fr {m' : dM} (h : KC H S P L m) (e : ∀ k : Nat, 2 ≤ k → k ≤ 60 → m'.1 k = m.1 k) : KC H S P L m' := ⟨⟨h.1.1, h.1.2.1.of (fun k a b _ => e k (by omega) (by omega)), h.1.2.2.of (fun k a b => e k (by omega) (by omega))⟩, h.2.1.of (fun k a b => e k (by omega) (by omega)), h.2.2.1.of (by rw [e 51 (by omega) (by omega)]) (by rw [e 51 (by omega) (by omega)]) (e 52 (by omega) (by omega)), h.2.2.2.of (by rw [e 51 (by omega) (by omega)]) (e 53 (by omega) (by omega))⟩
end CKG
end
section
/-! THE REFERENCE: questions leave how it stands -/
section RKE
variable {H : Ho} {S : Zt} {P : List Zt} {L : Nat → Zt} {s : Nat} {m : dM}
theorem CY.xa {M M' : dM} (h : CY H S s M) (hF : XaF M M') : CY H S s M' := ⟨h.1.xa hF, h.2.1.xa hF (Or.inr rfl), h.2.2.xa hF⟩
theorem y_onNow {Q : Int32 → dM → Prop} {M : dM} (hC : CY H S s M) (hQ : Q (onA H S (hod (szH S))) M) : c_X12_onNow_70 3 M Q := by
  refine v_X12_onNow_70 ?_
  rw [hC.2.1.1.1]
  exact y_onAt hC.1 hC.2.1 hC.2.2 hQ
theorem y_ampsOn {x : Int32} {f : Nat} {Q : Int32 → dM → Prop} {M : dM} (hC : CY H S s M) (hx : x.toInt = (f : Int)) (hQ : Q (amf H (onA H S (hod (szH S))) f (hoU H)) M) : c_X12_ampsOn_70 4 x M Q := by
  have u8 := hC.1.1.2.2.1
  have a := hC.1.2.1.1
  refine v_X12_ampsOn_70 (y_onNow hC ?_)
  generalize onA H S (hod (szH S)) = on at hQ ⊢
  have loop : ∀ (t u : Nat) (x3 x4 : Int32), u + t = hoU H → x4.toInt = (u : Int) → x3 = amf H on f u → j_X12_ampsOn_70_10 4 x on x3 x4 M Q := by
    intro t
    induction t with
    | zero =>
      intro u x3 x4 hu h4 h3
      refine v_X12_ampsOn_70_10 ?_
      rw [d_cn a.1, hC.1.2.2.1, a.1]
      refine ⟨by omega, fun _ => ?_, fun q => by exfalso; omega⟩
      rw [h3, show u = hoU H by omega]
      exact hQ
    | succ t ih =>
      intro u x3 x4 hu h4 h3
      have se : amf H on f (u + 1) = amf H on f u + cond (bt on u && decide (hoH H u = f)) (hoM H u) 0 := rfl
      have on2 : ∀ y : Int32, y = amf H on f (u + 1) → j_X12_ampsOn_70_53 4 x on y x4 M Q := fun y hy => v_X12_ampsOn_70_53 (ih (u + 1) _ _ (by omega) (d_inc h4 (by omega)) hy)
      refine v_X12_ampsOn_70_10 ?_
      rw [d_cn a.1, hC.1.2.2.1, a.1, bt_s h4 (by omega)]
      refine ⟨by omega, fun q => by exfalso; omega, fun _ => ?_⟩
      cases e : bt on u with
      | false =>
        rw [e, Bool.false_and, cond_false, Int32.add_zero] at se
        exact ⟨fun _ => on2 _ (by rw [se, h3]), fun q => absurd q (by decide)⟩
      | true =>
        rw [e, Bool.true_and] at se
        refine ⟨fun q => absurd rfl q, fun _ => Wp.deep (y_flatAt hC.1 h4 (by omega) (fun r hr => ⟨fun ne => on2 _ ?_, fun ee => Wp.deep (y_ampsAt hC.1 h4 (by omega) (on2 _ ?_)) (Nat.le_of_ble_eq_true rfl)⟩)) (Nat.le_of_ble_eq_true rfl)⟩
        · rw [decide_eq_false (by omega), cond_false, Int32.add_zero] at se
          rw [se, h3]
        · rw [decide_eq_true (by omega), cond_true] at se
          rw [se, h3]
  exact loop (hoU H) 0 _ _ (by omega) (by decide) rfl
theorem r_flat {x1 x2 : Int32} {Q : Int32 → dM → Prop} (hK : KR H S P L s m) (hQ : ∀ (r : Int32) (m' : dM), RsF m m' → Q r m') : c_X12_flat_70 7 x1 x2 m Q := by
  have f7 := hK.1.1.1
  refine v_X12_flat_70 (Wp.deep (y_isFlatr hK.1 (fun hu => ⟨fun _ => ?_, fun z => absurd z (by decide)⟩) (fun hu => ⟨fun z => absurd rfl z, fun _ => hQ _ m (RsF.rf m)⟩)) (Nat.le_of_ble_eq_true rfl))
  have hx := toNat_of hu.1
  refine y_copies hK.1 hK.2.1 (fun M f cy _ _ => ?_)
  have a := cy.1.2.1.1
  have e7 := y_idx (C := 7) (c := (7 : Int32)) (by decide) a.1 a.2 hx (by decide) (by omega)
  have e40 := d_add (k := x1) (K := x1.toNatClampNeg) (x := (40 : Int32)) (i := 40) (by decide) hx (by omega)
  have li : ∀ (Q' : Int32 → dM → Prop), (∀ r : Int32, Q' r M) → c_X12_isLit_70 6 x1 M Q' := fun Q' hq => Wp.deep (y_isLit cy.2.2 hx (by omega) (fun _ => hq _) (fun _ => hq _)) (Nat.le_of_ble_eq_true rfl)
  exact ⟨fun _ => ⟨by omega, hQ _ M f⟩, fun _ => li _ (fun r => ⟨fun _ => hQ _ M f, fun _ => hQ _ M f⟩), fun _ => ⟨by omega, hQ _ M f⟩, fun _ => li _ (fun r => ⟨fun _ => hQ _ M f, fun _ => ⟨by omega, hQ _ M f⟩⟩), fun _ => Wp.deep (y_quarrelOf cy.1 cy.2.1 hx (by omega) (fun M2 f2 => hQ _ M2 (f.tr f2.rs))) (Nat.le_of_ble_eq_true rfl), fun _ => Wp.deep (y_ampsOn cy hx (hQ _ M f)) (Nat.le_of_ble_eq_true rfl), fun _ => hQ _ M f⟩
theorem r_wire {x1 x2 : Int32} {Q : Int32 → dM → Prop} (hK : KR H S P L s m) (hQ : ∀ (r : Int32) (m' : dM), RsF m m' → Q r m') : c_X12_wire_70 7 x1 x2 m Q := by
  have w10 := hK.1.1.2.1
  refine v_X12_wire_70 (Wp.deep (y_isWire hK.1.2.1 (fun hu => ⟨fun _ => ?_, fun z => absurd z (by decide)⟩) (fun hu => ⟨fun z => absurd rfl z, fun _ => hQ _ m (RsF.rf m)⟩)) (Nat.le_of_ble_eq_true rfl))
  have hx := toNat_of hu.1
  refine y_copies hK.1 hK.2.1 (fun M f cy _ _ => ?_)
  have a := cy.1.2.1.1
  have e0 := y_idx (C := 10) (c := (10 : Int32)) (by decide) a.1 a.2 hx (by decide) (by omega)
  have e10 := d_add (k := x1) (K := x1.toNatClampNeg) (x := (10 : Int32)) (i := 10) (by decide) hx (by omega)
  have e20 := d_add (k := x1) (K := x1.toNatClampNeg) (x := (20 : Int32)) (i := 20) (by decide) hx (by omega)
  have e30 := d_add (k := x1) (K := x1.toNatClampNeg) (x := (30 : Int32)) (i := 30) (by decide) hx (by omega)
  exact ⟨fun _ => ⟨by omega, hQ _ M f⟩, fun _ => ⟨by omega, hQ _ M f⟩, fun _ => ⟨by omega, hQ _ M f⟩, fun _ => ⟨by omega, hQ _ M f⟩, fun _ => ⟨by omega, hQ _ M f⟩, fun _ => ⟨by omega, hQ _ M f⟩, fun _ => Wp.deep (y_onNow cy (Wp.deep (y_loadBy cy.1 cy.2.2 hx (by omega) (hQ _ M f)) (Nat.le_of_ble_eq_true rfl))) (Nat.le_of_ble_eq_true rfl), fun _ => Wp.deep (y_costsOf cy.1 cy.2.1 hx (by omega) (fun M2 f2 => hQ _ M2 (f.tr f2.rs))) (Nat.le_of_ble_eq_true rfl), fun _ => Wp.deep (y_onNow cy (Wp.deep (y_doesGo cy.1 cy.2.1 cy.2.2 hx (by omega) (fun M2 f2 => ⟨fun _ => hQ _ M2 (f.tr f2.rs), fun _ => hQ _ M2 (f.tr f2.rs)⟩)) (Nat.le_of_ble_eq_true rfl))) (Nat.le_of_ble_eq_true rfl), fun _ => hQ _ M f⟩
theorem r_use {x1 x2 : Int32} {Q : Int32 → dM → Prop} (hK : KR H S P L s m) (hQ : ∀ (r : Int32) (m' : dM), RsF m m' → Q r m') : c_X12_use_70 7 x1 x2 m Q := by
  have u8 := hK.1.1.2.2.1
  refine v_X12_use_70 (Wp.deep (y_isUser hK.1 (fun hu => ⟨fun _ => ?_, fun z => absurd z (by decide)⟩) (fun hu => ⟨fun z => absurd rfl z, fun _ => hQ _ m (RsF.rf m)⟩)) (Nat.le_of_ble_eq_true rfl))
  have hx := toNat_of hu.1
  refine y_copies hK.1 hK.2.1 (fun M f cy _ _ => ?_)
  have a := cy.1.2.1.1
  have e0 := y_idx (C := 8) (c := (8 : Int32)) (by decide) a.1 a.2 hx (by decide) (by omega)
  have e47 := d_add (k := x1) (K := x1.toNatClampNeg) (x := (47 : Int32)) (i := 47) (by decide) hx (by omega)
  exact ⟨fun _ => Wp.deep (y_flatAt cy.1 hx (by omega) (fun r _ => hQ _ M f)) (Nat.le_of_ble_eq_true rfl), fun _ => Wp.deep (y_ampsAt cy.1 hx (by omega) (hQ _ M f)) (Nat.le_of_ble_eq_true rfl), fun _ => ⟨by omega, hQ _ M f⟩, fun _ => ⟨by omega, hQ _ M f⟩, fun _ => ⟨by omega, hQ _ M f⟩, fun _ => Wp.deep (y_onNow cy (hQ _ M f)) (Nat.le_of_ble_eq_true rfl), fun _ => Wp.deep (y_paysOf cy.1 cy.2.1 hx (by omega) (fun M2 f2 => hQ _ M2 (f.tr f2.rs))) (Nat.le_of_ble_eq_true rfl), fun _ => hQ _ M f⟩
theorem r_way {x1 x2 : Int32} {Q : Int32 → dM → Prop} (hK : KR H S P L s m) (hQ : ∀ (r : Int32) (m' : dM), RsF m m' → Q r m') : c_X12_way_70 7 x1 x2 m Q := by
  have f7 := hK.1.1.1
  have no : j_X12_way_70_12 7 m Q := v_X12_way_70_12 (hQ _ m (RsF.rf m))
  refine v_X12_way_70 (Wp.deep (y_isFlatr hK.1 (fun hu => ⟨fun z => absurd z (by decide), fun _ => ⟨fun h2 => ?_, fun _ => no⟩⟩) (fun hu => ⟨fun _ => no, fun z => absurd rfl z⟩)) (Nat.le_of_ble_eq_true rfl))
  have hx := toNat_of hu.1
  refine y_copies hK.1 hK.2.1 (fun M f cy _ _ => ?_)
  refine Wp.deep (y_isLit cy.2.2 hx (by omega) (fun g => ⟨fun _ => ⟨by omega, fun lt' => ?_, fun _ => hQ _ M f⟩, fun z => absurd z (by decide)⟩) (fun g => ⟨fun z => absurd rfl z, fun _ => hQ _ M f⟩)) (Nat.le_of_ble_eq_true rfl)
  have hG : RG (hoW H) (bt (szG S)) M := cy.2.1.rg (r := 0)
  have loop : ∀ (t i f' : Nat) (x3 x4 : Int32), i + t = 7 → x4.toInt = (i : Int) → x3.toInt = (f' : Int) → f' < hoF H → (x2.toInt < (i : Int) + (wyD H (szG S) f' : Int) ∧ i + wyD H (szG S) f' ≤ 6 ∧ (i : Int) ≤ x2.toInt) → j_X12_way_70_46 7 x2 x3 x4 M Q := by
    intro t
    induction t with
    | zero => intro i f' x3 x4 hi h4 h3 hf hd; exfalso; omega
    | succ t ih =>
      intro i f' x3 x4 hi h4 h3 hf hd
      refine v_X12_way_70_46 ⟨fun q => ?_, fun q => ?_⟩
      · obtain ⟨n, hn⟩ : ∃ n, wyD H (szG S) f' = n + 1 := ⟨wyD H (szG S) f' - 1, by omega⟩
        exact Wp.deep (y_wireFrom cy.1.2.1 hG cy.2.2.1 h3 (by omega) (by omega : n < 6) hn (fun r hr => hQ _ M f)) (Nat.le_of_ble_eq_true rfl)
      · obtain ⟨n, hn⟩ : ∃ n, wyD H (szG S) f' = n + 1 := ⟨wyD H (szG S) f' - 1, by omega⟩
        have nk := nx_ok (nf := hoF H) (nw := hoW H) (e1 := hoA H) (e2 := hoB H) (G := bt (szG S)) (n := n) (f := f') (by omega) hn
        have en := (cy.1.1.2.2.2.1 _ nk.1)
        refine Wp.deep (y_wireFrom cy.1.2.1 hG cy.2.2.1 h3 (by omega) (by omega : n < 6) hn (fun r hr => Wp.deep (y_otherEnd cy.1.2.1 hr nk.1 h3 (fun r2 ht hr2 => ih (i + 1) _ _ _ (by omega) (d_inc h4 (by omega)) hr2 ?_ ?_) (fun no2 => ?_)) (Nat.le_of_ble_eq_true rfl))) (Nat.le_of_ble_eq_true rfl)
        · unfold ot; split <;> omega
        · have dn : wyD H (szG S) (ot (hoA H) (hoB H) (nx (hoF H) (hoW H) (hoA H) (hoB H) (bt (szG S)) f') f') = n := nk.2.2
          rw [dn]
          omega
        · exfalso
          have k2 := nk.2.1
          unfold tch at k2
          rw [Bool.and_eq_true, Bool.or_eq_true, decide_eq_true_eq, decide_eq_true_eq] at k2
          exact no2 k2.2
  have lit : wyD H (szG S) x1.toNatClampNeg ≠ 99 := by
    unfold lt at g
    exact of_decide_eq_true g
  have e109 := cy.2.2.1 x1.toNatClampNeg (by omega)
  have b0 := dD_le (nf := hoF H) (nw := hoW H) (e1 := hoA H) (e2 := hoB H) (G := bt (szG S)) (f := x1.toNatClampNeg)
  have b0 : wyD H (szG S) x1.toNatClampNeg ≤ 6 ∨ wyD H (szG S) x1.toNatClampNeg = 99 := b0
  exact loop 7 0 x1.toNatClampNeg _ _ rfl (by decide) hx (by omega) ⟨by omega, by omega, by omega⟩
theorem zOk.hh (hH : hOk H) (h : zOk H S) (x : Int32) : zOk H (wsz H (pst H S) x) := (h.p).w hH _
/-- hours gone by on the copy, whatever surges -/
theorem r_hour {Q : dM → Prop} {M : dM} {T : Zt} (hC : CY H T s M) (hO : zOk H T) (hF : RsF m M) (hQ : ∀ (T' : Zt) (m' : dM), RsF m m' → CY H T' s m' → zOk H T' → Q m') : c_X12_hourGoes_70 6 M Q :=
  y_hourGoes hC.1 hC.2.1 hC.2.2 hO (fun M1 f1 W1 g1 Z1 L1 => hQ _ M1 (hF.tr f1.rs) ⟨W1, Z1, L1⟩ (zOk.hh hC.1.1 hO _))
theorem r_still {Q : dM → Prop} {M : dM} (hK : KR H S P L s m) (hF : RsF m M) (hQ : ∀ m' : dM, RsF m m' → CY H S s m' → Q m') : c_X12_copiesStill_70 7 M Q := by
  have hK' := hK.rs hF
  refine v_X12_copiesStill_70 (y_copies hK'.1 hK'.2.1 (fun M1 f cy _ _ => hQ _ ((hF.tr f).s70 (by decide)) ⟨cy.1.rs ((RsF.rf M1).s70 (by decide)), cy.2.1.of (dSet_k (by decide)), cy.2.2.of (dSet_k (by decide)) (dSet_k (by decide))⟩))
theorem r_peak {x1 x2 x3 : Int32} {Q : Int32 → dM → Prop} (hK : KR H S P L s m) (hO : zOk H S) (hQ : ∀ (r : Int32) (m' : dM), RsF m m' → Q r m') : c_X12_peak_70 8 x1 x2 x3 m Q := by
  have w10 := hK.1.1.2.1
  have no : j_X12_peak_70_27 8 m Q := v_X12_peak_70_27 (hQ _ m (RsF.rf m))
  refine v_X12_peak_70 (Wp.deep (y_isWire hK.1.2.1 (fun hu => ⟨fun z => absurd z (by decide), fun _ => Wp.deep (y_in (fun h2 => ⟨fun z => absurd z (by decide), fun _ => Wp.deep (y_in (fun h3 => ⟨fun _ => ?_, fun z => absurd z (by decide)⟩) (fun _ => ⟨fun z => absurd rfl z, fun _ => no⟩)) (Nat.le_of_ble_eq_true rfl)⟩) (fun _ => ⟨fun _ => no, fun z => absurd rfl z⟩)) (Nat.le_of_ble_eq_true rfl)⟩) (fun hu => ⟨fun _ => no, fun z => absurd rfl z⟩)) (Nat.le_of_ble_eq_true rfl))
  have hx := toNat_of hu.1
  have e1 := ti_1
  have e48 := ti_48
  refine r_still hK (RsF.rf m) (fun M f cy => ?_)
  have loop : ∀ (t : Nat) (x4 x5 x6 : Int32) (T : Zt) (M : dM), x6.toInt + (t : Int) = x2.toInt → 0 ≤ x6.toInt → RsF m M → CY H T s M → zOk H T → j_X12_peak_70_42 8 x1 x2 x3 x4 x5 x6 M Q := by
    intro t
    induction t with
    | zero => intro x4 x5 x6 T M h6 h0 fM cM hT; exact v_X12_peak_70_42 ⟨fun _ => ⟨fun _ => hQ _ M fM, fun _ => hQ _ M fM⟩, fun q => by exfalso; omega⟩
    | succ t ih =>
      intro x4 x5 x6 T M h6 h0 fM cM hT
      have f := dAddE (X := x6.toInt) (Y := 1) (x := x6) (y := (1 : Int32)) rfl (by decide) (by omega) (by omega)
      have on : ∀ y z : Int32, j_X12_peak_70_86 8 x1 x2 x3 y z x6 M Q := fun y z => v_X12_peak_70_86 (Wp.deep (r_hour cM hT fM (fun T' M1 f1 c1 h1 => ih _ _ _ T' M1 (by omega) (by omega) f1 c1 h1)) (Nat.le_of_ble_eq_true rfl))
      exact v_X12_peak_70_42 ⟨fun q => by exfalso; omega, fun _ => Wp.deep (y_isWhole cM.1.2.1 (cM.2.1.rg (r := 0)) hx (by omega) (fun _ => ⟨fun z => absurd z (by decide), fun _ => Wp.deep (y_onNow cM (Wp.deep (y_loadBy cM.1 cM.2.2 hx (by omega) ⟨fun _ => on _ _, fun _ => on _ _⟩) (Nat.le_of_ble_eq_true rfl))) (Nat.le_of_ble_eq_true rfl)⟩) (fun _ => ⟨fun _ => ⟨fun _ => on _ _, fun _ => on _ _⟩, fun z => absurd rfl z⟩)) (Nat.le_of_ble_eq_true rfl)⟩
  exact loop x2.toNatClampNeg _ _ _ S M (by have := toNat_of (x := x2) (by omega); have := ti_0; omega) (by decide) f cy hO
theorem r_firstGoing {Q : Int32 → dM → Prop} {M : dM} {T : Zt} (hC : CY H T s M) (hO : zOk H T) (hF : RsF m M) (hQ : ∀ (r : Int32) (m' : dM), RsF m m' → Q r m') : c_X12_firstGoing_70 7 M Q := by
  have loop : ∀ (t : Nat) (x1 : Int32) (T : Zt) (M : dM), x1.toInt + (t : Int) = 201 → 0 ≤ x1.toInt → RsF m M → CY H T s M → zOk H T → j_X12_firstGoing_70_2 7 x1 M Q := by
    intro t
    induction t with
    | zero => intro x1 T M h1 h0 fM cM hT; exact v_X12_firstGoing_70_2 ⟨fun _ => hQ _ M fM, fun q => by exfalso; omega⟩
    | succ t ih =>
      intro x1 T M h1 h0 fM cM hT
      have f := dAddE (X := x1.toInt) (Y := 1) (x := x1) (y := (1 : Int32)) rfl (by decide) (by omega) (by omega)
      exact v_X12_firstGoing_70_2 ⟨fun q => by exfalso; omega, fun _ => r_hour cM hT fM (fun T' M1 f1 c1 h1 => ⟨fun _ => ih _ T' M1 (by omega) (by omega) f1 c1 h1, fun _ => hQ _ M1 f1⟩)⟩
  exact v_X12_firstGoing_70 (loop 200 _ T M (by decide) (by decide) hF hC hO)
theorem r_first {x1 : Int32} {Q : Int32 → dM → Prop} (hK : KR H S P L s m) (hO : zOk H S) (hQ : ∀ (r : Int32) (m' : dM), RsF m m' → Q r m') : c_X12_first_70 8 x1 m Q := by
  refine v_X12_first_70 (Wp.deep (y_in (fun h => ⟨fun _ => r_still hK (RsF.rf m) (fun M f cy => r_firstGoing cy hO f (fun r M2 f2 => ⟨fun _ => ⟨fun _ => ?_, fun _ => hQ _ M2 f2⟩, fun _ => hQ _ M2 f2⟩)), fun z => absurd z (by decide)⟩) (fun _ => ⟨fun z => absurd rfl z, fun _ => hQ _ m (RsF.rf m)⟩)) (Nat.le_of_ble_eq_true rfl))
  have loop : ∀ (t : Nat) (x0 x1 : Int32), x1.toInt + (t : Int) = 10 → 0 ≤ x1.toInt → j_X12_lowestOf_2 7 x0 x1 M2 (fun r4 m4 => Q r4 m4) := by
    intro t
    induction t with
    | zero => intro x0 x1 h1 h0; exact v_X12_lowestOf_2 ⟨fun _ => v_X12_lowestOf_22 (hQ _ M2 f2), fun q => by exfalso; omega⟩
    | succ t ih =>
      intro x0 x1 h1 h0
      have f := dAddE (X := x1.toInt) (Y := 1) (x := x1) (y := (1 : Int32)) rfl (by decide) (by omega) (by omega)
      exact v_X12_lowestOf_2 ⟨fun _ => v_X12_lowestOf_22 (hQ _ M2 f2), fun _ => ⟨fun _ => v_X12_lowestOf_22 (hQ _ M2 f2), fun _ => ih _ _ (by omega) (by omega)⟩⟩
  exact v_X12_lowestOf (loop 10 _ _ (by decide) (by decide))
end RKE
end
section
/-! THE REFERENCE: questions leave how it stands, 2 -/
section RKF
variable {H : Ho} {S : Zt} {P : List Zt} {L : Nat → Zt} {s : Nat} {m : dM}
theorem r_bits {x0 : Int32} {Q : Int32 → dM → Prop} {M : dM} (hQ : ∀ r : Int32, Q r M) : c_X12_bits 1 x0 M Q := by
  have loop : ∀ (t : Nat) (x1 x2 : Int32), x2.toInt + (t : Int) = 10 → 0 ≤ x2.toInt → j_X12_bits_4 1 x0 x1 x2 M Q := by
    intro t
    induction t with
    | zero => intro x1 x2 h h0; exact v_X12_bits_4 ⟨fun _ => hQ _, fun q => by exfalso; omega⟩
    | succ t ih =>
      intro x1 x2 h h0
      have f := dAddE (X := x2.toInt) (Y := 1) (x := x2) (y := (1 : Int32)) rfl (by decide) (by omega) (by omega)
      exact v_X12_bits_4 ⟨fun q => by exfalso; omega, fun _ => ih _ _ (by omega) (by omega)⟩
  exact v_X12_bits (loop 10 _ _ (by decide) (by decide))
theorem r_ith {x0 x1 : Int32} {Q : Int32 → dM → Prop} {M : dM} (hQ : ∀ r : Int32, Q r M) : c_X12_ithOf 1 x0 x1 M Q := by
  have loop : ∀ (t : Nat) (x2 x3 : Int32), x3.toInt + (t : Int) = 10 → 0 ≤ x3.toInt → j_X12_ithOf_4 1 x0 x1 x2 x3 M Q := by
    intro t
    induction t with
    | zero => intro x2 x3 h h0; exact v_X12_ithOf_4 ⟨fun _ => hQ _, fun q => by exfalso; omega⟩
    | succ t ih =>
      intro x2 x3 h h0
      have f := dAddE (X := x3.toInt) (Y := 1) (x := x3) (y := (1 : Int32)) rfl (by decide) (by omega) (by omega)
      have on : ∀ y : Int32, j_X12_ithOf_31 1 x0 x1 y x3 M Q := fun y => v_X12_ithOf_31 (ih _ _ (by omega) (by omega))
      exact v_X12_ithOf_4 ⟨fun q => by exfalso; omega, fun _ => ⟨fun _ => ⟨fun _ => on _, fun _ => hQ _⟩, fun _ => on _⟩⟩
  exact v_X12_ithOf (loop 10 _ _ (by decide) (by decide))
theorem r_earlier {x0 x1 : Int32} {Q : Int32 → dM → Prop} {M : dM} (hQ : ∀ r : Int32, Q r M) : c_X12_isEarlier 2 x0 x1 M Q := by
  have loop : ∀ (t : Nat) (x2 : Int32), x2.toInt + (t : Int) = 3 → 0 ≤ x2.toInt → j_X12_isEarlier_2 2 x0 x1 x2 M Q := by
    intro t
    induction t with
    | zero => intro x2 h h0; exact v_X12_isEarlier_2 ⟨fun _ => hQ _, fun q => by exfalso; omega⟩
    | succ t ih =>
      intro x2 h h0
      have f := dAddE (X := x2.toInt) (Y := 1) (x := x2) (y := (1 : Int32)) rfl (by decide) (by omega) (by omega)
      exact v_X12_isEarlier_2 ⟨fun q => by exfalso; omega, fun _ => r_ith (fun r1 => r_ith (fun r2 => ⟨fun _ => ih _ (by omega) (by omega), fun _ => r_ith (fun r3 => r_ith (fun r4 => ⟨fun _ => hQ _, fun _ => hQ _⟩))⟩))⟩
  exact v_X12_isEarlier (loop 3 _ (by decide) (by decide))
theorem y_usesLit {Q : Int32 → dM → Prop} {M : dM} (hC : CY H S s M) (hQ : Q (bs (fun u => lt H (szG S) (hoH H u)) (hoU H)) M) : c_X12_usesLit_70 2 M Q := by
  obtain ⟨o1, o2, o3, o4, o5, o6⟩ := hC.1.1
  have a := hC.1.2.1.1
  have loop : ∀ (t u : Nat) (x1 x2 : Int32), u + t = hoU H → x2.toInt = (u : Int) → x1 = bs (fun u => lt H (szG S) (hoH H u)) u → j_X12_usesLit_70_4 2 x1 x2 M Q := by
    intro t
    induction t with
    | zero =>
      intro u x1 x2 hu h2 h1
      refine v_X12_usesLit_70_4 ?_
      rw [d_cn a.1, hC.1.2.2.1, a.1]
      refine ⟨by omega, fun _ => ?_, fun q => by exfalso; omega⟩
      rw [h1, show u = hoU H by omega]
      exact hQ
    | succ t ih =>
      intro u x1 x2 hu h2 h1
      have c1 := (o5 u (by omega)).1
      have on : ∀ y : Int32, y = bs (fun u => lt H (szG S) (hoH H u)) (u + 1) → j_X12_usesLit_70_35 2 y x2 M Q := fun y hy => v_X12_usesLit_70_35 (ih (u + 1) _ _ (by omega) (d_inc h2 (by omega)) hy)
      refine v_X12_usesLit_70_4 ?_
      rw [d_cn a.1, hC.1.2.2.1, a.1, b1_of h2]
      refine ⟨by omega, fun q => by exfalso; omega, fun _ => y_flatAt hC.1 h2 (by omega) (fun r hr => y_isLit hC.2.2 hr (by omega) (fun g => ⟨fun z => absurd z (by decide), fun _ => on _ ?_⟩) (fun g => ⟨fun _ => on _ ?_, fun z => absurd rfl z⟩))⟩
      · show x1 ||| b1 u = cond (lt H (szG S) (hoH H u)) (bs (fun u => lt H (szG S) (hoH H u)) u ||| b1 u) (bs (fun u => lt H (szG S) (hoH H u)) u)
        rw [g, cond_true, h1]
      · show x1 = cond (lt H (szG S) (hoH H u)) (bs (fun u => lt H (szG S) (hoH H u)) u ||| b1 u) (bs (fun u => lt H (szG S) (hoH H u)) u)
        rw [g, cond_false, h1]
  exact v_X12_usesLit_70 (loop (hoU H) 0 _ _ (by omega) (by decide) rfl)
theorem r_together {x1 : Int32} {Q : Int32 → dM → Prop} (hK : KR H S P L s m) (hQ : ∀ (r : Int32) (m' : dM), RsF m m' → Q r m') : c_X12_together_70 7 x1 m Q := by
  have u8 := hK.1.1.2.2.1
  refine v_X12_together_70 (Wp.deep (y_in (fun h => ⟨fun _ => y_copies hK.1 hK.2.1 (fun M f cy _ _ => Wp.deep (y_usesLit cy ?_) (Nat.le_of_ble_eq_true rfl)), fun z => absurd z (by decide)⟩) (fun _ => ⟨fun z => absurd rfl z, fun _ => hQ _ m (RsF.rf m)⟩)) (Nat.le_of_ble_eq_true rfl))
  have b := b1_le (u := hoU H) (by omega)
  have loop : ∀ (t : Nat) (x2 x3 x4 x5 : Int32) (M : dM), x5.toInt + (t : Int) = 1025 → 0 ≤ x5.toInt → RsF m M → CY H S s M → j_X12_together_70_28 7 x1 x2 x3 x4 x5 M Q := by
    intro t
    induction t with
    | zero =>
      intro x2 x3 x4 x5 M h5 h0 fM cM
      have a := cM.1.2.1.1
      refine v_X12_together_70_28 ?_
      rw [d_cn a.1, b1_of cM.1.2.2.1]
      exact ⟨by omega, fun _ => ⟨fun _ => hQ _ M fM, fun _ => hQ _ M fM⟩, fun q => by exfalso; omega⟩
    | succ t ih =>
      intro x2 x3 x4 x5 M h5 h0 fM cM
      have a := cM.1.2.1.1
      have f := dAddE (X := x5.toInt) (Y := 1) (x := x5) (y := (1 : Int32)) rfl (by decide) (by omega) (by omega)
      refine v_X12_together_70_28 ?_
      rw [d_cn a.1, b1_of cM.1.2.2.1]
      refine ⟨by omega, fun _ => ⟨fun _ => hQ _ M fM, fun _ => hQ _ M fM⟩, fun q => ?_⟩
      have on : ∀ (y z : Int32) (M1 : dM), RsF m M1 → CY H S s M1 → j_X12_together_70_101 7 x1 x2 y z x5 M1 Q := fun y z M1 f1 c1 => v_X12_together_70_101 (ih _ _ _ _ M1 (by omega) (by omega) f1 c1)
      exact ⟨fun _ => Wp.deep (y_paysAll cM.1 cM.2.1 (fun M1 f1 => ⟨fun _ => on _ _ M1 (fM.tr f1.rs) (cM.xa f1), fun _ => Wp.deep (y_goingBits (cM.xa f1).1 (cM.xa f1).2.1 (cM.xa f1).2.2 (fun M2 f2 => ⟨fun _ => on _ _ M2 ((fM.tr f1.rs).tr f2.rs) ((cM.xa f1).xa f2), fun _ => on _ _ M2 ((fM.tr f1.rs).tr f2.rs) ((cM.xa f1).xa f2)⟩)) (Nat.le_of_ble_eq_true rfl)⟩)) (Nat.le_of_ble_eq_true rfl), fun _ => on _ _ M fM cM⟩
  exact loop 1024 _ _ _ _ M (by decide) (by decide) f cy
theorem r_when {x1 : Int32} {Q : Int32 → dM → Prop} (hK : KR H S P L s m) (hB : ∀ u : Nat, u < hoU H → 0 ≤ (hoO H u).toInt ∧ (hoO H u).toInt ≤ (hoI H u).toInt ∧ (hoI H u).toInt ≤ 23) (hQ : ∀ (r : Int32) (m' : dM), RsF m m' → Q r m') : c_X12_when_70 7 x1 m Q := by
  obtain ⟨o1, o2, o3, o4, o5, o6⟩ := hK.1.1
  refine v_X12_when_70 (Wp.deep (y_isUser hK.1 (fun hu => ⟨fun _ => ?_, fun z => absurd z (by decide)⟩) (fun hu => ⟨fun z => absurd rfl z, fun _ => hQ _ m (RsF.rf m)⟩)) (Nat.le_of_ble_eq_true rfl))
  have hx := toNat_of hu.1
  generalize x1.toNatClampNeg = u at hx
  refine y_copies hK.1 hK.2.1 (fun M f cy _ _ => ?_)
  have b := hB u (by omega)
  have c1 := (o5 u (by omega)).1
  have idx : ∀ M : dM, CY H S s M → (((8 : Int32) * (M.1 70 18)) + x1).toInt = ((8 * s + u : Nat) : Int) := fun M cM => y_idx (C := 8) (c := (8 : Int32)) (by decide) cM.1.2.1.1.1 cM.1.2.1.1.2 hx (by decide) (by omega)
  have s1 := hK.1.2.1.1.2
  have fl := dSubE (X := (hoI H u).toInt) (Y := (hoO H u).toInt) (x := hoI H u) (y := hoO H u) rfl rfl (by omega) (by omega)
  have e0 := idx M cy
  obtain ⟨d1, d2, d3, d4⟩ := cy.1.2.2.2.2.2.1 u (by omega)
  rw [d_cn e0, d3, d4]
  refine ⟨by omega, by omega, ?_⟩
  have l46 : ∀ (t : Nat) (x3 : Int32) (M : dM), x3.toInt + (t : Int) = 24 → 0 ≤ x3.toInt → RsF m M → CY H S s M → j_X12_when_70_46 7 x1 (hoI H u - hoO H u) x3 M Q := by
    intro t
    induction t with
    | zero =>
      intro x3 M h3 h0 fM cM
      have fa := dAddE (X := x3.toInt) (Y := (hoI H u - hoO H u).toInt) (x := x3) (y := hoI H u - hoO H u) rfl rfl (by omega) (by omega)
      exact v_X12_when_70_46 ⟨fun _ => hQ _ M fM, fun q => by exfalso; omega⟩
    | succ t ih =>
      intro x3 M h3 h0 fM cM
      have fa := dAddE (X := x3.toInt) (Y := (hoI H u - hoO H u).toInt) (x := x3) (y := hoI H u - hoO H u) rfl rfl (by omega) (by omega)
      have f1 := dAddE (X := x3.toInt) (Y := 1) (x := x3) (y := (1 : Int32)) rfl (by decide) (by omega) (by omega)
      refine v_X12_when_70_46 ⟨fun _ => hQ _ M fM, fun q => ?_⟩
      have nx' : ∀ (M1 : dM), RsF m M1 → CY H S s M1 → ∀ r1 : Int32, (r1.toInt = 0 → j_X12_when_70_46 7 x1 (hoI H u - hoO H u) (x3 + (1 : Int32)) M1 Q) ∧ (r1.toInt ≠ 0 → Q x3 M1) := fun M1 fM1 cM1 r1 => ⟨fun _ => ih _ M1 (by omega) (by omega) fM1 cM1, fun _ => hQ _ M1 fM1⟩
      have e1 := idx M cM
      obtain ⟨g1, g2, g3, g4⟩ := cM.1.2.2.2.2.2.1 u (by omega)
      refine v_X12_canBegin_70 ?_
      rw [d_cn e1, g3, g4]
      refine ⟨by omega, by omega, ?_⟩
      have l33 : ∀ (t2 : Nat) (x4 : Int32) (M1 : dM), x4.toInt + (t2 : Int) = 60 → 0 ≤ x4.toInt → RsF m M1 → CY H S s M1 → j_X12_canBegin_70_33 6 x1 x3 (hoI H u - hoO H u) x4 M1 (fun r1 m1 => (r1.toInt = 0 → j_X12_when_70_46 7 x1 (hoI H u - hoO H u) (x3 + (1 : Int32)) m1 Q) ∧ (r1.toInt ≠ 0 → Q x3 m1)) := by
        intro t2
        induction t2 with
        | zero => intro x4 M1 h4 h04 fM1 cM1; exact v_X12_canBegin_70_33 ⟨fun _ => nx' M1 fM1 cM1 _, fun q => by exfalso; omega⟩
        | succ t2 ih2 =>
          intro x4 M1 h4 h04 fM1 cM1
          have f4 := dAddE (X := x4.toInt) (Y := 1) (x := x4) (y := (1 : Int32)) rfl (by decide) (by omega) (by omega)
          have on : ∀ y : Int32, j_X12_canBegin_70_75 6 x1 x3 (hoI H u - hoO H u) x4 y M1 (fun r1 m1 => (r1.toInt = 0 → j_X12_when_70_46 7 x1 (hoI H u - hoO H u) (x3 + (1 : Int32)) m1 Q) ∧ (r1.toInt ≠ 0 → Q x3 m1)) := fun y => v_X12_canBegin_70_75 (y_goingBits cM1.1 cM1.2.1 cM1.2.2 (fun M2 f2 => ⟨fun _ => ih2 _ M2 (by omega) (by omega) (fM1.tr f2.rs) (cM1.xa f2), fun _ => nx' M2 (fM1.tr f2.rs) (cM1.xa f2) _⟩))
          exact v_X12_canBegin_70_33 ⟨fun _ => nx' M1 fM1 cM1 _, fun _ => Wp.deep (y_onAt cM1.1 cM1.2.1 cM1.2.2 (Wp.deep (y_flatAt cM1.1 hx (by omega) (fun r hr => Wp.deep (y_isLit cM1.2.2 hr (by omega) (fun _ => ⟨fun _ => on _, fun _ => on _⟩) (fun _ => ⟨fun _ => on _, fun _ => on _⟩)) (Nat.le_of_ble_eq_true rfl))) (Nat.le_of_ble_eq_true rfl))) (Nat.le_of_ble_eq_true rfl)⟩
      exact l33 (60 - x3.toInt).toNat _ M (by omega) (by omega) fM cM
  exact l46 24 _ M (by decide) (by decide) f cy
theorem within_b {x lo hi : Int32} {Q : Int32 → dM → Prop} {M : dM} (h : lo.toInt ≤ hi.toInt) (hQ : ∀ r : Int32, lo.toInt ≤ r.toInt ∧ r.toInt ≤ hi.toInt → Q r M) : c_X12_within 1 x lo hi M Q := v_X12_within ⟨fun q => ⟨fun q2 => hQ _ ⟨q, q2⟩, fun q2 => hQ _ ⟨h, by omega⟩⟩, fun q => hQ _ ⟨by omega, h⟩⟩
theorem r_thick {x1 : Int32} {Q : Int32 → dM → Prop} (hK : KR H S P L s m) (hO : zOk H S) (hQ : ∀ (r : Int32) (m' : dM), RsF m m' → Q r m') : c_X12_thick_70 8 x1 m Q := by
  have w10 := hK.1.1.2.1
  refine v_X12_thick_70 (Wp.deep (y_in (fun h => ⟨fun _ => r_still hK (RsF.rf m) (fun M f cy => r_firstGoing cy hO f (fun r M2 f2 => ?_)), fun z => absurd z (by decide)⟩) (fun _ => ⟨fun z => absurd rfl z, fun _ => hQ _ m (RsF.rf m)⟩)) (Nat.le_of_ble_eq_true rfl))
  have loop : ∀ (t w : Nat) (x2 x3 x4 : Int32) (M : dM), w + t = hoW H → x4.toInt = (w : Int) → RsF m M → j_X12_thick_70_27 8 x1 x2 x3 x4 M Q := by
    intro t
    induction t with
    | zero =>
      intro w x2 x3 x4 M hw h4 fM
      have hKM := hK.rs fM
      have a := hKM.1.2.1.1
      refine v_X12_thick_70_27 ?_
      rw [d_cn a.1, hKM.1.2.1.2.2.1.1, a.1]
      exact ⟨by omega, fun _ => hQ _ M fM, fun q => by exfalso; omega⟩
    | succ t ih =>
      intro w x2 x3 x4 M hw h4 fM
      have hKM := hK.rs fM
      have a := hKM.1.2.1.1
      have e10 := d_add (k := x4) (K := w) (x := (10 : Int32)) (i := 10) (by decide) h4 (by omega)
      have on : ∀ (y z : Int32) (M1 : dM), RsF m M1 → j_X12_thick_70_105 8 x1 y z x4 M1 Q := fun y z M1 f1 => v_X12_thick_70_105 (ih (w + 1) _ _ _ M1 (by omega) (d_inc h4 (by omega)) f1)
      refine v_X12_thick_70_27 ?_
      rw [d_cn a.1, hKM.1.2.1.2.2.1.1, a.1]
      refine ⟨by omega, fun q => by exfalso; omega, fun _ => ⟨by omega, fun _ => r_still hK fM (fun M1 f1 cy1 => ⟨by omega, Wp.deep (within_b (by decide) (fun r2 hr2 => ⟨by omega, ?_⟩)) (Nat.le_of_ble_eq_true rfl)⟩), fun _ => on _ _ M fM⟩⟩
      rw [d_cn h4]
      have hT : zOk H (setR S (upd (szR S) w r2)) := by
        obtain ⟨a, b, c, d, e, f, g⟩ := hO
        refine ⟨a, b, c, d, e, fun j hj => ?_, g⟩
        show 0 ≤ (upd (szR S) w r2 j).toInt ∧ (upd (szR S) w r2 j).toInt ≤ 99
        rw [upd_j]
        have e9 := ti_99
        have e1 := ti_1
        by_cases q3 : j = w
        · rw [if_pos q3]; omega
        · rw [if_neg q3]; exact f j hj
      have c2 : CY H (setR S (upd (szR S) w r2)) s (dSet M1 108 w r2) := ⟨cy1.1.rs (RsF.rf M1).set, cy1.2.1.r hK.1.1 (by omega), cy1.2.2.of (dSet_k (by decide)) (dSet_k (by decide))⟩
      exact r_firstGoing c2 hT f1.set (fun r3 M3 f3 => ⟨fun _ => on _ _ M3 f3, fun _ => on _ _ M3 f3⟩)
  exact loop (hoW H) 0 _ _ _ M2 (by omega) (by decide) f2
/-- a copy in which some wires more are gone -/
theorem y_loses {x1 : Int32} {Q : dM → Prop} {M : dM} (hK : KR H S P L s m) (hF : RsF m M) (hQ : ∀ m' : dM, RsF m m' → RW H s m' → RL H (szG S ||| x1) m' → Q m') : c_X12_loses_70 7 x1 M Q := by
  have w10 := hK.1.1.2.1
  have hKM := hK.rs hF
  refine v_X12_loses_70 (y_copies hKM.1 hKM.2.1 (fun M1 f1 cy _ _ => ?_))
  have loop : ∀ (t i : Nat) (x2 : Int32) (M2 : dM), i + t = 10 → x2.toInt = (i : Int) → RsF m M2 → (∀ w : Nat, w < hoW H → M2.1 108 (10 + w) = bi (bt (if w < i then szG S ||| x1 else szG S) w)) → j_X12_loses_70_6 7 x1 x2 M2 Q := by
    intro t
    induction t with
    | zero =>
      intro i x2 M2 hi h2 f2 hv
      have W2 := hK.1.rs f2
      refine v_X12_loses_70_6 ⟨fun _ => Wp.deep (y_fillsWays (G := bt (szG S ||| x1)) W2.2.1 (fun w hw => ?_) (fun M3 f3 d3 v3 => hQ M3 (f2.tr f3.rs) (W2.rs f3.rs) ⟨d3, v3⟩)) (Nat.le_of_ble_eq_true rfl), fun q => by exfalso; omega⟩
      rw [hv w hw, if_pos (by omega), bi_if]
    | succ t ih =>
      intro i x2 M2 hi h2 f2 hv
      have e10 := d_add (k := x2) (K := i) (x := (10 : Int32)) (i := 10) (by decide) h2 (by omega)
      have on : ∀ M3 : dM, RsF m M3 → (∀ w : Nat, w < hoW H → M3.1 108 (10 + w) = bi (bt (if w < i + 1 then szG S ||| x1 else szG S) w)) → j_X12_loses_70_31 7 x1 x2 M3 Q := fun M3 f3 h3 => v_X12_loses_70_31 (ih (i + 1) _ M3 (by omega) (d_inc h2 (by omega)) f3 h3)
      refine v_X12_loses_70_6 ⟨fun q => by exfalso; omega, fun _ => ?_⟩
      rw [bt_s h2 (by omega), d_cn e10]
      cases e : bt x1 i with
      | false =>
        refine ⟨fun _ => on M2 f2 (fun w hw => ?_), fun q => absurd q (by decide)⟩
        rw [hv w hw]
        by_cases q : w = i
        · subst q
          rw [if_neg (by omega), if_pos (by omega), bt_or, e, Bool.or_false]
        · by_cases q2 : w < i
          · rw [if_pos q2, if_pos (by omega)]
          · rw [if_neg q2, if_neg (by omega)]
      | true =>
        refine ⟨fun q => absurd rfl q, fun _ => ⟨by omega, on _ f2.set (fun w hw => ?_)⟩⟩
        by_cases q : w = i
        · subst q
          rw [dSet_s, if_pos (by omega), bt_or, e, Bool.or_true]
          rfl
        · rw [dSet_j (by omega), hv w hw]
          by_cases q2 : w < i
          · rw [if_pos q2, if_pos (by omega)]
          · rw [if_neg q2, if_neg (by omega)]
  exact loop 10 0 _ M1 rfl (by decide) (hF.tr f1) (fun w hw => by rw [if_neg (by omega)]; exact (cy.2.1.2.1 w hw).2.1)
theorem y_litBits {g : Int32} {Q : Int32 → dM → Prop} {M : dM} (hW : RW H s M) (hL : RL H g M) (hQ : Q (bs (lt H g) (hoF H)) M) : c_X12_litBits_70 2 M Q := by
  have f7 := hW.1.1
  have a := hW.2.1.1
  have loop : ∀ (t f : Nat) (x1 x2 : Int32), f + t = hoF H → x2.toInt = (f : Int) → x1 = bs (lt H g) f → j_X12_litBits_70_4 2 x1 x2 M Q := by
    intro t
    induction t with
    | zero =>
      intro f x1 x2 hf h2 h1
      refine v_X12_litBits_70_4 ?_
      rw [d_cn a.1, hW.2.1.2.1.1, a.1]
      refine ⟨by omega, fun _ => ?_, fun q => by exfalso; omega⟩
      rw [h1, show f = hoF H by omega]
      exact hQ
    | succ t ih =>
      intro f x1 x2 hf h2 h1
      have on : ∀ y : Int32, y = bs (lt H g) (f + 1) → j_X12_litBits_70_31 2 y x2 M Q := fun y hy => v_X12_litBits_70_31 (ih (f + 1) _ _ (by omega) (d_inc h2 (by omega)) hy)
      refine v_X12_litBits_70_4 ?_
      rw [d_cn a.1, hW.2.1.2.1.1, a.1, b1_of h2]
      refine ⟨by omega, fun q => by exfalso; omega, fun _ => y_isLit hL h2 (by omega) (fun gl => ⟨fun z => absurd z (by decide), fun _ => on _ ?_⟩) (fun gl => ⟨fun _ => on _ ?_, fun z => absurd rfl z⟩)⟩
      · show x1 ||| b1 f = cond (lt H g f) (bs (lt H g) f ||| b1 f) (bs (lt H g) f)
        rw [gl, cond_true, h1]
      · show x1 = cond (lt H g f) (bs (lt H g) f ||| b1 f) (bs (lt H g) f)
        rw [gl, cond_false, h1]
  exact v_X12_litBits_70 (loop (hoF H) 0 _ _ (by omega) (by decide) rfl)
theorem y_darkBits {g : Int32} {Q : Int32 → dM → Prop} {M : dM} (hW : RW H s M) (hL : RL H g M) (hQ : Q ((b1 (hoF H) - (1 : Int32)) &&& (bs (lt H g) (hoF H) ^^^ (-1 : Int32))) M) : c_X12_darkBits_70 3 M Q := by
  have a := hW.2.1.1
  refine v_X12_darkBits_70 ?_
  rw [d_cn a.1, a.1, b1_of hW.2.1.2.1.1]
  exact ⟨by omega, y_litBits hW hL hQ⟩
theorem r_goneBits {Q : Int32 → dM → Prop} {M : dM} (hK : KR H S P L s M) (hQ : ∀ r : Int32, Q r M) : c_X12_goneBits_70 1 M Q := by
  have w10 := hK.1.1.2.1
  have a := hK.1.2.1.1
  have loop : ∀ (t w : Nat) (x1 x2 : Int32), w + t = hoW H → x2.toInt = (w : Int) → j_X12_goneBits_70_4 1 x1 x2 M Q := by
    intro t
    induction t with
    | zero =>
      intro w x1 x2 hw h2
      refine v_X12_goneBits_70_4 ?_
      rw [d_cn a.1, hK.1.2.1.2.2.1.1, a.1]
      exact ⟨by omega, fun _ => hQ _, fun q => by exfalso; omega⟩
    | succ t ih =>
      intro w x1 x2 hw h2
      have e10 := d_add (k := x2) (K := w) (x := (10 : Int32)) (i := 10) (by decide) h2 (by omega)
      have on : ∀ y : Int32, j_X12_goneBits_70_36 1 y x2 M Q := fun y => v_X12_goneBits_70_36 (ih (w + 1) _ _ (by omega) (d_inc h2 (by omega)))
      refine v_X12_goneBits_70_4 ?_
      rw [d_cn a.1, hK.1.2.1.2.2.1.1, a.1]
      exact ⟨by omega, fun q => by exfalso; omega, fun _ => ⟨by omega, fun _ => on _, fun _ => on _⟩⟩
  exact v_X12_goneBits_70 (loop (hoW H) 0 _ _ (by omega) (by decide))
end RKF
end
section
/-! THE REFERENCE: questions leave how it stands, 3 -/
section RKG
variable {H : Ho} {S : Zt} {P : List Zt} {L : Nat → Zt} {s : Nat} {m : dM}
theorem r_cut {x1 x2 : Int32} {Q : Int32 → dM → Prop} (hK : KR H S P L s m) (hQ : ∀ (r : Int32) (m' : dM), RsF m m' → Q r m') : c_X12_cut_70 8 x1 x2 m Q := by
  have f7 := hK.1.1.1
  have w10 := hK.1.1.2.1
  have no : j_X12_cut_70_17 8 m Q := v_X12_cut_70_17 (hQ _ m (RsF.rf m))
  refine v_X12_cut_70 (Wp.deep (y_isFlatr hK.1 (fun hu => ⟨fun z => absurd z (by decide), fun _ => Wp.deep (y_in (fun h => ⟨fun _ => Wp.deep (r_goneBits hK (fun r3 => ?_)) (Nat.le_of_ble_eq_true rfl), fun z => absurd z (by decide)⟩) (fun _ => ⟨fun z => absurd rfl z, fun _ => no⟩)) (Nat.le_of_ble_eq_true rfl)⟩) (fun hu => ⟨fun _ => no, fun z => absurd rfl z⟩)) (Nat.le_of_ble_eq_true rfl))
  have hx := toNat_of hu.1
  have b := b1_le (u := hoW H) (by omega)
  have bt' : ∀ (y : Int32) (M : dM) (Q' : Int32 → dM → Prop), (∀ r : Int32, Q' r M) → c_X12_bits 7 y M Q' := fun y M Q' h => Wp.deep (r_bits h) (Nat.le_of_ble_eq_true rfl)
  have loop : ∀ (t : Nat) (x4 x5 : Int32) (M : dM), x5.toInt + (t : Int) = 1025 → 0 ≤ x5.toInt → RsF m M → j_X12_cut_70_30 8 x1 x2 r3 x4 x5 M Q := by
    intro t
    induction t with
    | zero =>
      intro x4 x5 M h5 h0 fM
      have hKM := hK.rs fM
      have a := hKM.1.2.1.1
      refine v_X12_cut_70_30 ?_
      rw [d_cn a.1, b1_of hKM.1.2.1.2.2.1.1]
      exact ⟨by omega, fun _ => ⟨fun _ => ⟨fun _ => Wp.deep (r_ith (fun r => hQ _ M fM)) (Nat.le_of_ble_eq_true rfl), fun _ => bt' _ M _ (fun r => hQ _ M fM)⟩, fun _ => hQ _ M fM⟩, fun q => by exfalso; omega⟩
    | succ t ih =>
      intro x4 x5 M h5 h0 fM
      have hKM := hK.rs fM
      have a := hKM.1.2.1.1
      have f := dAddE (X := x5.toInt) (Y := 1) (x := x5) (y := (1 : Int32)) rfl (by decide) (by omega) (by omega)
      refine v_X12_cut_70_30 ?_
      rw [d_cn a.1, b1_of hKM.1.2.1.2.2.1.1]
      refine ⟨by omega, fun _ => ⟨fun _ => ⟨fun _ => Wp.deep (r_ith (fun r => hQ _ M fM)) (Nat.le_of_ble_eq_true rfl), fun _ => bt' _ M _ (fun r => hQ _ M fM)⟩, fun _ => hQ _ M fM⟩, fun q => ?_⟩
      have on : ∀ (y : Int32) (M1 : dM), RsF m M1 → j_X12_cut_70_127 8 x1 x2 r3 y x5 M1 Q := fun y M1 f1 => v_X12_cut_70_127 (ih _ _ M1 (by omega) (by omega) f1)
      have tr : j_X12_cut_70_109 8 x1 x2 r3 x4 x5 M Q := v_X12_cut_70_109 (y_loses hK fM (fun M1 f1 W1 L1 => Wp.deep (y_isLit L1 hx (by omega) (fun _ => ⟨fun _ => on _ M1 f1, fun _ => on _ M1 f1⟩) (fun _ => ⟨fun _ => on _ M1 f1, fun _ => on _ M1 f1⟩)) (Nat.le_of_ble_eq_true rfl)))
      exact bt' _ M _ (fun _ => ⟨fun _ => on _ M fM, fun _ => ⟨fun _ => ⟨fun _ => tr, fun _ => bt' _ M _ (fun _ => bt' _ M _ (fun _ => ⟨fun _ => on _ M fM, fun _ => bt' _ M _ (fun _ => bt' _ M _ (fun _ => ⟨fun _ => tr, fun _ => Wp.deep (r_earlier (fun _ => ⟨fun _ => tr, fun _ => on _ M fM⟩)) (Nat.le_of_ble_eq_true rfl)⟩))⟩))⟩, fun _ => on _ M fM⟩⟩)
  exact loop 1025 _ _ m (by decide) (by decide) (RsF.rf m)
theorem r_share {x1 x2 : Int32} {Q : Int32 → dM → Prop} (hK : KR H S P L s m) (hQ : ∀ (r : Int32) (m' : dM), RsF m m' → Q r m') : c_X12_share_70 7 x1 x2 m Q := by
  have f7 := hK.1.1.1
  have no : j_X12_share_70_16 7 m Q := v_X12_share_70_16 (hQ _ m (RsF.rf m))
  refine v_X12_share_70 (Wp.deep (y_isFlatr hK.1 (fun hu => ⟨fun z => absurd z (by decide), fun _ => Wp.deep (y_isWire hK.1.2.1 (fun hw => ⟨fun _ => ?_, fun z => absurd z (by decide)⟩) (fun _ => ⟨fun z => absurd rfl z, fun _ => no⟩)) (Nat.le_of_ble_eq_true rfl)⟩) (fun hu => ⟨fun _ => no, fun z => absurd rfl z⟩)) (Nat.le_of_ble_eq_true rfl))
  have hx := toNat_of hu.1
  exact y_copies hK.1 hK.2.1 (fun M f cy _ _ => ⟨by omega, fun _ => hQ _ M f, fun _ => Wp.deep (y_ampsOn cy hx (hQ _ M f)) (Nat.le_of_ble_eq_true rfl)⟩)
theorem r_without {x1 : Int32} {Q : Int32 → dM → Prop} (hK : KR H S P L s m) (hQ : ∀ (r : Int32) (m' : dM), RsF m m' → Q r m') : c_X12_without_70 8 x1 m Q :=
  v_X12_without_70 (Wp.deep (y_isWire hK.1.2.1 (fun hu => ⟨fun _ => y_loses hK (RsF.rf m) (fun M f W1 L1 => Wp.deep (y_darkBits W1 L1 (hQ _ M f)) (Nat.le_of_ble_eq_true rfl)), fun z => absurd z (by decide)⟩) (fun hu => ⟨fun z => absurd rfl z, fun _ => hQ _ m (RsF.rf m)⟩)) (Nat.le_of_ble_eq_true rfl))
theorem r_needed {Q : Int32 → dM → Prop} (hK : KR H S P L s m) (hQ : ∀ (r : Int32) (m' : dM), RsF m m' → Q r m') : c_X12_needed_70 8 m Q := by
  have w10 := hK.1.1.2.1
  have loop : ∀ (t w : Nat) (x1 x2 x3 : Int32) (M : dM), w + t = hoW H → x3.toInt = (w : Int) → RsF m M → j_X12_needed_70_13 8 x1 x2 x3 M Q := by
    intro t
    induction t with
    | zero =>
      intro w x1 x2 x3 M hw h3 fM
      have hKM := hK.rs fM
      have a := hKM.1.2.1.1
      refine v_X12_needed_70_13 ?_
      rw [d_cn a.1, hKM.1.2.1.2.2.1.1, a.1]
      exact ⟨by omega, fun _ => hQ _ M fM, fun q => by exfalso; omega⟩
    | succ t ih =>
      intro w x1 x2 x3 M hw h3 fM
      have hKM := hK.rs fM
      have a := hKM.1.2.1.1
      have e10 := d_add (k := x3) (K := w) (x := (10 : Int32)) (i := 10) (by decide) h3 (by omega)
      have on : ∀ (y : Int32) (M1 : dM), RsF m M1 → j_X12_needed_70_63 8 x1 y x3 M1 Q := fun y M1 f1 => v_X12_needed_70_63 (ih (w + 1) _ _ _ M1 (by omega) (d_inc h3 (by omega)) f1)
      refine v_X12_needed_70_13 ?_
      rw [d_cn a.1, hKM.1.2.1.2.2.1.1, a.1]
      exact ⟨by omega, fun q => by exfalso; omega, fun _ => ⟨by omega, fun _ => y_loses hK fM (fun M1 f1 W1 L1 => Wp.deep (y_darkBits W1 L1 ⟨fun _ => on _ M1 f1, fun _ => on _ M1 f1⟩) (Nat.le_of_ble_eq_true rfl)), fun _ => on _ M fM⟩⟩
  exact v_X12_needed_70 (Wp.deep (y_copies hK.1 hK.2.1 (fun M f cy _ _ => Wp.deep (y_darkBits cy.1 cy.2.2 (loop (hoW H) 0 _ _ _ M (by omega) (by decide) f)) (Nat.le_of_ble_eq_true rfl))) (Nat.le_of_ble_eq_true rfl))
theorem r_hottest {x1 : Int32} {Q : Int32 → dM → Prop} (hK : KR H S P L s m) (hQ : ∀ (r : Int32) (m' : dM), RsF m m' → Q r m') : c_X12_hottest_70 7 x1 m Q := by
  have w10 := hK.1.1.2.1
  refine v_X12_hottest_70 (Wp.deep (y_in (fun h => ⟨fun _ => y_copies hK.1 hK.2.1 (fun M f cy _ _ => Wp.deep (y_onNow cy ?_) (Nat.le_of_ble_eq_true rfl)), fun z => absurd z (by decide)⟩) (fun _ => ⟨fun z => absurd rfl z, fun _ => hQ _ m (RsF.rf m)⟩)) (Nat.le_of_ble_eq_true rfl))
  have a := cy.1.2.1.1
  have loop : ∀ (t w : Nat) (x2 x3 x4 x5 : Int32), w + t = hoW H → x5.toInt = (w : Int) → j_X12_hottest_70_34 7 x1 x2 x3 x4 x5 M Q := by
    intro t
    induction t with
    | zero =>
      intro w x2 x3 x4 x5 hw h5
      refine v_X12_hottest_70_34 ?_
      rw [d_cn a.1, cy.1.2.1.2.2.1.1, a.1]
      exact ⟨by omega, fun _ => ⟨fun _ => hQ _ M f, fun _ => hQ _ M f⟩, fun q => by exfalso; omega⟩
    | succ t ih =>
      intro w x2 x3 x4 x5 hw h5
      have on : ∀ y z : Int32, j_X12_hottest_70_95 7 x1 x2 y z x5 M Q := fun y z => v_X12_hottest_70_95 (ih (w + 1) _ _ _ _ (by omega) (d_inc h5 (by omega)))
      have on2 : ∀ y : Int32, j_X12_hottest_70_88 7 x1 x2 x5 y M Q := fun y => v_X12_hottest_70_88 (on _ _)
      refine v_X12_hottest_70_34 ?_
      rw [d_cn a.1, cy.1.2.1.2.2.1.1, a.1]
      exact ⟨by omega, fun q => by exfalso; omega, fun _ => Wp.deep (y_loadBy cy.1 cy.2.2 h5 (by omega) ⟨by omega, Wp.deep (y_isWhole cy.1.2.1 (cy.2.1.rg (r := 0)) h5 (by omega) (fun _ => ⟨fun z => absurd z (by decide), fun _ => ⟨fun _ => on2 _, fun _ => ⟨fun _ => on2 _, fun _ => on _ _⟩⟩⟩) (fun _ => ⟨fun _ => on _ _, fun z => absurd rfl z⟩)) (Nat.le_of_ble_eq_true rfl)⟩) (Nat.le_of_ble_eq_true rfl)⟩
  exact loop (hoW H) 0 _ _ _ _ (by omega) (by decide)
theorem r_clash {x1 x2 : Int32} {Q : Int32 → dM → Prop} (hK : KR H S P L s m) (hQ : ∀ (r : Int32) (m' : dM), RsF m m' → Q r m') : c_X12_clash_70 7 x1 x2 m Q := by
  obtain ⟨o1, o2, o3, o4, o5, o6⟩ := hK.1.1
  have no : j_X12_clash_70_21 7 m Q := v_X12_clash_70_21 (hQ _ m (RsF.rf m))
  refine v_X12_clash_70 (Wp.deep (y_isUser hK.1 (fun hu => ⟨fun z => absurd z (by decide), fun _ => Wp.deep (y_isUser hK.1 (fun hv => ⟨fun z => absurd z (by decide), fun _ => ⟨fun _ => ?_, fun _ => no⟩⟩) (fun _ => ⟨fun _ => no, fun z => absurd rfl z⟩)) (Nat.le_of_ble_eq_true rfl)⟩) (fun hu => ⟨fun _ => no, fun z => absurd rfl z⟩)) (Nat.le_of_ble_eq_true rfl))
  have hx := toNat_of hu.1
  have hy := toNat_of hv.1
  refine y_copies hK.1 hK.2.1 (fun M f cy _ _ => ?_)
  have c1 := (o5 x1.toNatClampNeg (by omega)).1
  have c2 := (o5 x2.toNatClampNeg (by omega)).1
  have n0 : j_X12_clash_70_51 7 M Q := v_X12_clash_70_51 (hQ _ M f)
  have go : ∀ (on h : Int32) (M1 : dM) (Q' : Int32 → dM → Prop), RsF m M1 → CY H S s M1 → (∀ (r : Int32) (M2 : dM), RsF m M2 → CY H S s M2 → Q' r M2) → c_X12_goingBits_70 6 on h (0 : Int32) M1 Q' := fun on h M1 Q' f1 c1 hq => Wp.deep (y_goingBits c1.1 c1.2.1 c1.2.2 (fun M2 f2 => hq _ M2 (f1.tr f2.rs) (c1.xa f2))) (Nat.le_of_ble_eq_true rfl)
  exact Wp.deep (y_flatAt cy.1 hx (by omega) (fun r hr => Wp.deep (y_isLit cy.2.2 hr (by omega) (fun _ => ⟨fun z => absurd z (by decide), fun _ => Wp.deep (y_flatAt cy.1 hy (by omega) (fun r2 hr2 => Wp.deep (y_isLit cy.2.2 hr2 (by omega) (fun _ => ⟨fun _ => go _ _ M _ f cy (fun _ M2 f2 c2 => go _ _ M2 _ f2 c2 (fun _ M3 f3 c3 => go _ _ M3 _ f3 c3 (fun _ M4 f4 c4 => Wp.deep (r_bits (fun r => hQ _ M4 f4)) (Nat.le_of_ble_eq_true rfl)))), fun z => absurd z (by decide)⟩) (fun _ => ⟨fun z => absurd rfl z, fun _ => n0⟩)) (Nat.le_of_ble_eq_true rfl))) (Nat.le_of_ble_eq_true rfl)⟩) (fun _ => ⟨fun _ => n0, fun z => absurd rfl z⟩)) (Nat.le_of_ble_eq_true rfl))) (Nat.le_of_ble_eq_true rfl)
theorem r_then {x1 x2 : Int32} {Q : Int32 → dM → Prop} (hK : KR H S P L s m) (hO : zOk H S) (hQ : ∀ (r : Int32) (m' : dM), RsF m m' → Q r m') : c_X12_then_70 8 x1 x2 m Q := by
  have w10 := hK.1.1.2.1
  have no : j_X12_then_70_16 8 m Q := v_X12_then_70_16 (hQ _ m (RsF.rf m))
  refine v_X12_then_70 (Wp.deep (y_isLong (fun h => ⟨fun z => absurd z (by decide), fun _ => Wp.deep (y_in (fun h2 => ⟨fun _ => Wp.deep (y_copies hK.1 hK.2.1 (fun M f cy a6 a7 => y_goes cy hO a6 a7 (toNat_of h.1) (by have := toNat_of h.1; omega) (fun M2 f2 c2 => ?_))) (Nat.le_of_ble_eq_true rfl), fun z => absurd z (by decide)⟩) (fun _ => ⟨fun z => absurd rfl z, fun _ => no⟩)) (Nat.le_of_ble_eq_true rfl)⟩) (fun _ => ⟨fun _ => no, fun z => absurd rfl z⟩)) (Nat.le_of_ble_eq_true rfl))
  have F2 := f.tr f2
  have a := c2.1.2.1.1
  have e0 := ti_0
  refine ⟨fun _ => ?_, fun q => ?_⟩
  · have loop : ∀ (t w : Nat) (x3 x4 : Int32), w + t = hoW H → x4.toInt = (w : Int) → j_X12_then_70_57 8 x3 x4 M2 Q := by
      intro t
      induction t with
      | zero =>
        intro w x3 x4 hw h4
        refine v_X12_then_70_57 ?_
        rw [d_cn a.1, c2.1.2.1.2.2.1.1, a.1]
        exact ⟨by omega, fun _ => hQ _ M2 F2, fun q => by exfalso; omega⟩
      | succ t ih =>
        intro w x3 x4 hw h4
        have e10 := d_add (k := x4) (K := w) (x := (10 : Int32)) (i := 10) (by decide) h4 (by omega)
        refine v_X12_then_70_57 ?_
        rw [d_cn a.1, c2.1.2.1.2.2.1.1, a.1]
        exact ⟨by omega, fun q => by exfalso; omega, fun _ => ⟨by omega, ih (w + 1) _ _ (by omega) (d_inc h4 (by omega))⟩⟩
    exact loop (hoW H) 0 _ _ (by omega) (by decide)
  · have f56 := dAddE (X := 56) (Y := x2.toInt) (x := (56 : Int32)) (y := x2) (by decide) rfl (by omega) (by omega)
    exact ⟨by omega, by omega, hQ _ M2 F2⟩
theorem r_litIn {x1 x2 : Int32} {Q : Int32 → dM → Prop} (hK : KR H S P L s m) (hO : zOk H S) (hQ : ∀ (r : Int32) (m' : dM), RsF m m' → Q r m') : c_X12_litIn_70 8 x1 x2 m Q := by
  have f7 := hK.1.1.1
  have no : j_X12_litIn_70_15 8 m Q := v_X12_litIn_70_15 (hQ _ m (RsF.rf m))
  exact v_X12_litIn_70 (Wp.deep (y_isFlatr hK.1 (fun hu => ⟨fun z => absurd z (by decide), fun _ => Wp.deep (y_isLong (fun h => ⟨fun _ => Wp.deep (y_copies hK.1 hK.2.1 (fun M f cy a6 a7 => y_goes cy hO a6 a7 (toNat_of h.1) (by have := toNat_of h.1; omega) (fun M2 f2 c2 => Wp.deep (y_isLit c2.2.2 (toNat_of hu.1) (by have := toNat_of hu.1; omega) (fun _ => ⟨fun _ => hQ _ M2 (f.tr f2), fun _ => hQ _ M2 (f.tr f2)⟩) (fun _ => ⟨fun _ => hQ _ M2 (f.tr f2), fun _ => hQ _ M2 (f.tr f2)⟩)) (Nat.le_of_ble_eq_true rfl)))) (Nat.le_of_ble_eq_true rfl), fun z => absurd z (by decide)⟩) (fun _ => ⟨fun z => absurd rfl z, fun _ => no⟩)) (Nat.le_of_ble_eq_true rfl)⟩) (fun hu => ⟨fun _ => no, fun z => absurd rfl z⟩)) (Nat.le_of_ble_eq_true rfl))
theorem r_year {x1 x2 : Int32} {Q : Int32 → dM → Prop} (hK : KR H S P L s m) (hO : zOk H S) (hQ : ∀ (r : Int32) (m' : dM), RsF m m' → Q r m') : c_X12_year_70 7 x1 x2 m Q := by
  have no : j_X12_year_70_17 7 m Q := v_X12_year_70_17 (hQ _ m (RsF.rf m))
  refine v_X12_year_70 (Wp.deep (y_isLong (fun h => ⟨fun z => absurd z (by decide), fun _ => Wp.deep (y_in (fun h2 => ⟨fun _ => ?_, fun z => absurd z (by decide)⟩) (fun _ => ⟨fun z => absurd rfl z, fun _ => no⟩)) (Nat.le_of_ble_eq_true rfl)⟩) (fun _ => ⟨fun _ => no, fun z => absurd rfl z⟩)) (Nat.le_of_ble_eq_true rfl))
  have e1 := ti_1
  have e20 := ti_20
  have e0 := ti_0
  have l24 : ∀ (t : Nat) (x3 x4 : Int32) (M : dM), x4.toInt + (t : Int) = x2.toInt → 0 ≤ x4.toInt → RsF m M → j_X12_year_70_24 7 x1 x2 x3 x4 M Q := by
    intro t
    induction t with
    | zero => intro x3 x4 M h4 h04 fM; exact v_X12_year_70_24 ⟨fun _ => hQ _ M fM, fun q => by exfalso; omega⟩
    | succ t ih =>
      intro x3 x4 M h4 h04 fM
      have hKM := hK.rs fM
      have f4 := dAddE (X := x4.toInt) (Y := 1) (x := x4) (y := (1 : Int32)) rfl (by decide) (by omega) (by omega)
      have l85 : ∀ (y : Int32) (M1 : dM), RsF m M1 → j_X12_year_70_85 7 x1 x2 y x4 M1 Q := fun y M1 f1 => v_X12_year_70_85 (ih _ _ M1 (by omega) (by omega) f1)
      refine v_X12_year_70_24 ⟨fun q => by exfalso; omega, fun _ => y_copies hKM.1 hKM.2.1 (fun M1 f1 cy _ _ => ?_)⟩
      have l51 : ∀ (t2 : Nat) (x5 x6 : Int32) (T : Zt) (M2 : dM), x6.toInt + (t2 : Int) = x1.toInt → 0 ≤ x6.toInt → RsF m M2 → CY H T s M2 → zOk H T → j_X12_year_70_51 7 x1 x2 x3 x4 x5 x6 M2 Q := by
        intro t2
        induction t2 with
        | zero => intro x5 x6 T M2 h6 h06 f2 c2 hT; exact v_X12_year_70_51 ⟨fun _ => ⟨fun _ => l85 _ M2 f2, fun _ => l85 _ M2 f2⟩, fun q => by exfalso; omega⟩
        | succ t2 ih2 =>
          intro x5 x6 T M2 h6 h06 f2 c2 hT
          have f6 := dAddE (X := x6.toInt) (Y := 1) (x := x6) (y := (1 : Int32)) rfl (by decide) (by omega) (by omega)
          exact v_X12_year_70_51 ⟨fun q => by exfalso; omega, fun _ => r_hour c2 hT f2 (fun T' M3 f3 c3 h3 => ⟨fun _ => v_X12_year_70_71 (ih2 _ _ T' M3 (by omega) (by omega) f3 c3 h3), fun _ => v_X12_year_70_71 (ih2 _ _ T' M3 (by omega) (by omega) f3 c3 h3)⟩)⟩
      exact l51 x1.toNatClampNeg _ _ S _ (by have := toNat_of h.1; omega) (by decide) ((fM.tr f1).s70 (by decide)) ⟨cy.1.rs ((RsF.rf M1).s70 (by decide)), cy.2.1.of (dSet_k (by decide)), cy.2.2.of (dSet_k (by decide)) (dSet_k (by decide))⟩ hO
  exact l24 x2.toNatClampNeg _ _ m (by have := toNat_of (x := x2) (by omega); omega) (by decide) (RsF.rf m)
theorem r_wentBits {x1 : Int32} {Q : Int32 → dM → Prop} (hK : KR H S P L s m) (h1 : x1.toInt ≤ 20) (hQ : ∀ (r : Int32) (m' : dM), RsF m m' → Q r m') : c_X12_wentBits_70 8 x1 m Q := by
  have w10 := hK.1.1.2.1
  have loop : ∀ (t w : Nat) (x2 x3 : Int32) (M : dM), w + t = hoW H → x3.toInt = (w : Int) → RsF m M → j_X12_wentBits_70_4 8 x1 x2 x3 M Q := by
    intro t
    induction t with
    | zero =>
      intro w x2 x3 M hw h3 fM
      have hKM := hK.rs fM
      have a := hKM.1.2.1.1
      refine v_X12_wentBits_70_4 ?_
      rw [d_cn a.1, hKM.1.2.1.2.2.1.1, a.1]
      exact ⟨by omega, fun _ => hQ _ M fM, fun q => by exfalso; omega⟩
    | succ t ih =>
      intro w x2 x3 M hw h3 fM
      have hKM := hK.rs fM
      have a := hKM.1.2.1.1
      have e10 := d_add (k := x3) (K := w) (x := (10 : Int32)) (i := 10) (by decide) h3 (by omega)
      have on : ∀ (y : Int32) (M1 : dM), RsF m M1 → j_X12_wentBits_70_108 8 x1 y x3 M1 Q := fun y M1 f1 => v_X12_wentBits_70_108 (ih (w + 1) _ _ M1 (by omega) (d_inc h3 (by omega)) f1)
      refine v_X12_wentBits_70_4 ?_
      rw [d_cn a.1, hKM.1.2.1.2.2.1.1, a.1]
      refine ⟨by omega, fun q => by exfalso; omega, fun _ => ⟨by omega, fun _ => y_loses hK fM (fun M1 f1 W1 L1 => Wp.deep (y_litBits W1 L1 ⟨by omega, ?_⟩) (Nat.le_of_ble_eq_true rfl)), fun _ => on _ M fM⟩⟩
      have F2 : ∀ v : Int32, RsF m (dSet M1 114 x3.toNatClampNeg v) := fun v => ⟨fun k q1 q2 q3 => by rw [dSet_k q3]; exact f1.1 k q1 q2 q3, fun j q1 q2 q3 q4 => by rw [dSet_k (by decide)]; exact f1.2.1 j q1 q2 q3 q4, f1.2.2⟩
      have l56 : ∀ (v : Int32) (t2 : Nat) (x4 x5 : Int32), x5.toInt + (t2 : Int) = 20 → 0 ≤ x5.toInt → j_X12_wentBits_70_56 8 x1 x2 x3 x4 x5 (dSet M1 114 x3.toNatClampNeg v) Q := by
        intro v t2
        induction t2 with
        | zero => intro x4 x5 h5 h05; exact v_X12_wentBits_70_56 ⟨fun _ => ⟨fun _ => on _ _ (F2 v), fun _ => on _ _ (F2 v)⟩, fun q => by exfalso; omega⟩
        | succ t2 ih2 =>
          intro x4 x5 h5 h05
          have f5 := dAddE (X := x5.toInt) (Y := 1) (x := x5) (y := (1 : Int32)) rfl (by decide) (by omega) (by omega)
          exact v_X12_wentBits_70_56 ⟨fun _ => ⟨fun _ => on _ _ (F2 v), fun _ => on _ _ (F2 v)⟩, fun q => ⟨by omega, by omega, by omega, fun _ => v_X12_wentBits_70_91 (ih2 _ _ (by omega) (by omega)), fun _ => v_X12_wentBits_70_91 (ih2 _ _ (by omega) (by omega))⟩⟩
      exact l56 _ 20 _ _ (by decide) (by decide)
  exact v_X12_wentBits_70 (loop (hoW H) 0 _ _ m (by omega) (by decide) (RsF.rf m))
theorem r_went {x1 x2 : Int32} {Q : Int32 → dM → Prop} (hK : KR H S P L s m) (h63 : (m.1 70 63).toInt ≤ 20) (hQ : ∀ (r : Int32) (m' : dM), RsF m m' → Q r m') : c_X12_went_70 9 x1 x2 m Q := by
  have no : j_X12_went_70_21 9 m Q := v_X12_went_70_21 (hQ _ m (RsF.rf m))
  exact v_X12_went_70 (Wp.deep (y_in (fun h => ⟨fun z => absurd z (by decide), fun _ => Wp.deep (y_in (fun h2 => ⟨fun _ => r_wentBits hK (by omega) (fun r M f => ⟨fun _ => hQ _ M f, fun _ => Wp.deep (r_bits (fun r => hQ _ M f)) (Nat.le_of_ble_eq_true rfl)⟩), fun z => absurd z (by decide)⟩) (fun _ => ⟨fun z => absurd rfl z, fun _ => no⟩)) (Nat.le_of_ble_eq_true rfl)⟩) (fun _ => ⟨fun _ => no, fun z => absurd rfl z⟩)) (Nat.le_of_ble_eq_true rfl))
theorem r_ask {x1 : Int32} {Q : Int32 → dM → Prop} (hK : KR H S P L s m) (h63 : (m.1 70 63).toInt ≤ 20) (hQ : ∀ (r : Int32) (m' : dM), RsF m m' → Q r m') : c_X12_ask_70 9 x1 m Q := by
  have f7 := hK.1.1.1
  have w10 := hK.1.1.2.1
  refine v_X12_ask_70 (Wp.deep (y_in (fun h => ⟨fun _ => r_wentBits hK (by omega) (fun r2 M f => ?_), fun z => absurd z (by decide)⟩) (fun _ => ⟨fun z => absurd rfl z, fun _ => hQ _ m (RsF.rf m)⟩)) (Nat.le_of_ble_eq_true rfl))
  have hKM := hK.rs f
  have a := hKM.1.2.1.1
  have fin : ∀ y : Int32, j_X12_ask_70_153 9 y M Q := fun y => v_X12_ask_70_153 (hQ _ M f)
  have loop : ∀ (t g : Nat) (x3 x4 x5 : Int32), g + t = hoF H → x5.toInt = (g : Int) → j_X12_ask_70_29 9 r2 x3 x4 x5 M Q := by
    intro t
    induction t with
    | zero =>
      intro g x3 x4 x5 hg h5
      refine v_X12_ask_70_29 ?_
      rw [d_cn a.1, hKM.1.2.1.2.1.1, a.1]
      exact ⟨by omega, fun _ => fin _, fun q => by exfalso; omega⟩
    | succ t ih =>
      intro g x3 x4 x5 hg h5
      have on : ∀ y z : Int32, j_X12_ask_70_147 9 r2 y z x5 M Q := fun y z => v_X12_ask_70_147 (ih (g + 1) _ _ _ (by omega) (d_inc h5 (by omega)))
      have on2 : ∀ y : Int32, j_X12_ask_70_140 9 r2 x5 y M Q := fun y => v_X12_ask_70_140 (on _ _)
      have inner : ∀ (u w : Nat) (x6 x7 : Int32), w + u = hoW H → x7.toInt = (w : Int) → j_X12_ask_70_53 9 r2 x3 x4 x5 x6 x7 M Q := by
        intro u
        induction u with
        | zero =>
          intro w x6 x7 hw h7
          refine v_X12_ask_70_53 ?_
          rw [d_cn a.1, hKM.1.2.1.2.2.1.1, a.1]
          exact ⟨by omega, fun _ => Wp.deep (r_bits (fun r => ⟨fun _ => Wp.deep (r_bits (fun r => ⟨fun _ => on2 _, fun _ => ⟨fun _ => on2 _, fun _ => on _ _⟩⟩)) (Nat.le_of_ble_eq_true rfl), fun _ => ⟨fun _ => on2 _, fun _ => ⟨fun _ => on2 _, fun _ => on _ _⟩⟩⟩)) (Nat.le_of_ble_eq_true rfl), fun q => by exfalso; omega⟩
        | succ u ih2 =>
          intro w x6 x7 hw h7
          have n94 : ∀ y : Int32, j_X12_ask_70_94 9 r2 x3 x4 x5 y x7 M Q := fun y => v_X12_ask_70_94 (ih2 (w + 1) _ _ (by omega) (d_inc h7 (by omega)))
          refine v_X12_ask_70_53 ?_
          rw [d_cn a.1, hKM.1.2.1.2.2.1.1, a.1]
          exact ⟨by omega, fun q => by exfalso; omega, fun _ => ⟨fun _ => n94 _, fun _ => ⟨by omega, n94 _⟩⟩⟩
      refine v_X12_ask_70_29 ?_
      rw [d_cn a.1, hKM.1.2.1.2.1.1, a.1]
      exact ⟨by omega, fun q => by exfalso; omega, fun _ => ⟨fun _ => fin _, fun _ => inner (hoW H) 0 _ _ (by omega) (by decide)⟩⟩
  exact loop (hoF H) 0 _ _ _ (by omega) (by decide)
theorem r_count {x1 : Int32} {Q : Int32 → dM → Prop} (hK : KR H S P L s m) (hQ : ∀ (r : Int32) (m' : dM), RsF m m' → Q r m') : c_X12_count_70 7 x1 m Q := by
  have w10 := hK.1.1.2.1
  refine v_X12_count_70 (y_copies hK.1 hK.2.1 (fun M f cy _ _ => ?_))
  have a := cy.1.2.1.1
  have q0 : ∀ r : Int32, Q r M := fun r => hQ r M f
  have l228 : ∀ (t w : Nat) (x2 x3 : Int32), w + t = hoW H → x3.toInt = (w : Int) → j_X12_count_70_228 7 x2 x3 M Q := by
    intro t
    induction t with
    | zero =>
      intro w x2 x3 hw h3
      refine v_X12_count_70_228 ?_
      rw [d_cn a.1, cy.1.2.1.2.2.1.1, a.1]
      exact ⟨by omega, fun _ => q0 _, fun q => by exfalso; omega⟩
    | succ t ih =>
      intro w x2 x3 hw h3
      have e30 := d_add (k := x3) (K := w) (x := (30 : Int32)) (i := 30) (by decide) h3 (by omega)
      refine v_X12_count_70_228 ?_
      rw [d_cn a.1, cy.1.2.1.2.2.1.1, a.1]
      exact ⟨by omega, fun q => by exfalso; omega, fun _ => ⟨by omega, ih (w + 1) _ _ (by omega) (d_inc h3 (by omega))⟩⟩
  have l265 : ∀ (t w : Nat) (x2 x3 : Int32), w + t = hoW H → x3.toInt = (w : Int) → j_X12_count_70_265 7 x2 x3 M Q := by
    intro t
    induction t with
    | zero =>
      intro w x2 x3 hw h3
      refine v_X12_count_70_265 ?_
      rw [d_cn a.1, cy.1.2.1.2.2.1.1, a.1]
      exact ⟨by omega, fun _ => q0 _, fun q => by exfalso; omega⟩
    | succ t ih =>
      intro w x2 x3 hw h3
      have on : ∀ y : Int32, j_X12_count_70_295 7 y x3 M Q := fun y => v_X12_count_70_295 (ih (w + 1) _ _ (by omega) (d_inc h3 (by omega)))
      refine v_X12_count_70_265 ?_
      rw [d_cn a.1, cy.1.2.1.2.2.1.1, a.1]
      exact ⟨by omega, fun q => by exfalso; omega, fun _ => Wp.deep (y_isWhole cy.1.2.1 (cy.2.1.rg (r := 0)) h3 (by omega) (fun _ => ⟨fun z => absurd z (by decide), fun _ => ⟨by omega, on _⟩⟩) (fun _ => ⟨fun _ => on _, fun z => absurd rfl z⟩)) (Nat.le_of_ble_eq_true rfl)⟩
  have hKM := hK.rs f
  exact ⟨fun _ => ⟨by omega, q0 _⟩, fun _ => ⟨by omega, q0 _⟩, fun _ => ⟨by omega, q0 _⟩, fun _ => q0 _, fun _ => q0 _, fun _ => q0 _, fun _ => Wp.deep (r_goneBits hKM q0) (Nat.le_of_ble_eq_true rfl), fun _ => Wp.deep (y_litBits cy.1 cy.2.2 (q0 _)) (Nat.le_of_ble_eq_true rfl), fun _ => Wp.deep (y_onNow cy (q0 _)) (Nat.le_of_ble_eq_true rfl), fun _ => q0 _, fun _ => q0 _, fun _ => q0 _, fun _ => ⟨fun _ => ⟨fun _ => ⟨fun _ => q0 _, fun _ => q0 _⟩, fun _ => ⟨fun _ => q0 _, fun _ => q0 _⟩⟩, fun _ => ⟨fun _ => ⟨fun _ => q0 _, fun _ => q0 _⟩, fun _ => ⟨fun _ => q0 _, fun _ => q0 _⟩⟩⟩, fun _ => Wp.deep (y_isSurge cy.1 cy.2.1.1.1 ⟨fun _ => q0 _, fun _ => q0 _⟩) (Nat.le_of_ble_eq_true rfl), fun _ => l228 (hoW H) 0 _ _ (by omega) (by decide), fun _ => l265 (hoW H) 0 _ _ (by omega) (by decide), fun _ => q0 _⟩
end RKG
end
section
/-! THE CODES of an expression, as a function of its tokens -/
def opc (w : Int) : Int32 := if w = 43 then 0 else if w = 45 then 1 else if w = 42 then 2 else 3
def vcd (k : Int) : Int32 := Int32.ofInt (k - 9)
/-- what waits comes out, until a ( or (st) until a + or - -/
def fl (st : Bool) : List Int → lC → List Int × lC
  | [], o => ([], o)
  | w :: W, o => if w = 40 ∨ (st = true ∧ (w = 43 ∨ w = 45)) then (w :: W, o) else fl st W (o ++ [opc w])
section COD
variable (K : Nat → Int) (V : Nat → Int64)
def sX : Nat → Nat → Bool → Nat → List Int → lC → lC
  | 0, _, _, _, _, o => o
  | f + 1, d, false, n, W, o => if K n = 23 then sX f d true (n + 1) W (o ++ [13 + (V n).toInt32]) else if 13 ≤ K n ∧ K n ≤ 21 then sX f d true (n + 1) W (o ++ [vcd (K n)]) else if K n = 40 then sX f (d + 1) false (n + 1) (40 :: W) o else o
  | f + 1, d, true, n, W, o => if K n = 42 ∨ K n = 47 then sX f d false (n + 1) (K n :: (fl true W o).1) (fl true W o).2 else if K n = 43 ∨ K n = 45 then sX f d false (n + 1) (K n :: (fl false W o).1) (fl false W o).2 else if 0 < d ∧ K n = 41 then sX f (d - 1) true (n + 1) (fl false W o).1.tail (fl false W o).2 else (fl false W o).2
def sY (d : Nat) (ph : Bool) (n : Nat) (W : List Int) (o : lC) : lC := sX K V (401 - n) d ph n W o
/-- an expression's codes -/
def cE (n : Nat) : lC := sY K V 0 false n [] []
end COD
section COL
variable {K : Nat → Int} {V : Nat → Int64}
theorem sY_U {d n : Nat} {W : List Int} {o : lC} (hn : n ≤ 400) : sY K V d false n W o = if K n = 23 then sY K V d true (n + 1) W (o ++ [13 + (V n).toInt32]) else if 13 ≤ K n ∧ K n ≤ 21 then sY K V d true (n + 1) W (o ++ [vcd (K n)]) else if K n = 40 then sY K V (d + 1) false (n + 1) (40 :: W) o else o := by
  unfold sY
  rw [show 401 - n = (401 - (n + 1)) + 1 by omega]
  rfl
theorem sY_O {d n : Nat} {W : List Int} {o : lC} (hn : n ≤ 400) : sY K V d true n W o = if K n = 42 ∨ K n = 47 then sY K V d false (n + 1) (K n :: (fl true W o).1) (fl true W o).2 else if K n = 43 ∨ K n = 45 then sY K V d false (n + 1) (K n :: (fl false W o).1) (fl false W o).2 else if 0 < d ∧ K n = 41 then sY K V (d - 1) true (n + 1) (fl false W o).1.tail (fl false W o).2 else (fl false W o).2 := by
  unfold sY
  rw [show 401 - n = (401 - (n + 1)) + 1 by omega]
  rfl
theorem fl_w {st : Bool} {w : Int} {W : List Int} {o : lC} (h : ¬ (w = 40 ∨ (st = true ∧ (w = 43 ∨ w = 45)))) : fl st (w :: W) o = fl st W (o ++ [opc w]) := by
  show (if w = 40 ∨ (st = true ∧ (w = 43 ∨ w = 45)) then (w :: W, o) else fl st W (o ++ [opc w])) = _
  rw [if_neg h]
theorem fl_s {st : Bool} {w : Int} {W : List Int} {o : lC} (h : w = 40 ∨ (st = true ∧ (w = 43 ∨ w = 45))) : fl st (w :: W) o = (w :: W, o) := by
  show (if w = 40 ∨ (st = true ∧ (w = 43 ∨ w = 45)) then (w :: W, o) else fl st W (o ++ [opc w])) = _
  rw [if_pos h]
/-- a * or / that waits may come out at once; a + or - too, where no * or / follows -/
theorem sY_strong {d n : Nat} {w : Int} {W : List Int} {o : lC} (hn : n ≤ 400) (hw : w = 42 ∨ w = 47) : sY K V d true n (w :: W) o = sY K V d true n W (o ++ [opc w]) := by
  rw [sY_O hn, sY_O hn, fl_w (st := true) (by omega), fl_w (st := false) (by omega)]
theorem sY_weak {d n : Nat} {w : Int} {W : List Int} {o : lC} (hn : n ≤ 400) (hw : w = 43 ∨ w = 45) (hk : K n ≠ 42 ∧ K n ≠ 47) : sY K V d true n (w :: W) o = sY K V d true n W (o ++ [opc w]) := by
  have h40 : ¬ (w = 40 ∨ (false = true ∧ (w = 43 ∨ w = 45))) := fun q => by
    rcases q with q | q
    · omega
    · cases q.1
  have h1 : ¬ (K n = 42 ∨ K n = 47) := by omega
  rw [sY_O hn, sY_O hn, if_neg h1, fl_w h40]
  rw [if_neg h1]
/-- what came out ahead stays ahead -/
theorem fl_pre {st : Bool} {p : lC} : ∀ (W : List Int) (o : lC), fl st W (p ++ o) = ((fl st W o).1, p ++ (fl st W o).2)
  | [], o => rfl
  | w :: W, o => by
    by_cases h : w = 40 ∨ (st = true ∧ (w = 43 ∨ w = 45))
    · rw [fl_s h, fl_s h]
    · rw [fl_w h, fl_w h, List.append_assoc, fl_pre W (o ++ [opc w])]
theorem sX_pre {p : lC} : ∀ (f d : Nat) (ph : Bool) (n : Nat) (W : List Int) (o : lC), sX K V f d ph n W (p ++ o) = p ++ sX K V f d ph n W o
  | 0, d, ph, n, W, o => rfl
  | f + 1, d, false, n, W, o => by
    unfold sX
    by_cases h1 : K n = 23
    · rw [if_pos h1, if_pos h1, List.append_assoc]; exact sX_pre f _ _ _ _ _
    · rw [if_neg h1, if_neg h1]
      by_cases h2 : 13 ≤ K n ∧ K n ≤ 21
      · rw [if_pos h2, if_pos h2, List.append_assoc]; exact sX_pre f _ _ _ _ _
      · rw [if_neg h2, if_neg h2]
        by_cases h3 : K n = 40
        · rw [if_pos h3, if_pos h3]; exact sX_pre f _ _ _ _ _
        · rw [if_neg h3, if_neg h3]
  | f + 1, d, true, n, W, o => by
    unfold sX
    rw [fl_pre, fl_pre]
    by_cases h1 : K n = 42 ∨ K n = 47
    · rw [if_pos h1, if_pos h1]; exact sX_pre f _ _ _ _ _
    · rw [if_neg h1, if_neg h1]
      by_cases h2 : K n = 43 ∨ K n = 45
      · rw [if_pos h2, if_pos h2]; exact sX_pre f _ _ _ _ _
      · rw [if_neg h2, if_neg h2]
        by_cases h3 : 0 < d ∧ K n = 41
        · rw [if_pos h3, if_pos h3]; exact sX_pre f _ _ _ _ _
        · rw [if_neg h3, if_neg h3]
theorem cE_pre {n : Nat} {p : lC} : sY K V 0 false n [] p = p ++ cE K V n := by
  have := sX_pre (K := K) (V := V) (p := p) (401 - n) 0 false n [] []
  rw [List.append_nil] at this
  exact this
/-- right so far, with h that wait -/
def imp (o : lC) (h : Nat) : Prop := ∀ L : lC, wfL L h → wfL (o ++ L) 0
theorem imp_0 : imp [] 0 := fun L h => h
theorem imp_v {o : lC} {h : Nat} {c : Int32} (hi : imp o h) (hc : 4 ≤ c.toInt) (hh : h + 1 ≤ 31) : imp (o ++ [c]) (h + 1) := fun L hL => by
  rw [List.append_assoc]
  exact hi _ ⟨by omega, fun _ => ⟨hh, hL⟩, fun q => by omega⟩
theorem imp_o {o : lC} {h : Nat} {w : Int} (hi : imp o (h + 2)) : imp (o ++ [opc w]) (h + 1) := fun L hL => by
  rw [List.append_assoc]
  have b : 0 ≤ (opc w).toInt ∧ (opc w).toInt < 4 := by
    unfold opc
    split
    · decide
    · split
      · decide
      · split <;> decide
  exact hi _ ⟨b.1, fun q => by omega, fun _ => ⟨by omega, hL⟩⟩
theorem imp_end {o : lC} (hi : imp o 1) : wfL o 0 := by
  have := hi [] rfl
  rw [List.append_nil] at this
  exact this
/-- how many wait; how many are open; the rank of the last that waits -/
def pW : List Int → Nat
  | [] => 0
  | w :: W => if w = 40 then pW W else pW W + 1
def qW : List Int → Nat
  | [] => 0
  | w :: W => if w = 40 then qW W + 1 else qW W
def rkW : List Int → Nat
  | [] => 0
  | w :: _ => if w = 40 then 0 else if w = 43 ∨ w = 45 then 1 else 2
def wOk : List Int → Prop
  | [] => True
  | w :: W => wOk W ∧ (w = 40 ∨ ((w = 43 ∨ w = 45) ∧ rkW W = 0) ∨ ((w = 42 ∨ w = 47) ∧ rkW W ≤ 1))
theorem pW_le : ∀ (W : List Int), wOk W → pW W ≤ 2 * qW W + rkW W
  | [], _ => Nat.le_refl _
  | w :: W, h => by
    have ih := pW_le W h.1
    have r2 : rkW W ≤ 2 := by
      cases W with
      | nil => exact Nat.zero_le _
      | cons a b => show (if a = 40 then 0 else if a = 43 ∨ a = 45 then 1 else 2) ≤ 2; split <;> (try split) <;> omega
    have e1 : pW (w :: W) = if w = 40 then pW W else pW W + 1 := rfl
    have e2 : qW (w :: W) = if w = 40 then qW W + 1 else qW W := rfl
    have e3 : rkW (w :: W) = if w = 40 then 0 else if w = 43 ∨ w = 45 then 1 else 2 := rfl
    rw [e1, e2, e3]
    rcases h.2 with q | ⟨q, r⟩ | ⟨q, r⟩
    · rw [if_pos q, if_pos q, if_pos q]; omega
    · have n40 : ¬ w = 40 := by omega
      rw [if_neg n40, if_neg n40, if_neg n40, if_pos q]; omega
    · have n40 : ¬ w = 40 := by omega
      rw [if_neg n40, if_neg n40, if_neg n40, if_neg (by omega)]; omega
theorem fl_ok {st : Bool} : ∀ (W : List Int) (o : lC), wOk W → imp o (pW W + 1) → imp (fl st W o).2 (pW (fl st W o).1 + 1) ∧ wOk (fl st W o).1 ∧ qW (fl st W o).1 = qW W ∧ rkW (fl st W o).1 ≤ (if st = true then 1 else 0)
  | [], o, h, hi => ⟨hi, trivial, rfl, Nat.zero_le _⟩
  | w :: W, o, h, hi => by
    by_cases q : w = 40 ∨ (st = true ∧ (w = 43 ∨ w = 45))
    · rw [fl_s q]
      refine ⟨hi, h, rfl, ?_⟩
      show (if w = 40 then 0 else if w = 43 ∨ w = 45 then 1 else 2) ≤ _
      rcases q with q | ⟨q1, q2⟩
      · rw [if_pos q]; exact Nat.zero_le _
      · have n40 : ¬ w = 40 := by omega
        rw [if_neg n40, if_pos q2, if_pos q1]; exact Nat.le_refl _
    · rw [fl_w q]
      have n40 : w ≠ 40 := fun e => q (Or.inl e)
      have e1 : pW (w :: W) = pW W + 1 := by show (if w = 40 then pW W else pW W + 1) = _; rw [if_neg n40]
      have e2 : qW (w :: W) = qW W := by show (if w = 40 then qW W + 1 else qW W) = _; rw [if_neg n40]
      rw [e1] at hi
      rw [e2]
      exact fl_ok W _ h.1 (imp_o hi)
theorem rk0 {W : List Int} (h : rkW W = 0) : W = [] ∨ ∃ W', W = 40 :: W' := by
  cases W with
  | nil => exact Or.inl rfl
  | cons w W' =>
    right
    refine ⟨W', ?_⟩
    have h : (if w = 40 then 0 else if w = 43 ∨ w = 45 then 1 else 2) = 0 := h
    by_cases q : w = 40
    · rw [q]
    · rw [if_neg q] at h
      by_cases q2 : w = 43 ∨ w = 45
      · rw [if_pos q2] at h; cases h
      · rw [if_neg q2] at h; cases h
theorem vcd_i {k : Int} (h : 13 ≤ k ∧ k ≤ 21) : (vcd k).toInt = k - 9 := by
  unfold vcd
  rw [Int32.toInt_ofInt_of_le (by omega) (by omega)]
theorem sX_wf (hV : ∀ n : Nat, K n = 23 → 0 ≤ (V n).toInt32.toInt ∧ (V n).toInt32.toInt ≤ 9999) : ∀ (f d : Nat) (ph : Bool) (n : Nat) (W : List Int) (o : lC), 401 - n = f → n ≤ 400 → wOk W → qW W = d → d ≤ 6 → imp o (pW W + cond ph 1 0) → (gX K 0 d ph n).1 = 0 → wfL (sX K V f d ph n W o) 0 := by
  intro f
  induction f with
  | zero => intro d ph n W o hf hn; omega
  | succ f ih =>
    intro d ph n W o hf hn hW hq hd hi hg
    have hp := pW_le W hW
    have r2 : rkW W ≤ 2 := by
      cases W with
      | nil => exact Nat.zero_le _
      | cons a b => show (if a = 40 then 0 else if a = 43 ∨ a = 45 then 1 else 2) ≤ 2; split <;> (try split) <;> omega
    cases ph with
    | false =>
      rw [gX_U hn] at hg
      unfold sX
      by_cases h1 : K n = 23
      · rw [if_pos (Or.inl h1)] at hg
        rw [if_pos h1]
        by_cases h4 : 400 ≤ n
        · rw [if_pos h4] at hg; exact absurd hg (Nat.succ_ne_zero 1)
        · rw [if_neg h4] at hg
          have v := hV n h1
          have c := dAddE (X := 13) (Y := (V n).toInt32.toInt) (x := (13 : Int32)) (y := (V n).toInt32) (by decide) rfl (by omega) (by omega)
          exact ih d true (n + 1) W _ (by omega) (by omega) hW hq hd (imp_v hi (by omega) (by omega)) hg
      · rw [if_neg h1]
        by_cases h2 : 13 ≤ K n ∧ K n ≤ 21
        · rw [if_pos (Or.inr h2)] at hg
          rw [if_pos h2]
          by_cases h4 : 400 ≤ n
          · rw [if_pos h4] at hg; exact absurd hg (Nat.succ_ne_zero 1)
          · rw [if_neg h4] at hg
            have c := vcd_i h2
            exact ih d true (n + 1) W _ (by omega) (by omega) hW hq hd (imp_v hi (by omega) (by omega)) hg
        · rw [if_neg (by omega)] at hg
          rw [if_neg h2]
          by_cases h3 : K n = 40
          · rw [if_pos h3] at hg ⊢
            by_cases h6 : 6 ≤ d
            · rw [if_pos h6] at hg; exact absurd hg (Nat.succ_ne_zero 1)
            · rw [if_neg h6] at hg
              by_cases h4 : 400 ≤ n
              · rw [if_pos h4] at hg; exact absurd hg (Nat.succ_ne_zero 1)
              · rw [if_neg h4] at hg
                exact ih (d + 1) false (n + 1) (40 :: W) o (by omega) (by omega) ⟨hW, Or.inl rfl⟩ (by show (if (40 : Int) = 40 then qW W + 1 else qW W) = _; rw [if_pos rfl, hq]) (by omega) (by show imp o ((if (40 : Int) = 40 then pW W else pW W + 1) + 0); rw [if_pos rfl]; exact hi) hg
          · rw [if_neg h3] at hg; exact absurd hg (Nat.succ_ne_zero 0)
    | true =>
      rw [gX_O hn] at hg
      unfold sX
      have a1 := fl_ok (st := true) W o hW hi
      have a0 := fl_ok (st := false) W o hW hi
      rw [if_pos rfl] at a1
      rw [if_neg (by decide)] at a0
      have push : ∀ (w : Int) (W1 : List Int) (o1 : lC), w ≠ 40 → wOk (w :: W1) → qW W1 = qW W → imp o1 (pW W1 + 1) → (gX K 0 d false (n + 1)).1 = 0 → n + 1 ≤ 400 → wfL (sX K V f d false (n + 1) (w :: W1) o1) 0 := fun w W1 o1 hw ho hq1 hi1 hg1 hn1 => ih d false (n + 1) (w :: W1) o1 (by omega) hn1 ho (by show (if w = 40 then qW W1 + 1 else qW W1) = d; rw [if_neg hw, hq1, hq]) hd (by show imp o1 ((if w = 40 then pW W1 else pW W1 + 1) + 0); rw [if_neg hw]; exact hi1) hg1
      by_cases h1 : K n = 42 ∨ K n = 47
      · rw [if_pos (by omega)] at hg
        rw [if_pos h1]
        by_cases h4 : 400 ≤ n
        · rw [if_pos h4] at hg; exact absurd hg (Nat.succ_ne_zero 1)
        · rw [if_neg h4] at hg
          exact push (K n) _ _ (by omega) ⟨a1.2.1, Or.inr (Or.inr ⟨h1, a1.2.2.2⟩)⟩ a1.2.2.1 a1.1 hg (by omega)
      · rw [if_neg h1]
        by_cases h2 : K n = 43 ∨ K n = 45
        · rw [if_pos (by omega)] at hg
          rw [if_pos h2]
          by_cases h4 : 400 ≤ n
          · rw [if_pos h4] at hg; exact absurd hg (Nat.succ_ne_zero 1)
          · rw [if_neg h4] at hg
            exact push (K n) _ _ (by omega) ⟨a0.2.1, Or.inr (Or.inl ⟨h2, by omega⟩)⟩ a0.2.2.1 a0.1 hg (by omega)
        · rw [if_neg (by omega)] at hg
          rw [if_neg h2]
          by_cases h3 : 0 < d
          · rw [if_pos h3] at hg
            by_cases h5 : K n = 41
            · rw [if_pos h5] at hg
              rw [if_pos ⟨h3, h5⟩]
              by_cases h4 : 400 ≤ n
              · rw [if_pos h4] at hg; exact absurd hg (Nat.succ_ne_zero 1)
              · rw [if_neg h4] at hg
                rcases rk0 (W := (fl false W o).1) (by omega) with e | ⟨W', e⟩
                · have := a0.2.2.1
                  rw [e] at this
                  have : 0 = qW W := this
                  omega
                · obtain ⟨b1', b2', b3', b4'⟩ := a0
                  rw [e] at b1' b2' b3' ⊢
                  have q1 : qW (40 :: W') = qW W' + 1 := by show (if (40 : Int) = 40 then qW W' + 1 else qW W') = _; rw [if_pos rfl]
                  have q2 : pW (40 :: W') = pW W' := by show (if (40 : Int) = 40 then pW W' else pW W' + 1) = _; rw [if_pos rfl]
                  rw [q1] at b3'
                  rw [q2] at b1'
                  exact ih (d - 1) true (n + 1) W' _ (by omega) (by omega) b2'.1 (by omega) (by omega) b1' hg
            · rw [if_neg h5] at hg; exact absurd hg (Nat.succ_ne_zero 0)
          · rw [if_neg (fun q => h3 q.1)]
            rcases rk0 (W := (fl false W o).1) (by omega) with e | ⟨W', e⟩
            · have := a0.1
              rw [e] at this
              exact imp_end this
            · have := a0.2.2.1
              rw [e] at this
              have q1 : qW (40 :: W') = qW W' + 1 := by show (if (40 : Int) = 40 then qW W' + 1 else qW W') = _; rw [if_pos rfl]
              omega
theorem cE_wf (hV : ∀ n : Nat, K n = 23 → 0 ≤ (V n).toInt32.toInt ∧ (V n).toInt32.toInt ≤ 9999) {n : Nat} (hn : n ≤ 400) (hg : (gE K n).1 = 0) : wfL (cE K V n) 0 := sX_wf hV _ 0 false n [] [] rfl hn trivial rfl (by omega) imp_0 hg
end COL
end
section
/-! THE CLASS's grammar puts these codes -/
def LG (m : dM) (L : lC) : Prop := (m.1 29 1).toInt = (L.length : Int) ∧ L.length ≤ 406 ∧ ∀ i : Nat, i < L.length → m.1 30 i = L.getD i 0
def FXl (m m' : dM) : Prop := ∀ k : Nat, 31 < k → k ≤ 36 → m'.1 k = m.1 k
theorem FXl.rf (m : dM) : FXl m m := fun _ _ _ => rfl
theorem FXl.tr {a b c : dM} (h : FXl a b) (h' : FXl b c) : FXl a c := fun k p q => (h' k p q).trans (h k p q)
theorem LG.of {m m' : dM} {L : lC} (h : LG m L) (e : m'.1 29 = m.1 29) (e' : m'.1 30 = m.1 30) : LG m' L := by
  unfold LG
  rw [e, e']
  exact h
section CGC
variable {K : Nat → Int} {V : Nat → Int64} {mb m : dM} {n : Nat}
/-- how a step came out, laws apart -/
theorem kk_kind {Q : Int32 → dM → Prop} (hK : KM K mb) (h : GO K mb m (0, n)) (hQ : ∀ r : Int32, r.toInt = K n → Q r m) : c_X2_kind_43 1 m Q := k_kind hK h hQ
theorem kk_step {Q : Int32 → dM → Prop} (h : GO K mb m (0, n)) (hk : K n ≠ 24 ∧ K n ≠ 25) (hQ : ∀ (r : Int32) (m' : dM), GO K mb m' (gst n) → RT r (gst n) → (∀ k : Nat, k ≠ 43 → m'.1 k = m.1 k) → Q r m') : c_X2_step_43 1 m Q := by
  obtain ⟨e2, e3, h4, h5⟩ := h.at
  refine v_X2_step_43 ⟨fun q => hQ _ _ ?_ ?_ (fun k hk => dSet_k hk), fun q => hQ _ _ ?_ ?_ (fun k hk => dSet_k hk)⟩
  · unfold gst
    rw [if_neg (by omega)]
    exact h.set2 (by omega) hk
  · unfold gst
    rw [if_neg (by omega)]
    exact ⟨fun _ => rfl, fun z => absurd rfl z⟩
  · unfold gst
    rw [if_pos (by omega)]
    exact h.set3 (by decide)
  · unfold gst
    rw [if_pos (by omega)]
    exact ⟨fun z => absurd z (by first | decide | exact Nat.succ_ne_zero _), fun _ => rfl⟩
theorem kk_need {x1 : Int32} {k : Int} {Q : Int32 → dM → Prop} (hK : KM K mb) (h : GO K mb m (0, n)) (hx : x1.toInt = k) (hk : k ≠ 24 ∧ k ≠ 25) (hQ : ∀ (r : Int32) (m' : dM), GO K mb m' (gnd K k n) → RT r (gnd K k n) → (∀ k : Nat, k ≠ 43 → m'.1 k = m.1 k) → Q r m') : c_X2_need_43 2 x1 m Q := by
  refine v_X2_need_43 (k_kind hK h (fun r hr => ⟨fun q => v_X2_fail_43 ⟨Or.inl rfl, hQ _ _ ?_ ?_ (fun k hk => dSet_k hk)⟩, fun q => kk_step h (by rw [← hr, q, hx]; exact hk) (fun r' m' h' hr' hf => ⟨hr'.b, hQ _ _ ?_ ?_ hf⟩)⟩))
  · unfold gnd
    rw [if_neg (by omega)]
    exact h.set3 (by decide)
  · unfold gnd
    rw [if_neg (by omega)]
    exact ⟨fun z => absurd z (by first | decide | exact Nat.succ_ne_zero _), fun _ => rfl⟩
  · unfold gnd
    rw [if_pos (by omega)]
    exact h'
  · unfold gnd
    rw [if_pos (by omega)]
    exact hr'
theorem kk_put {x1 : Int32} {g : gR} {L : lC} {Q : dM → Prop} (h : GO K mb m g) (hL : LG m L) (hQ : ∀ m' : dM, GO K mb m' g → (L.length < 406 → LG m' (L ++ [x1])) → FXl m m' → Q m') : c_X4_put_29 1 x1 m Q := by
  have hl' := hL.1
  have hGL := h.2.1
  have e29 : (m.1 29 1).toNatClampNeg = L.length := d_cn hl'
  refine v_X4_put_29 ⟨fun q => v_X4_put_29_32 (hQ _ h (fun z => by exfalso; omega) (FXl.rf m)), fun q => ⟨by omega, v_X4_put_29_32 (hQ _ ?_ (fun z => ?_) (fun k a b => by rw [dSet_k (by omega), dSet_k (by omega)]))⟩⟩
  · have h30 : GO K mb (dSet m 30 (m.1 29 1).toNatClampNeg x1) g := h.law (by decide) (by
      unfold GL
      rw [dSet_k (by decide), dSet_k (by decide)]
      exact hGL)
    refine h30.law (by decide) ⟨?_, fun j => ?_⟩
    · rw [dSet_s]
      have := dAddE (X := (m.1 29 1).toInt) (Y := 1) (x := m.1 29 1) (y := (1 : Int32)) rfl (by decide) (by omega) (by omega)
      omega
    · rw [dSet_k (by decide), dSet_k (by decide)]
      exact hGL.2 j
  · rw [e29]
    have f := d_inc hl' (by omega)
    refine ⟨by rw [dSet_s, List.length_append]; exact f, by rw [List.length_append]; show L.length + 1 ≤ 406; omega, fun i hi => ?_⟩
    rw [List.length_append] at hi
    have hi : i < L.length + 1 := hi
    rw [dSet_k (by decide)]
    by_cases e : i = L.length
    · subst e
      rw [dSet_s, getD_last]
    · rw [dSet_j e, getD_app (by omega)]
      exact hL.2.2 i (by omega)
end CGC
/-- a piece of an expression: what it put -/
def PT (K : Nat → Int) (V : Nat → Int64) (tp : List Int → Prop) (o n n' : Nat) (L : lC) (m m' : dM) : Prop := FXl m m' ∧ ∃ L' : lC, LG m' L' ∧ L'.length + n ≤ L.length + n' ∧ ∀ W : List Int, tp W → sY K V o false n W L = sY K V o true n' W L'
def tA (_ : List Int) : Prop := True
def tS (W : List Int) : Prop := rkW W ≤ 1
def tO (W : List Int) : Prop := rkW W = 0
def xU (K : Nat → Int) (V : Nat → Int64) (mb : dM) (o d : Nat) : Prop := ∀ (n : Nat) (m : dM) (x1 : Int32) (L : lC) (Q : Int32 → dM → Prop), GO K mb m (0, n) → LG m L → L.length ≤ 6 + n → x1.toInt = o → (∀ (r : Int32) (m' : dM) (g : gR), GO K mb m' g → RT r g → (g.1 = 0 → gX K o o false n = gX K o o true g.2 ∧ n < g.2 ∧ PT K V tA o n g.2 L m m') → (g.1 ≠ 0 → gX K o o false n = g) → Q r m') → c_X2_unit_43 d x1 m Q
def xP (K : Nat → Int) (V : Nat → Int64) (mb : dM) (o d : Nat) : Prop := ∀ (n : Nat) (m : dM) (x1 : Int32) (L : lC) (Q : Int32 → dM → Prop), GO K mb m (0, n) → LG m L → L.length ≤ 6 + n → x1.toInt = o → (∀ (r : Int32) (m' : dM) (g : gR), GO K mb m' g → RT r g → (g.1 = 0 → gX K o o false n = gX K o o true g.2 ∧ n < g.2 ∧ K g.2 ≠ 42 ∧ K g.2 ≠ 47 ∧ PT K V tS o n g.2 L m m') → (g.1 ≠ 0 → gX K o o false n = g) → Q r m') → c_X2_product_43 d x1 m Q
def xSm (K : Nat → Int) (V : Nat → Int64) (mb : dM) (o d : Nat) : Prop := ∀ (n : Nat) (m : dM) (x1 : Int32) (L : lC) (Q : Int32 → dM → Prop), GO K mb m (0, n) → LG m L → L.length ≤ 6 + n → x1.toInt = o → (∀ (r : Int32) (m' : dM), GO K mb m' (gX K o o false n) → RT r (gX K o o false n) → ((gX K o o false n).1 = 0 → PT K V tO o n (gX K o o false n).2 L m m') → Q r m') → c_X2_sum_43 d x1 m Q
section CSC
variable {K : Nat → Int} {V : Nat → Int64} {mb : dM}
theorem kk_unit {o d : Nat} (hVM : VM K V mb) (ho : o ≤ 6) (hd : 2 ≤ d) (hS : o < 6 → xSm K V mb (o + 1) d) : xU K V mb o (d + 1) := by
  intro n m x1 L Q h hL hlen hx hQ
  have hK : KM K mb := fun i a b => (hVM i a b).1
  obtain ⟨e2, e3, h4, h5⟩ := h.at
  have eU := gX_U (K := K) (b := o) (d := o) h4
  have sU := fun W : List Int => sY_U (K := K) (V := V) (d := o) (W := W) (o := L) h4
  have bad : ∀ (m' : dM) (c : Nat), GO K mb m' (c, n) → c ≠ 0 → gX K o o false n = (c, n) → Q 0 m' := fun m' c h' hc e => hQ 0 m' (c, n) h' ⟨fun z => absurd z hc, fun _ => rfl⟩ (fun z => absurd z hc) (fun _ => e)
  have st : ∀ (r : Int32) (m1 m' : dM) (c : Int32), (L.length < 406 → LG m1 (L ++ [c])) → FXl m m1 → (∀ k : Nat, k ≠ 43 → m'.1 k = m1.1 k) → GO K mb m' (gst n) → RT r (gst n) → (K n = 23 ∨ (13 ≤ K n ∧ K n ≤ 21)) → (∀ W : List Int, sY K V o false n W L = sY K V o true (n + 1) W (L ++ [c])) → Q r m' := fun r m1 m' c hL1 hX hf h' hr hu hs => by
    rw [if_pos hu] at eU
    refine hQ r m' (gst n) h' hr (fun z => ?_) (fun z => ?_)
    · unfold gst at z ⊢
      by_cases q : 400 ≤ n
      · rw [if_pos q] at z; exact absurd z (by first | decide | exact Nat.succ_ne_zero _)
      · rw [if_neg q] at eU ⊢
        refine ⟨eU, Nat.lt_succ_self n, hX.tr (fun k a b => hf k (by omega)), L ++ [c], (hL1 (by omega)).of (hf 29 (by decide)) (hf 30 (by decide)), ?_, fun W _ => hs W⟩
        rw [List.length_append]
        show L.length + 1 + n ≤ L.length + (n + 1)
        omega
    · unfold gst at z ⊢
      by_cases q : 400 ≤ n
      · rw [if_pos q] at eU ⊢
        exact eU
      · rw [if_neg q] at z; exact absurd rfl z
  refine v_X2_unit_43 (Wp.deep (k_kind hK h (fun r hr => ?_)) (by omega))
  have h67 : ¬ (K n = 23 ∨ (13 ≤ K n ∧ K n ≤ 21)) → j_X2_unit_43_67 (d + 1) x1 r m Q := fun hu => by
    rw [if_neg hu] at eU
    refine v_X2_unit_43_67 ⟨fun q40 => ⟨fun q6 => ?_, fun q6 => ?_⟩, fun q40 => ?_⟩
    · rw [if_pos (by omega), if_neg (by omega)] at eU
      refine Wp.deep (kk_step h (by omega) (fun r1 m1 h1 hr1 hf1 => ⟨fun z => ?_, fun z => ?_⟩)) (by omega)
      · have z := hr1.z z
        unfold gst at z h1
        by_cases q : 400 ≤ n
        · rw [if_pos q] at eU h1
          exact v_X2_unit_43_123 (bad _ 2 h1 (by first | decide | exact Nat.succ_ne_zero _) eU)
        · rw [if_neg q] at z; exact absurd rfl z
      · have z := hr1.nz z
        unfold gst at z h1
        by_cases q : 400 ≤ n
        · rw [if_pos q] at z; exact absurd z (by first | decide | exact Nat.succ_ne_zero _)
        · rw [if_neg q] at eU h1
          have eS := gX_seg (K := K) (b := o) (b' := o + 1) (by omega) _ (o + 1) false (n + 1) rfl (by omega) (by omega)
          rw [← eU] at eS
          have hok := gX_ok (K := K) (b := o + 1) _ (o + 1) false (n + 1) rfl (by omega)
          have hnp := gX_nop (K := K) (b := o + 1) _ (o + 1) false (n + 1) rfl (by omega)
          have hL1 : LG m1 L := hL.of (hf1 29 (by decide)) (hf1 30 (by decide))
          refine hS (by omega) (n + 1) m1 _ L _ h1 hL1 (by omega) (d_add hx (by decide) (by omega)) (fun r2 m2 h2 hr2 pt2 => ⟨fun z2 => ?_, fun z2 => ?_⟩)
          · have z2 := hr2.z z2
            rw [rb_f z2] at eS
            generalize gX K (o + 1) (o + 1) false (n + 1) = g at *
            exact v_X2_unit_43_123 (hQ 0 m2 g h2 ⟨fun q => absurd q z2, fun _ => rfl⟩ (fun q => absurd q z2) (fun _ => eS))
          · have z2 := hr2.nz z2
            rw [rb_k z2] at eS
            have hnp := hnp z2
            have pt2 := pt2 z2
            generalize gX K (o + 1) (o + 1) false (n + 1) = g at *
            obtain ⟨g1, g2⟩ := g
            have z2 : g1 = 0 := z2
            subst z2
            have hok1 : n + 1 ≤ g2 ∧ g2 ≤ 400 := hok.1
            have hnp : K g2 ≠ 43 ∧ K g2 ≠ 45 ∧ K g2 ≠ 42 ∧ K g2 ≠ 47 := hnp
            have eO := gX_O (K := K) (b := o) (d := o + 1) hok1.2
            rw [if_neg (by omega), if_pos (by omega)] at eO
            have eS : gX K o o false n = gX K o (o + 1) true g2 := eS
            rw [eO] at eS
            obtain ⟨fx2, L2, lg2, ln2, sy2⟩ := pt2
            have ln2 : L2.length + (n + 1) ≤ L.length + g2 := ln2
            have sy2 : ∀ W : List Int, tO W → sY K V (o + 1) false (n + 1) W L = sY K V (o + 1) true g2 W L2 := sy2
            refine Wp.deep (kk_need hK h2 (k := 41) (by decide) (by decide) (fun r3 m3 h3 hr3 hf3 => ⟨fun z3 => ?_, fun z3 => ?_⟩)) hd
            · have z3 := hr3.z z3
              have e : gnd K 41 g2 = gX K o o false n := by
                rw [eS]
                unfold gnd gst at z3 ⊢
                by_cases q4 : K g2 = 41
                · rw [if_pos q4] at z3 ⊢
                  rw [if_pos q4]
                  by_cases q5 : 400 ≤ g2
                  · rw [if_pos q5, if_pos q5]
                  · rw [if_neg q5] at z3; exact absurd rfl z3
                · rw [if_neg q4, if_neg q4]
              exact v_X2_unit_43_123 (hQ 0 m3 _ h3 ⟨fun q => absurd q z3, fun _ => rfl⟩ (fun q => absurd q z3) (fun _ => e.symm))
            · have z3 := hr3.nz z3
              obtain ⟨k1, k2, k3⟩ := gnd_z rfl z3
              have e : gX K o o false n = gX K o o true (g2 + 1) := by
                rw [eS, if_pos k2, if_neg (by omega)]
                rfl
              refine hQ 1 m3 _ h3 ⟨fun _ => rfl, fun q => absurd z3 q⟩ (fun _ => ?_) (fun q => absurd z3 q)
              rw [k1]
              have fx1 : FXl m m1 := fun k a b => hf1 k (by omega)
              have fx3 : FXl m2 m3 := fun k a b => hf3 k (by omega)
              refine ⟨e, by show n < g2 + 1; omega, (fx1.tr fx2).tr fx3, L2, lg2.of (hf3 29 (by decide)) (hf3 30 (by decide)), by show L2.length + n ≤ L.length + (g2 + 1); omega, fun W _ => ?_⟩
              show sY K V o false n W L = sY K V o true (g2 + 1) W L2
              rw [sU W, if_neg (fun q => hu (Or.inl q)), if_neg (fun q => hu (Or.inr q)), if_pos (by omega), sy2 (40 :: W) rfl, sY_O hok1.2, if_neg (by omega), if_neg (by omega), if_pos ⟨by omega, k2⟩, fl_s (Or.inl rfl)]
              rfl
    · rw [if_pos (by omega), if_pos (by omega)] at eU
      exact Wp.deep (k_fail h (c := 2) (by decide) (fun m' h' => ⟨Or.inl rfl, bad m' 2 h' (by first | decide | exact Nat.succ_ne_zero _) eU⟩)) (by omega)
    · rw [if_neg (by omega)] at eU
      exact Wp.deep (k_fail h (c := 1) (by decide) (fun m' h' => ⟨Or.inl rfl, bad m' 1 h' (by first | decide | exact Nat.succ_ne_zero _) eU⟩)) (by omega)
  refine ⟨fun q23 => ⟨fun q => h67 (by omega), fun q => ⟨fun q => h67 (by omega), fun q => ?_⟩⟩, fun q23 => ?_⟩
  · have hv : 13 ≤ K n ∧ K n ≤ 21 := by omega
    have ec : ((4 : Int32) + r) - (13 : Int32) = vcd (K n) := by
      apply Int32.toInt_inj.mp
      have f1 := dAddE (X := 4) (Y := r.toInt) (x := (4 : Int32)) (y := r) (by decide) rfl (by omega) (by omega)
      have f2 := dSubE (X := 4 + r.toInt) (Y := 13) (x := (4 : Int32) + r) (y := (13 : Int32)) f1 (by decide) (by omega) (by omega)
      rw [vcd_i hv]
      omega
    rw [ec]
    exact Wp.deep (kk_put h hL (fun m2 h2 hL2 hX2 => Wp.deep (kk_step h2 (by omega) (fun r3 m3 h3 hr3 hf3 => ⟨hr3.b, st r3 m2 m3 _ hL2 hX2 hf3 h3 hr3 (Or.inr hv) (fun W => by rw [sU W, if_neg (by omega), if_pos hv])⟩)) (by omega))) (by omega)
  · have h23 : K n = 23 := by omega
    refine Wp.deep (k_numberAt e2 h4 ?_) hd
    have ev : m.2.1 41 n = V n := by rw [h.1.2.2.1]; exact (hVM n h4 h5).2 (by omega)
    rw [ev]
    exact Wp.deep (kk_put h hL (fun m2 h2 hL2 hX2 => Wp.deep (kk_step h2 (by omega) (fun r3 m3 h3 hr3 hf3 => ⟨hr3.b, st r3 m2 m3 _ hL2 hX2 hf3 h3 hr3 (Or.inl h23) (fun W => by rw [sU W, if_pos h23])⟩)) (by omega))) (by omega)
theorem fl_top1 {W : List Int} {o : lC} (h : rkW W ≤ 1) : fl true W o = (W, o) := by
  cases W with
  | nil => rfl
  | cons w W =>
    have h : (if w = 40 then 0 else if w = 43 ∨ w = 45 then 1 else 2) ≤ 1 := h
    refine fl_s ?_
    by_cases q : w = 40
    · exact Or.inl q
    · rw [if_neg q] at h
      by_cases q2 : w = 43 ∨ w = 45
      · exact Or.inr ⟨rfl, q2⟩
      · rw [if_neg q2] at h; omega
theorem fl_top0 {W : List Int} {o : lC} (h : rkW W = 0) : fl false W o = (W, o) := by
  rcases rk0 h with e | ⟨W', e⟩
  · subst e; rfl
  · subst e; exact fl_s (Or.inl rfl)
theorem kk_product {o d : Nat} (hK : KM K mb) (hd : 1 ≤ d) (hU : xU K V mb o d) : xP K V mb o (d + 1) := by
  intro n m x1 L Q h hL hlen hx hQ
  have bad : ∀ (m' : dM) (g : gR), GO K mb m' g → g.1 ≠ 0 → gX K o o false n = g → Q 0 m' := fun m' g h' hc e => hQ 0 m' g h' ⟨fun z => absurd z hc, fun _ => rfl⟩ (fun z => absurd z hc) (fun _ => e)
  have loop : ∀ (f i n1 : Nat) (x2 : Int32) (m1 : dM), 401 - n1 ≤ f → x2.toInt = i → 2 * i ≤ n1 → n < n1 → GO K mb m1 (0, n1) → gX K o o false n = gX K o o true n1 → PT K V tS o n n1 L m m1 → j_X2_product_43_12 (d + 1) x1 x2 m1 Q := by
    intro f
    induction f with
    | zero => intro i n1 x2 m1 hf h2 hi hn h1 e pt; have := h1.at.2.2.1; omega
    | succ f ih =>
      intro i n1 x2 m1 hf h2 hi hn h1 e pt
      obtain ⟨a2, a3, a4, a5⟩ := h1.at
      have eO := gX_O (K := K) (b := o) (d := o) a4
      have fin : K n1 ≠ 42 → K n1 ≠ 47 → j_X2_product_43_83 (d + 1) m1 Q := fun q1 q2 => v_X2_product_43_83 (hQ 1 m1 (0, n1) h1 ⟨fun _ => rfl, fun z => absurd rfl z⟩ (fun _ => ⟨e, hn, q1, q2, pt⟩) (fun z => absurd rfl z))
      obtain ⟨fx1, L1, lg1, ln1, sy1⟩ := pt
      have body : (K n1 = 42 ∨ K n1 = 47) → ∀ v : Int32, v = opc (K n1) → c_X2_step_43 d m1 (fun r2 m2 => ((r2.toInt = 0 → j_X2_product_43_67 (d + 1) m2 Q) ∧ (r2.toInt ≠ 0 → c_X2_unit_43 d x1 m2 (fun r3 m3 => ((r3.toInt ≠ 0 → c_X4_put_29 d v m3 (fun m4 => j_X2_product_43_12 (d + 1) x1 (x2 + (1 : Int32)) m4 Q)) ∧ (r3.toInt = 0 → j_X2_product_43_67 (d + 1) m3 Q)))))) := fun hk v hv => by
        rw [if_pos (by omega)] at eO
        refine Wp.deep (kk_step h1 (by omega) (fun r2 m2 h2' hr2 hf2 => ⟨fun z => ?_, fun z => ?_⟩)) hd
        · have z := hr2.z z
          unfold gst at z h2'
          by_cases q : 400 ≤ n1
          · rw [if_pos q] at eO h2'
            exact v_X2_product_43_67 (bad _ (2, n1) h2' (by first | decide | exact Nat.succ_ne_zero _) (e.trans eO))
          · rw [if_neg q] at z; exact absurd rfl z
        · have z := hr2.nz z
          unfold gst at z h2'
          by_cases q : 400 ≤ n1
          · rw [if_pos q] at z; exact absurd z (by first | decide | exact Nat.succ_ne_zero _)
          · rw [if_neg q] at eO h2'
            refine hU (n1 + 1) m2 x1 L1 _ h2' (lg1.of (hf2 29 (by decide)) (hf2 30 (by decide))) (by omega) hx (fun r3 m3 g h3 hr3 ok3 no3 => ⟨fun z3 => ?_, fun z3 => ?_⟩)
            · have z3 := hr3.nz z3
              obtain ⟨g1, g2⟩ := g
              have z3 : g1 = 0 := z3
              subst z3
              obtain ⟨p1, p2, fx3, L3, lg3, ln3, sy3⟩ := ok3 rfl
              have p2 : n1 + 1 < g2 := p2
              have ln3 : L3.length + (n1 + 1) ≤ L1.length + g2 := ln3
              have sy3 : ∀ W : List Int, tA W → sY K V o false (n1 + 1) W L1 = sY K V o true g2 W L3 := sy3
              have g400 := h3.at.2.2.1
              refine Wp.deep (kk_put h3 lg3 (fun m4 h4 lg4 fx4 => ih (i + 1) g2 _ m4 (by omega) (d_add h2 (by decide) (by omega)) (by omega) (by omega) h4 ((e.trans eO).trans p1) ?_)) hd
              have fx2 : FXl m1 m2 := fun k a b => hf2 k (by omega)
              refine ⟨((fx1.tr fx2).tr fx3).tr fx4, L3 ++ [v], lg4 (by omega), by rw [List.length_append]; show L3.length + 1 + n ≤ L.length + g2; omega, fun W hW => ?_⟩
              rw [sy1 W hW, sY_O a4, if_pos hk, fl_top1 hW, sy3 (K n1 :: W) trivial, sY_strong g400 hk, hv]
            · exact v_X2_product_43_67 (bad _ g h3 (hr3.z z3) ((e.trans eO).trans (no3 (hr3.z z3))))
      have h37 : (K n1 = 42 ∨ K n1 = 47) → j_X2_product_43_37 (d + 1) x1 x2 m1 Q := fun q => v_X2_product_43_37 (Wp.deep (k_kind hK h1 (fun r hr => ⟨fun q2 => body q 3 (by unfold opc; rw [if_neg (by omega), if_neg (by omega), if_neg (by omega)]), fun q2 => body q 2 (by unfold opc; rw [if_neg (by omega), if_neg (by omega), if_pos (by omega)])⟩)) hd)
      exact v_X2_product_43_12 ⟨fun q => by exfalso; omega, fun _ => Wp.deep (k_kind hK h1 (fun r hr => ⟨fun q => h37 (by omega), fun q => Wp.deep (k_kind hK h1 (fun r' hr' => ⟨fun q' => fin (by omega) (by omega), fun q' => h37 (by omega)⟩)) hd⟩)) hd⟩
  refine v_X2_product_43 (hU n m x1 L _ h hL hlen hx (fun r m1 g h1 hr ok no => ⟨fun z => ?_, fun z => bad _ g h1 (hr.z z) (no (hr.z z))⟩))
  have z := hr.nz z
  obtain ⟨g1, g2⟩ := g
  have z : g1 = 0 := z
  subst z
  obtain ⟨p1, p2, fx, L1, lg1, ln1, sy1⟩ := ok rfl
  have p2 : n < g2 := p2
  exact loop 401 0 g2 _ m1 (by omega) (by decide) (by omega) p2 h1 p1 ⟨fx, L1, lg1, ln1, fun W _ => sy1 W trivial⟩
theorem kk_sum {o d : Nat} (hK : KM K mb) (hd : 1 ≤ d) (hU : xP K V mb o d) : xSm K V mb o (d + 1) := by
  intro n m x1 L Q h hL hlen hx hQ
  have bad : ∀ (m' : dM) (g : gR), GO K mb m' g → g.1 ≠ 0 → gX K o o false n = g → Q 0 m' := fun m' g h' hc e => hQ 0 m' (by rw [e]; exact h') (by rw [e]; exact ⟨fun z => absurd z hc, fun _ => rfl⟩) (fun z => by rw [e] at z; exact absurd z hc)
  have loop : ∀ (f i n1 : Nat) (x2 : Int32) (m1 : dM), 401 - n1 ≤ f → x2.toInt = i → 2 * i ≤ n1 → (K n1 ≠ 42 ∧ K n1 ≠ 47) → n < n1 → GO K mb m1 (0, n1) → gX K o o false n = gX K o o true n1 → PT K V tO o n n1 L m m1 → j_X2_sum_43_12 (d + 1) x1 x2 m1 Q := by
    intro f
    induction f with
    | zero => intro i n1 x2 m1 hf h2 hi hn hnn h1 e pt; have := h1.at.2.2.1; omega
    | succ f ih =>
      intro i n1 x2 m1 hf h2 hi hn hnn h1 e pt
      obtain ⟨a2, a3, a4, a5⟩ := h1.at
      have eO := gX_O (K := K) (b := o) (d := o) a4
      have fin : K n1 ≠ 43 → K n1 ≠ 45 → j_X2_sum_43_83 (d + 1) m1 Q := fun q1 q2 => by
        rw [if_neg (by omega), if_neg (Nat.lt_irrefl o)] at eO
        have e2 := e.trans eO
        exact v_X2_sum_43_83 (hQ 1 m1 (by rw [e2]; exact h1) (by rw [e2]; exact ⟨fun _ => rfl, fun z => absurd rfl z⟩) (fun _ => by rw [e2]; exact pt))
      obtain ⟨fx1, L1, lg1, ln1, sy1⟩ := pt
      have body : (K n1 = 43 ∨ K n1 = 45) → ∀ v : Int32, v = opc (K n1) → c_X2_step_43 d m1 (fun r2 m2 => ((r2.toInt = 0 → j_X2_sum_43_67 (d + 1) m2 Q) ∧ (r2.toInt ≠ 0 → c_X2_product_43 d x1 m2 (fun r3 m3 => ((r3.toInt ≠ 0 → c_X4_put_29 d v m3 (fun m4 => j_X2_sum_43_12 (d + 1) x1 (x2 + (1 : Int32)) m4 Q)) ∧ (r3.toInt = 0 → j_X2_sum_43_67 (d + 1) m3 Q)))))) := fun hk v hv => by
        rw [if_pos (by omega)] at eO
        refine Wp.deep (kk_step h1 (by omega) (fun r2 m2 h2' hr2 hf2 => ⟨fun z => ?_, fun z => ?_⟩)) hd
        · have z := hr2.z z
          unfold gst at z h2'
          by_cases q : 400 ≤ n1
          · rw [if_pos q] at eO h2'
            exact v_X2_sum_43_67 (bad _ (2, n1) h2' (by first | decide | exact Nat.succ_ne_zero _) (e.trans eO))
          · rw [if_neg q] at z; exact absurd rfl z
        · have z := hr2.nz z
          unfold gst at z h2'
          by_cases q : 400 ≤ n1
          · rw [if_pos q] at z; exact absurd z (by first | decide | exact Nat.succ_ne_zero _)
          · rw [if_neg q] at eO h2'
            refine hU (n1 + 1) m2 x1 L1 _ h2' (lg1.of (hf2 29 (by decide)) (hf2 30 (by decide))) (by omega) hx (fun r3 m3 g h3 hr3 ok3 no3 => ⟨fun z3 => ?_, fun z3 => ?_⟩)
            · have z3 := hr3.nz z3
              obtain ⟨g1, g2⟩ := g
              have z3 : g1 = 0 := z3
              subst z3
              obtain ⟨p1, p2, p3, p4, fx3, L3, lg3, ln3, sy3⟩ := ok3 rfl
              have p2 : n1 + 1 < g2 := p2
              have p3 : K g2 ≠ 42 := p3
              have p4 : K g2 ≠ 47 := p4
              have ln3 : L3.length + (n1 + 1) ≤ L1.length + g2 := ln3
              have sy3 : ∀ W : List Int, tS W → sY K V o false (n1 + 1) W L1 = sY K V o true g2 W L3 := sy3
              have g400 := h3.at.2.2.1
              refine Wp.deep (kk_put h3 lg3 (fun m4 h4 lg4 fx4 => ih (i + 1) g2 _ m4 (by omega) (d_add h2 (by decide) (by omega)) (by omega) ⟨p3, p4⟩ (by omega) h4 ((e.trans eO).trans p1) ?_)) hd
              have fx2 : FXl m1 m2 := fun k a b => hf2 k (by omega)
              refine ⟨((fx1.tr fx2).tr fx3).tr fx4, L3 ++ [v], lg4 (by omega), by rw [List.length_append]; show L3.length + 1 + n ≤ L.length + g2; omega, fun W hW => ?_⟩
              have tw : tS (K n1 :: W) := by
                show (if K n1 = 40 then 0 else if K n1 = 43 ∨ K n1 = 45 then 1 else 2) ≤ 1
                rw [if_neg (by omega), if_pos hk]
                exact Nat.le_refl _
              rw [sy1 W hW, sY_O a4, if_neg (by omega), if_pos hk, fl_top0 hW, sy3 (K n1 :: W) tw, sY_weak g400 hk ⟨p3, p4⟩, hv]
            · exact v_X2_sum_43_67 (bad _ g h3 (hr3.z z3) ((e.trans eO).trans (no3 (hr3.z z3))))
      have h37 : (K n1 = 43 ∨ K n1 = 45) → j_X2_sum_43_37 (d + 1) x1 x2 m1 Q := fun q => v_X2_sum_43_37 (Wp.deep (k_kind hK h1 (fun r hr => ⟨fun q2 => body q 1 (by unfold opc; rw [if_neg (by omega), if_pos (by omega)]), fun q2 => body q 0 (by unfold opc; rw [if_pos (by omega)])⟩)) hd)
      exact v_X2_sum_43_12 ⟨fun q => by exfalso; omega, fun _ => Wp.deep (k_kind hK h1 (fun r hr => ⟨fun q => h37 (by omega), fun q => Wp.deep (k_kind hK h1 (fun r' hr' => ⟨fun q' => fin (by omega) (by omega), fun q' => h37 (by omega)⟩)) hd⟩)) hd⟩
  refine v_X2_sum_43 (hU n m x1 L _ h hL hlen hx (fun r m1 g h1 hr ok no => ⟨fun z => ?_, fun z => bad _ g h1 (hr.z z) (no (hr.z z))⟩))
  have z := hr.nz z
  obtain ⟨g1, g2⟩ := g
  have z : g1 = 0 := z
  subst z
  obtain ⟨p1, p2, p3, p4, fx, L1, lg1, ln1, sy1⟩ := ok rfl
  have p2 : n < g2 := p2
  exact loop 401 0 g2 _ m1 (by omega) (by decide) (by omega) ⟨p3, p4⟩ p2 h1 p1 ⟨fx, L1, lg1, ln1, fun W hW => sy1 W (by show rkW W ≤ 1; have : rkW W = 0 := hW; omega)⟩
theorem kk_sums (hVM : VM K V mb) : ∀ (e o : Nat), o + e = 6 → xSm K V mb o (3 * e + 8) := by
  have hK : KM K mb := fun i a b => (hVM i a b).1
  intro e
  induction e with
  | zero => intro o ho; exact kk_sum hK (by omega) (kk_product hK (by omega) (kk_unit (d := 5) hVM (by omega) (by omega) (fun q => by exfalso; omega)))
  | succ e ih =>
    intro o ho
    have hS := ih (o + 1) (by omega)
    have := kk_sum hK (by omega) (kk_product hK (by omega) (kk_unit (o := o) (d := 3 * e + 8) hVM (by omega) (by omega) (fun _ => hS)))
    rw [show 3 * (e + 1) + 8 = 3 * e + 8 + 1 + 1 + 1 by omega]
    exact this
/-- an expression puts its codes -/
theorem kk_expr {n : Nat} {m : dM} {L : lC} {Q : Int32 → dM → Prop} (hVM : VM K V mb) (h : GO K mb m (0, n)) (hL : LG m L) (hlen : L.length ≤ 6 + n) (hQ : ∀ (r : Int32) (m' : dM), GO K mb m' (gE K n) → RT r (gE K n) → ((gE K n).1 = 0 → FXl m m' ∧ LG m' (L ++ cE K V n) ∧ (L ++ cE K V n).length ≤ 6 + (gE K n).2 ∧ n < (gE K n).2 + 1) → Q r m') : c_X2_sum_43 26 (0 : Int32) m Q := by
  have h4 := h.at.2.2.1
  have hok := gX_ok (K := K) (b := 0) _ 0 false n rfl h4
  have hnp := gX_nop (K := K) (b := 0) _ 0 false n rfl h4
  refine kk_sums hVM 6 0 rfl n m _ L Q h hL hlen (by decide) (fun r m' h' hr pt => hQ r m' h' hr (fun z => ?_))
  have z' : (gX K 0 0 false n).1 = 0 := z
  obtain ⟨fx, L1, lg1, ln1, sy1⟩ := pt z'
  have np := hnp z'
  have e := sy1 [] rfl
  rw [cE_pre, sY_O hok.1.2, if_neg (by omega), if_neg (by omega), if_neg (fun q => by omega)] at e
  have e : L ++ cE K V n = L1 := e
  have b1' := hok.1.1
  have b1' : n ≤ (gE K n).2 := b1'
  have ln1 : L1.length + n ≤ L.length + (gE K n).2 := ln1
  rw [e]
  exact ⟨fx, lg1, by omega, by omega⟩
end CSC
end
section
/-! THE CLASS's laws, as told -/
section LAP
variable (K : Nat → Int) (V : Nat → Int64)
/-- a law's pieces, from behind its sign of setting -/
def lIf : Nat → Nat → List lC
  | 0, n => [cE K V n]
  | r + 1, n => if K n = 10 then cE K V (n + 1) :: cE K V ((gE K (n + 1)).2 + 1) :: cE K V ((gE K ((gE K (n + 1)).2 + 1)).2 + 1) :: lIf r ((gE K ((gE K ((gE K (n + 1)).2 + 1)).2 + 1)).2 + 1) else [cE K V n]
def lawP (n : Nat) : List lC := lIf K V 4 (n + 2)
end LAP
def lDf (p : List lC) : lD := ((p.length - 1) / 3, fun i => p.getD i [])
/-- rows of a law under way -/
def PRo (m : dM) (a k : Nat) (p : List lC) : Prop := (m.1 36 k).toInt = (p.length : Int) ∧ p.length ≤ 13 ∧ ∀ i : Nat, i ≤ p.length → (m.1 (32 + k) i).toInt = ((a + (p.take i).flatten.length : Nat) : Int)
/-- the other laws -/
def FKl (k : Nat) (m m' : dM) : Prop := ∀ j : Nat, j < 4 → j ≠ k → m'.1 (32 + j) = m.1 (32 + j) ∧ m'.1 36 j = m.1 36 j
theorem FKl.rf (k : Nat) (m : dM) : FKl k m m := fun _ _ _ => ⟨rfl, rfl⟩
theorem FKl.tr {k : Nat} {a b c : dM} (h : FKl k a b) (h' : FKl k b c) : FKl k a c := fun j p q => ⟨(h' j p q).1.trans (h j p q).1, (h' j p q).2.trans (h j p q).2⟩
theorem FXl.fk {k : Nat} {a b : dM} (h : FXl a b) : FKl k a b := fun j p q => ⟨h _ (by omega) (by omega), by rw [h 36 (by omega) (by omega)]⟩
section CLW
variable {K : Nat → Int} {V : Nat → Int64} {mb : dM}
theorem PRo.of {m m' : dM} {a k : Nat} {p : List lC} (h : PRo m a k p) (e : ∀ c : Nat, 31 < c → c ≤ 36 → m'.1 c = m.1 c) (hk : k < 4) : PRo m' a k p := by
  unfold PRo
  rw [e 36 (by omega) (by omega), e (32 + k) (by omega) (by omega)]
  exact h
theorem take_app {p : List lC} {c : lC} {i : Nat} (h : i ≤ p.length) : (p ++ [c]).take i = p.take i := by
  rw [List.take_append_of_le_length h]
theorem kk_begin {x1 : Int32} {k n : Nat} {m : dM} {L : lC} {Q : dM → Prop} (h : GO K mb m (0, n)) (hx : x1.toInt = (k : Int)) (hk : k < 4) (hL : LG m L) (hQ : ∀ m' : dM, GO K mb m' (0, n) → LG m' L → PRo m' L.length k [] → FKl k m m' → Q m') : c_X4_begin_29 1 x1 m Q := by
  have hGL := h.2.1
  have ec := d_cn hx
  have h36 : GO K mb (dSet m 36 k (0 : Int32)) (0, n) := h.law (by decide) ⟨by rw [dSet_k (by decide)]; exact hGL.1, fun j => by
    rw [dSet_e]
    split
    · decide
    · exact hGL.2 j⟩
  have go : ∀ c : Nat, c = 32 + k → Q (dSet (dSet m 36 k (0 : Int32)) c 0 (m.1 29 1)) := fun c hc => by
    subst hc
    refine hQ _ (h36.law (by omega) ?_) (hL.of (by rw [dSet_k (by omega), dSet_k (by decide)]) (by rw [dSet_k (by omega), dSet_k (by decide)])) ⟨?_, Nat.zero_le _, fun i hi => ?_⟩ (fun j hj hne => ⟨by rw [dSet_k (by omega), dSet_k (by omega)], by rw [dSet_k (by omega), dSet_j hne]⟩)
    · have := h36.2.1
      unfold GL
      rw [dSet_k (show 29 ≠ 32 + k by omega), dSet_k (show 36 ≠ 32 + k by omega)]
      exact this
    · rw [dSet_k (by omega), dSet_s]; rfl
    · have : i = 0 := by have : i ≤ 0 := hi; omega
      subst this
      rw [dSet_s]
      exact hL.1
  refine v_X4_begin_29 ?_
  rw [ec]
  exact ⟨by omega, by omega, fun q => go 32 (by omega), fun q => go 33 (by omega), fun q => go 34 (by omega), fun q => go 35 (by omega)⟩
theorem kk_piece {x1 : Int32} {k n a : Nat} {p : List lC} {c : lC} {L : lC} {m : dM} {Q : dM → Prop} (h : GO K mb m (0, n)) (hx : x1.toInt = (k : Int)) (hk : k < 4) (hL : LG m L) (hP : PRo m a k p) (hlen : L.length = a + (p ++ [c]).flatten.length) (hp : p.length < 13) (hQ : ∀ m' : dM, GO K mb m' (0, n) → LG m' L → PRo m' a k (p ++ [c]) → FKl k m m' → Q m') : c_X4_endPiece_29 1 x1 m Q := by
  have hGL := h.2.1
  have ec := d_cn hx
  obtain ⟨p1, p2, p3⟩ := hP
  have f1 := d_inc p1 (by omega)
  have f1' := d_cn f1
  have h36 : GO K mb (dSet m 36 k (m.1 36 k + 1)) (0, n) := h.law (by decide) ⟨by rw [dSet_k (by decide)]; exact hGL.1, fun j => by
    rw [dSet_e]
    split
    · omega
    · exact hGL.2 j⟩
  have go : ∀ b : Nat, b = 32 + k → j_X4_endPiece_29_38 1 (dSet (dSet m 36 k (m.1 36 k + 1)) b (p.length + 1) (m.1 29 1)) Q := fun b hb => by
    subst hb
    refine v_X4_endPiece_29_38 (hQ _ (h36.law (by omega) ?_) (hL.of (by rw [dSet_k (by omega), dSet_k (by decide)]) (by rw [dSet_k (by omega), dSet_k (by decide)])) ⟨?_, ?_, fun i hi => ?_⟩ (fun j hj hne => ⟨by rw [dSet_k (by omega), dSet_k (by omega)], by rw [dSet_k (by omega), dSet_j hne]⟩))
    · have := h36.2.1
      unfold GL
      rw [dSet_k (show 29 ≠ 32 + k by omega), dSet_k (show 36 ≠ 32 + k by omega)]
      exact this
    · rw [dSet_k (by omega), dSet_s, List.length_append]; exact f1
    · rw [List.length_append]; show p.length + 1 ≤ 13; omega
    · rw [List.length_append] at hi
      have hi : i ≤ p.length + 1 := hi
      by_cases e : i = p.length + 1
      · subst e
        rw [dSet_s, List.take_of_length_le (by rw [List.length_append]; exact Nat.le_refl _), ← hlen]
        exact hL.1
      · rw [dSet_j e, dSet_k (by omega), take_app (by omega)]
        exact p3 i (by omega)
  have b14 : 0 ≤ (m.1 36 k + 1).toInt ∧ (m.1 36 k + 1).toInt < 14 := by omega
  refine v_X4_endPiece_29 ?_
  rw [ec, f1']
  exact ⟨by omega, fun q => by exfalso; omega, fun q => ⟨by omega, by omega, by omega, fun q => ⟨by omega, b14, go 32 (by omega)⟩, fun q => ⟨by omega, b14, go 33 (by omega)⟩, fun q => ⟨by omega, b14, go 34 (by omega)⟩, fun q => ⟨by omega, b14, go 35 (by omega)⟩⟩⟩
/-- a piece and what must follow it -/
theorem kk_exprPiece {x1 x2 : Int32} {e : Int} {k n a : Nat} {p : List lC} {L : lC} {m : dM} {Q : Int32 → dM → Prop} (hVM : VM K V mb) (h : GO K mb m (0, n)) (hx : x1.toInt = (k : Int)) (hk : k < 4) (h2 : x2.toInt = e) (he : e ≠ 24 ∧ e ≠ 25) (hL : LG m L) (hP : PRo m a k p) (hlen : L.length = a + p.flatten.length) (hL6 : L.length ≤ 6 + n) (hp : p.length < 13) (hQ : ∀ (r : Int32) (m' : dM), GO K mb m' (rb (gE K n) (gnd K e)) → RT r (rb (gE K n) (gnd K e)) → ((rb (gE K n) (gnd K e)).1 = 0 → LG m' (L ++ cE K V n) ∧ PRo m' a k (p ++ [cE K V n]) ∧ FKl k m m' ∧ (L ++ cE K V n).length = a + (p ++ [cE K V n]).flatten.length ∧ (L ++ cE K V n).length ≤ 6 + (rb (gE K n) (gnd K e)).2) → Q r m') (Q0 : dM → Prop) (hQ0 : ∀ m' : dM, GO K mb m' (rb (gE K n) (gnd K e)) → (rb (gE K n) (gnd K e)).1 ≠ 0 → Q0 m') : c_X2_sum_43 26 (0 : Int32) m (fun r1 m1 => (r1.toInt = 0 → Q0 m1) ∧ (r1.toInt ≠ 0 → c_X2_endPiece_43 26 x1 x2 m1 Q)) := by
  have hK : KM K mb := fun i a b => (hVM i a b).1
  refine kk_expr hVM h hL hL6 (fun r1 m1 h1 hr1 pt1 => ⟨fun z => ?_, fun z => ?_⟩)
  · have z := hr1.z z
    refine hQ0 m1 ?_ ?_
    · rw [rb_f z]; exact h1
    · rw [rb_f z]; exact z
  · have z := hr1.nz z
    obtain ⟨fx, lg, ll, lt'⟩ := pt1 z
    rw [rb_k z] at hQ
    have fl : (L ++ cE K V n).length = a + (p ++ [cE K V n]).flatten.length := by
      rw [List.length_append, List.flatten_append, List.length_append, hlen]
      simp
      omega
    generalize hg : gE K n = g at *
    obtain ⟨g1, g2⟩ := g
    have z : g1 = 0 := z
    subst z
    refine v_X2_endPiece_43 (Wp.deep (kk_piece (c := cE K V n) h1 hx hk lg (hP.of (fun c p q => fx c p q) hk) fl hp (fun m2 h2' lg2 pr2 fk2 => Wp.deep (kk_need hK h2' h2 he (fun r3 m3 h3 hr3 hf3 => ⟨hr3.b, hQ r3 m3 h3 hr3 (fun z3 => ?_)⟩)) (Nat.le_of_ble_eq_true rfl))) (Nat.le_of_ble_eq_true rfl))
    · obtain ⟨k1, k2, k3⟩ := gnd_z rfl z3
      have e3 : FXl m2 m3 := fun c p q => hf3 c (by omega)
      refine ⟨lg2.of (hf3 29 (by decide)) (hf3 30 (by decide)), pr2.of (fun c p q => hf3 c (by omega)) hk, (fx.fk.tr fk2).tr e3.fk, fl, ?_⟩
      have ll : (L ++ cE K V n).length ≤ 6 + g2 := ll
      rw [k1]
      show (L ++ cE K V n).length ≤ 6 + (g2 + 1)
      omega
end CLW
end
section
/-! THE CLASS's laws, as told, 2 -/
section LPO
variable {K : Nat → Int} {V : Nat → Int64}
theorem gEnd_z {e : Int} {n : Nat} (h : (rb (gE K n) (gnd K e)).1 = 0) : (gE K n).1 = 0 ∧ rb (gE K n) (gnd K e) = (0, (gE K n).2 + 1) ∧ (gE K n).2 < 400 := by
  obtain ⟨h1, h2⟩ := rb_z h
  rw [h2] at h ⊢
  obtain ⟨k1, k2, k3⟩ := gnd_z rfl h
  exact ⟨h1, k1, k3⟩
theorem gIf_0 {n : Nat} : gIf K 0 n = if K n = 10 then (2, n) else rb (gE K n) (gnd K 59) := rfl
theorem gIf_s {r n : Nat} : gIf K (r + 1) n = if K n = 10 then rb (gst n) (fun n => rb (rb (gE K n) (gnd K 60)) (fun n => rb (rb (gE K n) (gnd K 11)) (fun n => rb (rb (gE K n) (gnd K 12)) (gIf K r)))) else rb (gE K n) (gnd K 59) := by
  show (if K n = 10 then rb (gst n) (fun n => rb (gE K n) (fun n => rb (gnd K 60 n) (fun n => rb (gE K n) (fun n => rb (gnd K 11 n) (fun n => rb (gE K n) (fun n => rb (gnd K 12 n) (gIf K r))))))) else rb (gE K n) (gnd K 59)) = _
  simp only [rb_as]
theorem lIf_n {r n : Nat} (h : K n ≠ 10) : lIf K V r n = [cE K V n] := by
  cases r with
  | zero => rfl
  | succ r => show (if K n = 10 then _ else [cE K V n]) = _; rw [if_neg h]
theorem lIf_y {r n : Nat} (h : K n = 10) : lIf K V (r + 1) n = cE K V (n + 1) :: cE K V ((gE K (n + 1)).2 + 1) :: cE K V ((gE K ((gE K (n + 1)).2 + 1)).2 + 1) :: lIf K V r ((gE K ((gE K ((gE K (n + 1)).2 + 1)).2 + 1)).2 + 1) := by
  show (if K n = 10 then _ else [cE K V n]) = _
  rw [if_pos h]
/-- a law that is right: its pieces are right, and of the right number -/
theorem lIf_ok (hV : ∀ n : Nat, K n = 23 → 0 ≤ (V n).toInt32.toInt ∧ (V n).toInt32.toInt ≤ 9999) : ∀ (r n : Nat), n ≤ 400 → (gIf K r n).1 = 0 → (∃ q : Nat, q ≤ r ∧ (lIf K V r n).length = 3 * q + 1) ∧ ∀ (i : Nat) (c : lC), (lIf K V r n)[i]? = some c → wfL c 0
  | 0, n, hn, h => by
    rw [gIf_0] at h
    by_cases q : K n = 10
    · rw [if_pos q] at h; exact absurd h (Nat.succ_ne_zero 1)
    · rw [if_neg q] at h
      refine ⟨⟨0, Nat.le_refl _, rfl⟩, fun i c hc => ?_⟩
      match i, hc with
      | 0, hc =>
        have hc : some (cE K V n) = some c := hc
        cases hc
        exact cE_wf hV hn (gEnd_z h).1
      | i + 1, hc => cases hc
  | r + 1, n, hn, h => by
    rw [gIf_s] at h
    by_cases q : K n = 10
    · rw [if_pos q] at h
      obtain ⟨a1, a2⟩ := rb_z h
      rw [a2] at h
      obtain ⟨s1, s2⟩ := gst_z a1
      rw [s1] at h
      have h : (rb (rb (gE K (n + 1)) (gnd K 60)) (fun n => rb (rb (gE K n) (gnd K 11)) (fun n => rb (rb (gE K n) (gnd K 12)) (gIf K r)))).1 = 0 := h
      obtain ⟨b1', b2'⟩ := rb_z h
      rw [b2'] at h
      obtain ⟨c1, c2, c3⟩ := gEnd_z b1'
      rw [c2] at h
      have h : (rb (rb (gE K ((gE K (n + 1)).2 + 1)) (gnd K 11)) (fun n => rb (rb (gE K n) (gnd K 12)) (gIf K r))).1 = 0 := h
      obtain ⟨d1, d2⟩ := rb_z h
      rw [d2] at h
      obtain ⟨e1, e2, e3⟩ := gEnd_z d1
      rw [e2] at h
      have h : (rb (rb (gE K ((gE K ((gE K (n + 1)).2 + 1)).2 + 1)) (gnd K 12)) (gIf K r)).1 = 0 := h
      obtain ⟨f1, f2⟩ := rb_z h
      rw [f2] at h
      obtain ⟨g1, g2, g3⟩ := gEnd_z f1
      rw [g2] at h
      have h : (gIf K r ((gE K ((gE K ((gE K (n + 1)).2 + 1)).2 + 1)).2 + 1)).1 = 0 := h
      obtain ⟨⟨q', q1, q2⟩, w⟩ := lIf_ok hV r _ (by omega) h
      rw [lIf_y q]
      refine ⟨⟨q' + 1, by omega, by rw [List.length_cons, List.length_cons, List.length_cons, q2]; omega⟩, fun i c hc => ?_⟩
      match i, hc with
      | 0, hc =>
        have hc : some (cE K V (n + 1)) = some c := hc
        cases hc
        exact cE_wf hV (by omega) c1
      | 1, hc =>
        have hc : some (cE K V ((gE K (n + 1)).2 + 1)) = some c := hc
        cases hc
        exact cE_wf hV (by omega) e1
      | 2, hc =>
        have hc : some (cE K V ((gE K ((gE K (n + 1)).2 + 1)).2 + 1)) = some c := hc
        cases hc
        exact cE_wf hV (by omega) g1
      | i + 3, hc => exact w i c hc
    · rw [if_neg q] at h
      rw [lIf_n q]
      refine ⟨⟨0, Nat.zero_le _, rfl⟩, fun i c hc => ?_⟩
      match i, hc with
      | 0, hc =>
        have hc : some (cE K V n) = some c := hc
        cases hc
        exact cE_wf hV hn (gEnd_z h).1
      | i + 1, hc => cases hc
end LPO
/-- how a law, from a piece on, came out -/
def LE (m0 : dM) (a k : Nat) (p : List lC) (L : lC) (g : gR) (ps : List lC) (m' : dM) : Prop := g.1 = 0 → LG m' (L ++ ps.flatten) ∧ PRo m' a k (p ++ ps) ∧ FKl k m0 m' ∧ (L ++ ps.flatten).length = a + (p ++ ps).flatten.length ∧ (L ++ ps.flatten).length ≤ 6 + g.2
section CLV
variable {K : Nat → Int} {V : Nat → Int64} {mb : dM}
theorem kk_ifs {x1 : Int32} {k a : Nat} {Q : Int32 → dM → Prop} (hVM : VM K V mb) (hx : x1.toInt = (k : Int)) (hk : k < 4) : ∀ (r i n : Nat) (x2 : Int32) (m : dM) (p : List lC) (L : lC), i + r = 4 → x2.toInt = i → GO K mb m (0, n) → LG m L → PRo m a k p → L.length = a + p.flatten.length → L.length ≤ 6 + n → p.length = 3 * i → (∀ (v : Int32) (m' : dM), GO K mb m' (gIf K r n) → LE m a k p L (gIf K r n) (lIf K V r n) m' → Q v m') → j_X2_checkLaw_43_28 27 x1 x2 m Q := by
  have hK : KM K mb := fun i a b => (hVM i a b).1
  have one : ∀ (p : List lC) (L c : lC), L ++ c = L ++ [c].flatten := fun p L c => by rw [List.flatten_cons, List.flatten_nil, List.append_nil]
  have l122 : ∀ (n : Nat) (m : dM) (p : List lC) (L : lC), GO K mb m (0, n) → LG m L → PRo m a k p → L.length = a + p.flatten.length → L.length ≤ 6 + n → p.length < 13 → (∀ (v : Int32) (m' : dM), GO K mb m' (rb (gE K n) (gnd K 59)) → LE m a k p L (rb (gE K n) (gnd K 59)) [cE K V n] m' → Q v m') → j_X2_checkLaw_43_122 27 x1 m Q := by
    intro n m p L h hL hP hl' h6 hp hQ
    refine v_X2_checkLaw_43_122 (kk_exprPiece (e := 59) hVM h hx hk (by decide) (by decide) hL hP hl' h6 hp (fun r m' h' hr pt => ⟨fun z => v_X2_checkLaw_43_144 (hQ _ _ h' (fun q => absurd q (hr.z z))), fun z => hQ _ _ h' (fun q => ?_)⟩) _ (fun m' h' z => v_X2_checkLaw_43_144 (hQ _ _ h' (fun q => absurd q z))))
    obtain ⟨p1, p2, p3, p4, p5⟩ := pt q
    rw [one p L (cE K V n)] at p1 p4 p5
    exact ⟨p1, p2, p3, p4, p5⟩
  have l114 : ∀ (m m' : dM) (p : List lC) (L : lC) (g : gR) (ps : List lC), GO K mb m' g → g.1 ≠ 0 → (∀ (v : Int32) (m' : dM), GO K mb m' g → LE m a k p L g ps m' → Q v m') → j_X2_checkLaw_43_114 27 m' Q := fun m m' p L g ps h z hQ => v_X2_checkLaw_43_114 (hQ _ _ h (fun q => absurd q z))
  intro r
  induction r with
  | zero =>
    intro i n x2 m p L hi h2 h hL hP hl' h6 hpl hQ
    refine v_X2_checkLaw_43_28 ⟨fun q => by exfalso; omega, fun _ => Wp.deep (k_kind hK h (fun v hv => ⟨fun q => l122 n m p L h hL hP hl' h6 (by omega) (fun v m' h' he => hQ v m' ?_ ?_), fun q => ⟨fun q4 => by exfalso; omega, fun q4 => Wp.deep (k_fail h (c := 2) (by decide) (fun m' h' => ⟨Or.inl rfl, hQ _ _ ?_ (fun z => ?_)⟩)) (Nat.le_of_ble_eq_true rfl)⟩⟩)) (Nat.le_of_ble_eq_true rfl)⟩
    · rw [gIf_0, if_neg (by omega)]; exact h'
    · rw [gIf_0, if_neg (by omega)]; exact he
    · rw [gIf_0, if_pos (by omega)]; exact h'
    · rw [gIf_0, if_pos (by omega)] at z; exact absurd z (Nat.succ_ne_zero 1)
  | succ r ih =>
    intro i n x2 m p L hi h2 h hL hP hl' h6 hpl hQ
    rw [gIf_s] at hQ
    refine v_X2_checkLaw_43_28 ⟨fun q => by exfalso; omega, fun _ => Wp.deep (k_kind hK h (fun v hv => ⟨fun q => l122 n m p L h hL hP hl' h6 (by omega) (fun v m' h' he => hQ v m' ?_ ?_), fun q => ⟨fun q4 => ?_, fun q4 => by exfalso; omega⟩⟩)) (Nat.le_of_ble_eq_true rfl)⟩
    · rw [if_neg (by omega)]; exact h'
    · rw [if_neg (by omega), lIf_n (by omega)]; exact he
    · have k10 : K n = 10 := by omega
      rw [if_pos k10, lIf_y k10] at hQ
      refine Wp.deep (kk_step h (by omega) (fun r2 m2 h2' hr2 hf2 => ⟨fun z => ?_, fun z => ?_⟩)) (Nat.le_of_ble_eq_true rfl)
      · rw [rb_f (hr2.z z)] at hQ
        exact l114 m m2 p L _ _ h2' (hr2.z z) hQ
      · have z := hr2.nz z
        obtain ⟨s1, s2⟩ := gst_z z
        rw [rb_k z, s1] at hQ
        rw [s1] at h2'
        have hQ : ∀ (v : Int32) (m' : dM), GO K mb m' (rb (rb (gE K (n + 1)) (gnd K 60)) (fun n => rb (rb (gE K n) (gnd K 11)) (fun n => rb (rb (gE K n) (gnd K 12)) (gIf K r)))) → LE m a k p L (rb (rb (gE K (n + 1)) (gnd K 60)) (fun n => rb (rb (gE K n) (gnd K 11)) (fun n => rb (rb (gE K n) (gnd K 12)) (gIf K r)))) _ m' → Q v m' := hQ
        have fx2 : FXl m m2 := fun c p q => hf2 c (by omega)
        refine kk_exprPiece (e := 60) hVM h2' hx hk (by decide) (by decide) (hL.of (hf2 29 (by decide)) (hf2 30 (by decide))) (hP.of (fun c p q => hf2 c (by omega)) hk) hl' (by omega) (by omega) (fun r3 m3 h3 hr3 pt3 => ⟨fun z => ?_, fun z => ?_⟩) _ (fun m3 h3 z3 => ?_)
        · rw [rb_f z3] at hQ
          exact l114 m m3 p L _ _ h3 z3 hQ
        · rw [rb_f (hr3.z z)] at hQ
          exact l114 m m3 p L _ _ h3 (hr3.z z) hQ
        · have z := hr3.nz z
          obtain ⟨lg3, pr3, fk3, ll3, l63⟩ := pt3 z
          obtain ⟨c1, c2, c3⟩ := gEnd_z z
          rw [rb_k z, c2] at hQ
          rw [c2] at h3 l63
          have l63 : (L ++ cE K V (n + 1)).length ≤ 6 + ((gE K (n + 1)).2 + 1) := l63
          have hQ : ∀ (v : Int32) (m' : dM), GO K mb m' (rb (rb (gE K ((gE K (n + 1)).2 + 1)) (gnd K 11)) (fun n => rb (rb (gE K n) (gnd K 12)) (gIf K r))) → LE m a k p L (rb (rb (gE K ((gE K (n + 1)).2 + 1)) (gnd K 11)) (fun n => rb (rb (gE K n) (gnd K 12)) (gIf K r))) _ m' → Q v m' := hQ
          refine kk_exprPiece (e := 11) hVM h3 hx hk (by decide) (by decide) lg3 pr3 ll3 l63 (by rw [List.length_append]; show p.length + 1 < 13; omega) (fun r5 m5 h5 hr5 pt5 => ⟨fun z => ?_, fun z => ?_⟩) _ (fun m5 h5 z5 => ?_)
          · rw [rb_f z5] at hQ
            exact l114 m m5 p L _ _ h5 z5 hQ
          · rw [rb_f (hr5.z z)] at hQ
            exact l114 m m5 p L _ _ h5 (hr5.z z) hQ
          · have z := hr5.nz z
            obtain ⟨lg5, pr5, fk5, ll5, l65⟩ := pt5 z
            obtain ⟨d1, d2, d3⟩ := gEnd_z z
            rw [rb_k z, d2] at hQ
            rw [d2] at h5 l65
            have l65 : (L ++ cE K V (n + 1) ++ cE K V ((gE K (n + 1)).2 + 1)).length ≤ 6 + ((gE K ((gE K (n + 1)).2 + 1)).2 + 1) := l65
            have hQ : ∀ (v : Int32) (m' : dM), GO K mb m' (rb (rb (gE K ((gE K ((gE K (n + 1)).2 + 1)).2 + 1)) (gnd K 12)) (gIf K r)) → LE m a k p L (rb (rb (gE K ((gE K ((gE K (n + 1)).2 + 1)).2 + 1)) (gnd K 12)) (gIf K r)) _ m' → Q v m' := hQ
            refine kk_exprPiece (e := 12) hVM h5 hx hk (by decide) (by decide) lg5 pr5 ll5 l65 (by rw [List.length_append, List.length_append]; show p.length + 1 + 1 < 13; omega) (fun r7 m7 h7 hr7 pt7 => ⟨fun z => ?_, fun z => ?_⟩) _ (fun m7 h7 z7 => ?_)
            · rw [rb_f z7] at hQ
              exact l114 m m7 p L _ _ h7 z7 hQ
            · have z := hr7.nz z
              obtain ⟨lg7, pr7, fk7, ll7, l67⟩ := pt7 z
              obtain ⟨e1, e2, e3⟩ := gEnd_z z
              rw [rb_k z, e2] at hQ
              rw [e2] at h7 l67
              have l67 : (L ++ cE K V (n + 1) ++ cE K V ((gE K (n + 1)).2 + 1) ++ cE K V ((gE K ((gE K (n + 1)).2 + 1)).2 + 1)).length ≤ 6 + ((gE K ((gE K ((gE K (n + 1)).2 + 1)).2 + 1)).2 + 1) := l67
              have hQ : ∀ (v : Int32) (m' : dM), GO K mb m' (gIf K r ((gE K ((gE K ((gE K (n + 1)).2 + 1)).2 + 1)).2 + 1)) → LE m a k p L (gIf K r ((gE K ((gE K ((gE K (n + 1)).2 + 1)).2 + 1)).2 + 1)) _ m' → Q v m' := hQ
              refine ih (i + 1) _ _ m7 _ _ (by omega) (d_add h2 (by decide) (by omega)) h7 lg7 pr7 ll7 l67 (by rw [List.length_append, List.length_append, List.length_append]; show p.length + 1 + 1 + 1 = 3 * (i + 1); omega) (fun v m' h' he => hQ v m' h' (fun zz => ?_))
              obtain ⟨x1', x2', x3', x4', x5'⟩ := he zz
              have eL : L ++ cE K V (n + 1) ++ cE K V ((gE K (n + 1)).2 + 1) ++ cE K V ((gE K ((gE K (n + 1)).2 + 1)).2 + 1) ++ (lIf K V r ((gE K ((gE K ((gE K (n + 1)).2 + 1)).2 + 1)).2 + 1)).flatten = L ++ (cE K V (n + 1) :: cE K V ((gE K (n + 1)).2 + 1) :: cE K V ((gE K ((gE K (n + 1)).2 + 1)).2 + 1) :: lIf K V r ((gE K ((gE K ((gE K (n + 1)).2 + 1)).2 + 1)).2 + 1)).flatten := by
                simp only [List.flatten_cons, List.append_assoc]
              have eP : p ++ [cE K V (n + 1)] ++ [cE K V ((gE K (n + 1)).2 + 1)] ++ [cE K V ((gE K ((gE K (n + 1)).2 + 1)).2 + 1)] ++ lIf K V r ((gE K ((gE K ((gE K (n + 1)).2 + 1)).2 + 1)).2 + 1) = p ++ (cE K V (n + 1) :: cE K V ((gE K (n + 1)).2 + 1) :: cE K V ((gE K ((gE K (n + 1)).2 + 1)).2 + 1) :: lIf K V r ((gE K ((gE K ((gE K (n + 1)).2 + 1)).2 + 1)).2 + 1)) := by
                simp only [List.append_assoc, List.cons_append, List.nil_append]
              rw [eL] at x1' x4' x5'
              rw [eP] at x2' x4'
              exact ⟨x1', x2', (((fx2.fk (k := k)).tr fk3).tr fk5).tr (fk7.tr x3'), x4', x5'⟩
            · rw [rb_f (hr7.z z)] at hQ
              exact l114 m m7 p L _ _ h7 (hr7.z z) hQ
theorem kk_law {x1 : Int32} {k n : Nat} {m : dM} {L : lC} {Q : Int32 → dM → Prop} (hVM : VM K V mb) (hx : x1.toInt = (k : Int)) (hk : k < 4) (h : GO K mb m (0, n)) (hkn : K n ≠ 24 ∧ K n ≠ 25) (hL : LG m L) (h6 : L.length ≤ 6 + n) (hQ : ∀ (v : Int32) (m' : dM), GO K mb m' (gLaw K n) → LE m L.length k [] L (gLaw K n) (lawP K V n) m' → Q v m') : c_X2_checkLaw_43 27 x1 m Q := by
  have hK : KM K mb := fun i a b => (hVM i a b).1
  unfold gLaw at hQ
  refine v_X2_checkLaw_43 (Wp.deep (kk_begin h hx hk hL (fun m1 h1 lg1 pr1 fk1 => Wp.deep (kk_step h1 hkn (fun r2 m2 h2 hr2 hf2 => ⟨fun z => ?_, fun z => ?_⟩)) (Nat.le_of_ble_eq_true rfl))) (Nat.le_of_ble_eq_true rfl))
  · rw [rb_f (hr2.z z)] at hQ
    exact v_X2_checkLaw_43_24 (hQ _ _ h2 (fun q => absurd q (hr2.z z)))
  · have z := hr2.nz z
    obtain ⟨s1, s2⟩ := gst_z z
    rw [rb_k z, s1] at hQ
    rw [s1] at h2
    have hQ : ∀ (v : Int32) (m' : dM), GO K mb m' (rb (gnd K 61 (n + 1)) (gIf K 4)) → LE m L.length k [] L (rb (gnd K 61 (n + 1)) (gIf K 4)) (lawP K V n) m' → Q v m' := hQ
    refine Wp.deep (kk_need hK h2 (k := 61) (by decide) (by decide) (fun r3 m3 h3 hr3 hf3 => ⟨fun z => ?_, fun z => ?_⟩)) (Nat.le_of_ble_eq_true rfl)
    · have z := hr3.nz z
      obtain ⟨k1, k2, k3⟩ := gnd_z rfl z
      rw [rb_k z, k1] at hQ
      rw [k1] at h3
      have hQ : ∀ (v : Int32) (m' : dM), GO K mb m' (gIf K 4 (n + 2)) → LE m L.length k [] L (gIf K 4 (n + 2)) (lIf K V 4 (n + 2)) m' → Q v m' := hQ
      have fx2 : FXl m1 m2 := fun c p q => hf2 c (by omega)
      have fx3 : FXl m2 m3 := fun c p q => hf3 c (by omega)
      refine kk_ifs (a := L.length) hVM hx hk 4 0 (n + 2) _ m3 [] L rfl (by decide) h3 ((lg1.of (hf2 29 (by decide)) (hf2 30 (by decide))).of (hf3 29 (by decide)) (hf3 30 (by decide))) ((pr1.of fx2 hk).of fx3 hk) rfl (by omega) rfl (fun v m' h' he => hQ v m' h' (fun zz => ?_))
      obtain ⟨x1', x2', x3', x4', x5'⟩ := he zz
      exact ⟨x1', x2', ((fk1.tr fx2.fk).tr fx3.fk).tr x3', x4', x5'⟩
    · rw [rb_f (hr3.z z)] at hQ
      exact v_X2_checkLaw_43_24 (hQ _ _ h3 (fun q => absurd q (hr3.z z)))
end CLV
end
section
/-! THE CLASS's grammar with its laws: all of a text -/
section CRX
variable {K : Nat → Int} {mb : dM}
theorem kk_row {a b : Nat} {x1 x2 : Int32} {n : Nat} {m : dM} {Q : dM → Prop} (hK : KM K mb) (h : GO K mb m (0, n)) (hk : K n ≠ 24 ∧ K n ≠ 25) (h1 : x1.toInt = a) (h2 : x2.toInt = b) (ha : a ≤ 3) (hb : b ≤ 3) (hQ : ∀ m' : dM, GO K mb m' (rb (gst n) (gsq K (List.replicate a 22 ++ (List.replicate b 23 ++ [59])))) → (∀ k : Nat, k ≠ 43 → m'.1 k = m.1 k) → Q m') : c_X2_checkRow_43 3 x1 x2 m Q := by
  generalize hR : rb (gst n) (gsq K (List.replicate a 22 ++ (List.replicate b 23 ++ [59]))) = R at hQ
  have l57 : ∀ (x3 : Int32) (m' : dM) (g : gR), GO K mb m' g → (∀ k : Nat, k ≠ 43 → m'.1 k = m.1 k) → RT x3 g → rb g (gsq K [59]) = R → j_X2_checkRow_43_57 3 x3 m' Q := by
    intro x3 m' g h' hF hr e
    refine v_X2_checkRow_43_57 ⟨fun z => v_X2_checkRow_43_68 (hQ _ ?_ hF), fun z => ?_⟩
    · rw [rb_f (hr.z z)] at e
      rw [← e]; exact h'
    · have z := hr.nz z
      rw [rb_k z] at e
      obtain ⟨g1, g2⟩ := g
      have z : g1 = 0 := z
      subst z
      refine kk_need hK h' (k := 59) (by decide) (by decide) (fun r m2 h2 hr2 hf2 => v_X2_checkRow_43_68 (hQ _ ?_ (fun k hk => (hf2 k hk).trans (hF k hk))))
      have e : rb (gnd K 59 g2) (fun n => (0, n)) = R := e
      by_cases q : (gnd K 59 g2).1 = 0
      · rw [rb_k q] at e
        rw [← e, ← q]; exact h2
      · rw [rb_f q] at e
        rw [← e]; exact h2
  have l34 : ∀ (f i : Nat) (x3 x4 : Int32) (m' : dM) (g : gR), i + f = b → x4.toInt = i → GO K mb m' g → (∀ k : Nat, k ≠ 43 → m'.1 k = m.1 k) → RT x3 g → rb g (gsq K (List.replicate f 23 ++ [59])) = R → j_X2_checkRow_43_34 3 x2 x3 x4 m' Q := by
    intro f
    induction f with
    | zero =>
      intro i x3 x4 m' g hi h4 h' hF hr e
      exact v_X2_checkRow_43_34 ⟨fun _ => l57 x3 m' g h' hF hr e, fun q => by exfalso; omega⟩
    | succ f ih =>
      intro i x3 x4 m' g hi h4 h' hF hr e
      refine v_X2_checkRow_43_34 ⟨fun q => by exfalso; omega, fun _ => ⟨fun z => l57 x3 m' g h' hF hr ?_, fun z => ?_⟩⟩
      · rw [rb_f (hr.z z)] at e ⊢
        exact e
      · have z := hr.nz z
        rw [rb_k z] at e
        obtain ⟨g1, g2⟩ := g
        have z : g1 = 0 := z
        subst z
        exact kk_need hK h' (k := 23) (by decide) (by decide) (fun r m2 h2 hr2 hf2 => ih (i + 1) r _ m2 (gnd K 23 g2) (by omega) (d_add h4 (by decide) (by omega)) h2 (fun k hk => (hf2 k hk).trans (hF k hk)) hr2 e)
  have l8 : ∀ (f i : Nat) (x3 x4 : Int32) (m' : dM) (g : gR), i + f = a → x4.toInt = i → GO K mb m' g → (∀ k : Nat, k ≠ 43 → m'.1 k = m.1 k) → RT x3 g → rb g (gsq K (List.replicate f 22 ++ (List.replicate b 23 ++ [59]))) = R → j_X2_checkRow_43_8 3 x1 x2 x3 x4 m' Q := by
    intro f
    induction f with
    | zero =>
      intro i x3 x4 m' g hi h4 h' hF hr e
      exact v_X2_checkRow_43_8 ⟨fun _ => v_X2_checkRow_43_31 (l34 b 0 x3 _ m' g (by omega) (by decide) h' hF hr e), fun q => by exfalso; omega⟩
    | succ f ih =>
      intro i x3 x4 m' g hi h4 h' hF hr e
      refine v_X2_checkRow_43_8 ⟨fun q => by exfalso; omega, fun _ => ⟨fun z => v_X2_checkRow_43_31 (l34 b 0 x3 _ m' g (by omega) (by decide) h' hF hr ?_), fun z => ?_⟩⟩
      · rw [rb_f (hr.z z)] at e ⊢
        exact e
      · have z := hr.nz z
        rw [rb_k z] at e
        obtain ⟨g1, g2⟩ := g
        have z : g1 = 0 := z
        subst z
        exact kk_need hK h' (k := 22) (by decide) (by decide) (fun r m2 h2 hr2 hf2 => ih (i + 1) r _ m2 (gnd K 22 g2) (by omega) (d_add h4 (by decide) (by omega)) h2 (fun k hk => (hf2 k hk).trans (hF k hk)) hr2 e)
  exact v_X2_checkRow_43 (Wp.deep (kk_step h hk (fun r m1 h1' hr hf1 => l8 a 0 r _ m1 (gst n) (by omega) (by decide) h1' hf1 hr hR)) (Nat.le_of_ble_eq_true rfl))
theorem kk_counted {a b c most : Nat} {x1 x2 x3 x4 : Int32} {n : Nat} {m : dM} {Q : dM → Prop} (hK : KM K mb) (h : GO K mb m (0, n)) (hk : K n ≠ 24 ∧ K n ≠ 25) (h1 : x1.toInt = ((c + 1 : Nat) : Int)) (h2 : x2.toInt = most) (h3 : x3.toInt = a) (h4 : x4.toInt = b) (ha : a ≤ 3) (hb : b ≤ 3) (hQ : ∀ m' : dM, GO K mb m' (if most ≤ c then (2, n) else rb (gst n) (gsq K (List.replicate a 22 ++ (List.replicate b 23 ++ [59])))) → (∀ k : Nat, k ≠ 43 → m'.1 k = m.1 k) → Q m') : c_X2_checkCounted_43 4 x1 x2 x3 x4 m Q := by
  refine v_X2_checkCounted_43 ⟨fun q => kk_row hK h hk h3 h4 ha hb (fun m' h' hf => v_X2_checkCounted_43_20 (hQ _ ?_ hf)), fun q => v_X2_checkCounted_43_20 (hQ _ ?_ (fun k hk => dSet_k hk))⟩
  · rw [if_neg (by omega)]; exact h'
  · rw [if_pos (by omega)]; exact h.set3 (by decide)
end CRX
section LTL
/-- codes from a on, in all that was put -/
def SGL (L : lC) (a : Nat) (p : lC) : Prop := a + p.length ≤ L.length ∧ ∀ j : Nat, j < p.length → L.getD (a + j) 0 = p.getD j 0
theorem SGL.app {L x : lC} {a : Nat} {p : lC} (h : SGL L a p) : SGL (L ++ x) a p := by
  refine ⟨by rw [List.length_append]; have := h.1; omega, fun j hj => ?_⟩
  rw [List.getD_eq_getElem?_getD, List.getElem?_append_left (by have := h.1; omega), ← List.getD_eq_getElem?_getD]
  exact h.2 j hj
def LDL (m : dM) (L : lC) (k : Nat) (D : lD) : Prop := (m.1 36 k).toInt = ((3 * D.1 + 1 : Nat) : Int) ∧ lOk D ∧ ∀ i : Nat, i ≤ 3 * D.1 → ∃ a : Nat, (m.1 (32 + k) i).toInt = (a : Int) ∧ (m.1 (32 + k) (i + 1)).toInt = ((a + (D.2 i).length : Nat) : Int) ∧ SGL L a (D.2 i)
theorem LDL.of {m m' : dM} {L x : lC} {k : Nat} {D : lD} (h : LDL m L k D) (e : m'.1 (32 + k) = m.1 (32 + k)) (e' : m'.1 36 k = m.1 36 k) : LDL m' (L ++ x) k D := by
  obtain ⟨a, b, c⟩ := h
  refine ⟨by rw [e']; exact a, b, fun i hi => ?_⟩
  obtain ⟨y, y1, y2, y3⟩ := c i hi
  exact ⟨y, by rw [e]; exact y1, by rw [e]; exact y2, y3.app⟩
theorem flat_at {p : List lC} {i : Nat} (h : i < p.length) : p.flatten = (p.take i).flatten ++ (p.getD i [] ++ (p.drop (i + 1)).flatten) := by
  have e : p = p.take i ++ (p.getD i [] :: p.drop (i + 1)) := by
    rw [List.getD_eq_getElem?_getD, List.getElem?_eq_getElem h, Option.getD_some, ← List.drop_eq_getElem_cons h, List.take_append_drop]
  have := congrArg List.flatten e
  rw [List.flatten_append, List.flatten_cons] at this
  exact this
theorem take_at {p : List lC} {i : Nat} (h : i < p.length) : (p.take (i + 1)).flatten.length = (p.take i).flatten.length + (p.getD i []).length := by
  rw [List.take_add_one, List.flatten_append, List.length_append, List.getD_eq_getElem?_getD, List.getElem?_eq_getElem h]
  simp
/-- a law that has come out right lies as it must -/
theorem LE.ldl {m0 m' : dM} {k q : Nat} {L : lC} {g : gR} {p : List lC} (h : LE m0 L.length k [] L g p m') (z : g.1 = 0) (hq : q ≤ 4) (hp : p.length = 3 * q + 1) (hw : ∀ (i : Nat) (c : lC), p[i]? = some c → wfL c 0) : LDL m' (L ++ p.flatten) k (lDf p) := by
  obtain ⟨h1, ⟨h2, h3, h4⟩, h5, h6, h7⟩ := h z
  have e0 : (lDf p).1 = q := by show (p.length - 1) / 3 = q; omega
  unfold LDL
  rw [e0]
  refine ⟨by rw [h2]; show ((p.length : Nat) : Int) = _; rw [hp], ⟨by rw [e0]; exact hq, fun i hi => ?_⟩, fun i hi => ?_⟩
  · rw [e0] at hi
    have hi' : i < p.length := by omega
    refine hw i _ ?_
    show p[i]? = some (p.getD i [])
    rw [List.getD_eq_getElem?_getD, List.getElem?_eq_getElem hi']
    rfl
  · have hi' : i < p.length := by omega
    have f := flat_at hi'
    refine ⟨L.length + (p.take i).flatten.length, h4 i (by show i ≤ p.length; omega), ?_, ?_, fun j hj => ?_⟩
    · have := h4 (i + 1) (by show i + 1 ≤ p.length; omega)
      rw [this]
      show ((L.length + (p.take (i + 1)).flatten.length : Nat) : Int) = _
      rw [take_at hi']
      show ((L.length + ((p.take i).flatten.length + (p.getD i []).length) : Nat) : Int) = ((L.length + (p.take i).flatten.length + (p.getD i []).length : Nat) : Int)
      omega
    · show L.length + (p.take i).flatten.length + (p.getD i []).length ≤ _
      rw [List.length_append, f, List.length_append, List.length_append]
      omega
    · have hj : j < (p.getD i []).length := hj
      show (L ++ p.flatten).getD (L.length + (p.take i).flatten.length + j) 0 = (p.getD i []).getD j 0
      rw [f, List.getD_eq_getElem?_getD, List.getElem?_append_right (by omega), show L.length + (p.take i).flatten.length + j - L.length = (p.take i).flatten.length + j by omega, List.getElem?_append_right (by omega), show (p.take i).flatten.length + j - (p.take i).flatten.length = j by omega, List.getElem?_append_left hj, ← List.getD_eq_getElem?_getD]
def LT (m : dM) (n : Nat) (Ds : Nat → lD) : Prop := ∃ L : lC, LG m L ∧ L.length ≤ 6 + n ∧ ∀ k : Nat, k < 4 → LDL m L k (Ds k)
theorem LT.of {m m' : dM} {n n' : Nat} {Ds : Nat → lD} (h : LT m n Ds) (e : ∀ k : Nat, 29 ≤ k → k ≤ 36 → m'.1 k = m.1 k) (hn : n ≤ n') : LT m' n' Ds := by
  obtain ⟨L, h1, h2, h3⟩ := h
  refine ⟨L, h1.of (e 29 (by omega) (by omega)) (e 30 (by omega) (by omega)), by omega, fun k hk => ?_⟩
  have := (h3 k hk).of (x := []) (m' := m') (e (32 + k) (by omega) (by omega)) (by rw [e 36 (by omega) (by omega)])
  rw [List.append_nil] at this
  exact this
end LTL
section LAT
variable (K : Nat → Int) (V : Nat → Int64)
/-- the laws behind a TELL; behind all -/
def lTl (n : Nat) (Ds : Nat → lD) : Nat → lD := fun j => if (3 ≤ K n ∧ K n ≤ 6) ∧ (j : Int) = K n - 3 then lDf (lawP K V n) else Ds j
def lAll : Nat → Nat → Nat → Nat → Nat → (Nat → lD) → (Nat → lD)
  | 0, _, _, _, _, Ds => Ds
  | f + 1, cf, cw, cu, n, Ds => if K n = 24 then Ds else lAll f (cf + ct (K n) 0) (cw + ct (K n) 1) (cu + ct (K n) 2) (gTell K cf cw cu n).2 (lTl K V n Ds)
end LAT
section CCK
variable {K : Nat → Int} {V : Nat → Int64} {mb : dM}
theorem GT.vm {m : dM} {cf cw cu : Nat} {r : gR} (h : GT K mb m cf cw cu r) (hV : VM K V mb) : VM K V m := hV.of (h.1.1 39 (by omega)) (by rw [h.1.2.1])
theorem kk_told {x1 : Int32} {n cf cw cu : Nat} {m : dM} {Ds : Nat → lD} {Q : dM → Prop} (hVM : VM K V mb) (hV9 : ∀ n : Nat, K n = 23 → 0 ≤ (V n).toInt32.toInt ∧ (V n).toInt32.toInt ≤ 9999) (h : GT K mb m cf cw cu (0, n)) (hT : LT m n Ds) (hx : x1.toInt = K n) (hk : K n ≠ 24) (hc : cf ≤ 400 ∧ cw ≤ 400 ∧ cu ≤ 400) (hQ : ∀ m' : dM, GT K mb m' (cf + ct (K n) 0) (cw + ct (K n) 1) (cu + ct (K n) 2) (gTell K cf cw cu n) → ((gTell K cf cw cu n).1 = 0 → LT m' (gTell K cf cw cu n).2 (lTl K V n Ds)) → Q m') : c_X2_checkTold_43 28 x1 m Q := by
  have hVm := h.vm hVM
  have hKm : KM K m := fun i a b => (hVm i a b).1
  have hg := h.go
  obtain ⟨e4, e5, e6⟩ := h.2.2.2.2
  have n400 : n ≤ 400 := h.2.2.2.1.1
  have noLaw : ∀ m' : dM, ¬ (3 ≤ K n ∧ K n ≤ 6) → (∀ k : Nat, k ≠ 43 → m'.1 k = m.1 k) → (gTell K cf cw cu n).1 = 0 → LT m' (gTell K cf cw cu n).2 (lTl K V n Ds) := fun m' hn hf z => by
    have e : lTl K V n Ds = Ds := funext fun j => by unfold lTl; rw [if_neg (fun q => hn q.1)]
    rw [e]
    have := gTell_lt z
    exact hT.of (fun k a b => hf k (by omega)) (by omega)
  have cnt : ∀ (j : Nat) (v : Int32), j = 4 ∨ j = 5 ∨ j = 6 → GO K (dSet m 43 j v) (dSet m 43 j v) (0, n) ∧ KM K (dSet m 43 j v) := fun j v hj => by
    refine ⟨⟨⟨fun _ _ => rfl, fun _ _ _ => rfl, rfl, rfl⟩, h.2.1.set43, ?_, hg.2.2.2.1, hg.2.2.2.2⟩, fun i a b => ?_⟩
    · rw [dSet_j (by omega), dSet_j (by omega)]; exact hg.2.2.1
    · rw [dSet_k (by decide)]; exact hKm i a b
  have fin : ∀ (m' : dM), GT K mb m' (cf + ct (K n) 0) (cw + ct (K n) 1) (cu + ct (K n) 2) (gTell K cf cw cu n) → ((gTell K cf cw cu n).1 = 0 → LT m' (gTell K cf cw cu n).2 (lTl K V n Ds)) → j_X2_checkTold_43_165 28 m' Q := fun m' h' ht => v_X2_checkTold_43_165 (hQ m' h' ht)
  have laws : 3 ≤ K n ∧ K n ≤ 6 → c_X2_checkLaw_43 27 (x1 - (3 : Int32)) m (fun r4 m4 => j_X2_checkTold_43_165 28 m4 Q) := fun q => by
    have f3 := dSubE (X := x1.toInt) (Y := 3) (x := x1) (y := (3 : Int32)) rfl (by decide) (by omega) (by omega)
    obtain ⟨L, l1, l2, l3⟩ := hT
    obtain ⟨k, hk'⟩ : ∃ k : Nat, K n - 3 = (k : Int) := ⟨(K n - 3).toNat, by omega⟩
    have eT : gTell K cf cw cu n = gLaw K n := by
      unfold gTell
      rw [if_neg (by omega), if_neg (by omega), if_neg (by omega), if_pos q]
    refine kk_law (k := k) hVm (by omega) (by omega) hg (by omega) l1 l2 (fun v m' h' he => fin m' ?_ (fun z => ?_))
    · rw [eT]
      unfold ct
      rw [if_neg (by omega), if_neg (by omega), if_neg (by omega)]
      exact h.up (fun _ _ => rfl) rfl h' e4 e5 e6
    · rw [eT] at z ⊢
      have zi : (gIf K 4 (n + 2)).1 = 0 ∧ n + 2 ≤ 400 := by
        unfold gLaw at z
        obtain ⟨a1, a2⟩ := rb_z z
        rw [a2] at z
        obtain ⟨s1, s2⟩ := gst_z a1
        rw [s1] at z
        have z : (rb (gnd K 61 (n + 1)) (gIf K 4)).1 = 0 := z
        obtain ⟨b1', b2'⟩ := rb_z z
        rw [b2'] at z
        obtain ⟨k1, k2, k3⟩ := gnd_z rfl b1'
        rw [k1] at z
        exact ⟨z, by omega⟩
      obtain ⟨⟨q', q1, q2⟩, w⟩ := lIf_ok hV9 4 (n + 2) zi.2 zi.1
      have ld := he.ldl z q1 q2 w
      obtain ⟨x1', x2', x3', x4', x5'⟩ := he z
      refine ⟨L ++ (lawP K V n).flatten, x1', x5', fun j hj => ?_⟩
      unfold lTl
      by_cases e : (j : Int) = K n - 3
      · rw [if_pos ⟨q, e⟩]
        have : j = k := by omega
        subst this
        exact ld
      · rw [if_neg (fun y => e y.2)]
        have := x3' j hj (fun y => e (by omega))
        exact (l3 j hj).of this.1 this.2
  have rows : ∀ (b : Nat) (x2 : Int32), x2.toInt = b → b ≤ 3 → 7 ≤ K n → K n ≠ 25 → gTell K cf cw cu n = rb (gst n) (gsq K (List.replicate 0 22 ++ (List.replicate b 23 ++ [59]))) → c_X2_checkRow_43 27 (0 : Int32) x2 m (fun m8 => j_X2_checkTold_43_165 28 m8 Q) := fun b x2 h2 hb hk3 hk25 eT => by
    refine Wp.deep (kk_row hKm hg ⟨hk, hk25⟩ (a := 0) (b := b) (by decide) h2 (by decide) hb (fun m' h' hf => fin m' ?_ (noLaw m' (by omega) hf))) (Nat.le_of_ble_eq_true rfl)
    rw [eT]
    unfold ct
    rw [if_neg (by omega), if_neg (by omega), if_neg (by omega)]
    exact h.up (fun _ _ => rfl) rfl h' e4 e5 e6
  refine v_X2_checkTold_43 ⟨fun q => ?_, fun q => ?_, fun q => ?_, fun q => laws (by omega), fun q => laws (by omega), fun q => laws (by omega), fun q => laws (by omega), fun q => ?_, fun q => ?_, fun q => ?_, fun q => ?_⟩
  · have f := d_add (k := 1) (K := 1) e4 (by decide) (by omega)
    have g := cnt 4 (m.1 43 4 + 1) (Or.inl rfl)
    refine Wp.deep (kk_counted g.2 g.1 (by omega) (c := cf) (most := 7) (a := 1) (b := 1) f (by decide) (by decide) (by decide) (by decide) (by decide) (fun m' h' hf => fin m' ?_ (noLaw m' (by omega) (fun k hk => by rw [hf k hk, dSet_k hk])))) (Nat.le_of_ble_eq_true rfl)
    have eT : gTell K cf cw cu n = if 7 ≤ cf then (2, n) else rb (gst n) (gsq K [22, 23, 59]) := by
      unfold gTell
      rw [if_pos (by omega)]
    rw [eT]
    unfold ct
    rw [if_pos (by omega), if_neg (by omega), if_neg (by omega)]
    exact h.up (fun k a => dSet_k a) rfl h' (by rw [dSet_s]; exact f) (by rw [dSet_j (by decide)]; exact e5) (by rw [dSet_j (by decide)]; exact e6)
  · have f := d_add (k := 1) (K := 1) e5 (by decide) (by omega)
    have g := cnt 5 (m.1 43 5 + 1) (Or.inr (Or.inl rfl))
    refine Wp.deep (kk_counted g.2 g.1 (by omega) (c := cw) (most := 10) (a := 2) (b := 1) f (by decide) (by decide) (by decide) (by decide) (by decide) (fun m' h' hf => fin m' ?_ (noLaw m' (by omega) (fun k hk => by rw [hf k hk, dSet_k hk])))) (Nat.le_of_ble_eq_true rfl)
    have eT : gTell K cf cw cu n = if 10 ≤ cw then (2, n) else rb (gst n) (gsq K [22, 22, 23, 59]) := by
      unfold gTell
      rw [if_neg (by omega), if_pos (by omega)]
    rw [eT]
    unfold ct
    rw [if_neg (by omega), if_pos (by omega), if_neg (by omega)]
    exact h.up (fun k a => dSet_k a) rfl h' (by rw [dSet_j (by decide)]; exact e4) (by rw [dSet_s]; exact f) (by rw [dSet_j (by decide)]; exact e6)
  · have f := d_add (k := 1) (K := 1) e6 (by decide) (by omega)
    have g := cnt 6 (m.1 43 6 + 1) (Or.inr (Or.inr rfl))
    refine Wp.deep (kk_counted g.2 g.1 (by omega) (c := cu) (most := 8) (a := 2) (b := 3) f (by decide) (by decide) (by decide) (by decide) (by decide) (fun m' h' hf => fin m' ?_ (noLaw m' (by omega) (fun k hk => by rw [hf k hk, dSet_k hk])))) (Nat.le_of_ble_eq_true rfl)
    have eT : gTell K cf cw cu n = if 8 ≤ cu then (2, n) else rb (gst n) (gsq K [22, 22, 23, 23, 23, 59]) := by
      unfold gTell
      rw [if_neg (by omega), if_neg (by omega), if_pos (by omega)]
    rw [eT]
    unfold ct
    rw [if_neg (by omega), if_neg (by omega), if_pos (by omega)]
    exact h.up (fun k a => dSet_k a) rfl h' (by rw [dSet_j (by decide)]; exact e4) (by rw [dSet_j (by decide)]; exact e5) (by rw [dSet_s]; exact f)
  · refine rows 2 _ (by decide) (by decide) (by omega) (by omega) ?_
    unfold gTell
    rw [if_neg (by omega), if_neg (by omega), if_neg (by omega), if_neg (by omega), if_pos (by omega)]
    rfl
  · refine rows 1 _ (by decide) (by decide) (by omega) (by omega) ?_
    unfold gTell
    rw [if_neg (by omega), if_neg (by omega), if_neg (by omega), if_neg (by omega), if_neg (by omega), if_pos (by omega)]
    rfl
  · refine rows 1 _ (by decide) (by decide) (by omega) (by omega) ?_
    unfold gTell
    rw [if_neg (by omega), if_neg (by omega), if_neg (by omega), if_neg (by omega), if_neg (by omega), if_pos (by omega)]
    rfl
  · have eT : gTell K cf cw cu n = (1, n) := by
      unfold gTell
      rw [if_neg (by omega), if_neg (by omega), if_neg (by omega), if_neg (by omega), if_neg (by omega), if_neg (by omega)]
    refine fin _ ?_ (fun z => ?_)
    · rw [eT]
      unfold ct
      rw [if_neg (by omega), if_neg (by omega), if_neg (by omega)]
      exact h.up (M := m) (fun _ _ => rfl) rfl (hg.set3 (by decide)) e4 e5 e6
    · rw [eT] at z; exact absurd z (Nat.succ_ne_zero 0)
theorem kk_check {m : dM} {Ds : Nat → lD} {Q : Int32 → dM → Prop} (hVM : VM K V m) (hV9 : ∀ n : Nat, K n = 23 → 0 ≤ (V n).toInt32.toInt ∧ (V n).toInt32.toInt ≤ 9999) (hL : GL m) (hT : LT m 0 Ds) (hQ : ∀ (r : Int32) (m' : dM), OF m m' → GL m' → r.toInt = ((gAll K 401 0 0 0 0).1 : Int) → (m'.1 43 2).toInt = ((gAll K 401 0 0 0 0).2 : Int) → (m'.1 43 3).toInt = ((gAll K 401 0 0 0 0).1 : Int) → ((gAll K 401 0 0 0 0).2 ≤ 400 ∧ lvK K (gAll K 401 0 0 0 0).2) → ((gAll K 401 0 0 0 0).1 = 0 → LT m' 400 (lAll K V 401 0 0 0 0 Ds)) → Q r m') : c_X2_check_43 29 m Q := by
  have hK : KM K m := fun i a b => (hVM i a b).1
  generalize hR : gAll K 401 0 0 0 0 = R at hQ
  generalize hRL : lAll K V 401 0 0 0 0 Ds = RL' at hQ
  have fin : ∀ (m' : dM) (cf cw cu : Nat), GT K m m' cf cw cu R → (R.1 = 0 → LT m' 400 RL') → j_X2_check_43_64 29 m' Q := fun m' cf cw cu h ht => v_X2_check_43_64 (hQ _ _ h.1 h.2.1 h.2.2.1.2 h.2.2.1.1 h.2.2.1.2 h.2.2.2.1 ht)
  have loop : ∀ (f i cf cw cu : Nat) (g : gR) (x1 : Int32) (m' : dM) (D : Nat → lD), i + f = 401 → x1.toInt = i → (g.1 = 0 → i ≤ g.2) → (cf ≤ i ∧ cw ≤ i ∧ cu ≤ i) → GT K m m' cf cw cu g → (g.1 = 0 → LT m' g.2 D ∧ lAll K V f cf cw cu g.2 D = RL') → rb g (fun n => gAll K f cf cw cu n) = R → j_X2_check_43_27 29 x1 m' Q := by
    intro f
    induction f with
    | zero =>
      intro i cf cw cu g x1 m' D hi hx hg hc h hD e
      by_cases z : g.1 = 0
      · have := hg z
        have := h.2.2.2.1.1
        exfalso; omega
      · rw [rb_f z] at e
        refine v_X2_check_43_27 ⟨fun _ => fin m' cf cw cu ?_ (fun q => ?_), fun q => by exfalso; omega⟩
        · rw [← e]; exact h
        · rw [← e] at q; exact absurd q z
    | succ f ih =>
      intro i cf cw cu g x1 m' D hi hx hg hc h hD e
      refine v_X2_check_43_27 ⟨fun q => by exfalso; omega, fun _ => ⟨fun z => fin m' cf cw cu ?_ (fun q => ?_), fun z => ?_⟩⟩
      · have e3 := h.2.2.1.2
        rw [rb_f (by omega)] at e
        rw [← e]; exact h
      · have e3 := h.2.2.1.2
        rw [rb_f (by omega)] at e
        rw [← e] at q
        exfalso; omega
      · have e3 := h.2.2.1.2
        have z : g.1 = 0 := by omega
        have hgi := hg z
        obtain ⟨hT', hA⟩ := hD z
        rw [rb_k z] at e
        obtain ⟨g1, n⟩ := g
        have z : g1 = 0 := z
        subst z
        have hgi : i ≤ n := hgi
        have hn : n ≤ 400 := h.2.2.2.1.1
        have hT' : LT m' n D := hT'
        have hA : lAll K V (f + 1) cf cw cu n D = RL' := hA
        have hKm := h.km hK
        have e : gAll K (f + 1) cf cw cu n = R := e
        unfold gAll at e
        unfold lAll at hA
        refine Wp.deep (k_kind hKm h.go (fun r hr => ⟨fun q => fin m' cf cw cu ?_ (fun _ => ?_), fun q => Wp.deep (k_kind hKm h.go (fun r2 hr2 => ?_)) (Nat.le_of_ble_eq_true rfl)⟩)) (Nat.le_of_ble_eq_true rfl)
        · rw [if_pos (by omega)] at e
          rw [← e]; exact h
        · rw [if_pos (by omega)] at hA
          rw [← hA]; exact hT'.of (fun _ _ _ => rfl) hn
        · rw [if_neg (by omega)] at e hA
          refine kk_told hVM hV9 h hT' hr2 (by omega) (by omega) (fun m2 h2 ht2 => ih (i + 1) _ _ _ _ _ m2 _ (by omega) (d_add hx (by decide) (by omega)) (fun z => ?_) ?_ h2 (fun z => ⟨ht2 z, hA⟩) e)
          · have := gTell_lt z
            omega
          · unfold ct
            split <;> split <;> split <;> omega
  refine v_X2_check_43 (loop 401 0 0 0 0 (0, 0) _ _ Ds rfl (by decide) (fun _ => Nat.le_refl _) (by decide) ?_ (fun _ => ⟨hT.of (fun k a b => by rw [dSet_k (by omega), dSet_k (by omega), dSet_k (by omega), dSet_k (by omega), dSet_k (by omega)]) (Nat.le_refl _), hRL⟩) hR)
  refine ⟨⟨fun k hk => ?_, rfl, rfl⟩, GL.set43 (GL.set43 (GL.set43 (GL.set43 (GL.set43 hL)))), ⟨rfl, rfl⟩, ⟨by decide, fun j hj => by exact absurd hj (Nat.not_lt_zero j)⟩, rfl, rfl, rfl⟩
  rw [dSet_k (by omega), dSet_k (by omega), dSet_k (by omega), dSet_k (by omega), dSet_k (by omega)]
end CCK
end
section
/-! THE HOUSE that a text tells -/
def lD0 (k : Nat) : lD := lDf [dfl k]
/-- as told, with these laws -/
def hoX (V : Nat → Int64) (s : mSt) (Ds : Nat → lD) : Ho := ((s.1.length, s.2.1.length, s.2.2.1.length), (fun w => (wE s w).1, fun w => (wE s w).2, fun u => (s.2.2.1.getD u (0, 0)).2), (fun f => (V (s.1.getD f 0 + 2)).toInt32, fun w => (V ((s.2.1.getD w (0, 0, 0)).1 + 3)).toInt32, fun u => (V ((s.2.2.1.getD u (0, 0)).1 + 3)).toInt32, fun u => (V ((s.2.2.1.getD u (0, 0)).1 + 4)).toInt32, fun u => (V ((s.2.2.1.getD u (0, 0)).1 + 5)).toInt32), (oV V s.2.2.2.1 1 0, oV V s.2.2.2.1 2 0, oV V s.2.2.2.2.1 1 100, oV V s.2.2.2.2.2 1 0), Ds)
/-- what a text that is right keeps -/
def MI (V : Nat → Int64) (s : mSt) : Prop :=
  (∀ w : Nat, w < s.2.1.length → (wE s w).1 < s.1.length ∧ (wE s w).2 < s.1.length ∧ (wE s w).1 ≠ (wE s w).2 ∧ 1 ≤ iV V ((s.2.1.getD w (0, 0, 0)).1 + 3) ∧ iV V ((s.2.1.getD w (0, 0, 0)).1 + 3) ≤ 99) ∧
  (∀ u : Nat, u < s.2.2.1.length → (s.2.2.1.getD u (0, 0)).2 < s.1.length ∧ (1 ≤ iV V ((s.2.2.1.getD u (0, 0)).1 + 3) ∧ iV V ((s.2.2.1.getD u (0, 0)).1 + 3) ≤ 19) ∧ 0 ≤ iV V ((s.2.2.1.getD u (0, 0)).1 + 4) ∧ iV V ((s.2.2.1.getD u (0, 0)).1 + 4) ≤ iV V ((s.2.2.1.getD u (0, 0)).1 + 5) ∧ iV V ((s.2.2.1.getD u (0, 0)).1 + 5) ≤ 23) ∧
  (0 ≤ (oV V s.2.2.2.2.1 1 100).toInt ∧ (oV V s.2.2.2.2.1 1 100).toInt ≤ 999)
section MIS
variable {K : Nat → Int} {V : Nat → Int64}
theorem MI_0 : MI V mS0 := ⟨fun w hw => absurd hw (Nat.not_lt_zero w), fun u hu => absurd hu (Nat.not_lt_zero u), by show 0 ≤ (100 : Int32).toInt ∧ (100 : Int32).toInt ≤ 999; decide⟩
theorem bnd_z {i : Nat} {lo hi : Int} {r : gR × mSt} {s : mSt} (h : (bnd V i lo hi r s).1.1 = 0) : (lo ≤ iV V i ∧ iV V i ≤ hi) ∧ bnd V i lo hi r s = r := by
  unfold bnd at h ⊢
  by_cases q : lo ≤ iV V i ∧ iV V i ≤ hi
  · rw [if_pos q]; exact ⟨q, rfl⟩
  · rw [if_neg q] at h; exact absurd h (Nat.succ_ne_zero 4)
theorem MI_tell {n : Nat} {s : mSt} (h : MI V s) (z : (mTell K V n s).1.1 = 0) : MI V (mTell K V n s).2 := by
  obtain ⟨hw, hu, hc⟩ := h
  generalize hg : mTell K V n s = g at z ⊢
  unfold mTell at hg
  split at hg
  · -- flat
    unfold mFlat at hg
    cases e : knw V s (V (n + 1)) with
    | true => rw [e, cond_true] at hg; subst hg; exact absurd z (Nat.succ_ne_zero 2)
    | false =>
      rw [e, cond_false] at hg
      subst hg
      obtain ⟨b, eq⟩ := bnd_z z
      rw [eq]
      refine ⟨fun w hw' => ?_, fun u hu' => ?_, hc⟩
      · obtain ⟨a1, a2, a3⟩ := hw w hw'
        refine ⟨?_, ?_, a3⟩
        · show (wE s w).1 < (s.1 ++ [n]).length; rw [List.length_append]; omega
        · show (wE s w).2 < (s.1 ++ [n]).length; rw [List.length_append]; omega
      · obtain ⟨a1, a2⟩ := hu u hu'
        refine ⟨?_, a2⟩
        show (s.2.2.1.getD u (0, 0)).2 < (s.1 ++ [n]).length; rw [List.length_append]; omega
  · split at hg
    · -- wire
      unfold mWire at hg
      split at hg
      · subst hg; exact absurd z (Nat.succ_ne_zero 3)
      · rename_i a ha
        split at hg
        · subst hg; exact absurd z (Nat.succ_ne_zero 3)
        · rename_i b hb
          split at hg
          · subst hg; exact absurd z (Nat.succ_ne_zero 2)
          · rename_i hne
            subst hg
            obtain ⟨bb, eq⟩ := bnd_z z
            rw [eq]
            have la := fF_lt ha
            have lb := fF_lt hb
            refine ⟨fun w hw' => ?_, hu, hc⟩
            have hw' : w < (s.2.1 ++ [(n, a, b)]).length := hw'
            rw [List.length_append] at hw'
            have hw' : w < s.2.1.length + 1 := hw'
            show ((s.2.1 ++ [(n, a, b)]).getD w (0, 0, 0)).2.1 < s.1.length ∧ ((s.2.1 ++ [(n, a, b)]).getD w (0, 0, 0)).2.2 < s.1.length ∧ ((s.2.1 ++ [(n, a, b)]).getD w (0, 0, 0)).2.1 ≠ ((s.2.1 ++ [(n, a, b)]).getD w (0, 0, 0)).2.2 ∧ 1 ≤ iV V (((s.2.1 ++ [(n, a, b)]).getD w (0, 0, 0)).1 + 3) ∧ iV V (((s.2.1 ++ [(n, a, b)]).getD w (0, 0, 0)).1 + 3) ≤ 99
            by_cases e : w = s.2.1.length
            · subst e
              rw [getD_last]
              exact ⟨la, lb, fun q => hne (Or.inl q), bb.1, bb.2⟩
            · rw [getD_app (by omega)]
              exact hw w (by omega)
    · split at hg
      · -- use
        unfold mUse at hg
        cases e : knw V s (V (n + 1)) with
        | true => rw [e, cond_true] at hg; subst hg; exact absurd z (Nat.succ_ne_zero 2)
        | false =>
          rw [e, cond_false] at hg
          split at hg
          · subst hg; exact absurd z (Nat.succ_ne_zero 3)
          · rename_i h' hh
            subst hg
            obtain ⟨b3, eq3⟩ := bnd_z z
            rw [eq3] at z ⊢
            obtain ⟨b4, eq4⟩ := bnd_z z
            rw [eq4] at z ⊢
            obtain ⟨b5, eq5⟩ := bnd_z z
            rw [eq5]
            have lh := fF_lt hh
            refine ⟨hw, fun u hu' => ?_, hc⟩
            have hu' : u < (s.2.2.1 ++ [(n, h')]).length := hu'
            rw [List.length_append] at hu'
            have hu' : u < s.2.2.1.length + 1 := hu'
            show ((s.2.2.1 ++ [(n, h')]).getD u (0, 0)).2 < s.1.length ∧ (1 ≤ iV V (((s.2.2.1 ++ [(n, h')]).getD u (0, 0)).1 + 3) ∧ iV V (((s.2.2.1 ++ [(n, h')]).getD u (0, 0)).1 + 3) ≤ 19) ∧ 0 ≤ iV V (((s.2.2.1 ++ [(n, h')]).getD u (0, 0)).1 + 4) ∧ iV V (((s.2.2.1 ++ [(n, h')]).getD u (0, 0)).1 + 4) ≤ iV V (((s.2.2.1 ++ [(n, h')]).getD u (0, 0)).1 + 5) ∧ iV V (((s.2.2.1 ++ [(n, h')]).getD u (0, 0)).1 + 5) ≤ 23
            by_cases e2 : u = s.2.2.1.length
            · subst e2
              rw [getD_last]
              exact ⟨lh, b3, b4.1, b5.1, b5.2⟩
            · rw [getD_app (by omega)]
              exact hu u (by omega)
      · split at hg
        · subst hg
          obtain ⟨b1', eq1⟩ := bnd_z z
          rw [eq1] at z ⊢
          obtain ⟨b2', eq2⟩ := bnd_z z
          rw [eq2]
          exact ⟨hw, hu, hc⟩
        · split at hg
          · subst hg
            obtain ⟨b1', eq1⟩ := bnd_z z
            rw [eq1]
            exact ⟨hw, hu, b1'⟩
          · split at hg
            · subst hg
              obtain ⟨b1', eq1⟩ := bnd_z z
              rw [eq1]
              exact ⟨hw, hu, hc⟩
            · subst hg
              exact ⟨hw, hu, hc⟩
theorem MI_all : ∀ (f n : Nat) (s : mSt), MI V s → (mAll K V f n s).1.1 = 0 → MI V (mAll K V f n s).2
  | 0, n, s, h, _ => h
  | f + 1, n, s, h, z => by
    unfold mAll at z ⊢
    by_cases q : K n = 24
    · rw [if_pos q]; exact h
    · rw [if_neg q] at z ⊢
      by_cases q2 : (mTell K V n s).1.1 = 0
      · rw [mGo_k q2] at z ⊢
        exact MI_all f _ _ (MI_tell h q2) z
      · rw [mGo_f q2] at z; exact absurd z q2
theorem MI_rd (z : (rdR K V).1.1 = 0) : MI V (rdR K V).2 := by
  unfold rdR at z ⊢
  by_cases q : (gAll K 401 0 0 0 0).1 = 0
  · rw [if_pos q] at z ⊢; exact MI_all _ _ _ MI_0 z
  · rw [if_neg q] at z; exact absurd z q
theorem hoX_ok {s : mSt} {Ds : Nat → lD} (h : MI V s) (h7 : s.1.length ≤ 7) (h10 : s.2.1.length ≤ 10) (h8 : s.2.2.1.length ≤ 8) (hD : ∀ k : Nat, k < 4 → lOk (Ds k)) : hOk (hoX V s Ds) := ⟨h7, h10, h8, fun w hw => ⟨(h.1 w hw).1, (h.1 w hw).2.1, (h.1 w hw).2.2.1⟩, fun u hu => ⟨(h.2.1 u hu).1, (h.2.1 u hu).2.1⟩, hD⟩
end MIS
/-- uses' hours are hours of a day -/
def hBo (H : Ho) : Prop := ∀ u : Nat, u < hoU H → 0 ≤ (hoO H u).toInt ∧ (hoO H u).toInt ≤ (hoI H u).toInt ∧ (hoI H u).toInt ≤ 23
theorem hoX_b {V : Nat → Int64} {s : mSt} {Ds : Nat → lD} (h : MI V s) : hBo (hoX V s Ds) := fun u hu => (h.2.1 u hu).2.2
/-- how it stands at first -/
def sz0 (H : Ho) (R : Nat → Int32) : Zt := ((0, hoC H, 0, 0, 0, b1 (hoU H) - 1), R, fun _ => 0, fun _ => 0)
theorem bt_all {u i : Nat} (hu : u ≤ 8) : bt (b1 u - 1) i = decide (i < u) := by
  by_cases q : i < 32
  · match u, hu with
    | 0, _ | 1, _ | 2, _ | 3, _ | 4, _ | 5, _ | 6, _ | 7, _ | 8, _ =>
      match i, q with
      | 0, _ | 1, _ | 2, _ | 3, _ | 4, _ | 5, _ | 6, _ | 7, _ | 8, _ | 9, _ | 10, _ | 11, _ | 12, _ | 13, _ | 14, _ | 15, _ | 16, _ | 17, _ | 18, _ | 19, _ | 20, _ | 21, _ | 22, _ | 23, _ | 24, _ | 25, _ | 26, _ | 27, _ | 28, _ | 29, _ | 30, _ | 31, _ => decide
      | i + 32, q => omega
    | u + 9, h => omega
  · rw [bt_big (by omega)]
    simp
    omega
theorem sz0_ok {V : Nat → Int64} {s : mSt} {Ds : Nat → lD} {R : Nat → Int32} (h : MI V s) (h8 : s.2.2.1.length ≤ 8) (hR : ∀ w : Nat, w < s.2.1.length → R w = (V ((s.2.1.getD w (0, 0, 0)).1 + 3)).toInt32) : zOk (hoX V s Ds) (sz0 (hoX V s Ds) R) := by
  refine ⟨⟨h.2.2.1, by have := h.2.2.2; show (oV V s.2.2.2.2.1 1 100).toInt ≤ 99999; omega⟩, by show 0 ≤ (0 : Int32).toInt ∧ (0 : Int32).toInt ≤ 999999; decide, fun i hi => ?_, fun i hi => ?_, fun i hi => ?_, fun w hw => ?_, fun w hw => by show 0 ≤ (0 : Int32).toInt ∧ (0 : Int32).toInt ≤ 999; decide⟩
  · have hi : bt (0 : Int32) i = true := hi
    rw [bt_0] at hi; cases hi
  · have hi : bt (0 : Int32) i = true := hi
    rw [bt_0] at hi; cases hi
  · have hi : bt (b1 s.2.2.1.length - 1) i = true := hi
    rw [bt_all h8] at hi
    exact of_decide_eq_true hi
  · show 0 ≤ (R w).toInt ∧ (R w).toInt ≤ 99
    rw [hR w hw]
    have r := (h.1 w hw).2.2.2
    exact ⟨Int.le_trans (show (0 : Int) ≤ 1 by decide) r.1, r.2⟩
end
section
/-! THE CLASS: an empty draft's laws; the draft copied; how it stands at first -/
theorem dw_b {B : Nat → Int32} {p : Nat} : ∀ k : Nat, k ≤ 4 → (∀ j : Nat, j < k → 48 ≤ (B (p + j)).toInt ∧ (B (p + j)).toInt ≤ 57) → 0 ≤ (dw B p k).toInt ∧ (dw B p k).toInt < (10 : Int) ^ k
  | 0, _, _ => by show 0 ≤ (0 : Int32).toInt ∧ (0 : Int32).toInt < 1; decide
  | k + 1, hk, h => by
    have ih := dw_b k (by omega) (fun j hj => h j (by omega))
    have hb := h k (by omega)
    have p4 : (10 : Int) ^ k ≤ 1000 := by
      match k, hk with
      | 0, _ | 1, _ | 2, _ | 3, _ => decide
      | k + 4, hk => omega
    have f1 := dMulE (X := 10) (Y := (dw B p k).toInt) (x := (10 : Int32)) (y := dw B p k) (by decide) rfl (by omega) (by omega)
    have f2 := dAddE (X := 10 * (dw B p k).toInt) (Y := (B (p + k)).toInt) (x := 10 * dw B p k) (y := B (p + k)) f1 rfl (by omega) (by omega)
    have f3 := dSubE (X := 10 * (dw B p k).toInt + (B (p + k)).toInt) (Y := 48) (x := 10 * dw B p k + B (p + k)) (y := (48 : Int32)) f2 (by decide) (by omega) (by omega)
    have e : (10 : Int) ^ (k + 1) = 10 * (10 : Int) ^ k := by rw [Int.pow_succ]; omega
    show 0 ≤ ((10 * dw B p k + B (p + k)) - 48).toInt ∧ ((10 * dw B p k + B (p + k)) - 48).toInt < (10 : Int) ^ (k + 1)
    omega
theorem tV9 {B : Nat → Int32} {n i : Nat} (h : tK B n i = 23) : 0 ≤ (tV B n i).toInt32.toInt ∧ (tV B n i).toInt32.toInt ≤ 9999 := by
  unfold tK kd at h
  unfold tV
  by_cases q : n ≤ tP B n i
  · rw [if_pos q] at h; exact absurd h (by decide)
  · rw [if_neg q] at h
    cases e : bL B (tP B n i) with
    | true =>
      rw [e, cond_true] at h
      split at h
      · have := wk_le (nm B (tP B n i) (rnn (bL B) n (tP B n i))); omega
      · exact absurd h (by decide)
    | false =>
      rw [e, cond_false] at h
      rw [cond_false]
      cases e2 : bD B (tP B n i) with
      | true =>
        rw [e2, cond_true] at h
        by_cases q4 : rnn (bD B) n (tP B n i) ≤ 4
        · rw [dw_eq]
          have b := dw_b (B := B) (p := tP B n i) (rnn (bD B) n (tP B n i)) q4 (fun j hj => by
            have := (rnn_in _ (tP B n i) j rfl hj).1
            unfold bD at this
            exact of_decide_eq_true this)
          have p4 : (10 : Int) ^ (rnn (bD B) n (tP B n i)) ≤ 10000 := by
            generalize rnn (bD B) n (tP B n i) = k at q4
            match k, q4 with
            | 0, _ | 1, _ | 2, _ | 3, _ | 4, _ => decide
            | k + 5, hk => omega
          omega
        · rw [if_neg q4] at h; exact absurd h (by decide)
      | false =>
        rw [e2, cond_false] at h
        unfold sg at h
        split at h
        · omega
        · exact absurd h (by decide)
section UCL
variable {mb m : dM}
theorem u_put {x1 : Int32} {L : lC} {Q : dM → Prop} (h : GG mb m) (hL : LG m L) (hl' : L.length < 406) (hQ : ∀ m' : dM, GG mb m' → LG m' (L ++ [x1]) → FXl m m' → Q m') : c_X4_put_29 1 x1 m Q := by
  have hGL := h.2.2
  have e29 : (m.1 29 1).toNatClampNeg = L.length := d_cn hL.1
  have hl2 := hL.1
  refine v_X4_put_29 ⟨fun q => by exfalso; omega, fun q => ⟨by omega, v_X4_put_29_32 (hQ _ ?_ ?_ (fun k a b => by rw [dSet_k (by omega), dSet_k (by omega)]))⟩⟩
  · have h30 : GG mb (dSet m 30 (m.1 29 1).toNatClampNeg x1) := h.law (by decide) (by
      unfold GL
      rw [dSet_k (by decide), dSet_k (by decide)]
      exact hGL)
    refine h30.law (by decide) ⟨?_, fun j => ?_⟩
    · rw [dSet_s]
      have := dAddE (X := (m.1 29 1).toInt) (Y := 1) (x := m.1 29 1) (y := (1 : Int32)) rfl (by decide) (by omega) (by omega)
      omega
    · rw [dSet_k (by decide), dSet_k (by decide)]
      exact hGL.2 j
  · rw [e29]
    have f := d_inc hl2 (by omega)
    refine ⟨by rw [dSet_s, List.length_append]; exact f, by rw [List.length_append]; show L.length + 1 ≤ 406; omega, fun i hi => ?_⟩
    rw [List.length_append] at hi
    have hi : i < L.length + 1 := hi
    rw [dSet_k (by decide)]
    by_cases e : i = L.length
    · subst e
      rw [dSet_s, getD_last]
    · rw [dSet_j e, getD_app (by omega)]
      exact hL.2.2 i (by omega)
theorem u_begin {x1 : Int32} {k : Nat} {L : lC} {Q : dM → Prop} (h : GG mb m) (hx : x1.toInt = (k : Int)) (hk : k < 4) (hL : LG m L) (hQ : ∀ m' : dM, GG mb m' → LG m' L → PRo m' L.length k [] → FKl k m m' → Q m') : c_X4_begin_29 1 x1 m Q := by
  have hGL := h.2.2
  have ec := d_cn hx
  have h36 : GG mb (dSet m 36 k (0 : Int32)) := h.law (by decide) ⟨by rw [dSet_k (by decide)]; exact hGL.1, fun j => by
    rw [dSet_e]
    split
    · decide
    · exact hGL.2 j⟩
  have go : ∀ c : Nat, c = 32 + k → Q (dSet (dSet m 36 k (0 : Int32)) c 0 (m.1 29 1)) := fun c hc => by
    subst hc
    refine hQ _ (h36.law (by omega) ?_) (hL.of (by rw [dSet_k (by omega), dSet_k (by decide)]) (by rw [dSet_k (by omega), dSet_k (by decide)])) ⟨?_, Nat.zero_le _, fun i hi => ?_⟩ (fun j hj hne => ⟨by rw [dSet_k (by omega), dSet_k (by omega)], by rw [dSet_k (by omega), dSet_j hne]⟩)
    · have := h36.2.2
      unfold GL
      rw [dSet_k (show 29 ≠ 32 + k by omega), dSet_k (show 36 ≠ 32 + k by omega)]
      exact this
    · rw [dSet_k (by omega), dSet_s]; rfl
    · have : i = 0 := by have : i ≤ 0 := hi; omega
      subst this
      rw [dSet_s]
      exact hL.1
  refine v_X4_begin_29 ?_
  rw [ec]
  exact ⟨by omega, by omega, fun q => go 32 (by omega), fun q => go 33 (by omega), fun q => go 34 (by omega), fun q => go 35 (by omega)⟩
theorem u_piece {x1 : Int32} {k a : Nat} {c : lC} {L : lC} {Q : dM → Prop} (h : GG mb m) (hx : x1.toInt = (k : Int)) (hk : k < 4) (hL : LG m L) (hP : PRo m a k []) (hlen : L.length = a + c.length) (hQ : ∀ m' : dM, GG mb m' → LG m' L → PRo m' a k [c] → FKl k m m' → Q m') : c_X4_endPiece_29 1 x1 m Q := by
  have hGL := h.2.2
  have ec := d_cn hx
  obtain ⟨p1, p2, p3⟩ := hP
  have p1 : (m.1 36 k).toInt = 0 := p1
  have f1 := d_inc (i := 0) p1 (by omega)
  have f1' := d_cn f1
  have h36 : GG mb (dSet m 36 k (m.1 36 k + 1)) := h.law (by decide) ⟨by rw [dSet_k (by decide)]; exact hGL.1, fun j => by
    rw [dSet_e]
    split
    · omega
    · exact hGL.2 j⟩
  have go : ∀ b : Nat, b = 32 + k → j_X4_endPiece_29_38 1 (dSet (dSet m 36 k (m.1 36 k + 1)) b (0 + 1) (m.1 29 1)) Q := fun b hb => by
    subst hb
    refine v_X4_endPiece_29_38 (hQ _ (h36.law (by omega) ?_) (hL.of (by rw [dSet_k (by omega), dSet_k (by decide)]) (by rw [dSet_k (by omega), dSet_k (by decide)])) ⟨?_, by show 1 ≤ 13; omega, fun i hi => ?_⟩ (fun j hj hne => ⟨by rw [dSet_k (by omega), dSet_k (by omega)], by rw [dSet_k (by omega), dSet_j hne]⟩))
    · have := h36.2.2
      unfold GL
      rw [dSet_k (show 29 ≠ 32 + k by omega), dSet_k (show 36 ≠ 32 + k by omega)]
      exact this
    · rw [dSet_k (by omega), dSet_s]; exact f1
    · have hi : i ≤ 1 := hi
      by_cases e : i = 1
      · subst e
        rw [dSet_s, hL.1, hlen]
        show _ = ((a + ([c].flatten).length : Nat) : Int)
        rw [List.flatten_cons, List.flatten_nil, List.append_nil]
      · have : i = 0 := by omega
        subst this
        rw [dSet_j (by decide), dSet_k (by omega)]
        exact p3 0 (Nat.le_refl _)
  have b14 : 0 ≤ (m.1 36 k + 1).toInt ∧ (m.1 36 k + 1).toInt < 14 := by omega
  refine v_X4_endPiece_29 ?_
  rw [ec, f1']
  exact ⟨by omega, fun q => by exfalso; omega, fun q => ⟨by omega, by omega, by omega, fun q => ⟨by omega, b14, go 32 (by omega)⟩, fun q => ⟨by omega, b14, go 33 (by omega)⟩, fun q => ⟨by omega, b14, go 34 (by omega)⟩, fun q => ⟨by omega, b14, go 35 (by omega)⟩⟩⟩
theorem wf_dfl (k : Nat) : wfL (dfl k) 0 := by
  unfold dfl
  split
  · exact ⟨by decide, fun _ => ⟨by decide, ⟨by decide, fun _ => ⟨by decide, ⟨by decide, fun q => absurd q (by decide), fun _ => ⟨by decide, rfl⟩⟩⟩, fun q => absurd q (by decide)⟩⟩, fun q => absurd q (by decide)⟩
  · split
    · exact ⟨by decide, fun _ => ⟨by decide, rfl⟩, fun q => absurd q (by decide)⟩
    · split
      · exact ⟨by decide, fun _ => ⟨by decide, rfl⟩, fun q => absurd q (by decide)⟩
      · exact ⟨by decide, fun _ => ⟨by decide, rfl⟩, fun q => absurd q (by decide)⟩
/-- one piece alone -/
theorem PRo.l1 {a k : Nat} {c L : lC} (h : PRo m a k [c]) (hw : wfL c 0) (hS : SGL L a c) : LDL m L k (lDf [c]) := by
  obtain ⟨p1, p2, p3⟩ := h
  have e0 : (lDf [c]).1 = 0 := by show ([c].length - 1) / 3 = 0; rw [List.length_singleton]
  unfold LDL lOk
  rw [e0]
  refine ⟨p1, ⟨Nat.zero_le _, fun i hi => ?_⟩, fun i hi => ?_⟩
  · have : i = 0 := by omega
    subst this
    exact hw
  · have : i = 0 := by omega
    subst this
    refine ⟨a, p3 0 (Nat.zero_le _), ?_, hS⟩
    have := p3 1 (Nat.le_refl _)
    rw [this]
    show ((a + ([c].flatten).length : Nat) : Int) = _
    rw [List.flatten_cons, List.flatten_nil, List.append_nil]
    rfl
theorem PRo.fk {m' : dM} {a k j : Nat} {p : List lC} (h : PRo m a k p) (hF : FKl j m m') (hk : k < 4) (hne : k ≠ j) : PRo m' a k p := by
  have := hF k hk hne
  unfold PRo
  rw [this.1, this.2]
  exact h
theorem u_clear {Q : dM → Prop} (h : GL m) (hQ : ∀ m' : dM, GG m m' → LT m' 0 lD0 → Q m') : c_X4_clear_29 2 m Q := by
  have h0 : GG m (dSet m 29 1 (0 : Int32)) := GG.law ⟨fun _ _ => rfl, rfl, h⟩ (by decide) ⟨by rw [dSet_s]; decide, fun j => by rw [dSet_k (by decide)]; exact h.2 j⟩
  have l0 : LG (dSet m 29 1 (0 : Int32)) [] := ⟨by rw [dSet_s]; rfl, by decide, fun i hi => absurd hi (Nat.not_lt_zero i)⟩
  refine v_X4_clear_29 (u_begin (k := 0) h0 (by decide) (by decide) l0 (fun m1 g1 l1 p1 f1 => u_put g1 l1 (by decide) (fun m2 g2 l2 f2 => u_put g2 l2 (by decide) (fun m3 g3 l3 f3 => u_put g3 l3 (by decide) (fun m4 g4 l4 f4 => ?_)))))
  refine u_piece (k := 0) (a := 0) (c := [4, 5, 1]) g4 (by decide) (by decide) l4 (((p1.of f2 (by decide)).of f3 (by decide)).of f4 (by decide)) rfl (fun m5 g5 l5 p5 f5 => ?_)
  refine u_begin (k := 1) g5 (by decide) (by decide) l5 (fun m6 g6 l6 p6 f6 => u_put g6 l6 (by decide) (fun m7 g7 l7 f7 => ?_))
  refine u_piece (k := 1) (a := 3) (c := [13]) g7 (by decide) (by decide) l7 (p6.of f7 (by decide)) rfl (fun m8 g8 l8 p8 f8 => ?_)
  refine u_begin (k := 2) g8 (by decide) (by decide) l8 (fun m9 g9 l9 p9 f9 => u_put g9 l9 (by decide) (fun m10 g10 l10 f10 => ?_))
  refine u_piece (k := 2) (a := 4) (c := [5]) g10 (by decide) (by decide) l10 (p9.of f10 (by decide)) rfl (fun m11 g11 l11 p11 f11 => ?_)
  refine u_begin (k := 3) g11 (by decide) (by decide) l11 (fun m12 g12 l12 p12 f12 => u_put g12 l12 (by decide) (fun m13 g13 l13 f13 => ?_))
  refine u_piece (k := 3) (a := 5) (c := [9]) g13 (by decide) (by decide) l13 (p12.of f13 (by decide)) rfl (fun m14 g14 l14 p14 f14 => hQ m14 g14 ?_)
  have k0 : PRo m14 0 0 [[4, 5, 1]] := ((((((((p5.fk f6 (by decide) (by decide)).of f7 (by decide)).fk f8 (by decide) (by decide)).fk f9 (by decide) (by decide)).of f10 (by decide)).fk f11 (by decide) (by decide)).fk f12 (by decide) (by decide)).of f13 (by decide)).fk f14 (by decide) (by decide)
  have k1 : PRo m14 3 1 [[13]] := (((((p8.fk f9 (by decide) (by decide)).of f10 (by decide)).fk f11 (by decide) (by decide)).fk f12 (by decide) (by decide)).of f13 (by decide)).fk f14 (by decide) (by decide)
  have k2 : PRo m14 4 2 [[5]] := ((p11.fk f12 (by decide) (by decide)).of f13 (by decide)).fk f14 (by decide) (by decide)
  refine ⟨_, l14, by decide, fun k hk => ?_⟩
  match k, hk with
  | 0, _ => exact k0.l1 (wf_dfl 0) ⟨by decide, fun j hj => by match j, hj with | 0, _ | 1, _ | 2, _ => rfl | j + 3, hj => exact absurd hj (by show ¬ j + 3 < 3; omega)⟩
  | 1, _ => exact k1.l1 (wf_dfl 1) ⟨by decide, fun j hj => by match j, hj with | 0, _ => rfl | j + 1, hj => exact absurd hj (by show ¬ j + 1 < 1; omega)⟩
  | 2, _ => exact k2.l1 (wf_dfl 2) ⟨by decide, fun j hj => by match j, hj with | 0, _ => rfl | j + 1, hj => exact absurd hj (by show ¬ j + 1 < 1; omega)⟩
  | 3, _ => exact p14.l1 (wf_dfl 3) ⟨by decide, fun j hj => by match j, hj with | 0, _ => rfl | j + 1, hj => exact absurd hj (by show ¬ j + 1 < 1; omega)⟩
  | k + 4, h => omega
end UCL
end
section
/-! THE CLASS's read, and how it stands then -/
section UCO
variable {m : dM} {V : Nat → Int64} {s : mSt} {Ds : Nat → lD} {n : Nat}
theorem u_lcopy {m0 : dM} {Q : dM → Prop} (hQ : ∀ m' : dM, (∀ k : Nat, (k < 14 ∨ 18 < k) → m'.1 k = m0.1 k) → m'.2 = m0.2 → (∀ k : Nat, k < 4 → m'.1 18 k = m0.1 36 k ∧ ∀ j : Nat, j < 14 → m'.1 (14 + k) j = m0.1 (32 + k) j) → Q m') : ∀ (f i : Nat) (x2 : Int32) (M : dM), i + f = 4 → x2.toInt = (i : Int) → (∀ k : Nat, (k < 14 ∨ 18 < k) → M.1 k = m0.1 k) → M.2 = m0.2 → (∀ k : Nat, k < i → M.1 18 k = m0.1 36 k ∧ ∀ j : Nat, j < 14 → M.1 (14 + k) j = m0.1 (32 + k) j) → j_X4_copy_11_29_27 1 x2 M Q := by
  intro f
  induction f with
  | zero =>
    intro i x2 M hi h2 hF hM hv
    exact v_X4_copy_11_29_27 ⟨fun _ => hQ M hF hM (fun k hk => hv k (by omega)), fun q => by exfalso; omega⟩
  | succ f ih =>
    intro i x2 M hi h2 hF hM hv
    have go : ∀ a b : Nat, a = 32 + i → b = 14 + i → j_X4_copy_11_29_27 1 (x2 + (1 : Int32)) (dCpy (dSet M 18 i (M.1 36 i)) a (0 : Int).toNat b (0 : Int).toNat (14 : Int).toNat) Q := fun a b ha hb => by
      subst ha hb
      refine ih (i + 1) _ _ (by omega) (d_inc h2 (by omega)) (fun k hk => by rw [dCpy_k (by omega), dSet_k (by omega)]; exact hF k hk) hM (fun k hk => ?_)
      by_cases e : k = i
      · subst e
        refine ⟨by rw [dCpy_k (by omega), dSet_s, hF 36 (by omega)], fun j hj => ?_⟩
        rw [dCpy_e, if_pos (by simp; omega), dSet_k (by omega), hF _ (by omega)]
        congr 1
        simp
      · obtain ⟨a1, a2⟩ := hv k (by omega)
        refine ⟨by rw [dCpy_k (by omega), dSet_j e]; exact a1, fun j hj => ?_⟩
        rw [dCpy_k (by omega), dSet_k (by omega)]
        exact a2 j hj
    refine v_X4_copy_11_29_27 ?_
    rw [d_cn h2]
    refine ⟨fun q => by exfalso; omega, fun _ => ⟨by omega, by omega, by omega, ?_⟩⟩
    refine ⟨fun q => ⟨by omega, fun _ => go _ _ (by omega) (by omega), fun q => by exfalso; omega, fun q => by exfalso; omega, fun q => by exfalso; omega⟩, fun q => ⟨by omega, fun q => by exfalso; omega, fun _ => go _ _ (by omega) (by omega), fun q => by exfalso; omega, fun q => by exfalso; omega⟩, fun q => ⟨by omega, fun q => by exfalso; omega, fun q => by exfalso; omega, fun _ => go _ _ (by omega) (by omega), fun q => by exfalso; omega⟩, fun q => ⟨by omega, fun q => by exfalso; omega, fun q => by exfalso; omega, fun q => by exfalso; omega, fun _ => go _ _ (by omega) (by omega)⟩⟩
theorem u_copy {Q : dM → Prop} (hS : MS V s m) (hT : LT m n Ds) (hI : MI V s) (hQ : ∀ m' : dM, (∀ k : Nat, (k < 2 ∨ 18 < k) → m'.1 k = m.1 k) → m'.2 = m.2 → (∀ j : Nat, j < 7 → m'.1 2 j = m.1 20 j) → hOk (hoX V s Ds) → CH (hoX V s Ds) m' → Q m') : c_X3_copy_2_20 2 m Q := by
  obtain ⟨L, lg, ln, ld⟩ := hT
  obtain ⟨⟨s1, s1'⟩, ⟨s2, s2'⟩, ⟨s3, s3'⟩, s4, s5, s6, s7, s8, s9, s10⟩ := hS
  refine v_X3_copy_2_20 ?_
  have e2 : ∀ j : Nat, j < 7 → (dSet (dSet (dSet (dSet (dSet (dSet (dSet m 2 0 (m.1 20 0)) 2 1 (m.1 20 1)) 2 2 (m.1 20 2)) 2 3 (m.1 20 3)) 2 4 (m.1 20 4)) 2 5 (m.1 20 5)) 2 6 (m.1 20 6)).1 2 j = m.1 20 j := fun j hj => by
    match j, hj with
    | 0, _ | 1, _ | 2, _ | 3, _ | 4, _ | 5, _ | 6, _ => rfl
    | j + 7, hj => omega
  have ek : ∀ k : Nat, k ≠ 2 → (dSet (dSet (dSet (dSet (dSet (dSet (dSet m 2 0 (m.1 20 0)) 2 1 (m.1 20 1)) 2 2 (m.1 20 2)) 2 3 (m.1 20 3)) 2 4 (m.1 20 4)) 2 5 (m.1 20 5)) 2 6 (m.1 20 6)).1 k = m.1 k := fun k hk => by rw [dSet_k hk, dSet_k hk, dSet_k hk, dSet_k hk, dSet_k hk, dSet_k hk, dSet_k hk]
  have e2' : (dSet (dSet (dSet (dSet (dSet (dSet (dSet m 2 0 (m.1 20 0)) 2 1 (m.1 20 1)) 2 2 (m.1 20 2)) 2 3 (m.1 20 3)) 2 4 (m.1 20 4)) 2 5 (m.1 20 5)) 2 6 (m.1 20 6)).2 = m.2 := rfl
  generalize dSet (dSet (dSet (dSet (dSet (dSet (dSet m 2 0 (m.1 20 0)) 2 1 (m.1 20 1)) 2 2 (m.1 20 2)) 2 3 (m.1 20 3)) 2 4 (m.1 20 4)) 2 5 (m.1 20 5)) 2 6 (m.1 20 6) = M at e2 ek e2' ⊢
  -- one row after the other
  have cp : ∀ (A : dM) (a b l j : Nat), j < l → (dCpy A a (0 : Int).toNat b (0 : Int).toNat ((l : Int)).toNat).1 b j = A.1 a j := fun A a b l j hj => by
    rw [dCpy_e, if_pos (by simp; omega)]
    congr 1
    simp
  have r3 : ∀ j : Nat, j < 7 → (dCpy (dCpy (dCpy (dCpy (dCpy (dCpy (dCpy (dCpy M 21 (0 : Int).toNat 3 (0 : Int).toNat (7 : Int).toNat) 22 (0 : Int).toNat 4 (0 : Int).toNat (10 : Int).toNat) 23 (0 : Int).toNat 5 (0 : Int).toNat (10 : Int).toNat) 24 (0 : Int).toNat 6 (0 : Int).toNat (10 : Int).toNat) 25 (0 : Int).toNat 7 (0 : Int).toNat (8 : Int).toNat) 26 (0 : Int).toNat 8 (0 : Int).toNat (8 : Int).toNat) 27 (0 : Int).toNat 9 (0 : Int).toNat (8 : Int).toNat) 28 (0 : Int).toNat 10 (0 : Int).toNat (8 : Int).toNat).1 3 j = m.1 21 j := fun j hj => by
    rw [dCpy_k (by decide), dCpy_k (by decide), dCpy_k (by decide), dCpy_k (by decide), dCpy_k (by decide), dCpy_k (by decide), dCpy_k (by decide)]
    exact (cp _ 21 3 7 j hj).trans (by rw [ek 21 (by decide)])
  have r4 : ∀ j : Nat, j < 10 → (dCpy (dCpy (dCpy (dCpy (dCpy (dCpy (dCpy (dCpy M 21 (0 : Int).toNat 3 (0 : Int).toNat (7 : Int).toNat) 22 (0 : Int).toNat 4 (0 : Int).toNat (10 : Int).toNat) 23 (0 : Int).toNat 5 (0 : Int).toNat (10 : Int).toNat) 24 (0 : Int).toNat 6 (0 : Int).toNat (10 : Int).toNat) 25 (0 : Int).toNat 7 (0 : Int).toNat (8 : Int).toNat) 26 (0 : Int).toNat 8 (0 : Int).toNat (8 : Int).toNat) 27 (0 : Int).toNat 9 (0 : Int).toNat (8 : Int).toNat) 28 (0 : Int).toNat 10 (0 : Int).toNat (8 : Int).toNat).1 4 j = m.1 22 j := fun j hj => by
    rw [dCpy_k (by decide), dCpy_k (by decide), dCpy_k (by decide), dCpy_k (by decide), dCpy_k (by decide), dCpy_k (by decide)]
    exact (cp _ 22 4 10 j hj).trans (by rw [dCpy_k (by decide), ek 22 (by decide)])
  have r5 : ∀ j : Nat, j < 10 → (dCpy (dCpy (dCpy (dCpy (dCpy (dCpy (dCpy (dCpy M 21 (0 : Int).toNat 3 (0 : Int).toNat (7 : Int).toNat) 22 (0 : Int).toNat 4 (0 : Int).toNat (10 : Int).toNat) 23 (0 : Int).toNat 5 (0 : Int).toNat (10 : Int).toNat) 24 (0 : Int).toNat 6 (0 : Int).toNat (10 : Int).toNat) 25 (0 : Int).toNat 7 (0 : Int).toNat (8 : Int).toNat) 26 (0 : Int).toNat 8 (0 : Int).toNat (8 : Int).toNat) 27 (0 : Int).toNat 9 (0 : Int).toNat (8 : Int).toNat) 28 (0 : Int).toNat 10 (0 : Int).toNat (8 : Int).toNat).1 5 j = m.1 23 j := fun j hj => by
    rw [dCpy_k (by decide), dCpy_k (by decide), dCpy_k (by decide), dCpy_k (by decide), dCpy_k (by decide)]
    exact (cp _ 23 5 10 j hj).trans (by rw [dCpy_k (by decide), dCpy_k (by decide), ek 23 (by decide)])
  have r6 : ∀ j : Nat, j < 10 → (dCpy (dCpy (dCpy (dCpy (dCpy (dCpy (dCpy (dCpy M 21 (0 : Int).toNat 3 (0 : Int).toNat (7 : Int).toNat) 22 (0 : Int).toNat 4 (0 : Int).toNat (10 : Int).toNat) 23 (0 : Int).toNat 5 (0 : Int).toNat (10 : Int).toNat) 24 (0 : Int).toNat 6 (0 : Int).toNat (10 : Int).toNat) 25 (0 : Int).toNat 7 (0 : Int).toNat (8 : Int).toNat) 26 (0 : Int).toNat 8 (0 : Int).toNat (8 : Int).toNat) 27 (0 : Int).toNat 9 (0 : Int).toNat (8 : Int).toNat) 28 (0 : Int).toNat 10 (0 : Int).toNat (8 : Int).toNat).1 6 j = m.1 24 j := fun j hj => by
    rw [dCpy_k (by decide), dCpy_k (by decide), dCpy_k (by decide), dCpy_k (by decide)]
    exact (cp _ 24 6 10 j hj).trans (by rw [dCpy_k (by decide), dCpy_k (by decide), dCpy_k (by decide), ek 24 (by decide)])
  have r7 : ∀ j : Nat, j < 8 → (dCpy (dCpy (dCpy (dCpy (dCpy (dCpy (dCpy (dCpy M 21 (0 : Int).toNat 3 (0 : Int).toNat (7 : Int).toNat) 22 (0 : Int).toNat 4 (0 : Int).toNat (10 : Int).toNat) 23 (0 : Int).toNat 5 (0 : Int).toNat (10 : Int).toNat) 24 (0 : Int).toNat 6 (0 : Int).toNat (10 : Int).toNat) 25 (0 : Int).toNat 7 (0 : Int).toNat (8 : Int).toNat) 26 (0 : Int).toNat 8 (0 : Int).toNat (8 : Int).toNat) 27 (0 : Int).toNat 9 (0 : Int).toNat (8 : Int).toNat) 28 (0 : Int).toNat 10 (0 : Int).toNat (8 : Int).toNat).1 7 j = m.1 25 j := fun j hj => by
    rw [dCpy_k (by decide), dCpy_k (by decide), dCpy_k (by decide)]
    exact (cp _ 25 7 8 j hj).trans (by rw [dCpy_k (by decide), dCpy_k (by decide), dCpy_k (by decide), dCpy_k (by decide), ek 25 (by decide)])
  have r8 : ∀ j : Nat, j < 8 → (dCpy (dCpy (dCpy (dCpy (dCpy (dCpy (dCpy (dCpy M 21 (0 : Int).toNat 3 (0 : Int).toNat (7 : Int).toNat) 22 (0 : Int).toNat 4 (0 : Int).toNat (10 : Int).toNat) 23 (0 : Int).toNat 5 (0 : Int).toNat (10 : Int).toNat) 24 (0 : Int).toNat 6 (0 : Int).toNat (10 : Int).toNat) 25 (0 : Int).toNat 7 (0 : Int).toNat (8 : Int).toNat) 26 (0 : Int).toNat 8 (0 : Int).toNat (8 : Int).toNat) 27 (0 : Int).toNat 9 (0 : Int).toNat (8 : Int).toNat) 28 (0 : Int).toNat 10 (0 : Int).toNat (8 : Int).toNat).1 8 j = m.1 26 j := fun j hj => by
    rw [dCpy_k (by decide), dCpy_k (by decide)]
    exact (cp _ 26 8 8 j hj).trans (by rw [dCpy_k (by decide), dCpy_k (by decide), dCpy_k (by decide), dCpy_k (by decide), dCpy_k (by decide), ek 26 (by decide)])
  have r9 : ∀ j : Nat, j < 8 → (dCpy (dCpy (dCpy (dCpy (dCpy (dCpy (dCpy (dCpy M 21 (0 : Int).toNat 3 (0 : Int).toNat (7 : Int).toNat) 22 (0 : Int).toNat 4 (0 : Int).toNat (10 : Int).toNat) 23 (0 : Int).toNat 5 (0 : Int).toNat (10 : Int).toNat) 24 (0 : Int).toNat 6 (0 : Int).toNat (10 : Int).toNat) 25 (0 : Int).toNat 7 (0 : Int).toNat (8 : Int).toNat) 26 (0 : Int).toNat 8 (0 : Int).toNat (8 : Int).toNat) 27 (0 : Int).toNat 9 (0 : Int).toNat (8 : Int).toNat) 28 (0 : Int).toNat 10 (0 : Int).toNat (8 : Int).toNat).1 9 j = m.1 27 j := fun j hj => by
    rw [dCpy_k (by decide)]
    exact (cp _ 27 9 8 j hj).trans (by rw [dCpy_k (by decide), dCpy_k (by decide), dCpy_k (by decide), dCpy_k (by decide), dCpy_k (by decide), dCpy_k (by decide), ek 27 (by decide)])
  have r10 : ∀ j : Nat, j < 8 → (dCpy (dCpy (dCpy (dCpy (dCpy (dCpy (dCpy (dCpy M 21 (0 : Int).toNat 3 (0 : Int).toNat (7 : Int).toNat) 22 (0 : Int).toNat 4 (0 : Int).toNat (10 : Int).toNat) 23 (0 : Int).toNat 5 (0 : Int).toNat (10 : Int).toNat) 24 (0 : Int).toNat 6 (0 : Int).toNat (10 : Int).toNat) 25 (0 : Int).toNat 7 (0 : Int).toNat (8 : Int).toNat) 26 (0 : Int).toNat 8 (0 : Int).toNat (8 : Int).toNat) 27 (0 : Int).toNat 9 (0 : Int).toNat (8 : Int).toNat) 28 (0 : Int).toNat 10 (0 : Int).toNat (8 : Int).toNat).1 10 j = m.1 28 j := fun j hj => (cp _ 28 10 8 j hj).trans (by rw [dCpy_k (by decide), dCpy_k (by decide), dCpy_k (by decide), dCpy_k (by decide), dCpy_k (by decide), dCpy_k (by decide), dCpy_k (by decide), ek 28 (by decide)])
  have ck : ∀ k : Nat, (k < 3 ∨ 10 < k) → (dCpy (dCpy (dCpy (dCpy (dCpy (dCpy (dCpy (dCpy M 21 (0 : Int).toNat 3 (0 : Int).toNat (7 : Int).toNat) 22 (0 : Int).toNat 4 (0 : Int).toNat (10 : Int).toNat) 23 (0 : Int).toNat 5 (0 : Int).toNat (10 : Int).toNat) 24 (0 : Int).toNat 6 (0 : Int).toNat (10 : Int).toNat) 25 (0 : Int).toNat 7 (0 : Int).toNat (8 : Int).toNat) 26 (0 : Int).toNat 8 (0 : Int).toNat (8 : Int).toNat) 27 (0 : Int).toNat 9 (0 : Int).toNat (8 : Int).toNat) 28 (0 : Int).toNat 10 (0 : Int).toNat (8 : Int).toNat).1 k = M.1 k := fun k hk => by rw [dCpy_k (by omega), dCpy_k (by omega), dCpy_k (by omega), dCpy_k (by omega), dCpy_k (by omega), dCpy_k (by omega), dCpy_k (by omega), dCpy_k (by omega)]
  have c2 : (dCpy (dCpy (dCpy (dCpy (dCpy (dCpy (dCpy (dCpy M 21 (0 : Int).toNat 3 (0 : Int).toNat (7 : Int).toNat) 22 (0 : Int).toNat 4 (0 : Int).toNat (10 : Int).toNat) 23 (0 : Int).toNat 5 (0 : Int).toNat (10 : Int).toNat) 24 (0 : Int).toNat 6 (0 : Int).toNat (10 : Int).toNat) 25 (0 : Int).toNat 7 (0 : Int).toNat (8 : Int).toNat) 26 (0 : Int).toNat 8 (0 : Int).toNat (8 : Int).toNat) 27 (0 : Int).toNat 9 (0 : Int).toNat (8 : Int).toNat) 28 (0 : Int).toNat 10 (0 : Int).toNat (8 : Int).toNat).2 = M.2 := rfl
  generalize dCpy (dCpy (dCpy (dCpy (dCpy (dCpy (dCpy (dCpy M 21 (0 : Int).toNat 3 (0 : Int).toNat (7 : Int).toNat) 22 (0 : Int).toNat 4 (0 : Int).toNat (10 : Int).toNat) 23 (0 : Int).toNat 5 (0 : Int).toNat (10 : Int).toNat) 24 (0 : Int).toNat 6 (0 : Int).toNat (10 : Int).toNat) 25 (0 : Int).toNat 7 (0 : Int).toNat (8 : Int).toNat) 26 (0 : Int).toNat 8 (0 : Int).toNat (8 : Int).toNat) 27 (0 : Int).toNat 9 (0 : Int).toNat (8 : Int).toNat) 28 (0 : Int).toNat 10 (0 : Int).toNat (8 : Int).toNat = N at r3 r4 r5 r6 r7 r8 r9 r10 ck c2 ⊢
  have nk : ∀ k : Nat, (k < 2 ∨ 10 < k) → N.1 k = m.1 k := fun k hk => by rw [ck k (by omega), ek k (by omega)]
  have b := lg.1
  have b2' := lg.2.1
  have e29 : N.1 29 1 = m.1 29 1 := by rw [nk 29 (by omega)]
  refine v_X4_copy_11_29 ⟨by rw [e29]; omega, ?_⟩
  rw [e29, b, Int.toNat_natCast]
  have p12 : ∀ j : Nat, j < L.length → (dSet (dCpy N 30 (0 : Int).toNat 12 (0 : Int).toNat L.length) 11 1 (m.1 29 1)).1 12 j = L.getD j 0 := fun j hj => by
    rw [dSet_k (by decide), dCpy_e, if_pos (by simp; omega), nk 30 (by omega), show (0 : Int).toNat + (j - (0 : Int).toNat) = j by simp]
    exact lg.2.2 j hj
  have pk : ∀ k : Nat, k ≠ 11 → k ≠ 12 → (dSet (dCpy N 30 (0 : Int).toNat 12 (0 : Int).toNat L.length) 11 1 (m.1 29 1)).1 k = N.1 k := fun k h1 h2 => by rw [dSet_k h1, dCpy_k h2]
  have p2' : (dSet (dCpy N 30 (0 : Int).toNat 12 (0 : Int).toNat L.length) 11 1 (m.1 29 1)).2 = N.2 := rfl
  generalize dSet (dCpy N 30 (0 : Int).toNat 12 (0 : Int).toNat L.length) 11 1 (m.1 29 1) = N' at p12 pk p2' ⊢
  refine u_lcopy (m0 := N') (fun m' hF h2 hl' => ?_) 4 0 _ N' rfl (by decide) (fun _ _ => rfl) rfl (fun k hk => absurd hk (Nat.not_lt_zero k))
  have q2 : ∀ j : Nat, j < 7 → m'.1 2 j = m.1 20 j := fun j hj => by rw [hF 2 (by omega), pk 2 (by decide) (by decide), ck 2 (by omega)]; exact e2 j hj
  have hr : ∀ k : Nat, 3 ≤ k → k ≤ 10 → m'.1 k = N.1 k := fun k a b => by rw [hF k (by omega), pk k (by omega) (by omega)]
  have hD : ∀ k : Nat, k < 4 → lOk (Ds k) := fun k hk => (ld k hk).2.1
  have hO : hOk (hoX V s Ds) := hoX_ok hI s1' s2' s3' hD
  refine hQ m' (fun k hk => by rw [hF k (by omega), pk k (by omega) (by omega), nk k (by omega)]) (by rw [h2, p2', c2, e2']) q2 hO ⟨⟨⟨?_, s1'⟩, ⟨?_, s2'⟩, fun w hw => ?_⟩, ?_, fun f hf => ?_, fun w hw => ?_, fun u hu => ?_, ⟨?_, ?_, ?_, ?_⟩, fun k hk => ?_⟩
  · rw [q2 0 (by decide)]; exact s1
  · rw [q2 1 (by decide)]; exact s2
  · have hw : w < s.2.1.length := hw
    obtain ⟨⟨a1, a2, a3⟩, _⟩ := s5 w hw
    obtain ⟨i1, i2, i3, _⟩ := hI.1 w hw
    refine ⟨⟨?_, ?_⟩, i1, i2, i3⟩
    · rw [hr 4 (by omega) (by omega), r4 w (by omega)]; exact a1
    · rw [hr 5 (by omega) (by omega), r5 w (by omega)]; exact a2
  · rw [q2 2 (by decide)]; exact s3
  · have hf : f < s.1.length := hf
    rw [hr 3 (by omega) (by omega), r3 f (by omega)]; exact (s4 f hf).2
  · have hw : w < s.2.1.length := hw
    rw [hr 6 (by omega) (by omega), r6 w (by omega)]; exact (s5 w hw).1.2.2
  · have hu : u < s.2.2.1.length := hu
    obtain ⟨_, a1, a2, a3, a4⟩ := s6 u hu
    rw [hr 7 (by omega) (by omega), hr 8 (by omega) (by omega), hr 9 (by omega) (by omega), hr 10 (by omega) (by omega), r7 u (by omega), r8 u (by omega), r9 u (by omega), r10 u (by omega)]
    exact ⟨a1, a2, a3, a4⟩
  · rw [q2 3 (by decide)]; exact s7
  · rw [q2 4 (by decide)]; exact s8
  · rw [q2 5 (by decide)]; exact s9
  · rw [q2 6 (by decide)]; exact s10
  · obtain ⟨d1, d2, d3⟩ := ld k hk
    obtain ⟨g1, g2⟩ := hl' k hk
    have n36 : N'.1 36 k = m.1 36 k := by rw [pk 36 (by decide) (by decide), nk 36 (by omega)]
    have n32 : N'.1 (32 + k) = m.1 (32 + k) := by rw [pk (32 + k) (by omega) (by omega), nk (32 + k) (by omega)]
    show LC m' k (Ds k)
    refine ⟨by rw [g1, n36]; exact d1, d2, fun i hi => ?_⟩
    obtain ⟨a, a1, a2, a3⟩ := d3 i hi
    have q4 := d2.1
    refine ⟨a, by rw [g2 i (by omega), n32]; exact a1, by rw [g2 (i + 1) (by omega), n32]; exact a2, by have := a3.1; omega, fun j hj => ?_⟩
    rw [hF 12 (by omega), p12 (a + j) (by have := a3.1; omega)]
    exact a3.2 j hj
theorem u_begin47 {H : Ho} {Q : dM → Prop} (hH : CH H m) (hu : hoU H ≤ 8) (hQ : ∀ m' : dM, (∀ k : Nat, (k < 47 ∨ 50 < k) → m'.1 k = m.1 k) → m'.2 = m.2 → CZ 47 m' (sz0 H (m.1 6)) → Q m') : c_X7_begin_47_2 2 m Q := by
  refine v_X7_begin_47_2 ?_
  rw [b1_of hH.2.1]
  refine y_fill49 (fun m1 h1 e1 v1 => y_fill50 (fun m2 h2 e2 v2 => hQ m2 (fun k hk => ?_) (by rw [e2, e1]; rfl) ⟨⟨?_, ?_, ?_, ?_, ?_, ?_⟩, fun j hj => ?_, fun j hj => ?_, fun j hj => v2 j hj⟩))
  · rw [h2 k (by omega), h1 k (by omega), dCpy_k (by omega), dSet_k (by omega), dSet_k (by omega), dSet_k (by omega), dSet_k (by omega), dSet_k (by omega), dSet_k (by omega)]
  · rw [h2 47 (by decide), h1 47 (by decide), dCpy_k (by decide), dSet_j (by decide), dSet_j (by decide), dSet_j (by decide), dSet_j (by decide), dSet_j (by decide), dSet_s]; rfl
  · rw [h2 47 (by decide), h1 47 (by decide), dCpy_k (by decide), dSet_j (by decide), dSet_j (by decide), dSet_j (by decide), dSet_j (by decide), dSet_s]; exact hH.2.2.2.2.2.1.2.2.1
  · rw [h2 47 (by decide), h1 47 (by decide), dCpy_k (by decide), dSet_j (by decide), dSet_j (by decide), dSet_j (by decide), dSet_s]; rfl
  · rw [h2 47 (by decide), h1 47 (by decide), dCpy_k (by decide), dSet_j (by decide), dSet_j (by decide), dSet_s]; rfl
  · rw [h2 47 (by decide), h1 47 (by decide), dCpy_k (by decide), dSet_j (by decide), dSet_s]; rfl
  · rw [h2 47 (by decide), h1 47 (by decide), dCpy_k (by decide), dSet_s]; rfl
  · show m2.1 48 j = m.1 6 j
    rw [h2 48 (by decide), h1 48 (by decide), dCpy_e, if_pos (by simp; omega), dSet_k (by decide), dSet_k (by decide), dSet_k (by decide), dSet_k (by decide), dSet_k (by decide), dSet_k (by decide), show (0 : Int).toNat + (j - (0 : Int).toNat) = j by simp]
  · show m2.1 49 j = 0
    rw [h2 49 (by decide)]
    exact v1 j hj
end UCO
end
section
/-! THE CLASS's read, and how it stands then, 2 -/
theorem MS.s0 {V : Nat → Int64} {s : mSt} {m : dM} {j : Nat} {v : Int32} (h : MS V s m) : MS V s (dSet m 0 j v) := by
  unfold MS
  rw [dSet_k (by decide), dSet_k (by decide), dSet_k (by decide), dSet_k (by decide), dSet_k (by decide), dSet_k (by decide), dSet_k (by decide), dSet_k (by decide), dSet_k (by decide)]
  exact h
/-- what a call leaves that changes none of these cells -/
theorem KC.fr2 {H : Ho} {S : Zt} {P : List Zt} {L : Nat → Zt} {m m' : dM} (h : KC H S P L m) (e : ∀ k : Nat, (2 ≤ k ∧ k < 20) ∨ 44 < k → m'.1 k = m.1 k) : KC H S P L m' := ⟨⟨h.1.1, h.1.2.1.of (fun k a b _ => e k (by omega)), h.1.2.2.of (fun k a b => e k (by omega))⟩, h.2.1.of (fun k a b => e k (by omega)), h.2.2.1.of (by rw [e 51 (by omega)]) (by rw [e 51 (by omega)]) (e 52 (by omega)), h.2.2.2.of (by rw [e 51 (by omega)]) (e 53 (by omega))⟩
/-- the laws of a text -/
def rdL (B : Nat → Int32) (n : Nat) : Nat → lD := lAll (tK B n) (tV B n) 401 0 0 0 0 lD0
def rdH (B : Nat → Int32) (n : Nat) : Ho := hoX (tV B n) (rdR (tK B n) (tV B n)).2 (rdL B n)
def RdK (B : Nat → Int32) (n : Nat) (H : Ho) (S : Zt) (P : List Zt) (L : Nat → Zt) (m' : dM) : Prop := ((rdR (tK B n) (tV B n)).1.1 = 0 → ∃ R : Nat → Int32, (∀ w : Nat, w < hoW (rdH B n) → R w = hoR (rdH B n) w) ∧ KC (rdH B n) (sz0 (rdH B n) R) [] L m') ∧ ((rdR (tK B n) (tV B n)).1.1 ≠ 0 → KC H S P L m')
theorem u_draft {m : dM} {Q : dM → Prop} (h : GL m) (hQ : ∀ m' : dM, (∀ k : Nat, (k < 20 ∨ (20 < k ∧ k < 29) ∨ k = 31 ∨ 36 < k) → m'.1 k = m.1 k) → m'.2 = m.2 → GL m' → (∀ V : Nat → Int64, MS V mS0 m') → LT m' 0 lD0 → Q m') : c_X3_clear_20 3 m Q := by
  refine v_X3_clear_20 (u_clear (m := dSet (dSet (dSet (dSet (dSet (dSet (dSet m 20 0 (0 : Int32)) 20 1 (0 : Int32)) 20 2 (0 : Int32)) 20 3 (0 : Int32)) 20 4 (0 : Int32)) 20 5 (100 : Int32)) 20 6 (0 : Int32)) ?_ (fun m' h' lt => hQ m' (fun k hk => ?_) h'.2.1 h'.2.2 (fun V => ?_) lt))
  · unfold GL
    rw [dSet_k (by decide), dSet_k (by decide), dSet_k (by decide), dSet_k (by decide), dSet_k (by decide), dSet_k (by decide), dSet_k (by decide), dSet_k (by decide), dSet_k (by decide), dSet_k (by decide), dSet_k (by decide), dSet_k (by decide), dSet_k (by decide), dSet_k (by decide)]
    exact h
  · rw [h'.1 k (by omega), dSet_k (by omega), dSet_k (by omega), dSet_k (by omega), dSet_k (by omega), dSet_k (by omega), dSet_k (by omega), dSet_k (by omega)]
  · have e20 := h'.1 20 (by omega)
    unfold MS
    rw [e20]
    exact ⟨⟨rfl, by decide⟩, ⟨rfl, by decide⟩, ⟨rfl, by decide⟩, fun i hi => absurd hi (Nat.not_lt_zero i), fun i hi => absurd hi (Nat.not_lt_zero i), fun i hi => absurd hi (Nat.not_lt_zero i), rfl, rfl, rfl, rfl⟩
theorem p_read {m : dM} {B : Nat → Int32} {n : Nat} {H : Ho} {S : Zt} {P : List Zt} {L : Nat → Zt} {Q : Int32 → dM → Prop} (hL : GL m) (hKC : KC H S P L m) (hn : (m.1 0 1).toInt = (n : Int)) (h2000 : n ≤ 2000) (hB : ∀ i : Nat, B i = if i < n then (m.1 1 i) &&& 255 else 0) (hQ : ∀ (r : Int32) (m' : dM), RD B n r m m' → RdK B n H S P L m' → Q r m') : c_X11_read_0 70 m Q := by
  refine v_X11_read_0 (Wp.deep (f_scan hn h2000 hB (fun m1 e1 l1 e38 hT => ?_)) (Nat.le_of_ble_eq_true rfl))
  have gL1 : GL (dSet m1 0 1 (0 : Int32)) := by
    unfold GL
    rw [dSet_k (by decide), dSet_k (by decide), e1 29 (by decide) (by decide) (by decide), e1 36 (by decide) (by decide) (by decide)]
    exact hL
  refine Wp.deep (u_draft gL1 (fun m2 e2 p2 gL2 hM2 lt2 => ?_)) (Nat.le_of_ble_eq_true rfl)
  have f2 : ∀ k : Nat, k ≠ 0 → (k < 20 ∨ (20 < k ∧ k < 29) ∨ k = 31 ∨ 36 < k) → m2.1 k = m1.1 k := fun k h0 hk => by rw [e2 k hk, dSet_k h0]
  have hK2 : KM (tK B n) m2 := fun i h1 h2 => by
    rw [f2 39 (by decide) (by omega)]
    exact (hT i h1 h2).1
  have hV2 : VM (tK B n) (tV B n) m2 := fun i h1 h2 => by
    refine ⟨hK2 i h1 h2, fun hk => ?_⟩
    have : m2.2.1 41 = m1.2.1 41 := by rw [p2]; rfl
    rw [this]
    exact (hT i h1 h2).2.2 hk
  have hP2 : ∀ i : Nat, i ≤ 400 → lvK (tK B n) i → (m2.1 40 i).toInt = ((tP B n i : Nat) : Int) := fun i h1 h2 => by
    rw [f2 40 (by decide) (by omega)]
    exact (hT i h1 h2).2.1
  refine Wp.deep (kk_check hV2 (fun i h => tV9 h) gL2 lt2 (fun r3 m3 F3 gL3 hr3 n3 c3 hl3 lt3 => ?_)) (Nat.le_of_ble_eq_true rfl)
  -- frames up to here
  have f3 : ∀ k : Nat, (2 ≤ k ∧ k < 20) ∨ 43 < k → m3.1 k = m.1 k := fun k hk => by
    rw [F3.1 k (by omega), f2 k (by omega) (by omega), e1 k (by omega) (by omega) (by omega)]
  have t3 : m3.1 0 1 = 0 := by rw [F3.1 0 (by omega), e2 0 (by omega)]; rfl
  generalize hG : gAll (tK B n) 401 0 0 0 0 = G at hr3 n3 c3 hl3 lt3
  have fin : ∀ (r : Int32) (m' : dM), RD B n r m m' → RdK B n H S P L m' → j_X11_read_0_123 70 r m' Q := fun r m' h h2 => v_X11_read_0_123 (hQ r m' h h2)
  refine v_X2_faultAt_43 ⟨fun z => Wp.deep (h_placeAt n3 hl3.1 ?_) (Nat.le_of_ble_eq_true rfl), fun z => ?_⟩
  · have zG : G.1 ≠ 0 := by omega
    have eR : rdR (tK B n) (tV B n) = (G, mS0) := by
      unfold rdR
      rw [hG, if_neg zG]
    refine ⟨fun _ => v_X11_read_0_69 ⟨fun _ => fin _ _ ?_ ⟨fun q => by rw [eR] at q; exact absurd q zG, fun _ => hKC.fr2 (fun k hk => by rw [dSet_k (by omega)]; exact f3 k (by omega))⟩, fun q => by exfalso; omega⟩, fun q => by exfalso; omega⟩
    unfold RD
    rw [eR]
    refine ⟨fun k hk => ?_, by rw [dSet_j (by decide)]; exact t3, hr3, ?_, fun q => absurd q zG, fun _ => ⟨?_, ?_, ?_⟩⟩
    · rw [dSet_k (by omega)]; exact f3 k (by omega)
    · rw [dSet_s, if_neg zG, F3.1 40 (by omega)]
      exact hP2 _ hl3.1 hl3.2
    · rw [dSet_k (by decide), f3 2 (by omega)]
    · rw [dSet_k (by decide), f3 51 (by omega)]
    · rw [dSet_k (by decide), f3 67 (by omega)]
  · have zG : G.1 = 0 := by omega
    have eR : rdR (tK B n) (tV B n) = mAll (tK B n) (tV B n) 401 0 mS0 := by
      unfold rdR
      rw [hG, if_pos zG]
    refine ⟨fun q => by exfalso; omega, fun _ => ?_⟩
    have fM : ∀ k : Nat, k ≠ 0 → (dSet m3 0 2 (-1 : Int32)).1 k = m3.1 k := fun k hk => dSet_k hk
    have tM : (dSet m3 0 2 (-1 : Int32)).1 0 1 = 0 := by rw [dSet_j (by decide)]; exact t3
    have lM : (dSet m3 0 2 (-1 : Int32)).2 = m3.2 := rfl
    generalize dSet m3 0 2 (-1 : Int32) = M at fM tM lM ⊢
    have hVM : VM (tK B n) (tV B n) M := hV2.of (by rw [fM 39 (by decide), F3.1 39 (by omega)]) (by rw [lM, F3.2.1])
    have hMM : MS (tV B n) mS0 M := (hM2 (tV B n)).of20 (by rw [fM 20 (by decide), F3.1 20 (by omega)])
    refine Wp.deep (h_check hVM hMM hG zG hl3.1 hl3.2 (fun r5 m5 F5 hr5 c5 bad5 ok5 => ?_)) (Nat.le_of_ble_eq_true rfl)
    rw [← eR] at hr5 c5 bad5 ok5
    have f5 : ∀ k : Nat, (2 ≤ k ∧ k < 20) ∨ 44 < k → m5.1 k = m.1 k := fun k hk => by
      rw [F5.1 k (by omega), fM k (by omega), f3 k (by omega)]
    have t5 : m5.1 0 1 = 0 := by rw [F5.1 0 (by omega)]; exact tM
    refine v_X5_faultAt_44 ⟨fun z5 => ?_, fun z5 => ?_⟩
    · have zR : (rdR (tK B n) (tV B n)).1.1 ≠ 0 := by omega
      obtain ⟨b1, b2, b3⟩ := bad5 zR
      refine Wp.deep (h_placeAt b1 b2 ?_) (Nat.le_of_ble_eq_true rfl)
      refine v_X11_read_0_69 ⟨fun _ => fin _ _ ?_ ⟨fun q => absurd q zR, fun _ => hKC.fr2 (fun k hk => by rw [dSet_k (by omega)]; exact f5 k (by omega))⟩, fun q => by exfalso; omega⟩
      refine ⟨fun k hk => ?_, by rw [dSet_j (by decide)]; exact t5, hr5, ?_, fun q => absurd q zR, fun _ => ⟨?_, ?_, ?_⟩⟩
      · rw [dSet_k (by omega)]; exact f5 k (by omega)
      · rw [dSet_s, if_neg zR, F5.1 40 (by omega), fM 40 (by decide), F3.1 40 (by omega)]
        exact hP2 _ b2 b3
      · rw [dSet_k (by decide), f5 2 (by omega)]
      · rw [dSet_k (by decide), f5 51 (by omega)]
      · rw [dSet_k (by decide), f5 67 (by omega)]
    · have zR : (rdR (tK B n) (tV B n)).1.1 = 0 := by omega
      have hS := ok5 zR
      refine v_X11_read_0_69 ⟨fun q => by exfalso; omega, fun _ => ?_⟩
      have gL5 : GL (dSet m5 0 2 (-1 : Int32)) := by
        unfold GL
        rw [dSet_k (by decide), dSet_k (by decide), F5.1 29 (by omega), F5.1 36 (by omega), fM 29 (by decide), fM 36 (by decide)]
        exact gL3
      have lt5 : LT (dSet m5 0 2 (-1 : Int32)) 400 (lAll (tK B n) (tV B n) 401 0 0 0 0 lD0) := (lt3 zG).of (fun k a b => by rw [dSet_k (by omega), F5.1 k (by omega), fM k (by omega)]) (Nat.le_refl _)
      have hI := MI_rd (K := tK B n) (V := tV B n) zR
      refine Wp.deep (u_copy hS.s0 lt5 hI (fun m6 e6 l6 c6 hO6 ch6 => ?_)) (Nat.le_of_ble_eq_true rfl)
      refine v_X0_houseIsNew_54 (v_X10_houseIsNew_57 ?_)
      have ch6' : CH (hoX (tV B n) (rdR (tK B n) (tV B n)).2 (lAll (tK B n) (tV B n) 401 0 0 0 0 lD0)) (dSet m6 57 1 (-1 : Int32)) := ch6.of (fun k a b _ => dSet_k (by omega))
      refine Wp.deep (u_begin47 ch6' hO6.2.2.1 (fun m7 e7 l7 z7 => v_X6_clear_51 (v_X6_clearSlots_51 (v_X9_clear_67 (fin _ _ ?_ ⟨fun _ => ?_, fun q => absurd zR q⟩))))) (Nat.le_of_ble_eq_true rfl)
      rotate_left
      · refine ⟨(dSet m6 57 1 (-1 : Int32)).1 6, fun w hw => ?_, ⟨⟨hO6, ch6'.of (fun k a b _ => by rw [dSet_k (by omega), dSet_k (by omega), dSet_k (by omega), dSet_k (by omega), e7 k (by omega)]), fun q => ?_⟩, z7.of (fun k a b => by rw [dSet_k (by omega), dSet_k (by omega), dSet_k (by omega), dSet_k (by omega)]), ⟨0, by decide, rfl, rfl, Nat.zero_le _, fun k T hT => by cases hT⟩, fun i hi => ?_, fun i hi hb => ?_⟩⟩
        · rw [dSet_k (by decide)]
          exact ch6.2.2.2.1 w hw
        · exfalso
          refine q ?_
          rw [dSet_k (by decide), dSet_k (by decide), dSet_k (by decide), dSet_k (by decide), e7 57 (by omega), dSet_s]
          decide
        · have : (dSet (dSet (dSet (dSet m7 51 2 (0 : Int32)) 51 3 (0 : Int32)) 51 4 (0 : Int32)) 67 3 (0 : Int32)).1 51 4 = 0 := rfl
          rw [this, bt_0]
        · exfalso
          have : (dSet (dSet (dSet (dSet m7 51 2 (0 : Int32)) 51 3 (0 : Int32)) 51 4 (0 : Int32)) 67 3 (0 : Int32)).1 51 4 = 0 := rfl
          rw [this, bt_0] at hb
          cases hb
      have k7 : ∀ k : Nat, k ≠ 57 → (k < 2 ∨ 50 < k) → m7.1 k = (dSet m5 0 2 (-1 : Int32)).1 k := fun k h1 hk => by rw [e7 k (by omega), dSet_k h1, e6 k (by omega)]
      refine ⟨fun k hk => ?_, ?_, hr5, ?_, fun _ => ⟨?_, rfl, rfl⟩, fun q => absurd zR q⟩
      · rw [dSet_k (by omega), dSet_k (by omega), dSet_k (by omega), dSet_k (by omega), k7 k (by omega) (by omega), dSet_k (by omega)]
        exact f5 k (by omega)
      · rw [dSet_k (by decide), dSet_k (by decide), dSet_k (by decide), dSet_k (by decide), k7 0 (by decide) (by omega), dSet_j (by decide)]
        exact t5
      · rw [dSet_k (by decide), dSet_k (by decide), dSet_k (by decide), dSet_k (by decide), k7 0 (by decide) (by omega), dSet_s, if_pos zR]
        decide
      · rw [dSet_k (by decide), dSet_k (by decide), dSet_k (by decide), dSet_k (by decide), e7 2 (by omega), dSet_k (by decide), c6 0 (by decide), dSet_k (by decide)]
        exact hS.1.1
end
section
/-! THE REFERENCE's expression: the codes that it puts -/
/-- what waits, the last first -/
def wL (g : Nat → Int32) : List Int → Prop
  | [] => True
  | w :: W => (g W.length).toInt = rk w ∧ (w = 40 ∨ w = 43 ∨ w = 45 ∨ w = 42 ∨ w = 47) ∧ wL g W
theorem wL_of {g g' : Nat → Int32} : ∀ (W : List Int), (∀ j : Nat, j < W.length → g' j = g j) → wL g W → wL g' W
  | [], _, _ => trivial
  | w :: W, e, h => by
    have e1 := e W.length (by rw [List.length_cons]; omega)
    exact ⟨by rw [e1]; exact h.1, h.2.1, wL_of W (fun j hj => e j (by rw [List.length_cons]; omega)) h.2.2⟩
theorem rk_op {w : Int} (h : w = 40 ∨ w = 43 ∨ w = 45 ∨ w = 42 ∨ w = 47) : (w = 40 ∧ rk w = 6) ∨ (w = 43 ∧ rk w = 8) ∨ (w = 45 ∧ rk w = 9) ∨ (w = 42 ∧ rk w = 10) ∨ (w = 47 ∧ rk w = 15) := by
  rcases h with rfl | rfl | rfl | rfl | rfl <;> decide
def xsT (x : Int32) : Bool := decide (x.toInt ≠ 0)
theorem SR.snoc {m : dM} {a : Nat} {L : lC} {x : Int32} (h : SR m a L) (hb : a + L.length < 840) (hx : cR (m.1 102 (a + L.length)) (m.1 103 (a + L.length)) x) : SR m a (L ++ [x]) := by
  refine ⟨by rw [List.length_append]; show a + (L.length + 1) ≤ 840; omega, fun j hj => ?_⟩
  rw [List.length_append] at hj
  have hj : j < L.length + 1 := hj
  by_cases q : j < L.length
  · rw [List.getD_eq_getElem?_getD, List.getElem?_append_left q, ← List.getD_eq_getElem?_getD]
    exact h.2 j q
  · have e : j = L.length := by omega
    subst e
    rw [List.getD_eq_getElem?_getD, List.getElem?_append_right (Nat.le_refl _), Nat.sub_self]
    exact hx
theorem SR.on {m m' : dM} {a : Nat} {L : lC} (h : SR m a L) (e : ∀ j : Nat, a ≤ j → j < a + L.length → m'.1 102 j = m.1 102 j ∧ m'.1 103 j = m.1 103 j) : SR m' a L := ⟨h.1, fun j hj => by rw [(e (a + j) (by omega) (by omega)).1, (e (a + j) (by omega) (by omega)).2]; exact h.2 j hj⟩
/-- what lies there when it has come out -/
def xO (x : Int32) (c0 : Nat) (L : List Int) (u : lC) (m : dM) (n q : Nat) : Prop := (fl (xsT x) L u).1.length = n ∧ (fl (xsT x) L u).2.length = q ∧ wL (m.1 104) (fl (xsT x) L u).1 ∧ SR m c0 (fl (xsT x) L u).2
theorem xcd {code x : Int32} (hc : 2 ≤ code.toInt ∧ code.toInt ≤ 5) (he : x = code - 2) : cR code 0 x := Or.inr (Or.inr ⟨hc.1, hc.2, he⟩)
theorem xo_1 {x1 : Int32} {Q : dM → Prop} {c0 : Nat} {B : Int} (hB : B ≤ 839) : ∀ (n : Nat) (m : dM) (o p c q : Nat) (L : List Int) (u : lC), n ≤ 64 → wtg m = n → Wk (m.1 104) n o p c → cds m = c0 + q → gDp m.1 q c0 0 (p + 1) → cds m + p ≤ B → L.length = n → u.length = q → wL (m.1 104) L → SR m c0 u →
    (∀ (m' : dM) (n' p' c' q' : Nat), CoF m p m' → wtg m' = n' → Wk (m'.1 104) n' o p' c' → c' ≤ 1 → (x1.toInt = 0 → c' = 0) → cds m' = c0 + q' → gDp m'.1 q' c0 0 (p' + 1) → cds m' + p' = cds m + p → q ≤ q' → m'.2 = m.2 → xO x1 c0 L u m' n' q' → Q m') → j_X12_comesOut_70_0 2 x1 m Q := by
  intro n
  induction n with
  | zero =>
    intro m o p c q L u hn hw hW hc hD hB' hL hu hWL hSR hQ
    have eL : L = [] := List.length_eq_zero_iff.mp hL
    subst eL
    have hW' : o = 0 ∧ p = 0 ∧ c = 0 := hW
    refine v_X12_comesOut_70_0 ⟨fun _ => hQ m 0 p c q ⟨fun _ _ _ _ => rfl, fun _ _ _ => rfl, fun _ _ => ⟨rfl, rfl⟩⟩ hw hW (by omega) (fun _ => hW'.2.2) hc hD rfl (Nat.le_refl _) rfl ⟨rfl, hu, trivial, hSR⟩, fun h => ?_⟩
    have h : 0 < wtg m := h
    exfalso; omega
  | succ n ih =>
    intro m o p c q L u hn hw hW hc hD hB' hL hu hWL hSR hQ
    obtain ⟨w, L', rfl⟩ : ∃ w L', L = w :: L' := by
      cases L with
      | nil => cases hL
      | cons w L' => exact ⟨w, L', rfl⟩
    have hL' : L'.length = n := by rw [List.length_cons] at hL; omega
    obtain ⟨hw1, hw2, hw3⟩ := hWL
    rw [hL'] at hw1
    have hop := rk_op hw2
    have ew : (m.1 70 50).toInt = wtg m := rfl
    have ec : (m.1 70 46).toInt = cds m := rfl
    have f := dSubE (X := wtg m) (Y := 1) (x := m.1 70 50) (y := (1 : Int32)) rfl (by decide) (by omega) (by omega)
    have ei : (m.1 70 50 - (1 : Int32)).toNatClampNeg = n := by
      have := d_cl (x := m.1 70 50 - (1 : Int32)) (by omega)
      omega
    have stay : (w = 40 ∨ (xsT x1 = true ∧ (w = 43 ∨ w = 45))) → c ≤ 1 → (x1.toInt = 0 → c = 0) → j_X12_comesOut_70_41 2 m Q := fun hst h1 h2 => v_X12_comesOut_70_41 (hQ m (n + 1) p c q ⟨fun _ _ _ _ => rfl, fun _ _ _ => rfl, fun _ _ => ⟨rfl, rfl⟩⟩ hw hW h1 h2 hc hD rfl (Nat.le_refl _) rfl (by unfold xO; rw [fl_s hst]; exact ⟨hL, hu, ⟨by rw [hL']; exact hw1, hw2, hw3⟩, hSR⟩))
    have out : ∀ (p1 c1 : Nat), p = p1 + 1 → Wk (m.1 104) n o p1 c1 → ¬ (w = 40 ∨ (xsT x1 = true ∧ (w = 43 ∨ w = 45))) → ∀ code : Int32, 2 ≤ code.toInt ∧ code.toInt ≤ 5 → opc w = code - 2 → c_X12_emit_70 1 code (0 : Int32) (dSet m 70 50 ((m.1 70 50) - (1 : Int32))) (fun m1 => j_X12_comesOut_70_0 2 x1 m1 Q) := by
      intro p1 c1 hp hW1 hst code hcode hopc
      refine v_X12_emit_70 ?_
      have ec' : ((dSet m 70 50 ((m.1 70 50) - (1 : Int32))).1 70 46) = m.1 70 46 := rfl
      rw [ec']
      have fc := dAddE (X := cds m) (Y := 1) (x := m.1 70 46) (y := (1 : Int32)) rfl (by decide) (by omega) (by omega)
      have eC : (m.1 70 46).toNatClampNeg = c0 + q := by
        have := d_cl (x := m.1 70 46) (by omega)
        omega
      refine ⟨by omega, ⟨by omega, ?_⟩⟩
      rw [eC]
      have r2 : ∀ j, j ≠ c0 + q → (dSet (dSet (dSet (dSet m 70 50 ((m.1 70 50) - (1 : Int32))) 102 (c0 + q) code) 103 (c0 + q) (0 : Int32)) 70 46 ((m.1 70 46) + (1 : Int32))).1 102 j = m.1 102 j ∧ (dSet (dSet (dSet (dSet m 70 50 ((m.1 70 50) - (1 : Int32))) 102 (c0 + q) code) 103 (c0 + q) (0 : Int32)) 70 46 ((m.1 70 46) + (1 : Int32))).1 103 j = m.1 103 j := fun j hj => by
        constructor
        · rw [dSet_k (by decide), dSet_k (by decide), dSet_j hj, dSet_k (by decide)]
        · rw [dSet_k (by decide), dSet_j hj, dSet_k (by decide), dSet_k (by decide)]
      have r1 : (dSet (dSet (dSet (dSet m 70 50 ((m.1 70 50) - (1 : Int32))) 102 (c0 + q) code) 103 (c0 + q) (0 : Int32)) 70 46 ((m.1 70 46) + (1 : Int32))).1 102 (c0 + q) = code := by rw [dSet_k (by decide), dSet_k (by decide), dSet_s]
      have r3 : (dSet (dSet (dSet (dSet m 70 50 ((m.1 70 50) - (1 : Int32))) 102 (c0 + q) code) 103 (c0 + q) (0 : Int32)) 70 46 ((m.1 70 46) + (1 : Int32))).1 103 (c0 + q) = 0 := by rw [dSet_k (by decide), dSet_s]
      generalize hM : (dSet (dSet (dSet (dSet m 70 50 ((m.1 70 50) - (1 : Int32))) 102 (c0 + q) code) 103 (c0 + q) (0 : Int32)) 70 46 ((m.1 70 46) + (1 : Int32))) = M at r1 r2 r3 ⊢
      have w1 : wtg M = n := by rw [← hM]; show (m.1 70 50 - (1 : Int32)).toInt = n; omega
      have w2 : cds M = c0 + (q + 1 : Nat) := by rw [← hM]; show (m.1 70 46 + (1 : Int32)).toInt = _; omega
      have w5 : M.2 = m.2 := by rw [← hM]; rfl
      have w3 : ∀ k : Nat, k ≠ 70 → k ≠ 102 → k ≠ 103 → M.1 k = m.1 k := fun k h1 h2 h3 => by rw [← hM, dSet_k h1, dSet_k h3, dSet_k h2, dSet_k h1]
      have w4 : ∀ j : Nat, j ≠ 46 → j ≠ 50 → M.1 70 j = m.1 70 j := fun j h1 h2 => by rw [← hM, dSet_j h1, dSet_k (by decide), dSet_k (by decide), dSet_j h2]
      have hD1 : gDp M.1 (q + 1) c0 0 (p1 + 1) := by
        refine gDp_op (gDp_congr (fun j h1 h2 => r2 j (by omega)) (by rw [← hp]; exact hD)) ?_ (by omega)
        rw [r1]; exact hcode
      have hS1 : SR M c0 (u ++ [opc w]) := by
        refine (hSR.on (fun j _ h2 => r2 j (by omega))).snoc (by omega) ?_
        rw [hu, r1, r3]
        exact xcd hcode hopc
      refine ih M o p1 c1 (q + 1) L' (u ++ [opc w]) (by omega) w1 (by rw [w3 104 (by decide) (by decide) (by decide)]; exact hW1) w2 hD1 (by omega) hL' (by rw [List.length_append, hu]; rfl) (by rw [w3 104 (by decide) (by decide) (by decide)]; exact hw3) hS1 ?_
      intro m' n' p' c' q' hF a1 a2 a3 a4 a5 a6 a7 a8 a9 a10
      refine hQ m' n' p' c' q' ⟨fun k h1 h2 h3 => (hF.1 k h1 h2 h3).trans (w3 k h1 h2 h3), fun j h1 h2 => (hF.2.1 j h1 h2).trans (w4 j h1 h2), fun j hj => ?_⟩ a1 a2 a3 a4 a5 a6 (by omega) (by omega) (a9.trans w5) (by unfold xO; rw [fl_w hst]; exact a10)
      have g1 := hF.2.2 j (by omega)
      have g2 := r2 j (by omega)
      exact ⟨g1.1.trans g2.1, g1.2.trans g2.2⟩
    refine v_X12_comesOut_70_0 ⟨fun h => by have h : wtg m ≤ 0 := h; exfalso; omega, fun _ => ⟨by omega, ?_⟩⟩
    rw [ei]
    have hW0 := hW
    unfold Wk at hW0
    rcases hW0 with ⟨a, b, o', c', d, w'⟩ | ⟨a, b, p', d, w'⟩ | ⟨a, b, p', c', d, i, w'⟩
    · exact ⟨fun _ => stay (Or.inl (by omega)) (by omega) (fun _ => b), fun h => absurd a h⟩
    · have w35 : w = 43 ∨ w = 45 := by omega
      have em : ∀ y : Int32, x1.toInt = 0 → y = m.1 104 n → j_X12_comesOut_70_42 2 x1 y m Q := fun y hx hy => by
        subst hy
        have hst : ¬ (w = 40 ∨ (xsT x1 = true ∧ (w = 43 ∨ w = 45))) := fun q => by
          rcases q with q | q
          · omega
          · exact of_decide_eq_true q.1 hx
        refine v_X12_comesOut_70_42 ⟨fun n8 => ⟨fun n9 => by exfalso; omega, fun n9 => out p' 0 d w' hst _ (by decide) (by unfold opc; rw [if_neg (by omega), if_pos (by omega)]; decide)⟩, fun n8 => out p' 0 d w' hst _ (by decide) (by unfold opc; rw [if_pos (by omega)]; decide)⟩
      have xst : x1.toInt ≠ 0 → xsT x1 = true := fun q => decide_eq_true q
      refine ⟨fun h => by exfalso; omega, fun _ => ⟨fun hx => em _ hx rfl, fun hx => ⟨fun _ => stay (Or.inr ⟨xst hx, w35⟩) (by omega) (fun h => absurd h hx), fun h8 => ⟨fun h9 => by exfalso; omega, fun _ => stay (Or.inr ⟨xst hx, w35⟩) (by omega) (fun h => absurd h hx)⟩⟩⟩⟩
    · have w27 : w = 42 ∨ w = 47 := by omega
      have hst : ¬ (w = 40 ∨ (xsT x1 = true ∧ (w = 43 ∨ w = 45))) := fun q => by omega
      have em : ∀ y : Int32, y = m.1 104 n → j_X12_comesOut_70_42 2 x1 y m Q := fun y hy => by
        subst hy
        refine v_X12_comesOut_70_42 ⟨fun n8 => ⟨fun n9 => ⟨fun n10 => out p' c' d w' hst _ (by decide) (by unfold opc; rw [if_neg (by omega), if_neg (by omega), if_neg (by omega)]; decide), fun n10 => out p' c' d w' hst _ (by decide) (by unfold opc; rw [if_neg (by omega), if_neg (by omega), if_pos (by omega)]; decide)⟩, fun n9 => by exfalso; omega⟩, fun n8 => by exfalso; omega⟩
      refine ⟨fun h => by exfalso; omega, fun _ => ⟨fun _ => em _ rfl, fun hx => ⟨fun h => by exfalso; omega, fun h8 => ⟨fun h9 => em _ rfl, fun h => by exfalso; omega⟩⟩⟩⟩
section RXC
variable {K : Nat → Int} {V : Nat → Int64} {P : Nat → Nat} {r W : gR} {me : dM} {s : Nat} {T : gR} {SX : lC}
/-- the waits and the codes, told -/
def WCt (me m : dM) (o p : Nat) (L : List Int) (u : lC) : Prop := L.length = o + p ∧ wL (m.1 104) L ∧ cds m = cds me + (u.length : Int) ∧ SR m (cds me).toNat u
theorem WCt.mv {m m' : dM} {o p : Nat} {L : List Int} {u : lC} {k : Int} (h : WCt me m o p L u) (hm : Mv k m m') : WCt me m' o p L u := by
  obtain ⟨k1, k2, k3, k4, k5⟩ := hm
  refine ⟨h.1, by rw [k1 104 (by decide)]; exact h.2.1, ?_, h.2.2.2.of (k1 102 (by decide)) (k1 103 (by decide))⟩
  unfold cds
  rw [k2 46 (by decide) (by decide) (by decide) (by decide) (by decide)]
  exact h.2.2.1
theorem rb_g {r : gR} (z : (rb r gst).1 = 0) : r.1 = 0 ∧ (rb r gst).2 = r.2 + 1 ∧ r.2 < 400 := by
  have z1 := (rb_z z).1
  rw [rb_k z1] at z ⊢
  unfold gst at z ⊢
  by_cases q : 400 ≤ r.2
  · rw [if_pos q] at z; exact absurd z (Nat.succ_ne_zero 1)
  · rw [if_neg q]; exact ⟨z1, rfl, by omega⟩
theorem xr_emit {m : dM} {o p c : Nat} {code val : Int32} {Q : dM → Prop} (hs : s ≤ 1) (hme : 420 * (s : Int) ≤ cds me) (hv : ∀ i, vk (K i)) (hR : RM K V P me) (h : ES me s m o p c p) (h2 : m.2 = me.2) (hS : ST K P m r W) (h0 : flt m = 0) {L : List Int} {u : lC} {x : Int32} (hC : WCt me m o p L u) (hcx : cR code val x) (hk : r.1 = 0 → K r.2 ≠ 24 ∧ K r.2 ≠ 25) (hcode : code.toInt < 2 ∧ (code.toInt ≠ 0 → 0 ≤ val.toInt ∧ val.toInt ≤ 8)) (hQ : ∀ m', EZ me s m' → m'.2 = me.2 → ST K P m' (rb r gst) W → (flt m' = 0 → ES me s m' o p c (p + 1) ∧ tt m + 1 ≤ tt m' ∧ WCt me m' o p L (u ++ [x])) → Q m') : c_X12_emit_70 2 code val m (fun m2 => c_X12_goesOn_70 2 m2 Q) := by
  obtain ⟨⟨x1, x2, x3, x4⟩, a2, a3, a4, a5, a6, a7, ⟨q, a8, a8'⟩, a9, a10, a11⟩ := h
  have hb := a10 h0
  obtain ⟨c1, c2, c3', c4⟩ := hC
  have eq : q = u.length := by omega
  have ec : (m.1 70 46).toInt = cds m := rfl
  have fc := dAddE (X := cds m) (Y := 1) (x := m.1 70 46) (y := (1 : Int32)) rfl (by decide) (by omega) (by omega)
  have eC : (m.1 70 46).toNatClampNeg = (cds me).toNat + q := by
    have := d_cl (x := m.1 70 46) (by omega)
    omega
  refine v_X12_emit_70 ⟨by omega, ⟨by omega, ?_⟩⟩
  rw [eC]
  have r2 : ∀ j, j ≠ (cds me).toNat + q → (dSet (dSet (dSet m 102 ((cds me).toNat + q) code) 103 ((cds me).toNat + q) val) 70 46 ((m.1 70 46) + (1 : Int32))).1 102 j = m.1 102 j ∧ (dSet (dSet (dSet m 102 ((cds me).toNat + q) code) 103 ((cds me).toNat + q) val) 70 46 ((m.1 70 46) + (1 : Int32))).1 103 j = m.1 103 j := fun j hj => by
    constructor
    · rw [dSet_k (by decide), dSet_k (by decide), dSet_j hj]
    · rw [dSet_k (by decide), dSet_j hj, dSet_k (by decide)]
  have r1 : (dSet (dSet (dSet m 102 ((cds me).toNat + q) code) 103 ((cds me).toNat + q) val) 70 46 ((m.1 70 46) + (1 : Int32))).1 102 ((cds me).toNat + q) = code := by rw [dSet_k (by decide), dSet_k (by decide), dSet_s]
  have r3 : (dSet (dSet (dSet m 102 ((cds me).toNat + q) code) 103 ((cds me).toNat + q) val) 70 46 ((m.1 70 46) + (1 : Int32))).1 103 ((cds me).toNat + q) = val := by rw [dSet_k (by decide), dSet_s]
  generalize hM : (dSet (dSet (dSet m 102 ((cds me).toNat + q) code) 103 ((cds me).toNat + q) val) 70 46 ((m.1 70 46) + (1 : Int32))) = M at r1 r2 r3 ⊢
  have w2 : cds M = cds me + (q + 1 : Nat) := by rw [← hM]; show (m.1 70 46 + (1 : Int32)).toInt = _; omega
  have w3 : ∀ k : Nat, k ≠ 70 → k ≠ 102 → k ≠ 103 → M.1 k = m.1 k := fun k h1 h2 h3 => by rw [← hM, dSet_k h1, dSet_k h3, dSet_k h2]
  have w4 : ∀ j : Nat, j ≠ 46 → M.1 70 j = m.1 70 j := fun j h1 => by rw [← hM, dSet_j h1, dSet_k (by decide), dSet_k (by decide)]
  have t1 : tt M = tt m := by unfold tt; rw [w4 11 (by decide)]
  have f1 : flt M = flt m := by unfold flt; rw [w4 13 (by decide)]
  have u1 : wst M = wst m := by unfold wst; rw [w4 15 (by decide)]
  have hD1 : gDp M.1 (q + 1) (cds me).toNat 0 (p + 1) := gDp_push (gDp_congr (fun j h1 h2 => r2 j (by omega)) a8') (by rw [r1]; exact hcode.1) (by rw [r1, r3]; exact hcode.2)
  have w5 : M.2 = m.2 := by rw [← hM]; rfl
  have hS1 : SR M (cds me).toNat (u ++ [x]) := by
    refine (c4.on (fun j _ h2 => r2 j (by omega))).snoc (by omega) ?_
    rw [← eq, r1, r3]
    exact hcx
  have XM : XF me s M := by
    refine ⟨fun k b1 b2 b3 b4 => (w3 k b1 b2 b3).trans (x1 k b1 b2 b3 b4), fun j b1 b2 b3 b4 b5 b6 b7 b8 => (w4 j b7).trans (x2 j b1 b2 b3 b4 b5 b6 b7 b8), fun j hj => ?_, x4.tr (Wz.eq u1)⟩
    have g2 := r2 j (by omega)
    have g3 := x3 j hj
    exact ⟨g2.1.trans g3.1, g2.2.trans g3.2⟩
  have SM : ST K P M r W := hS.of (w4 11 (by decide)) (w4 13 (by decide)) (w4 14 (by decide)) (w4 15 (by decide)) (w4 16 (by decide))
  refine r_goesOn (hR.xf XM (w5.trans h2)) SM hk (fun m3 h3 g3 S3 => ?_)
  obtain ⟨k1, k2, k3, k4, k5⟩ := h3
  have e46 : m3.1 70 46 = M.1 70 46 := k2 46 (by decide) (by decide) (by decide) (by decide) (by decide)
  have c3 : cds m3 = cds M := by unfold cds; rw [e46]
  have X3 : XF me s m3 := by
    refine ⟨fun k b1 b2 b3 b4 => (k1 k b1).trans ((w3 k b1 b2 b3).trans (x1 k b1 b2 b3 b4)), fun j b1 b2 b3 b4 b5 b6 b7 b8 => (k2 j b1 b3 b4 b5 b6).trans ((w4 j b7).trans (x2 j b1 b2 b3 b4 b5 b6 b7 b8)), fun j hj => ?_, x4.tr ((Wz.eq u1).tr k5)⟩
    rw [k1 102 (by decide), k1 103 (by decide)]
    have g2 := r2 j (by omega)
    have g3 := x3 j hj
    exact ⟨g2.1.trans g3.1, g2.2.trans g3.2⟩
  have hf3 : 0 ≤ flt m3 := by rcases k4 with z | z <;> omega
  have ht3 : tt m ≤ tt m3 := by rcases k4 with z | z <;> omega
  refine hQ m3 ⟨X3, k3, by omega, hf3, by omega, by omega⟩ (g3.trans (w5.trans h2)) S3 (fun hz => ?_)
  have ht4 : tt m3 = tt m + 1 := by rcases k4 with z | z <;> omega
  refine ⟨⟨X3, k3, by omega, hf3, ?_, ?_, ?_, ⟨q + 1, by omega, gDp_congr (fun j _ _ => by rw [k1 102 (by decide), k1 103 (by decide)]; exact ⟨rfl, rfl⟩) hD1⟩, by omega, fun _ => by omega, a11⟩, by omega, c1, by rw [k1 104 (by decide), w3 104 (by decide) (by decide) (by decide)]; exact c2, by rw [List.length_append]; show cds m3 = cds me + ((u.length + 1 : Nat) : Int); omega, hS1.of (k1 102 (by decide)) (k1 103 (by decide))⟩
  · unfold opn; rw [k2 12 (by decide) (by decide) (by decide) (by decide) (by decide), w4 12 (by decide)]; exact a5
  · unfold wtg; rw [k2 50 (by decide) (by decide) (by decide) (by decide) (by decide), w4 50 (by decide)]; exact a6
  · rw [k1 104 (by decide), w3 104 (by decide) (by decide) (by decide)]; exact a7
theorem xr_unit {m : dM} {o p c : Nat} {Q : dM → Prop} (hs : s ≤ 1) (hme : 420 * (s : Int) ≤ cds me) (hv : ∀ i, vk (K i)) (hR : RM K V P me) (h : ES me s m o p c p) (h2 : m.2 = me.2) (hS : ST K P m r W) (hT : TG K o false r T) (hV : ∀ n : Nat, K n = 23 → 0 ≤ (V n).toInt32.toInt ∧ (V n).toInt32.toInt ≤ 9999) {L : List Int} {u : lC} (hC : WCt me m o p L u) (hY : r.1 = 0 → sY K V o false r.2 L u = SX) (h40 : ¬ (r.1 = 0 ∧ K r.2 = 40)) (hQ : ∀ (m' : dM) (r' : gR), EZ me s m' → m'.2 = me.2 → ST K P m' r' W → TG K o true r' T → (flt m' = 0 → ES me s m' o p c (p + 1) ∧ flt m = 0 ∧ tt m + 1 ≤ tt m' ∧ ∃ u' : lC, WCt me m' o p L u' ∧ sY K V o true r'.2 L u' = SX) → Q m') : c_X12_unit_70 3 m Q := by
  have a2 := h.2.1
  have a4 := h.2.2.2.1
  have hRm := hR.xf h.1 h2
  have hf := hS.fl
  have bad : (r.1 = 0 → ¬ (K r.2 = 23 ∨ (13 ≤ K r.2 ∧ K r.2 ≤ 21))) → j_X12_unit_70_88 3 m Q := fun hn => by
    refine v_X12_unit_70_88 ?_
    refine Wp.deep (r_fail hRm hS (c := 1) (by decide) (by decide) (fun m' h' g' S' => v_X12_unit_70_93 (hQ m' _ (h.mv h' (by decide)).z (g'.trans h2) S' ?_ (fun h0 => ?_)))) (Nat.le_of_ble_eq_true rfl)
    · by_cases z : r.1 = 0
      · rw [if_pos z]
        refine ⟨fun q => absurd q (Nat.succ_ne_zero 0), fun _ => ?_⟩
        have e := hT.1 z
        rw [gX_U (hS.1 z).2.2.1, if_neg (hn z), if_neg (fun q => h40 ⟨z, q⟩)] at e
        exact e
      · rw [if_neg z]
        exact ⟨fun q => absurd q z, hT.2⟩
    · exfalso
      have := S'.fl.2.mp h0
      by_cases z : r.1 = 0
      · rw [if_pos z] at this; exact absurd this (Nat.succ_ne_zero 0)
      · rw [if_neg z] at this; exact z this
  have tr : (0 ≤ (m.1 70 11).toInt ∧ (m.1 70 11).toInt < 403) := ⟨a2.1, by have := a2.2; unfold tt at this; omega⟩
  have goes : ∀ (z : r.1 = 0) (hu : K r.2 = 23 ∨ (13 ≤ K r.2 ∧ K r.2 ≤ 21)), TG K o true (rb r gst) T := fun z hu => by
    have e := hT.1 z
    rw [gX_U (hS.1 z).2.2.1, if_pos hu] at e
    rw [rb_k z]
    unfold gst
    by_cases q : 400 ≤ r.2
    · rw [if_pos q] at e ⊢
      exact ⟨fun w => absurd w (Nat.succ_ne_zero 1), fun _ => e⟩
    · rw [if_neg q] at e ⊢
      exact ⟨fun _ => e, fun w => absurd rfl w⟩
  refine v_X12_unit_70 ?_
  refine Wp.deep (q_is (k := 23) hv hRm hS (by decide) (by unfold vk; omega) (fun h1 hk => ⟨fun q => absurd q (by decide), fun _ => ⟨tr, ?_⟩⟩) (fun h1 => ⟨fun _ => ⟨fun q => bad (fun z => absurd (hf.2.mpr z) q), fun h0 => ⟨tr, fun _ => bad ?_, fun hk => ⟨tr, fun _ => bad ?_, fun hk2 => ⟨tr, ?_⟩⟩⟩⟩, fun q => absurd rfl q⟩)) (Nat.le_of_ble_eq_true rfl)
  · exact xr_emit hs hme hv hR h h2 hS (hf.2.mpr h1) hC (x := 13 + (V r.2).toInt32) (by
      have b2 := (hS.1 h1).2
      rw [d_cn (show (m.1 70 11).toInt = (r.2 : Int) from b2.1), (hRm r.2 b2.2.1 b2.2.2.1).2.2.2 hk]
      exact Or.inl ⟨by decide, rfl, hV r.2 hk⟩) (fun _ => by omega) ⟨by decide, fun q => absurd rfl q⟩ (fun m' z g' S' e => v_X12_unit_70_93 (hQ m' _ z g' S' (goes h1 (Or.inl hk)) (fun h0 => ⟨(e h0).1, hf.2.mpr h1, (e h0).2.1, _, (e h0).2.2, by
        obtain ⟨y1, y2, y3⟩ := rb_g (S'.fl.2.mp h0)
        rw [y2, ← hY y1, sY_U (Nat.le_of_lt y3), if_pos hk]⟩)))
  all_goals
    have h0 : flt m = 0 := h0
    have z := hf.2.mp h0
    obtain ⟨b1, b2, b3, b4, b5⟩ := hS.1 z
    have ek : (m.1 73 (m.1 70 11).toNatClampNeg).toInt = rk (K r.2) := by
      rw [d_cn (show (m.1 70 11).toInt = (r.2 : Int) from b2)]
      exact (hRm r.2 b3 b4).1
    have ra := rk_rg (hv r.2)
    have ra1 := ra.1
    have ra2 := ra.2.1
    have n23 : K r.2 ≠ 23 := fun q => h1 ⟨z, q⟩
  · intro _ hu
    have := ra2 (by omega)
    omega
  · have := ra.2.2
    exfalso
    omega
  · have f := dSubE (X := (m.1 73 (m.1 70 11).toNatClampNeg).toInt) (Y := 33) (x := m.1 73 (m.1 70 11).toNatClampNeg) (y := (33 : Int32)) rfl (by decide) (by omega) (by omega)
    have hu : 13 ≤ K r.2 ∧ K r.2 ≤ 21 := by
      have := ra1 (by omega)
      have := ra2 this
      omega
    exact xr_emit hs hme hv hR h h2 hS h0 hC (x := vcd (K r.2)) (by
      have ra3 := ra2 (by omega)
      refine Or.inr (Or.inl ⟨by decide, ?_, by omega, by omega⟩)
      apply Int32.toInt_inj.mp
      have fa := dAddE (X := 4) (Y := (m.1 73 (m.1 70 11).toNatClampNeg - (33 : Int32)).toInt) (x := (4 : Int32)) (y := m.1 73 (m.1 70 11).toNatClampNeg - (33 : Int32)) (by decide) rfl (by omega) (by omega)
      have := vcd_i hu
      omega) (fun _ => by omega) ⟨by decide, fun _ => by omega⟩ (fun m' z g' S' e => v_X12_unit_70_93 (hQ m' _ z g' S' (goes (hf.2.mp h0) (Or.inr hu)) (fun h0' => ⟨(e h0').1, h0, (e h0').2.1, _, (e h0').2.2, by
        obtain ⟨y1, y2, y3⟩ := rb_g (S'.fl.2.mp h0')
        rw [y2, ← hY y1, sY_U (Nat.le_of_lt y3), if_neg n23, if_pos hu]⟩)))
theorem xr_out {m : dM} {o p c : Nat} {x : Int32} {Q : dM → Prop} (hs : s ≤ 1) (hme : 420 * (s : Int) ≤ cds me) (h : ES me s m o p c (p + 1)) (h2 : m.2 = me.2) (hS : ST K P m r W) {L : List Int} {u : lC} (hC : WCt me m o p L u) (hQ : ∀ (m' : dM) (p' c' : Nat), ES me s m' o p' c' (p' + 1) → c' ≤ 1 → (x.toInt = 0 → c' = 0) → tt m' = tt m → flt m' = flt m → m'.1 73 = m.1 73 → m'.1 70 11 = m.1 70 11 → m'.2 = me.2 → ST K P m' r W → WCt me m' o p' (fl (xsT x) L u).1 (fl (xsT x) L u).2 → Q m') : c_X12_comesOut_70 2 x m Q := by
  obtain ⟨⟨x1, x2, x3, x4⟩, a2, a3, a4, a5, a6, a7, ⟨q, a8, a8'⟩, a9, a10, a11⟩ := h
  obtain ⟨c1, c2, c3', c4⟩ := hC
  have eq : u.length = q := by omega
  have hl := Wk_len a7
  have h0 : (cds m) = ((cds me).toNat : Int) + q := by omega
  refine xo_1 (c0 := (cds me).toNat) (B := 420 * s + 401) (by omega) (o + p) m o p c q L u (by omega) a6 a7 h0 a8' a9 c1 eq c2 c4 ?_
  intro m' n' p' c' q' hF b1 b2 b3 b4 b5 b6 b7 b8 b9 b10
  have hl' := Wk_len b2
  have t1 : tt m' = tt m := by unfold tt; rw [hF.2.1 11 (by decide) (by decide)]
  have f1 : flt m' = flt m := by unfold flt; rw [hF.2.1 13 (by decide) (by decide)]
  have u1 : wst m' = wst m := by unfold wst; rw [hF.2.1 15 (by decide) (by decide)]
  have o1 : opn m' = o := by unfold opn; rw [hF.2.1 12 (by decide) (by decide)]; exact a5
  refine hQ m' p' c' ⟨⟨fun k e1 e2 e3 e4 => (hF.1 k e1 e2 e3).trans (x1 k e1 e2 e3 e4), fun j e1 e2 e3 e4 e5 e6 e7 e8 => (hF.2.1 j e7 e8).trans (x2 j e1 e2 e3 e4 e5 e6 e7 e8), fun j hj => ?_, x4.tr (Wz.eq u1)⟩, by omega, by omega, by omega, o1, by rw [← hl'.1]; exact b1, by rw [← hl'.1]; exact b2, ⟨q', by omega, b6⟩, by omega, fun hz => ?_, a11⟩ b3 b4 t1 f1 (hF.1 73 (by decide) (by decide) (by decide)) (hF.2.1 11 (by decide) (by decide)) (b9.trans h2) (hS.of (hF.2.1 11 (by decide) (by decide)) (hF.2.1 13 (by decide) (by decide)) (hF.2.1 14 (by decide) (by decide)) (hF.2.1 15 (by decide) (by decide)) (hF.2.1 16 (by decide) (by decide))) ⟨by rw [b10.1]; exact hl'.1, b10.2.2.1, by rw [b10.2.1]; omega, b10.2.2.2⟩
  · have g1 := hF.2.2 j (by omega)
    have g2 := x3 j hj
    exact ⟨g1.1.trans g2.1, g1.2.trans g2.2⟩
  · have := a10 (by omega)
    omega
theorem xr_204 {m : dM} {o p c : Nat} {Q : dM → Prop} (hs : s ≤ 1) (hme : 420 * (s : Int) ≤ cds me) (hQ : ∀ m', EQ me s m' → m'.2 = me.2 → ST K P m' T W → (flt m' = 0 → cds m' = cds me + (SX.length : Int) ∧ SR m' (cds me).toNat SX) → Q m') (h : ES me s m o p c (p + 1)) (h2 : m.2 = me.2) (hS : ST K P m T W) (hz : flt m = 0 → o = 0 ∧ tt me + 1 ≤ tt m) {L : List Int} {u : lC} (hC : WCt me m o p L u) (hX : flt m = 0 → (fl false L u).2 = SX) : j_X12_expression_70_204 4 m Q := by
  refine v_X12_expression_70_204 ?_
  refine Wp.deep (xr_out hs hme h h2 hS hC (fun m' p' c' h' b1 b2 b3 b4 _ _ g' S' C' => hQ m' ⟨h'.z, fun h0 => ?_⟩ g' S' (fun h0 => ?_))) (Nat.le_of_ble_eq_true rfl)
  · have hz := hz (by omega)
    have ho := hz.1
    subst ho
    obtain ⟨-, a2, a3, a4, a5, a6, a7, ⟨q, a8, a8'⟩, a9, a10, a11⟩ := h'
    have hl := Wk_len a7
    have hp : p' = 0 := by have := b2 (by decide); omega
    subst hp
    have hb := a10 h0
    refine ⟨by omega, by omega, by omega, by omega, by omega, by omega, by omega, ?_⟩
    rw [show (cds m' - cds me).toNat = q by omega]
    exact gDp_seg a8'
  · have e := hX (by omega)
    have e0 : xsT (0 : Int32) = false := by decide
    rw [e0, e] at C'
    exact C'.2.2
/-- a sign is pushed, and it goes on -/
theorem xr_push {m : dM} {o p c cn : Nat} {Q : dM → Prop} (hs : s ≤ 1) (hR : RM K V P me) (h : ES me s m o p c (p + 1)) (h2 : m.2 = me.2) (hS : ST K P m r W) (hk : r.1 = 0 → K r.2 ≠ 24 ∧ K r.2 ≠ 25) (h0 : flt m = 0) {L : List Int} {u : lC} {w : Int} (hC : WCt me m o p L u) (hw : (m.1 73 (m.1 70 11).toNatClampNeg).toInt = rk w ∧ (w = 40 ∨ w = 43 ∨ w = 45 ∨ w = 42 ∨ w = 47)) (hW : Wk (upd (m.1 104) (o + p) (m.1 73 (m.1 70 11).toNatClampNeg)) (o + p + 1) o (p + 1) cn) (hQ : ∀ m', ES me s m' o (p + 1) cn (p + 1) → Mv 1 m m' ∨ tt m + 1 ≤ tt m' ∨ 0 < flt m' → (flt m' = 0 → tt m' = tt m + 1) → m'.2 = me.2 → ST K P m' (rb r gst) W → WCt me m' o (p + 1) (w :: L) u → Q m') : (0 ≤ (m.1 70 11).toInt ∧ (m.1 70 11).toInt < 403) ∧ (0 ≤ (m.1 70 50).toInt ∧ (m.1 70 50).toInt < 64) ∧ c_X12_goesOn_70 3 (dSet (dSet m 104 (m.1 70 50).toNatClampNeg (m.1 73 (m.1 70 11).toNatClampNeg)) 70 50 ((m.1 70 50) + (1 : Int32))) Q := by
  obtain ⟨⟨x1, x2, x3, x4⟩, a2, a3, a4, a5, a6, a7, ⟨q, a8, a8'⟩, a9, a10, a11⟩ := h
  have hl := Wk_len a7
  have ew : (m.1 70 50).toInt = wtg m := rfl
  have et : (m.1 70 11).toInt = tt m := rfl
  have eW : (m.1 70 50).toNatClampNeg = o + p := by
    have := d_cl (x := m.1 70 50) (by omega)
    omega
  have fw := dAddE (X := wtg m) (Y := 1) (x := m.1 70 50) (y := (1 : Int32)) rfl (by decide) (by omega) (by omega)
  have hb := a10 h0
  refine ⟨by omega, by omega, ?_⟩
  rw [eW]
  have XM : XF me s (dSet (dSet m 104 (o + p) (m.1 73 (m.1 70 11).toNatClampNeg)) 70 50 ((m.1 70 50) + (1 : Int32))) := ⟨fun k e1 e2 e3 e4 => by rw [dSet_k e1, dSet_k e4]; exact x1 k e1 e2 e3 e4, fun j e1 e2 e3 e4 e5 e6 e7 e8 => by rw [dSet_j e8, dSet_k (by decide)]; exact x2 j e1 e2 e3 e4 e5 e6 e7 e8, fun j hj => x3 j hj, x4⟩
  refine Wp.deep (r_goesOn (m := dSet (dSet m 104 (o + p) (m.1 73 (m.1 70 11).toNatClampNeg)) 70 50 ((m.1 70 50) + (1 : Int32))) (hR.xf XM h2) (hS.of rfl rfl rfl rfl rfl) hk (fun m3 h3 g3 S3 => ?_)) (Nat.le_of_ble_eq_true rfl)
  obtain ⟨k1, k2, k3, k4, k5⟩ := h3
  have k4 : (flt m = 0 ∧ flt m3 = 0 ∧ tt m3 = tt m + 1) ∨ (0 < flt m3 ∧ tt m ≤ tt m3 ∧ tt m3 ≤ tt m + 1) := k4
  have k5 : Wz m m3 := k5
  have hf3 : 0 ≤ flt m3 := by rcases k4 with z | z <;> omega
  have ht3 : tt m ≤ tt m3 := by rcases k4 with z | z <;> omega
  have e46 : m3.1 70 46 = m.1 70 46 := k2 46 (by decide) (by decide) (by decide) (by decide) (by decide)
  have c3 : cds m3 = cds m := by unfold cds; rw [e46]
  refine hQ m3 ⟨⟨fun k e1 e2 e3 e4 => (k1 k e1).trans (by rw [dSet_k e1, dSet_k e4]; exact x1 k e1 e2 e3 e4), fun j e1 e2 e3 e4 e5 e6 e7 e8 => (k2 j e1 e3 e4 e5 e6).trans (by rw [dSet_j e8, dSet_k (by decide)]; exact x2 j e1 e2 e3 e4 e5 e6 e7 e8), fun j hj => ?_, x4.tr k5⟩, k3, by omega, hf3, ?_, ?_, ?_, ⟨q, by omega, gDp_congr (fun j _ _ => by rw [k1 102 (by decide), k1 103 (by decide)]; exact ⟨rfl, rfl⟩) a8'⟩, by omega, fun hz => ?_, a11⟩ ?_ (fun hz => by rcases k4 with z | z <;> omega) (g3.trans h2) S3 ?_
  · rw [k1 102 (by decide), k1 103 (by decide)]; exact x3 j hj
  · unfold opn; rw [k2 12 (by decide) (by decide) (by decide) (by decide) (by decide)]; exact a5
  · unfold wtg; rw [k2 50 (by decide) (by decide) (by decide) (by decide) (by decide)]; show (m.1 70 50 + (1 : Int32)).toInt = _; omega
  · rw [k1 104 (by decide), dSet_k (by decide), dSet_f, show o + (p + 1) = o + p + 1 by omega]; exact hW
  · rcases k4 with z | z <;> omega
  · right
    rcases k4 with z | z <;> omega
  · obtain ⟨c1, c2, c3', c4⟩ := hC
    refine ⟨by rw [List.length_cons, c1]; omega, ?_, by omega, c4.on (fun j _ _ => by rw [k1 102 (by decide), k1 103 (by decide)]; exact ⟨rfl, rfl⟩)⟩
    rw [k1 104 (by decide), dSet_k (by decide), dSet_f]
    refine ⟨by rw [c1]; unfold upd; rw [if_pos rfl]; exact hw.1, hw.2, wL_of L (fun j hj => ?_) c2⟩
    unfold upd
    rw [if_neg (by omega)]
end RXC
end
section
/-! THE REFERENCE's expression: the codes that it puts, from its start to its end -/
section RXM
variable {K : Nat → Int} {V : Nat → Int64} {P : Nat → Nat} {W : gR} {me : dM} {s : Nat} {T : gR} {SX : lC}
def GXx (K : Nat → Int) (V : Nat → Int64) (P : Nat → Nat) (me : dM) (s : Nat) (SX : lC) (L : List Int) (u : lC) (m : dM) (o p c D : Nat) (ph : Bool) (r T W : gR) : Prop := GX K P me s m o p c D ph r T W ∧ WCt me m o p L u ∧ (r.1 = 0 → sY K V o ph r.2 L u = SX)
theorem xr_main {Q : dM → Prop} (hs : s ≤ 1) (hme : 420 * (s : Int) ≤ cds me) (hv : ∀ i, vk (K i)) (hR : RM K V P me) (hV : ∀ n : Nat, K n = 23 → 0 ≤ (V n).toInt32.toInt ∧ (V n).toInt32.toInt ≤ 9999) (hQ : ∀ m', EQ me s m' → m'.2 = me.2 → ST K P m' T W → (flt m' = 0 → cds m' = cds me + (SX.length : Int) ∧ SR m' (cds me).toNat SX) → Q m') : ∀ n : Nat,
    (∀ (x1 : Int32) (m : dM) (o p c : Nat) (r : gR) (L : List Int) (u : lC), x1.toInt = 0 → GXx K V P me s SX L u m o p c p false r T W → mu m 6 3 n → j_X12_expression_70_12 4 x1 (1 : Int32) m Q) ∧
    (∀ (x1 : Int32) (m : dM) (o p c : Nat) (r : gR) (L : List Int) (u : lC), x1.toInt = 0 → GXx K V P me s SX L u m o p c p false r T W → mu m 5 3 n → j_X12_expression_70_23 4 x1 m Q) ∧
    (∀ (x1 : Int32) (m : dM) (o p c : Nat) (r : gR) (L : List Int) (u : lC), x1.toInt = 0 → GXx K V P me s SX L u m o p c p false r T W → o ≤ 6 → (flt m = 0 → o ≤ 5) → (r.1 = 0 → K r.2 = 40) → mu m 4 4 n → j_X12_expression_70_46 4 x1 m Q) ∧
    (∀ (x1 : Int32) (m : dM) (o p c : Nat) (r : gR) (L : List Int) (u : lC), x1.toInt = 0 → GXx K V P me s SX L u m o p c (p + 1) true r T W → (flt m = 0 → tt me + 1 ≤ tt m) → mu m 6 3 n → j_X12_expression_70_96 4 x1 m Q) ∧
    (∀ (x1 : Int32) (m : dM) (o p c : Nat) (r : gR) (L : List Int) (u : lC), x1.toInt = 0 → GXx K V P me s SX L u m o p c (p + 1) true r T W → (flt m = 0 → tt me + 1 ≤ tt m) → (r.1 = 0 → ¬ (K r.2 = 41 ∧ 0 < o)) → mu m 5 2 n → j_X12_expression_70_145 4 x1 m Q) ∧
    (∀ (x1 : Int32) (m : dM) (o p c : Nat) (r : gR) (L : List Int) (u : lC), x1.toInt = 0 → GXx K V P me s SX L u m o p c (p + 1) true r T W → r.1 = 0 → tt me + 1 ≤ tt m → (K r.2 = 43 ∨ K r.2 = 45 ∨ K r.2 = 42 ∨ K r.2 = 47) → mu m 4 0 n → j_X12_expression_70_181 4 x1 m Q) := by
  intro n
  induction n with
  | zero =>
    refine ⟨fun x1 m o p c r L u hx h hμ => ?_, fun x1 m o p c r L u hx h hμ => ?_, fun x1 m o p c r L u hx h h6 h5 h40 hμ => ?_, fun x1 m o p c r L u hx h ht hμ => ?_, fun x1 m o p c r L u hx h ht h41 hμ => ?_, fun x1 m o p c r L u hx h h0 ht hk hμ => ?_⟩ <;> (have := h.1.1.2.1; exfalso; rcases hμ with q | q <;> omega)
  | succ n ih =>
    refine ⟨fun x1 m o p c r L u hx h hμ => ?_, fun x1 m o p c r L u hx h hμ => ?_, fun x1 m o p c r L u hx h h6 h5 h40 hμ => ?_, fun x1 m o p c r L u hx h ht hμ => ?_, fun x1 m o p c r L u hx h ht h41 hμ => ?_, fun x1 m o p c r L u hx h h0 ht hk hμ => ?_⟩
    · -- 12
      have hfl := h.1.2.2.1.fl
      have bad : flt m ≠ 0 → j_X12_expression_70_272 4 m Q := fun hf => v_X12_expression_70_272 (hQ m ⟨h.1.1.z, fun h0 => absurd h0 hf⟩ h.1.2.1 (by
        have z : r.1 ≠ 0 := fun z => hf (hfl.2.mpr z)
        rw [← h.1.2.2.2.2 z]; exact h.1.2.2.1) (fun h0 => absurd h0 hf))
      refine v_X12_expression_70_12 ⟨fun q => absurd q (by decide), fun _ => ⟨fun hf => bad hf, fun hf => ?_⟩⟩
      have hf : flt m = 0 := hf
      refine ih.2.1 x1 m o p c r L u hx h ?_
      left
      rcases hμ with q | q <;> omega
    · -- 23
      obtain ⟨⟨hE, h2, hS, hT⟩, hC, hY⟩ := h
      have hRm := hR.xf hE.1 h2
      have hfl := hS.fl
      refine v_X12_expression_70_23 ?_
      refine Wp.deep (q_is (k := 40) hv hRm hS (by decide) (by unfold vk; omega) (fun z hk => ⟨fun q => absurd q (by decide), fun _ => ?_⟩) (fun h1 => ⟨fun _ => ?_, fun q => absurd rfl q⟩)) (Nat.le_of_ble_eq_true rfl)
      · have h1 : flt m = 0 := hfl.2.mpr z
        have hb := hE.2.2.2.2.2.2.2.2.2.1 h1
        have eo : (m.1 70 12).toInt = o := hE.2.2.2.2.1
        refine ⟨fun hne => ?_, fun he => ?_⟩
        · refine ih.2.2.1 x1 m o p c r L u hx ⟨⟨hE, h2, hS, hT⟩, hC, hY⟩ (by omega) (fun _ => by omega) (fun _ => hk) ?_
          rcases hμ with q | q
          · left; omega
          · right; omega
        · have fa := TG.fa (o' := o) (ph' := false) (c := 2) hT (by decide) (fun _ => by rw [gX_U (hS.1 z).2.2.1, if_neg (by omega), if_pos hk, if_pos (by omega)])
          refine Wp.deep (r_fail hRm hS (c := 2) (by decide) (by decide) (fun m3 h3 g3 S3 => ?_)) (Nat.le_of_ble_eq_true rfl)
          have hf3 : flt m3 ≠ 0 := fun q => by
            have := S3.fl.2.mp q
            rw [fa.2.1] at this
            exact fa.2.2 this
          have hf4 := S3.fl.1
          refine ih.2.2.1 x1 m3 o p c _ L u hx ⟨⟨hE.mv h3 (by decide), g3.trans h2, S3, fa.1⟩, hC.mv h3, fun q => by exfalso; rw [fa.2.1] at q; exact fa.2.2 q⟩ (by omega) (fun q => by exfalso; omega) (fun q => by exfalso; rw [fa.2.1] at q; exact fa.2.2 q) ?_
          right
          have := hE.2.1
          rcases hμ with q | q <;> omega
      · refine xr_unit hs hme hv hR hE h2 hS hT hV hC hY h1 (fun m2 r2 z g2 S2 T2 e => ⟨fun hc => ?_, fun hc => ?_⟩)
        · have hc : flt m2 ≤ 0 := hc
          have h0 : flt m2 = 0 := by have := z.2.2.2.1; omega
          obtain ⟨e, e0, e1, u', C', Y'⟩ := e h0
          have e : ES me s m2 o p c (p + 1) ∧ flt m = 0 ∧ tt m + 1 ≤ tt m2 := ⟨e, e0, e1⟩
          refine ih.2.2.2.1 x1 m2 o p c r2 L u' hx ⟨⟨e.1, g2, S2, T2⟩, C', fun _ => Y'⟩ (fun _ => by have := hE.2.2.1; omega) ?_
          left
          have := hE.2.1
          rcases hμ with q | q <;> omega
        · have hc : 0 < flt m2 := hc
          have z2 : r2.1 ≠ 0 := fun q => by have := S2.fl.2.mpr q; omega
          exact hQ m2 ⟨z, fun h0 => by exfalso; omega⟩ g2 (by rw [← T2.2 z2]; exact S2) (fun h0 => by exfalso; omega)
    · -- 46
      obtain ⟨⟨hE, h2, hS, hT⟩, hC, hY⟩ := h
      have hY1 : (rb r gst).1 = 0 → sY K V (o + 1) false (rb r gst).2 (40 :: L) u = SX := fun z => by
        obtain ⟨y1, y2, y3⟩ := rb_g z
        have k40 := h40 y1
        rw [y2, ← hY y1, sY_U (Nat.le_of_lt y3), if_neg (by omega), if_neg (by omega), if_pos k40]
      obtain ⟨d1, d2, d3, d4⟩ := hC
      have hfl := hS.fl
      have hT1 : TG K (o + 1) false (rb r gst) T := hT.st (fun z => by
        have := h5 (hfl.2.mpr z)
        have k40 := h40 z
        rw [gX_U (hS.1 z).2.2.1, if_neg (by omega), if_pos k40, if_neg (by omega)])
      obtain ⟨⟨x1', x2', x3', x4'⟩, a2, a3, a4, a5, a6, a7, ⟨q, a8, a8'⟩, a9, a10, a11⟩ := hE
      have eo : (m.1 70 12).toInt = o := a5
      have fo := dAddE (X := (o : Int)) (Y := 1) (x := m.1 70 12) (y := (1 : Int32)) eo (by decide) (by omega) (by omega)
      have XM : XF me s (dSet m 70 12 ((m.1 70 12) + (1 : Int32))) := ⟨fun k e1 e2 e3 e4 => by rw [dSet_k e1]; exact x1' k e1 e2 e3 e4, fun j e1 e2 e3 e4 e5 e6 e7 e8 => by rw [dSet_j e2]; exact x2' j e1 e2 e3 e4 e5 e6 e7 e8, fun j hj => x3' j hj, x4'⟩
      refine v_X12_expression_70_46 ?_
      refine Wp.deep (r_goesOn (m := dSet m 70 12 ((m.1 70 12) + (1 : Int32))) (hR.xf XM h2) (hS.of rfl rfl rfl rfl rfl) (fun z => by have := h40 z; omega) (fun m1 h1 g1 S1 => ?_)) (Nat.le_of_ble_eq_true rfl)
      have g1 : m1.2 = m.2 := g1
      obtain ⟨k1, k2, k3, k4, k5⟩ := h1
      have k4 : (flt m = 0 ∧ flt m1 = 0 ∧ tt m1 = tt m + 1) ∨ (0 < flt m1 ∧ tt m ≤ tt m1 ∧ tt m1 ≤ tt m + 1) := k4
      have k5 : Wz m m1 := k5
      have hf1 : 0 ≤ flt m1 := by rcases k4 with z | z <;> omega
      have ht1 : tt m ≤ tt m1 := by rcases k4 with z | z <;> omega
      have hl := Wk_len a7
      have e50 : m1.1 70 50 = m.1 70 50 := k2 50 (by decide) (by decide) (by decide) (by decide) (by decide)
      have ew : (m1.1 70 50).toInt = (o + p : Nat) := by rw [e50]; exact a6
      have eW : (m1.1 70 50).toNatClampNeg = o + p := by
        have := d_cl (x := m1.1 70 50) (by omega)
        omega
      have fw := dAddE (X := ((o + p : Nat) : Int)) (Y := 1) (x := m1.1 70 50) (y := (1 : Int32)) ew (by decide) (by omega) (by omega)
      refine ⟨by omega, ?_⟩
      rw [eW]
      have e46 : m1.1 70 46 = m.1 70 46 := k2 46 (by decide) (by decide) (by decide) (by decide) (by decide)
      have c1 : cds (dSet (dSet m1 104 (o + p) (6 : Int32)) 70 50 ((m1.1 70 50) + (1 : Int32))) = cds m := by show (m1.1 70 46).toInt = _; rw [e46]; rfl
      have f1 : flt (dSet (dSet m1 104 (o + p) (6 : Int32)) 70 50 ((m1.1 70 50) + (1 : Int32))) = flt m1 := rfl
      have t1 : tt (dSet (dSet m1 104 (o + p) (6 : Int32)) 70 50 ((m1.1 70 50) + (1 : Int32))) = tt m1 := rfl
      refine ih.2.1 x1 _ (o + 1) p 0 _ (40 :: L) u hx ⟨⟨⟨⟨fun k e1 e2 e3 e4 => by rw [dSet_k e1, dSet_k e4, k1 k e1, dSet_k e1]; exact x1' k e1 e2 e3 e4, fun j e1 e2 e3 e4 e5 e6 e7 e8 => by rw [dSet_j e8, dSet_k (by decide), k2 j e1 e3 e4 e5 e6, dSet_j e2]; exact x2' j e1 e2 e3 e4 e5 e6 e7 e8, fun j hj => ?_, x4'.tr k5⟩, by omega, by omega, by omega, ?_, ?_, ?_, ⟨q, by omega, gDp_congr (fun j _ _ => ?_) a8'⟩, by omega, fun hz => ?_, by omega⟩, g1.trans h2, S1.of rfl rfl rfl rfl rfl, hT1⟩, ⟨by rw [List.length_cons, d1]; omega, ?_, by rw [c1]; exact d3, d4.on (fun j _ _ => by rw [dSet_k (by decide), dSet_k (by decide), dSet_k (by decide), dSet_k (by decide), k1 102 (by decide), k1 103 (by decide)]; exact ⟨rfl, rfl⟩)⟩, hY1⟩ ?_
      · rw [dSet_k (by decide), dSet_k (by decide), dSet_k (by decide), dSet_k (by decide), k1 102 (by decide), k1 103 (by decide)]; exact x3' j hj
      · show (m1.1 70 12).toInt = _
        rw [k2 12 (by decide) (by decide) (by decide) (by decide) (by decide)]
        show (m.1 70 12 + (1 : Int32)).toInt = _
        omega
      · show (m1.1 70 50 + (1 : Int32)).toInt = _
        omega
      · rw [dSet_k (by decide), dSet_f, show o + 1 + p = o + p + 1 by omega]
        refine Or.inl ⟨by unfold upd; rw [if_pos rfl]; decide, rfl, o, c, rfl, Wk_congr (fun j hj => ?_) a7⟩
        unfold upd
        rw [if_neg (by omega), k1 104 (by decide)]
        rfl
      · rw [dSet_k (by decide), dSet_k (by decide), dSet_k (by decide), dSet_k (by decide), k1 102 (by decide), k1 103 (by decide)]; exact ⟨rfl, rfl⟩
      · have h0 : flt m = 0 := by rcases k4 with z | z <;> omega
        have := a10 h0
        have := h5 h0
        omega
      · rw [dSet_k (by decide), dSet_f]
        refine ⟨by rw [d1]; unfold upd; rw [if_pos rfl]; decide, Or.inl rfl, wL_of L (fun j hj => ?_) d2⟩
        unfold upd
        rw [if_neg (by omega), k1 104 (by decide)]
        rfl
      · unfold mu
        rw [f1, t1]
        rcases k4 with z | z
        · left; rcases hμ with q | q <;> omega
        · right; rcases hμ with q | q <;> omega
    · -- 96
      have hE := h.1.1
      have h2 := h.1.2.1
      have hS := h.1.2.2.1
      have hT := h.1.2.2.2
      have hC := h.2.1
      have hY := h.2.2
      have hRm := hR.xf hE.1 h2
      have go : (r.1 = 0 → ¬ (K r.2 = 41 ∧ 0 < o)) → j_X12_expression_70_145 4 x1 m Q := fun hn => by
        refine ih.2.2.2.2.1 x1 m o p c r L u hx h ht hn ?_
        rcases hμ with q | q
        · left; omega
        · right; omega
      have eo : (m.1 70 12).toInt = o := hE.2.2.2.2.1
      refine v_X12_expression_70_96 ?_
      refine Wp.deep (q_is (k := 41) hv hRm hS (by decide) (by unfold vk; omega) (fun z hk => ⟨fun q => absurd q (by decide), fun _ => ⟨fun ho => go (fun _ q => by omega), fun ho => ?_⟩⟩) (fun h1 => ⟨fun _ => go (fun z q => h1 ⟨z, q.1⟩), fun q => absurd rfl q⟩)) (Nat.le_of_ble_eq_true rfl)
      have f0 : flt m = 0 := hS.fl.2.mpr z
      have hT1 : TG K (o - 1) true (rb r gst) T := hT.st (fun z => by rw [gX_O (hS.1 z).2.2.1, if_neg (by omega), if_pos (by omega), if_pos hk])
      refine Wp.deep (xr_out hs hme hE h2 hS hC (fun m2 p' c' h' b1 b2 b3 b4 _ _ g2 S2 C2 => ?_)) (Nat.le_of_ble_eq_true rfl)
      have hc' : c' = 0 := b2 (by decide)
      subst hc'
      obtain ⟨⟨x1', x2', x3', x4'⟩, a2, a3, a4, a5, a6, a7, ⟨q, a8, a8'⟩, a9, a10, a11⟩ := h'
      obtain ⟨o1, rfl⟩ : ∃ o1, o = o1 + 1 := ⟨o - 1, by omega⟩
      have eW : o1 + 1 + p' = (o1 + p') + 1 := by omega
      rw [eW] at a7
      have a7' := a7
      unfold Wk at a7'
      rcases a7' with ⟨-, -, o2, c2, d, w⟩ | ⟨-, b, -⟩ | ⟨-, b, -⟩
      · have ho2 : o2 = o1 := by omega
        subst ho2
        have ew : (m2.1 70 50).toInt = (o2 + 1 + p' : Nat) := a6
        have e12 : (m2.1 70 12).toInt = (o2 + 1 : Nat) := a5
        have fw := dSubE (X := ((o2 + 1 + p' : Nat) : Int)) (Y := 1) (x := m2.1 70 50) (y := (1 : Int32)) ew (by decide) (by omega) (by omega)
        have fo := dSubE (X := ((o2 + 1 : Nat) : Int)) (Y := 1) (x := m2.1 70 12) (y := (1 : Int32)) e12 (by decide) (by omega) (by omega)
        have hM : ES me s (dSet (dSet m2 70 50 ((m2.1 70 50) - (1 : Int32))) 70 12 ((m2.1 70 12) - (1 : Int32))) o2 p' c2 (p' + 1) := by
          refine ⟨⟨fun k e1 e2 e3 e4 => by rw [dSet_k e1, dSet_k e1]; exact x1' k e1 e2 e3 e4, fun j e1 e2 e3 e4 e5 e6 e7 e8 => by rw [dSet_j e2, dSet_j e8]; exact x2' j e1 e2 e3 e4 e5 e6 e7 e8, fun j hj => x3' j hj, x4'⟩, a2, a3, a4, ?_, ?_, w, ⟨q, a8, gDp_congr (g := m2.1) (fun j _ _ => ⟨rfl, rfl⟩) a8'⟩, a9, fun hz => ?_, by omega⟩
          · show (m2.1 70 12 - (1 : Int32)).toInt = _; omega
          · show (m2.1 70 50 - (1 : Int32)).toInt = _; omega
          · have := a10 hz
            refine ⟨this.1, by omega⟩
        refine Wp.deep (r_goesOn (m := dSet (dSet m2 70 50 ((m2.1 70 50) - (1 : Int32))) 70 12 ((m2.1 70 12) - (1 : Int32))) (hR.xf hM.1 g2) (S2.of rfl rfl rfl rfl rfl) (fun _ => by omega) (fun m3 h3 g3 S3 => ?_)) (Nat.le_of_ble_eq_true rfl)
        have g3 : m3.2 = m2.2 := g3
        have k4 : (flt m2 = 0 ∧ flt m3 = 0 ∧ tt m3 = tt m2 + 1) ∨ (0 < flt m3 ∧ tt m2 ≤ tt m3 ∧ tt m3 ≤ tt m2 + 1) := h3.2.2.2.1
        have e0 : xsT (0 : Int32) = false := by decide
        rw [e0] at C2
        have hY1 : (rb r gst).1 = 0 → sY K V o2 true (rb r gst).2 (fl false L u).1.tail (fl false L u).2 = SX := fun z => by
          obtain ⟨y1, y2, y3⟩ := rb_g z
          rw [y2, ← hY y1, sY_O (Nat.le_of_lt y3), if_neg (by omega), if_neg (by omega), if_pos ⟨Nat.succ_pos _, hk⟩]
          rfl
        generalize (fl false L u).1 = L2 at C2 hY1
        obtain ⟨d1, d2, d3, d4⟩ := C2
        obtain ⟨w0, L3, rfl⟩ : ∃ w0 L3, L2 = w0 :: L3 := by
          cases L2 with
          | nil => have d1 : 0 = o2 + 1 + p' := d1; omega
          | cons w0 L3 => exact ⟨w0, L3, rfl⟩
        rw [List.length_cons] at d1
        have CM : WCt me (dSet (dSet m2 70 50 ((m2.1 70 50) - (1 : Int32))) 70 12 ((m2.1 70 12) - (1 : Int32))) o2 p' L3 (fl false L u).2 := ⟨by omega, d2.2.2, d3, d4⟩
        refine ih.2.2.2.1 x1 m3 o2 p' c2 _ L3 (fl false L u).2 hx ⟨⟨hM.mv h3 (by decide), g3.trans g2, S3, hT1⟩, CM.mv h3, hY1⟩ (fun h0 => ?_) ?_
        · rcases k4 with z | z
          · have := ht (by omega); omega
          · omega
        · unfold mu
          rcases k4 with z | z
          · left; rcases hμ with q | q <;> omega
          · right; rcases hμ with q | q <;> omega
      · exact absurd b (by decide)
      · exact absurd b (by decide)
    · -- 145
      have hE := h.1.1
      have h2 := h.1.2.1
      have hS := h.1.2.2.1
      have hT := h.1.2.2.2
      have hC := h.2.1
      have hY := h.2.2
      have hRm := hR.xf hE.1 h2
      have hfl := hS.fl
      have nx : r.1 = 0 → (K r.2 = 43 ∨ K r.2 = 45 ∨ K r.2 = 42 ∨ K r.2 = 47) → j_X12_expression_70_181 4 x1 m Q := fun z hk => by
        have h0 := hfl.2.mpr z
        refine ih.2.2.2.2.2 x1 m o p c r L u hx h z (ht h0) hk ?_
        rcases hμ with q | q
        · left; omega
        · right; omega
      have eo : (m.1 70 12).toInt = o := hE.2.2.2.2.1
      refine v_X12_expression_70_145 ?_
      refine Wp.deep (q_is (k := 43) hv hRm hS (by decide) (by unfold vk; omega) (fun z hk => ⟨fun _ => nx z (by omega), fun q => absurd q (by decide)⟩) (fun n1 => ⟨fun q => absurd rfl q, fun _ => ?_⟩)) (Nat.le_of_ble_eq_true rfl)
      refine Wp.deep (q_is (k := 45) hv hRm hS (by decide) (by unfold vk; omega) (fun z hk => ⟨fun _ => nx z (by omega), fun q => absurd q (by decide)⟩) (fun n2 => ⟨fun q => absurd rfl q, fun _ => ?_⟩)) (Nat.le_of_ble_eq_true rfl)
      refine Wp.deep (q_is (k := 42) hv hRm hS (by decide) (by unfold vk; omega) (fun z hk => ⟨fun _ => nx z (by omega), fun q => absurd q (by decide)⟩) (fun n3 => ⟨fun q => absurd rfl q, fun _ => ?_⟩)) (Nat.le_of_ble_eq_true rfl)
      refine Wp.deep (q_is (k := 47) hv hRm hS (by decide) (by unfold vk; omega) (fun z hk => ⟨fun q => absurd q (by decide), fun _ => nx z (by omega)⟩) (fun n4 => ⟨fun _ => ⟨fun ho => ?_, fun ho => ?_⟩, fun q => absurd rfl q⟩)) (Nat.le_of_ble_eq_true rfl)
      · have o0 : o = 0 := by omega
        refine xr_204 hs hme hQ hE h2 ?_ (fun h0 => ⟨o0, ht h0⟩) hC (fun h0 => ?_)
        rotate_left
        · have z := hfl.2.mp h0
          rw [← hY z, sY_O (hS.1 z).2.2.1, if_neg (fun q => by rcases q with q | q; exact n3 ⟨z, q⟩; exact n4 ⟨z, q⟩), if_neg (fun q => by rcases q with q | q; exact n1 ⟨z, q⟩; exact n2 ⟨z, q⟩), if_neg (fun q => by omega)]
        by_cases z : r.1 = 0
        · have e := hT.1 z
          rw [gX_O (hS.1 z).2.2.1, if_neg (fun q => by rcases q with q | q | q | q; exact n1 ⟨z, q⟩; exact n2 ⟨z, q⟩; exact n3 ⟨z, q⟩; exact n4 ⟨z, q⟩), if_neg (by omega)] at e
          have er : r = (0, r.2) := by rw [← z]
          rw [← e, ← er]
          exact hS
        · rw [← hT.2 z]; exact hS
      · have fa := TG.fa (o' := o) (ph' := true) (c := 1) hT (by decide) (fun z => by rw [gX_O (hS.1 z).2.2.1, if_neg (fun q => by rcases q with q | q | q | q; exact n1 ⟨z, q⟩; exact n2 ⟨z, q⟩; exact n3 ⟨z, q⟩; exact n4 ⟨z, q⟩), if_pos (by omega), if_neg (fun q => h41 z ⟨q, by omega⟩)])
        refine Wp.deep (r_fail hRm hS (c := 1) (by decide) (by decide) (fun m5 h5 g5 S5 => ?_)) (Nat.le_of_ble_eq_true rfl)
        rw [fa.2.1] at S5
        exact xr_204 hs hme hQ (hE.mv h5 (by decide)) (g5.trans h2) S5 (fun h0 => by exfalso; exact fa.2.2 (S5.fl.2.mp h0)) (hC.mv h5) (fun h0 => by exfalso; exact fa.2.2 (S5.fl.2.mp h0))
    · -- 181
      have hE := h.1.1
      have h2 := h.1.2.1
      have hS := h.1.2.2.1
      have hT := h.1.2.2.2
      have hC := h.2.1
      have hY := h.2.2
      have hRm := hR.xf hE.1 h2
      have hfl := hS.fl
      have f0 := hfl.2.mpr h0
      obtain ⟨s1, s2, s3, s4, s5⟩ := hS.1 h0
      have ek : (m.1 73 (m.1 70 11).toNatClampNeg).toInt = rk (K r.2) := by
        rw [d_cn (show (m.1 70 11).toInt = (r.2 : Int) from s2)]
        exact (hRm r.2 s3 s4).1
      have hT1 : TG K o false (rb r gst) T := hT.st (fun z => by rw [gX_O s3, if_pos hk])
      have hkk : r.1 = 0 → K r.2 ≠ 24 ∧ K r.2 ≠ 25 := fun _ => by omega
      have again : ∀ (m3 : dM) (p' c' : Nat) (L3 : List Int) (u3 : lC), ES me s m3 o p' c' p' → (flt m3 = 0 → tt m3 = tt m + 1) → m3.2 = me.2 → ST K P m3 (rb r gst) W → WCt me m3 o p' L3 u3 → ((rb r gst).1 = 0 → sY K V o false (rb r gst).2 L3 u3 = SX) → j_X12_expression_70_12 4 x1 (1 : Int32) m3 Q := fun m3 p' c' L3 u3 h3 t3 g3 S3 C3 Y3 => by
        refine ih.1 x1 m3 o p' c' _ L3 u3 hx ⟨⟨h3, g3, S3, hT1⟩, C3, Y3⟩ ?_
        unfold mu
        have := h3.2.2.2.1
        have := hE.2.1
        by_cases hz : flt m3 = 0
        · left; have := t3 hz; rcases hμ with q | q <;> omega
        · right; rcases hμ with q | q <;> omega
      have strong : (rk (K r.2) = 10 ∨ rk (K r.2) = 15) → (K r.2 = 42 ∨ K r.2 = 47) → ∀ x : Int32, xsT x = true → c_X12_comesOut_70 3 x m (fun m2 => (0 ≤ (m2.1 70 11).toInt ∧ (m2.1 70 11).toInt < 403) ∧ (0 ≤ (m2.1 70 50).toInt ∧ (m2.1 70 50).toInt < 64) ∧ c_X12_goesOn_70 3 (dSet (dSet m2 104 (m2.1 70 50).toNatClampNeg (m2.1 73 (m2.1 70 11).toNatClampNeg)) 70 50 ((m2.1 70 50) + (1 : Int32))) (fun m3 => j_X12_expression_70_12 4 x1 (1 : Int32) m3 Q)) := fun hk2 hk3 x hxs => by
        refine Wp.deep (xr_out hs hme hE h2 hS hC (fun m2 p' c' h' b1 b2 b3 b4 b5 b6 g2 S2 C2 => ?_)) (Nat.le_of_ble_eq_true rfl)
        refine xr_push (cn := 2) (w := K r.2) hs hR h' g2 S2 hkk (by omega) C2 ⟨by rw [b5, b6]; exact ek, by omega⟩ ?_ (fun m3 h3 _ t3 g3 S3 C3 => again m3 _ _ _ _ h3 (fun hz => by have := t3 hz; omega) g3 S3 C3 (fun z => by obtain ⟨y1, y2, y3⟩ := rb_g z; rw [hxs, y2, ← hY y1, sY_O (Nat.le_of_lt y3), if_pos hk3]))
        rw [b5, b6]
        refine Or.inr (Or.inr ⟨by unfold upd; rw [if_pos rfl, ek]; exact hk2, rfl, p', c', rfl, b1, Wk_congr (fun j hj => ?_) h'.2.2.2.2.2.2.1⟩)
        unfold upd
        rw [if_neg (by omega)]
      refine v_X12_expression_70_181 ?_
      refine Wp.deep (q_is (k := 42) hv hRm hS (by decide) (by unfold vk; omega) (fun z q2 => ⟨fun _ => strong (by rw [q2]; decide) (Or.inl q2) _ (by decide), fun q => absurd q (by decide)⟩) (fun g1 => ⟨fun q => absurd rfl q, fun _ => ?_⟩)) (Nat.le_of_ble_eq_true rfl)
      refine Wp.deep (q_is (k := 47) hv hRm hS (by decide) (by unfold vk; omega) (fun z q2 => ⟨fun q => absurd q (by decide), fun _ => strong (by rw [q2]; decide) (Or.inr q2) _ (by decide)⟩) (fun g2 => ⟨fun _ => ?_, fun q => absurd rfl q⟩)) (Nat.le_of_ble_eq_true rfl)
      have hk2 : rk (K r.2) = 8 ∨ rk (K r.2) = 9 := by
        rcases hk with q | q | q | q
        · left; rw [q]; decide
        · right; rw [q]; decide
        · exact absurd ⟨h0, q⟩ g1
        · exact absurd ⟨h0, q⟩ g2
      refine Wp.deep (xr_out hs hme hE h2 hS hC (fun m2 p' c' h' b1 b2 b3 b4 b5 b6 g2' S2 C2 => ?_)) (Nat.le_of_ble_eq_true rfl)
      have hc' : c' = 0 := b2 (by decide)
      subst hc'
      refine xr_push (cn := 1) (w := K r.2) hs hR h' g2' S2 hkk (by omega) C2 ⟨by rw [b5, b6]; exact ek, by omega⟩ ?_ (fun m3 h3 _ t3 g3 S3 C3 => again m3 _ _ _ _ h3 (fun hz => by have := t3 hz; omega) g3 S3 C3 (fun z => by obtain ⟨y1, y2, y3⟩ := rb_g z; rw [show xsT (0 : Int32) = false by decide, y2, ← hY y1, sY_O (Nat.le_of_lt y3), if_neg (fun q => by rcases q with q | q; exact g1 ⟨y1, q⟩; exact g2 ⟨y1, q⟩), if_pos (by rcases hk with q | q | q | q; exact Or.inl q; exact Or.inr q; exact absurd ⟨h0, q⟩ g1; exact absurd ⟨h0, q⟩ g2)]))
      rw [b5, b6]
      refine Or.inr (Or.inl ⟨by unfold upd; rw [if_pos rfl, ek]; exact hk2, rfl, p', rfl, Wk_congr (fun j hj => ?_) h'.2.2.2.2.2.2.1⟩)
      unfold upd
      rw [if_neg (by omega)]
theorem xr_expression {Q : dM → Prop} {n : Nat} (hs : s ≤ 1) (hv : ∀ i, vk (K i)) (hR : RM K V P me) (hV : ∀ n : Nat, K n = 23 → 0 ≤ (V n).toInt32.toInt ∧ (V n).toInt32.toInt ≤ 9999) (hS : ST K P me (0, n) W) (ho : opn me = 0) (hc : 420 * (s : Int) ≤ cds me ∧ cds me ≤ 420 * s + tt me) (hQ : ∀ m', EQ me s m' → m'.2 = me.2 → ST K P m' (gE K n) W → (flt m' = 0 → cds m' = cds me + ((cE K V n).length : Int) ∧ SR m' (cds me).toNat (cE K V n)) → Q m') : c_X12_expression_70 4 me Q := by
  refine v_X12_expression_70 ?_
  have ht := hS.2.2
  have hf : flt me = 0 := hS.fl.2.mpr rfl
  have hES : ES me s (dSet me 70 50 (0 : Int32)) 0 0 0 0 := by
    have c1 : cds (dSet me 70 50 (0 : Int32)) = cds me := rfl
    have f1 : flt (dSet me 70 50 (0 : Int32)) = flt me := rfl
    have t1 : tt (dSet me 70 50 (0 : Int32)) = tt me := rfl
    refine ⟨⟨fun k e1 _ _ _ => dSet_k e1, fun j _ _ _ _ _ _ _ e8 => dSet_j e8, fun j _ => ⟨rfl, rfl⟩, Wz.eq rfl⟩, by omega, by omega, by omega, ho, rfl, ⟨rfl, rfl, rfl⟩, ⟨0, by omega, rfl⟩, by omega, fun _ => ⟨by omega, by omega⟩, by omega⟩
  refine (xr_main hs hc.1 hv hR hV hQ 4000).1 _ _ 0 0 0 (0, n) [] [] ho ⟨⟨hES, rfl, hS.of rfl rfl rfl rfl rfl, fun _ => rfl, fun q => absurd rfl q⟩, ⟨rfl, trivial, by show cds me = cds me + 0; omega, by show (cds me).toNat + 0 ≤ 840; omega, fun j hj => absurd hj (Nat.not_lt_zero j)⟩, fun _ => rfl⟩ ?_
  left
  have f1 : flt (dSet me 70 50 (0 : Int32)) = flt me := rfl
  have t1 : tt (dSet me 70 50 (0 : Int32)) = tt me := rfl
  omega
end RXM
end
section
/-! THE REFERENCE's laws, as told -/
theorem SR.app {m : dM} {a : Nat} {A B : lC} (h : SR m a A) (h' : SR m (a + A.length) B) : SR m a (A ++ B) := by
  refine ⟨by rw [List.length_append]; have := h'.1; omega, fun j hj => ?_⟩
  rw [List.length_append] at hj
  by_cases q : j < A.length
  · rw [List.getD_eq_getElem?_getD, List.getElem?_append_left q, ← List.getD_eq_getElem?_getD]
    exact h.2 j q
  · rw [List.getD_eq_getElem?_getD, List.getElem?_append_right (by omega), ← List.getD_eq_getElem?_getD]
    have := h'.2 (j - A.length) (by omega)
    rw [show a + A.length + (j - A.length) = a + j by omega] at this
    exact this
theorem SR.spl {m : dM} {a : Nat} {A B C : lC} (h : SR m a (A ++ (B ++ C))) : SR m (a + A.length) B := by
  obtain ⟨h1, h2⟩ := h
  rw [List.length_append, List.length_append] at h1 h2
  refine ⟨by omega, fun j hj => ?_⟩
  have := h2 (A.length + j) (by omega)
  rw [List.getD_eq_getElem?_getD, List.getElem?_append_right (by omega), show A.length + j - A.length = j by omega, List.getElem?_append_left hj, ← List.getD_eq_getElem?_getD, show a + (A.length + j) = a + A.length + j by omega] at this
  exact this
/-- a mark of a branch: behind j pieces -/
def Mk (mb m : dM) (k i : Nat) (p : List lC) (j : Nat) : Prop := (m.1 k ((brs mb).toNat + i)).toInt = cds mb + ((p.take j).flatten.length : Int)
/-- the pieces so far, b branches done -/
def LQw (mb m : dM) (b : Nat) (p : List lC) : Prop := cds m = cds mb + (p.flatten.length : Int) ∧ SR m (cds mb).toNat p.flatten ∧ ∀ i : Nat, i < b → (m.1 97 ((brs mb).toNat + i)).toInt ≠ 0 ∧ Mk mb m 98 i p (3 * i) ∧ Mk mb m 99 i p (3 * i + 1) ∧ Mk mb m 100 i p (3 * i + 2) ∧ Mk mb m 101 i p (3 * i + 3)
section LQSw
variable {mb m m' : dM} {s b k i j : Nat} {p : List lC} {c : lC}
theorem Mk.on (h : Mk mb m k i p j) (e : m'.1 k ((brs mb).toNat + i) = m.1 k ((brs mb).toNat + i)) : Mk mb m' k i p j := by unfold Mk; rw [e]; exact h
theorem Mk.ap (h : Mk mb m k i p j) (hj : j ≤ p.length) : Mk mb m k i (p ++ [c]) j := by unfold Mk; rw [take_app hj]; exact h
theorem LQw.on (h : LQw mb m b p) (e0 : cds m' = cds m) (e : ∀ k i : Nat, 97 ≤ k → k ≤ 101 → i < b → m'.1 k ((brs mb).toNat + i) = m.1 k ((brs mb).toNat + i)) (e2 : m'.1 102 = m.1 102) (e3 : m'.1 103 = m.1 103) : LQw mb m' b p := by
  refine ⟨by rw [e0]; exact h.1, h.2.1.of e2 e3, fun i hi => ?_⟩
  obtain ⟨a1, a2, a3, a4, a5⟩ := h.2.2 i hi
  exact ⟨by rw [e 97 i (by omega) (by omega) hi]; exact a1, a2.on (e 98 i (by omega) (by omega) hi), a3.on (e 99 i (by omega) (by omega) hi), a4.on (e 100 i (by omega) (by omega) hi), a5.on (e 101 i (by omega) (by omega) hi)⟩
theorem LQw.mv {n : Int} (h : LQw mb m b p) (hm : Mv n m m') : LQw mb m' b p := h.on (by unfold cds; rw [hm.2.1 46 (by decide) (by decide) (by decide) (by decide) (by decide)]) (fun k i h1 h2 _ => by rw [hm.1 k (by omega)]) (hm.1 102 (by decide)) (hm.1 103 (by decide))
theorem LQw.st {v : Int32} {q : Nat} (h : LQw mb m b p) (hk : 97 ≤ k ∧ k ≤ 101) (hq : q = (brs mb).toNat + b) : LQw mb (dSet m k q v) b p := h.on (by unfold cds; rw [dSet_k (by omega)]) (fun k' i h1 h2 h3 => by
  rw [dSet_e, if_neg (fun w => by omega)]
  ) (by rw [dSet_k (by omega)]) (by rw [dSet_k (by omega)])
theorem LQw.ex (h : LQw mb m b p) (hb : 3 * b ≤ p.length) (h0 : 0 ≤ cds mb) (hx : XF m s m') (hc : cds m' = cds m + (c.length : Int)) (hS : SR m' (cds m).toNat c) : LQw mb m' b (p ++ [c]) := by
  obtain ⟨a1, a2, a3⟩ := h
  have el : (p ++ [c]).flatten = p.flatten ++ c := by rw [List.flatten_append, List.flatten_cons, List.flatten_nil, List.append_nil]
  unfold LQw
  rw [el]
  refine ⟨by rw [List.length_append]; omega, (a2.on (fun j _ hj => hx.2.2.1 j (by omega))).app (by rw [show (cds mb).toNat + p.flatten.length = (cds m).toNat by omega]; exact hS), fun i hi => ?_⟩
  obtain ⟨b1, b2, b3, b4, b5⟩ := a3 i hi
  have e : ∀ k : Nat, 97 ≤ k → k ≤ 101 → m'.1 k = m.1 k := fun k h1 h2 => hx.1 k (by omega) (by omega) (by omega) (by omega)
  exact ⟨by rw [e 97 (by omega) (by omega)]; exact b1, (b2.on (by rw [e 98 (by omega) (by omega)])).ap (by omega), (b3.on (by rw [e 99 (by omega) (by omega)])).ap (by omega), (b4.on (by rw [e 100 (by omega) (by omega)])).ap (by omega), (b5.on (by rw [e 101 (by omega) (by omega)])).ap (by omega)⟩
theorem LQw.up (h : LQw mb m b p) (h0 : (m.1 97 ((brs mb).toNat + b)).toInt ≠ 0) (h1 : Mk mb m 98 b p (3 * b)) (h2 : Mk mb m 99 b p (3 * b + 1)) (h3 : Mk mb m 100 b p (3 * b + 2)) (h4 : Mk mb m 101 b p (3 * b + 3)) : LQw mb m (b + 1) p := ⟨h.1, h.2.1, fun i hi => by
  by_cases e : i = b
  · subst e; exact ⟨h0, h1, h2, h3, h4⟩
  · exact h.2.2 i (by omega)⟩
/-- a mark set now -/
theorem Mk.now {v : Int32} (hp : p.length = j) (hv : v.toInt = cds mb + (p.flatten.length : Int)) : Mk mb (dSet m k ((brs mb).toNat + b) v) k b p j := by
  unfold Mk
  rw [dSet_s, hv, ← hp, List.take_length]
end LQSw
/-- a law has been told: these pieces -/
def LZ (mb m : dM) (p : List lC) : Prop := ∃ b : Nat, p.length = 3 * b + 1 ∧ brs m = brs mb + (b : Int) + 1 ∧ LQw mb m b p ∧ (m.1 97 ((brs mb).toNat + b)).toInt = 0 ∧ Mk mb m 100 b p (3 * b) ∧ Mk mb m 101 b p (3 * b + 1)
section RLX
variable {K : Nat → Int} {V : Nat → Int64} {P : Nat → Nat} {r W : gR} {mb : dM} {s : Nat} {T : gR} {PX : List lC}
/-- an expression told within a law -/
theorem LY.xx {m : dM} {e bm : Int} {Q : dM → Prop} (hs : s ≤ 1) (hcb : 420 * (s : Int) ≤ cds mb) (hv : ∀ i, vk (K i)) (hR : RM K V P mb) (hV : ∀ n : Nat, K n = 23 → 0 ≤ (V n).toInt32.toInt ∧ (V n).toInt32.toInt ≤ 9999) (h : LY K P mb s e bm m r W) (hQ : ∀ m', LY K P mb s (e + 1) bm m' (rb r (gE K)) W → brs m' = brs m → tt m ≤ tt m' → (flt m' = 0 → flt m = 0) → (flt m' = 0 → XF m s m' ∧ cds m' = cds m + ((cE K V r.2).length : Int) ∧ SR m' (cds m).toNat (cE K V r.2)) → Q m') : c_X12_expression_70 4 m Q := by
  obtain ⟨h, g2, hS⟩ := h
  by_cases z : r.1 = 0
  · have h0 : flt m = 0 := hS.fl.2.mpr z
    have h6 := h.2.2.2.2.2 h0
    have er : r = (0, r.2) := by rw [← z]
    have hS' : ST K P m (0, r.2) W := by rw [← er]; exact hS
    refine xr_expression hs hv (hR.lf h.1 g2) hV hS' h6.2.1 ⟨by omega, h6.2.2.1.2⟩ (fun m' hq g' S' cX => ?_)
    obtain ⟨⟨x, z2, z3, z4, z5, z6⟩, hz⟩ := hq
    have b1 : brs m' = brs m := by unfold brs; rw [x.2.1 40 (by decide) (by decide) (by decide) (by decide) (by decide) (by decide) (by decide) (by decide)]
    refine hQ m' ⟨⟨h.1.xf h6.2.2.1.1 x, z2, by have := h.2.2.1; omega, z4, by have := h.2.2.2.2.1; omega, fun h0' => ?_⟩, g'.trans g2, by rw [rb_k z]; exact S'⟩ b1 z3 (fun _ => h0) (fun q => ⟨x, cX q⟩)
    have hz := hz h0'
    exact ⟨h6.1, hz.1, by omega, by omega⟩
  · have hf : 0 < flt m := by have := h.2.2.2.1; have := hS.fl.2; omega
    refine p_exprBad hf ?_
    have f1 : flt (dSet m 70 50 (0 : Int32)) = flt m := rfl
    obtain ⟨⟨h1, h2, h3, h4, h5⟩, t2, t3, t4, t5, t6⟩ := h
    exact hQ (dSet m 70 50 (0 : Int32)) ⟨⟨⟨fun k e1 e2 => by rw [dSet_k e1]; exact h1 k e1 e2, fun j e1 e2 e3 e4 e5 e6 e7 e8 e9 => by rw [dSet_j e9]; exact h2 j e1 e2 e3 e4 e5 e6 e7 e8 e9, fun k j e1 e2 e3 => by rw [dSet_k (by omega)]; exact h3 k j e1 e2 e3, fun j e1 => h4 j e1, h5⟩, t2, t3, t4, t5, fun q => by exfalso; omega⟩, g2, by rw [rb_f z]; exact hS.of rfl rfl rfl rfl rfl⟩ rfl (Int.le_refl _) (fun q => by exfalso; omega) (fun q => by exfalso; omega)
/-- a term: an expression, and a branch is done -/
theorem LY.tx {m : dM} {e bm : Int} {Q : dM → Prop} (hs : s ≤ 1) (hcb : 420 * (s : Int) ≤ cds mb) (hbb : 130 * (s : Int) ≤ brs mb) (hbm : bm ≤ 110) (hv : ∀ i, vk (K i)) (hR : RM K V P mb) (hV : ∀ n : Nat, K n = 23 → 0 ≤ (V n).toInt32.toInt ∧ (V n).toInt32.toInt ≤ 9999) (h : LY K P mb s e bm m r W) {b : Nat} {p : List lC} (hL : r.1 = 0 → brs m = brs mb + (b : Int) ∧ LQw mb m b p ∧ 3 * b ≤ p.length)
    (hQ : ∀ m', LY K P mb s (e - 3) (bm + 1) m' (rb r (gE K)) W → tt m ≤ tt m' → (flt m' = 0 → flt m = 0) → (flt m' = 0 → brs m' = brs mb + (b : Int) + 1 ∧ LQw mb m' b (p ++ [cE K V r.2]) ∧ Mk mb m' 100 b (p ++ [cE K V r.2]) p.length ∧ Mk mb m' 101 b (p ++ [cE K V r.2]) (p.length + 1) ∧ ∀ k : Nat, 97 ≤ k → k ≤ 99 → m'.1 k ((brs mb).toNat + b) = m.1 k ((brs mb).toNat + b)) → Q m') : c_X12_term_70 5 m Q := by
  have hb5 := h.1.2.2.2.2.1
  have eb : ((m.1 70 40).toNatClampNeg : Int) = brs m := d_cl (show 0 ≤ brs m by omega)
  have fin : ∀ m1 : dM, LY K P mb s (e + 1) bm m1 (rb r (gE K)) W → brs m1 = brs m → tt m ≤ tt m1 → (flt m1 = 0 → flt m = 0) → (flt m1 = 0 → brs m1 = brs mb + (b : Int) ∧ LQw mb m1 b (p ++ [cE K V r.2]) ∧ Mk mb m1 100 b (p ++ [cE K V r.2]) p.length ∧ ∀ k : Nat, 97 ≤ k → k ≤ 99 → m1.1 k ((brs mb).toNat + b) = m.1 k ((brs mb).toNat + b)) → j_X12_term_70_24 5 m1 Q := by
    intro m1 h1 hb htt hff hLL
    have eb1 : (m1.1 70 40).toInt = brs m1 := rfl
    have fb := dAddE (X := brs m1) (Y := 1) (x := m1.1 70 40) (y := (1 : Int32)) rfl (by decide) (by omega) (by omega)
    have g1 := h1.br (k := 101) (v := m1.1 70 46) (by omega) (by omega) (by omega) (by omega)
    have SS := g1.2.2.j (j := 40) (v := m1.1 70 40 + 1) (by decide)
    refine v_X12_term_70_24 ⟨by omega, hQ _ ⟨?_, h1.2.1, SS⟩ (show tt m ≤ tt m1 from htt) (show flt m1 = 0 → flt m = 0 from hff) (fun q => ?_)⟩
    rotate_left
    · obtain ⟨l1, l2, l3, l4⟩ := hLL q
      have ebb := d_cl (x := m1.1 70 40) (show 0 ≤ brs m1 by omega)
      have ei : (m1.1 70 40).toNatClampNeg = (brs mb).toNat + b := by omega
      have el : (p ++ [cE K V r.2]).length = p.length + 1 := by rw [List.length_append]; rfl
      rw [ei]
      have lq := l2.st (k := 101) (v := m1.1 70 46) (by omega) rfl
      refine ⟨by show (m1.1 70 40 + 1).toInt = _; omega, lq.on rfl (fun k i a1 a2 a3 => by rw [dSet_k (by omega)]) (by rw [dSet_k (by omega)]) (by rw [dSet_k (by omega)]), l3.on (by rw [dSet_k (by omega), dSet_k (by omega)]), ?_, fun k a1 a2 => by rw [dSet_k (by omega), dSet_k (by omega)]; exact l4 k a1 a2⟩
      have mk : Mk mb (dSet m1 101 ((brs mb).toNat + b) (m1.1 70 46)) 101 b (p ++ [cE K V r.2]) (p.length + 1) := Mk.now el l2.1
      exact mk.on (by rw [dSet_k (by omega)])
    have eb2 : ((m1.1 70 40).toNatClampNeg : Int) = brs m1 := d_cl (show 0 ≤ brs m1 by omega)
    generalize hM : dSet m1 101 (m1.1 70 40).toNatClampNeg (m1.1 70 46) = M at g1 SS ⊢
    have e40 : M.1 70 40 = m1.1 70 40 := by rw [← hM]; rfl
    obtain ⟨⟨⟨h1, h2, h3, h4, h5⟩, t2, t3, t4, t5, t6⟩, -⟩ := g1
    have bM : brs M = brs m1 := by unfold brs; rw [e40]
    have c1 : cds (dSet M 70 40 (m1.1 70 40 + 1)) = cds M := rfl
    have f1 : flt (dSet M 70 40 (m1.1 70 40 + 1)) = flt M := rfl
    have q1 : tt (dSet M 70 40 (m1.1 70 40 + 1)) = tt M := rfl
    have o1 : opn (dSet M 70 40 (m1.1 70 40 + 1)) = opn M := rfl
    have b1 : brs (dSet M 70 40 (m1.1 70 40 + 1)) = brs m1 + 1 := fb
    refine ⟨⟨fun k a1 a2 => by rw [dSet_k a1]; exact h1 k a1 a2, fun j a1 a2 a3 a4 a5 a6 a7 a8 a9 => by rw [dSet_j a7]; exact h2 j a1 a2 a3 a4 a5 a6 a7 a8 a9, fun k j a1 a2 a3 => by rw [dSet_k (by omega)]; exact h3 k j a1 a2 a3, fun j a1 => h4 j a1, h5⟩, by omega, by omega, by omega, by omega, fun h0 => ?_⟩
    have t6 := t6 (by omega)
    exact ⟨t6.1, by omega, by omega, by omega⟩
  have eb0 : (m.1 70 40).toInt = brs m := rfl
  have g1 := h.br (k := 100) (v := m.1 70 46) (by omega) (by omega) (by omega) (by omega)
  refine v_X12_term_70 ⟨by omega, fun hf => ?_, fun hf => ?_⟩
  · have hf : flt m ≠ 0 := hf
    have z : r.1 ≠ 0 := fun z => hf (h.2.2.fl.2.mpr z)
    have f1 : flt (dSet m 100 (m.1 70 40).toNatClampNeg (m.1 70 46)) = flt m := rfl
    exact fin _ ⟨⟨g1.1.1, g1.1.2.1, g1.1.2.2.1, g1.1.2.2.2.1, g1.1.2.2.2.2.1, fun q => by exfalso; omega⟩, g1.2.1, by rw [rb_f z]; exact g1.2.2⟩ rfl (Int.le_refl _) (fun q => q) (fun q => absurd q hf)
  · have hf : flt m = 0 := hf
    exact g1.xx hs hcb hv hR hV (fun m1 h1 hb htt hz cX => fin m1 h1 hb htt (fun _ => hf) (fun q => by
      obtain ⟨x1', x2', x3'⟩ := cX q
      obtain ⟨l1, l2, l3⟩ := hL (h.2.2.fl.2.mp hf)
      have ebb := d_cl (x := m.1 70 40) (show 0 ≤ brs m by omega)
      have ei : (m.1 70 40).toNatClampNeg = (brs mb).toNat + b := by omega
      have hb : brs m1 = brs m := hb
      rw [ei] at x1' x2' x3'
      have lq := l2.st (k := 100) (v := m.1 70 46) (by omega) rfl
      have mk : Mk mb (dSet m 100 ((brs mb).toNat + b) (m.1 70 46)) 100 b p p.length := Mk.now rfl l2.1
      refine ⟨by omega, lq.ex l3 (by omega) x1' x2' x3', (mk.on (by rw [x1'.1 100 (by omega) (by omega) (by omega) (by omega)])).ap (Nat.le_refl _), fun k a1 a2 => by rw [x1'.1 k (by omega) (by omega) (by omega) (by omega), dSet_k (by omega)]⟩))
theorem xl_main {x1 x2 : Int32} {Q : dM → Prop} (hs : s ≤ 1) (hcb : 420 * (s : Int) ≤ cds mb) (hbb : 130 * (s : Int) ≤ brs mb) (hx1 : 0 ≤ x1.toInt ∧ x1.toInt ≤ 3) (hsd : (mb.1 70 19).toInt = s) (hv : ∀ i, vk (K i)) (hR : RM K V P mb) (hV : ∀ n : Nat, K n = 23 → 0 ≤ (V n).toInt32.toInt ∧ (V n).toInt32.toInt ≤ 9999)
    (hQ1 : ∀ m', LY K P mb s 0 101 m' T W → 0 < flt m' → Q m') (hQ2 : ∀ m', LY K P mb s 0 101 m' T W → flt m' = 0 → LZ mb m' PX → Q (dSet (dSet m' 95 (((4 : Int32) * (m'.1 70 19)) + x1).toNatClampNeg x2) 96 (((4 : Int32) * (m'.1 70 19)) + x1).toNatClampNeg (m'.1 70 40))) : ∀ n : Nat,
    (∀ (x3 : Int32) (b : Nat) (m : dM) (r : gR) (p : List lC), LY K P mb s 2 100 m r W → x3.toInt = b → b ≤ 4 → rb r (gIf K (4 - b)) = T → (r.1 = 0 → brs m = brs mb + (b : Int) ∧ LQw mb m b p ∧ p.length = 3 * b ∧ p ++ lIf K V (4 - b) r.2 = PX) → mu m 6 1 n → j_X12_tellLaw_70_12 6 x1 x2 x3 m Q) ∧
    (∀ (x3 : Int32) (b : Nat) (m : dM) (r : gR) (p : List lC), LY K P mb s 2 99 m r W → x3.toInt = b → b ≤ 4 → rb r (gIf K (4 - b)) = T → (r.1 = 0 → brs m = brs mb + (b : Int) ∧ LQw mb m b p ∧ p.length = 3 * b ∧ p ++ lIf K V (4 - b) r.2 = PX) → (r.1 = 0 → b ≤ 3 ∧ K r.2 = 10) → mu m 5 0 n → j_X12_tellLaw_70_38 6 x1 x2 x3 m Q) ∧
    (∀ (x3 : Int32) (b : Nat) (m : dM) (r : gR) (b0 : Nat) (p : List lC), LY K P mb s 6 99 m r W → x3.toInt = b → b ≤ 4 → rb r (fun n => rb (gnd K 11 n) (fun n => rb (gE K n) (fun n => rb (gnd K 12 n) (gIf K (4 - b))))) = T → (r.1 = 0 → b = b0 + 1 ∧ brs m = brs mb + (b0 : Int) ∧ LQw mb m b0 p ∧ p.length = 3 * b0 + 2 ∧ (m.1 97 ((brs mb).toNat + b0)).toInt ≠ 0 ∧ Mk mb m 98 b0 p (3 * b0) ∧ Mk mb m 99 b0 p (3 * b0 + 1) ∧ p ++ (cE K V (r.2 + 1) :: lIf K V (4 - b) ((gE K (r.2 + 1)).2 + 1)) = PX) → mu m 7 2 n → j_X12_tellLaw_70_110 6 x1 x2 x3 m Q) := by
  have last : ∀ (m : dM) (r : gR) (b : Nat) (p : List lC), LY K P mb s 2 100 m r W → rb (rb r (gE K)) (gnd K 59) = T → (r.1 = 0 → brs m = brs mb + (b : Int) ∧ LQw mb m b p ∧ p.length = 3 * b ∧ p ++ [cE K V r.2] = PX) → j_X12_tellLaw_70_129 6 x1 x2 m Q := by
    intro m r b p h hT hL
    have hb5 := h.1.2.2.2.2.1
    have eb0 : (m.1 70 40).toInt = brs m := rfl
    have g := h.br (k := 97) (v := (0 : Int32)) (by omega) (by omega) (by omega) (by omega)
    refine v_X12_tellLaw_70_129 ⟨by omega, ?_⟩
    have ei : r.1 = 0 → (m.1 70 40).toNatClampNeg = (brs mb).toNat + b := fun z => by
      obtain ⟨l1, _⟩ := hL z
      have ebb := d_cl (x := m.1 70 40) (show 0 ≤ brs m by omega)
      omega
    refine g.tx (b := b) (p := p) hs hcb hbb (by omega) hv hR hV (fun z => ?_) (fun m1 h1 _ hz1 cX => ?_)
    · obtain ⟨l1, l2, l3, l4⟩ := hL z
      exact ⟨l1, by rw [ei z]; exact l2.st (by omega) rfl, by omega⟩
    refine Wp.deep (h1.must (k := 59) hv hR (by decide) (by unfold vk; omega) (by decide) (fun m2 hm2 h2 => ?_)) (Nat.le_of_ble_eq_true rfl)
    rw [hT] at h2
    have g2 : LY K P mb s 0 101 m2 T W := h2.weak (by decide) (by decide)
    have e19 : (m2.1 70 19).toInt = s := by rw [g2.1.1.2.1 19 (by decide) (by decide) (by decide) (by decide) (by decide) (by decide) (by decide) (by decide) (by decide)]; exact hsd
    have fm := dMulE (X := 4) (Y := (s : Int)) (x := (4 : Int32)) (y := m2.1 70 19) (by decide) e19 (by omega) (by omega)
    have fa := dAddE (X := 4 * (s : Int)) (Y := x1.toInt) (x := (4 : Int32) * m2.1 70 19) (y := x1) fm rfl (by omega) (by omega)
    have f2 : flt m2 ≤ 0 → flt m2 = 0 := fun hc => by
      have := g2.1.2.2.2.1
      omega
    refine ⟨fun hc => ⟨by omega, ⟨by omega, hQ2 m2 g2 (f2 hc) ?_⟩⟩, fun hc => hQ1 m2 g2 hc⟩
    have f1 : flt m1 = 0 := by
      have := f2 hc
      rcases hm2.2.2.2.1 with q | q <;> omega
    have z : r.1 = 0 := h.2.2.fl.2.mp (hz1 f1)
    obtain ⟨l1, l2, l3, l4⟩ := hL z
    obtain ⟨y1, y2, y3, y4, y5⟩ := cX f1
    rw [l4] at y2 y3 y4
    rw [l3] at y3 y4
    have k1 : ∀ k : Nat, k ≠ 70 → m2.1 k = m1.1 k := hm2.1
    refine ⟨b, by rw [← l4, List.length_append, l3]; rfl, ?_, y2.mv hm2, ?_, y3.on (by rw [k1 100 (by omega)]), y4.on (by rw [k1 101 (by omega)])⟩
    · unfold brs at y1 ⊢
      rw [hm2.2.1 40 (by decide) (by decide) (by decide) (by decide) (by decide)]
      exact y1
    · rw [k1 97 (by omega), y5 97 (by omega) (by omega), ei z, dSet_s]
      decide
  have gIf_n : ∀ (b n : Nat), K n ≠ 10 → gIf K b n = rb (gE K n) (gnd K 59) := fun b n hn => by
    cases b with
    | zero => show (if K n = 10 then _ else _) = _; rw [if_neg hn]
    | succ b => show (if K n = 10 then _ else _) = _; rw [if_neg hn]
  intro n
  induction n with
  | zero =>
    refine ⟨fun x3 b m r p h h3 hb hT hL hμ => ?_, fun x3 b m r p h h3 hb hT hL h4 hμ => ?_, fun x3 b m r b0 p h h3 hb hT hL hμ => ?_⟩ <;> (have := h.1.2.1; exfalso; rcases hμ with q | q <;> omega)
  | succ n ih =>
    refine ⟨fun x3 b m r p h h3 hb hT hL hμ => ?_, fun x3 b m r p h h3 hb hT hL h4 hμ => ?_, fun x3 b m r b0 p h h3 hb hT hL hμ => ?_⟩
    · have hfl := h.2.2.fl
      have hl : (r.1 = 0 → K r.2 ≠ 10) → rb (rb r (gE K)) (gnd K 59) = T := fun hn => by
        rw [rb_as, ← hT]
        by_cases z : r.1 = 0
        · rw [rb_k z, rb_k z, gIf_n _ _ (hn z)]
        · rw [rb_f z, rb_f z]
      have hl2 : (r.1 = 0 → K r.2 ≠ 10) → (r.1 = 0 → brs m = brs mb + (b : Int) ∧ LQw mb m b p ∧ p.length = 3 * b ∧ p ++ [cE K V r.2] = PX) := fun hn z => by
        obtain ⟨l1, l2, l3, l4⟩ := hL z
        rw [lIf_n (hn z)] at l4
        exact ⟨l1, l2, l3, l4⟩
      refine v_X12_tellLaw_70_12 ⟨fun q => last m r b p h (hl (fun z => absurd (hfl.2.mpr z) q)) (hl2 (fun z => absurd (hfl.2.mpr z) q)), fun h0 => ?_⟩
      have h0 : flt m = 0 := h0
      have h6 := h.1.2.2.2.2.2 h0
      have hb5 := h.1.2.2.2.2.1
      have h' : LY K P mb s 2 99 m r W := ⟨⟨h.1.1, h.1.2.1, h.1.2.2.1, h.1.2.2.2.1, by have := h.1.2.1; omega, h.1.2.2.2.2.2⟩, h.2⟩
      refine Wp.deep (q_is (k := 10) hv (h.rm hR) h.2.2 (by decide) (by unfold vk; omega) (fun z hk => ⟨fun q => absurd q (by decide), fun _ => ⟨fun hne => ?_, fun he => ?_⟩⟩) (fun h1 => ⟨fun _ => last m r b p h (hl (fun z hk => h1 ⟨z, hk⟩)) (hl2 (fun z hk => h1 ⟨z, hk⟩)), fun q => absurd rfl q⟩)) (Nat.le_of_ble_eq_true rfl)
      · have e4 : (4 : Int32).toInt = 4 := by decide
        refine ih.2.1 x3 b m r p h' h3 hb hT hL (fun _ => ⟨by omega, hk⟩) ?_
        left
        rcases hμ with q | q <;> omega
      · have e4 : (4 : Int32).toInt = 4 := by decide
        have b4 : b = 4 := by omega
        refine Wp.deep (r_fail (h.rm hR) h.2.2 (c := 2) (by decide) (by decide) (fun m2 h2 g2 S2 => ?_)) (Nat.le_of_ble_eq_true rfl)
        rw [if_pos z] at S2
        have f2 := S2.fl
        have hf2 : flt m2 ≠ 0 := fun q => absurd (f2.2.mp q) (Nat.succ_ne_zero 1)
        refine ih.2.1 x3 b m2 (2, r.2) p ((h'.mv h2 (by decide) g2 S2).weak (by decide) (by decide)) h3 hb ?_ (fun q => absurd q (Nat.succ_ne_zero 1)) (fun q => absurd q (Nat.succ_ne_zero 1)) ?_
        · rw [← hT, rb_k z, b4, rb_2]
          show _ = (if K r.2 = 10 then _ else _)
          rw [if_pos hk]
        · right
          have := h.1.2.1
          rcases hμ with q | q <;> omega
    · have hfl := h.2.2.fl
      have bd : 0 < flt m → LY K P mb s 0 101 m T W := fun hc => by
        have z : r.1 ≠ 0 := fun z => by have := hfl.2.mpr z; omega
        rw [rb_f z] at hT
        rw [← hT]
        exact ⟨(LSz.bad h.1 hc).weak (Int.le_refl _) (by decide), h.2⟩
      refine v_X12_tellLaw_70_38 ⟨fun hc => ?_, fun hc => hQ1 m (bd hc) hc⟩
      have h0 : flt m = 0 := by
        have hc : flt m ≤ 0 := hc
        have := h.1.2.2.2.1
        omega
      have z := hfl.2.mp h0
      obtain ⟨h34, hk10⟩ := h4 z
      have f3 := dAddE (X := x3.toInt) (Y := 1) (x := x3) (y := (1 : Int32)) rfl (by decide) (by omega) (by omega)
      have hT' : rb (rb (rb (rb (rb r gst) (gE K)) (gnd K 60)) (gE K)) (fun n => rb (gnd K 11 n) (fun n => rb (gE K n) (fun n => rb (gnd K 12 n) (gIf K (4 - (b + 1)))))) = T := by
        rw [rb_as, rb_as, rb_as, rb_as, ← hT, rb_k z, rb_k z, show 4 - b = (4 - (b + 1)) + 1 by omega]
        show _ = (if K r.2 = 10 then _ else _)
        rw [if_pos hk10]
      refine Wp.deep (r_goesOn (h.rm hR) h.2.2 (fun _ => by omega) (fun m1 h1 gg1 S1 => ?_)) (Nat.le_of_ble_eq_true rfl)
      have k41 := h1.2.2.2.1
      have g1 : LY K P mb s 3 99 m1 (rb r gst) W := h.mv h1 (by decide) gg1 S1
      have hb5 := g1.1.2.2.2.2.1
      have eb0 : (m1.1 70 40).toInt = brs m1 := rfl
      refine ⟨by omega, ⟨by omega, ?_⟩⟩
      have g2 : LY K P mb s 3 99 (dSet (dSet m1 97 (m1.1 70 40).toNatClampNeg (1 : Int32)) 98 (m1.1 70 40).toNatClampNeg (m1.1 70 46)) (rb r gst) W :=
        (g1.br (k := 97) (v := (1 : Int32)) (by omega) (by omega) (by omega) (by omega)).br (k := 98) (v := m1.1 70 46) (by omega) (by omega) (by omega) (by omega)
      obtain ⟨l1, l2, l3, l4⟩ := hL z
      have k1 : ∀ k : Nat, k ≠ 70 → m1.1 k = m.1 k := h1.1
      have e40 : m1.1 70 40 = m.1 70 40 := h1.2.1 40 (by decide) (by decide) (by decide) (by decide) (by decide)
      have ei : (m1.1 70 40).toNatClampNeg = (brs mb).toNat + b := by
        have ebb := d_cl (x := m1.1 70 40) (show 0 ≤ brs m1 by omega)
        have : brs m1 = brs m := by unfold brs; rw [e40]
        omega
      have cm1 : cds m1 = cds m := by unfold cds; rw [h1.2.1 46 (by decide) (by decide) (by decide) (by decide) (by decide)]
      refine Wp.deep (g2.xx hs hcb hv hR hV (fun m2 g3 hb ht2 hz cX => ?_)) (Nat.le_of_ble_eq_true rfl)
      have hb' : brs m2 = brs m1 := hb
      refine Wp.deep (g3.must (k := 60) hv hR (by decide) (by unfold vk; omega) (by decide) (fun m3 h3' g4 => ?_)) (Nat.le_of_ble_eq_true rfl)
      have hb6 := g4.1.2.2.2.2.1
      have w3 : (m3.1 70 40).toInt = brs m3 := rfl
      refine ⟨by omega, ?_⟩
      have g5 := g4.br (k := 99) (v := m3.1 70 46) (by omega) (by omega) (by omega) (by omega)
      have k43 := h3'.2.2.2.1
      refine ⟨fun hf => ?_, fun hf => ?_⟩
      · have hf : flt m3 ≠ 0 := hf
        have w4 : flt (dSet m3 99 (m3.1 70 40).toNatClampNeg (m3.1 70 46)) = flt m3 := rfl
        have := g4.1.2.2.2.1
        have z3 : (rb (rb (rb r gst) (gE K)) (gnd K 60)).1 ≠ 0 := fun q => hf (g4.2.2.fl.2.mpr q)
        rw [rb_f z3] at hT'
        refine ih.2.2 _ (b + 1) _ _ b p ⟨LSz.bad g5.1 (by omega), g5.2⟩ (by omega) (by omega) hT' (fun q => absurd q z3) ?_
        right
        have := h.1.2.1
        rcases hμ with q | q <;> omega
      · have hf : flt m3 = 0 := hf
        have f2 : flt m2 = 0 := by rcases k43 with q | q <;> omega
        have z2 : (rb (rb r gst) (gE K)).1 = 0 := g3.2.2.fl.2.mp f2
        obtain ⟨z1, zz1⟩ := rb_z z2
        obtain ⟨y1, y2, y3⟩ := rb_g z1
        obtain ⟨x1', x2', x3'⟩ := cX f2
        rw [y2] at x2' x3'
        rw [ei] at x1' x2' x3'
        have zk : (rb (rb (rb r gst) (gE K)) (gnd K 60)).1 = 0 := g4.2.2.fl.2.mp hf
        have rz : rb (rb (rb r gst) (gE K)) (gnd K 60) = (0, (gE K (r.2 + 1)).2 + 1) := by
          rw [zz1, y2] at zk ⊢
          exact (gEnd_z zk).2.1
        have lA : LQw mb (dSet (dSet m1 97 ((brs mb).toNat + b) (1 : Int32)) 98 ((brs mb).toNat + b) (m1.1 70 46)) b p := ((l2.mv h1).st (by omega) rfl).st (by omega) rfl
        have mA : Mk mb (dSet (dSet m1 97 ((brs mb).toNat + b) (1 : Int32)) 98 ((brs mb).toNat + b) (m1.1 70 46)) 98 b p (3 * b) := Mk.now l3 (by show cds m1 = _; rw [cm1]; exact l2.1)
        have nA : ((dSet (dSet m1 97 ((brs mb).toNat + b) (1 : Int32)) 98 ((brs mb).toNat + b) (m1.1 70 46)).1 97 ((brs mb).toNat + b)).toInt ≠ 0 := by rw [dSet_k (by omega), dSet_s]; decide
        have lB : LQw mb m2 b (p ++ [cE K V (r.2 + 1)]) := lA.ex (by omega) (by omega) x1' x2' x3'
        have xe : ∀ k : Nat, 97 ≤ k → k ≤ 101 → m2.1 k = (dSet (dSet m1 97 ((brs mb).toNat + b) (1 : Int32)) 98 ((brs mb).toNat + b) (m1.1 70 46)).1 k := fun k q1 q2 => x1'.1 k (by omega) (by omega) (by omega) (by omega)
        have mB : Mk mb m2 98 b (p ++ [cE K V (r.2 + 1)]) (3 * b) := (mA.on (by rw [xe 98 (by omega) (by omega)])).ap (by omega)
        have nB : (m2.1 97 ((brs mb).toNat + b)).toInt ≠ 0 := by rw [xe 97 (by omega) (by omega)]; exact nA
        have c3 : cds m3 = cds m2 := by unfold cds; rw [h3'.2.1 46 (by decide) (by decide) (by decide) (by decide) (by decide)]
        have e40' : brs m3 = brs m2 := by unfold brs; rw [h3'.2.1 40 (by decide) (by decide) (by decide) (by decide) (by decide)]
        have e40'' : brs m1 = brs m := by unfold brs; rw [e40]
        have ei3 : (m3.1 70 40).toNatClampNeg = (brs mb).toNat + b := by
          have ebb := d_cl (x := m3.1 70 40) (show 0 ≤ brs m3 by omega)
          omega
        have ll : (p ++ [cE K V (r.2 + 1)]).length = 3 * b + 1 := by rw [List.length_append, l3]; rfl
        have lC' : LQw mb (dSet m3 99 ((brs mb).toNat + b) (m3.1 70 46)) b (p ++ [cE K V (r.2 + 1)]) := (lB.mv h3').st (by omega) rfl
        have mC : Mk mb (dSet m3 99 ((brs mb).toNat + b) (m3.1 70 46)) 98 b (p ++ [cE K V (r.2 + 1)]) (3 * b) := (mB.on (by rw [h3'.1 98 (by omega)])).on (by rw [dSet_k (by omega)])
        have mD : Mk mb (dSet m3 99 ((brs mb).toNat + b) (m3.1 70 46)) 99 b (p ++ [cE K V (r.2 + 1)]) (3 * b + 1) := Mk.now ll (by show cds m3 = _; rw [c3]; exact lB.1)
        have nC : ((dSet m3 99 ((brs mb).toNat + b) (m3.1 70 46)).1 97 ((brs mb).toNat + b)).toInt ≠ 0 := by rw [dSet_k (by omega), h3'.1 97 (by omega)]; exact nB
        have l4' : p ++ [cE K V (r.2 + 1)] ++ [cE K V ((gE K (r.2 + 1)).2 + 1)] ++ (cE K V ((gE K ((gE K (r.2 + 1)).2 + 1)).2 + 1) :: lIf K V (4 - (b + 1)) ((gE K ((gE K ((gE K (r.2 + 1)).2 + 1)).2 + 1)).2 + 1)) = PX := by
          rw [← l4, show 4 - b = (4 - (b + 1)) + 1 by omega, lIf_y hk10]
          simp only [List.append_assoc, List.cons_append, List.nil_append]
        refine Wp.deep (g5.xx hs hcb hv hR hV (fun m4 g6 hb4 ht4 hz4 cX4 => ?_)) (Nat.le_of_ble_eq_true rfl)
        refine ih.2.2 _ (b + 1) _ _ b (p ++ [cE K V (r.2 + 1)] ++ [cE K V ((gE K (r.2 + 1)).2 + 1)]) g6 (by omega) (by omega) hT' (fun z4 => ?_) ?_
        · have f4 : flt m4 = 0 := g6.2.2.fl.2.mpr z4
          obtain ⟨v1, v2, v3⟩ := cX4 f4
          rw [ei3] at v1 v2 v3
          rw [rz] at v2 v3 z4 ⊢
          have ve : ∀ k : Nat, 97 ≤ k → k ≤ 101 → m4.1 k = (dSet m3 99 ((brs mb).toNat + b) (m3.1 70 46)).1 k := fun k q1 q2 => v1.1 k (by omega) (by omega) (by omega) (by omega)
          have hb4 : brs m4 = brs m3 := hb4
          refine ⟨rfl, by omega, lC'.ex (by omega) (by omega) v1 v2 v3, by rw [List.length_append, ll]; rfl, by rw [ve 97 (by omega) (by omega)]; exact nC, (mC.on (by rw [ve 98 (by omega) (by omega)])).ap (by omega), (mD.on (by rw [ve 99 (by omega) (by omega)])).ap (by omega), l4'⟩
        have t4 := g6.1.2.1
        have s4 := g6.1.2.2.2.1
        have a1 : tt m1 ≤ tt m2 := ht2
        have a2 : tt m3 ≤ tt m4 := ht4
        have a3 := h.1.2.1
        unfold mu
        by_cases q0 : flt m4 = 0
        · left
          rcases k43 with y | y <;> rcases hμ with q | q <;> rcases k41 with z | z <;> omega
        · right
          rcases hμ with q | q <;> omega
    · refine v_X12_tellLaw_70_110 ?_
      refine Wp.deep (h.must (k := 11) hv hR (by decide) (by unfold vk; omega) (by decide) (fun m1 h1 g1 => ?_)) (Nat.le_of_ble_eq_true rfl)
      have k41 := h1.2.2.2.1
      have kk : (rb r (gnd K 11)).1 = 0 → r.1 = 0 ∧ (rb r (gnd K 11)).2 = r.2 + 1 := fun q => by
        obtain ⟨q1, q2⟩ := rb_z q
        rw [q2] at q ⊢
        obtain ⟨k1, k2, k3⟩ := gnd_z rfl q
        rw [k1]
        exact ⟨q1, rfl⟩
      refine g1.tx (b := b0) (p := p) hs hcb hbb (by omega) hv hR hV (fun z => ?_) (fun m2 g2 a1 a2 cX => ?_)
      · obtain ⟨l0, l1, l2, l3, -⟩ := hL (kk z).1
        refine ⟨?_, l2.mv h1, by omega⟩
        unfold brs at l1 ⊢
        rw [h1.2.1 40 (by decide) (by decide) (by decide) (by decide) (by decide)]
        exact l1
      refine Wp.deep (g2.must (k := 12) hv hR (by decide) (by unfold vk; omega) (by decide) (fun m3 h3' g3 => ?_)) (Nat.le_of_ble_eq_true rfl)
      refine ih.1 x3 b m3 _ (p ++ [cE K V (r.2 + 1)]) (g3.weak (by decide) (by decide)) h3 hb (by rw [rb_as, rb_as, rb_as]; exact hT) (fun z3 => ?_) ?_
      · have f3 : flt m3 = 0 := g3.2.2.fl.2.mpr z3
        have f2 : flt m2 = 0 := by rcases h3'.2.2.2.1 with q | q <;> omega
        have z1 : (rb r (gnd K 11)).1 = 0 := g1.2.2.fl.2.mp (a2 f2)
        obtain ⟨z0, e1⟩ := kk z1
        obtain ⟨l0, l1, l2, l3, l4, l5, l6, l7⟩ := hL z0
        obtain ⟨y1, y2, y3, y4, y5⟩ := cX f2
        rw [e1] at y2 y3 y4
        subst l0
        have er : rb (rb (rb r (gnd K 11)) (gE K)) (gnd K 12) = (0, (gE K (r.2 + 1)).2 + 1) := by
          rw [rb_k (k := gE K) z1, e1] at z3 ⊢
          exact (gEnd_z z3).2.1
        have kx : ∀ k : Nat, 97 ≤ k → k ≤ 99 → m2.1 k ((brs mb).toNat + b0) = m.1 k ((brs mb).toNat + b0) := fun k q1 q2 => by rw [y5 k q1 q2, h1.1 k (by omega)]
        rw [er]
        rw [l3] at y3 y4
        have e40 : brs m3 = brs m2 := by unfold brs; rw [h3'.2.1 40 (by decide) (by decide) (by decide) (by decide) (by decide)]
        refine ⟨by omega, (y2.up (by rw [kx 97 (by omega) (by omega)]; exact l4) ((l5.on (kx 98 (by omega) (by omega))).ap (by omega)) ((l6.on (kx 99 (by omega) (by omega))).ap (by omega)) y3 y4).mv h3', by rw [List.length_append, l3]; show 3 * b0 + 2 + 1 = _; omega, ?_⟩
        rw [← l7, List.append_assoc]
        rfl
      have k43 := h3'.2.2.2.1
      have a3 := h.1.2.1
      have a4 := g3.1.2.2.2.1
      unfold mu
      by_cases q0 : flt m3 = 0
      · left
        rcases k43 with y | y <;> rcases k41 with z | z <;> rcases hμ with q | q <;> omega
      · right
        rcases hμ with q | q <;> omega
end RLX
end
section
/-! THE REFERENCE's laws, as told, 2 -/
def SBb (m : dM) (x y : Int32) (L : lC) : Prop := SB m x y L ∧ y.toInt ≤ cds m
/-- a law, as it lies while a text is told -/
def LRb (m : dM) (s k : Nat) (D : lD) : Prop := lOk D ∧ (((m.1 95 (4 * s + k)).toInt = (m.1 96 (4 * s + k)).toInt ∧ D.1 = 0 ∧ D.2 0 = dfl k) ∨ ∃ b : Nat, (m.1 95 (4 * s + k)).toInt = (b : Int) ∧ (m.1 96 (4 * s + k)).toInt = ((b + D.1 + 1 : Nat) : Int) ∧ b + D.1 < 260 ∧ ((b + D.1 + 1 : Nat) : Int) ≤ brs m ∧ (∀ i : Nat, i < D.1 → (m.1 97 (b + i)).toInt ≠ 0 ∧ SBb m (m.1 98 (b + i)) (m.1 99 (b + i)) (D.2 (3 * i)) ∧ SBb m (m.1 99 (b + i)) (m.1 100 (b + i)) (D.2 (3 * i + 1)) ∧ SBb m (m.1 100 (b + i)) (m.1 101 (b + i)) (D.2 (3 * i + 2))) ∧ (m.1 97 (b + D.1)).toInt = 0 ∧ SBb m (m.1 100 (b + D.1)) (m.1 101 (b + D.1)) (D.2 (3 * D.1)))
theorem LRb.lr {m : dM} {s k : Nat} {D : lD} (h : LRb m s k D) : LR m s k D := by
  obtain ⟨h1, h2⟩ := h
  refine ⟨h1, ?_⟩
  rcases h2 with h2 | ⟨b, a1, a2, a3, a4, a5, a6, a7⟩
  · exact Or.inl h2
  · exact Or.inr ⟨b, a1, a2, a3, fun i hi => ⟨(a5 i hi).1, (a5 i hi).2.1.1, (a5 i hi).2.2.1.1, (a5 i hi).2.2.2.1⟩, a6, a7.1⟩
theorem SBb.on {m m' : dM} {x y : Int32} {L : lC} (h : SBb m x y L) (hc : cds m ≤ cds m') (e : ∀ j : Nat, (j : Int) < cds m → m'.1 102 j = m.1 102 j ∧ m'.1 103 j = m.1 103 j) : SBb m' x y L := by
  obtain ⟨⟨a, a1, a2, a3⟩, b⟩ := h
  exact ⟨⟨a, a1, a2, a3.on (fun j _ hj => e j (by omega))⟩, by omega⟩
/-- a law told before stays -/
theorem LRb.on {m m' : dM} {s k : Nat} {D : lD} (h : LRb m s k D) (e95 : m'.1 95 (4 * s + k) = m.1 95 (4 * s + k)) (e96 : m'.1 96 (4 * s + k) = m.1 96 (4 * s + k)) (eb : ∀ c j : Nat, 97 ≤ c → c ≤ 101 → (j : Int) < brs m → m'.1 c j = m.1 c j) (ec : ∀ j : Nat, (j : Int) < cds m → m'.1 102 j = m.1 102 j ∧ m'.1 103 j = m.1 103 j) (hb : brs m ≤ brs m') (hc : cds m ≤ cds m') : LRb m' s k D := by
  obtain ⟨h1, h2⟩ := h
  refine ⟨h1, ?_⟩
  rw [e95, e96]
  rcases h2 with h2 | ⟨b, a1, a2, a3, a4, a5, a6, a7⟩
  · exact Or.inl h2
  · refine Or.inr ⟨b, a1, a2, a3, by omega, fun i hi => ?_, ?_, ?_⟩
    · obtain ⟨c1, c2, c3, c4⟩ := a5 i hi
      rw [eb 97 (b + i) (by omega) (by omega) (by omega), eb 98 (b + i) (by omega) (by omega) (by omega), eb 99 (b + i) (by omega) (by omega) (by omega), eb 100 (b + i) (by omega) (by omega) (by omega), eb 101 (b + i) (by omega) (by omega) (by omega)]
      exact ⟨c1, c2.on hc ec, c3.on hc ec, c4.on hc ec⟩
    · rw [eb 97 (b + D.1) (by omega) (by omega) (by omega)]; exact a6
    · rw [eb 100 (b + D.1) (by omega) (by omega) (by omega), eb 101 (b + D.1) (by omega) (by omega) (by omega)]; exact a7.on hc ec
theorem LRb.of {m m' : dM} {s k : Nat} {D : lD} (h : LRb m s k D) (e : ∀ c : Nat, 95 ≤ c → c ≤ 103 → m'.1 c = m.1 c) (e40 : m'.1 70 40 = m.1 70 40) (e46 : m'.1 70 46 = m.1 70 46) : LRb m' s k D := by
  have eb : brs m' = brs m := by unfold brs; rw [e40]
  have ec : cds m' = cds m := by unfold cds; rw [e46]
  exact h.on (by rw [e 95 (by omega) (by omega)]) (by rw [e 96 (by omega) (by omega)]) (fun c j h1 h2 _ => by rw [e c (by omega) (by omega)]) (fun j _ => by rw [e 102 (by omega) (by omega), e 103 (by omega) (by omega)]; exact ⟨rfl, rfl⟩) (by omega) (by omega)
/-- of a law's pieces -/
theorem LZ.lrb {mb m : dM} {s k : Nat} {p : List lC} (h : LZ mb m p) (hs : s ≤ 1) (hk : k < 4) (hb0 : 0 ≤ brs mb) (hbm : brs m ≤ 260) (hc0 : 0 ≤ cds mb) (hw : ∀ (i : Nat) (c : lC), p[i]? = some c → wfL c 0) (h4 : p.length ≤ 13) {x2 x3 : Int32} {q1 q2 : Nat} (hx2 : x2.toInt = brs mb) (hx3 : x3.toInt = brs m) (hq : q1 = 4 * s + k) (hq2 : q2 = 4 * s + k) : LRb (dSet (dSet m 95 q1 x2) 96 q2 x3) s k (lDf p) := by
  subst hq
  subst hq2
  obtain ⟨b, l1, l2, l3, l4, l5, l6⟩ := h
  obtain ⟨g1, g2, g3⟩ := l3
  have e0 : (lDf p).1 = b := by show (p.length - 1) / 3 = b; omega
  have ec : cds (dSet (dSet m 95 (4 * s + k) x2) 96 (4 * s + k) x3) = cds m := rfl
  have eb : brs (dSet (dSet m 95 (4 * s + k) x2) 96 (4 * s + k) x3) = brs m := rfl
  have ek : ∀ c : Nat, c ≠ 95 → c ≠ 96 → (dSet (dSet m 95 (4 * s + k) x2) 96 (4 * s + k) x3).1 c = m.1 c := fun c h1 h2 => by rw [dSet_k h2, dSet_k h1]
  have e95 : (dSet (dSet m 95 (4 * s + k) x2) 96 (4 * s + k) x3).1 95 (4 * s + k) = x2 := by rw [dSet_k (by decide), dSet_s]
  have e96 : (dSet (dSet m 95 (4 * s + k) x2) 96 (4 * s + k) x3).1 96 (4 * s + k) = x3 := dSet_s _ _ _ _
  generalize dSet (dSet m 95 (4 * s + k) x2) 96 (4 * s + k) x3 = M at ec eb ek e95 e96 ⊢
  have pc : ∀ (i : Nat) (x y : Int32), i < p.length → x.toInt = cds mb + ((p.take i).flatten.length : Int) → y.toInt = cds mb + ((p.take (i + 1)).flatten.length : Int) → SBb M x y (p.getD i []) := fun i x y hi hx hy => by
    have f := flat_at hi
    have t := take_at hi
    have fl' : p.flatten.length = (p.take i).flatten.length + ((p.getD i []).length + (p.drop (i + 1)).flatten.length) := by rw [f, List.length_append, List.length_append]
    refine ⟨⟨(cds mb).toNat + (p.take i).flatten.length, by omega, by omega, ?_⟩, by omega⟩
    have g := g2.of (m' := M) (ek 102 (by decide) (by decide)) (ek 103 (by decide) (by decide))
    rw [f] at g
    exact g.spl
  refine ⟨⟨by rw [e0]; omega, fun i hi => ?_⟩, Or.inr ⟨(brs mb).toNat, by rw [e95]; omega, by rw [e96, e0]; omega, by rw [e0]; omega, by rw [e0]; omega, fun i hi => ?_, ?_, ?_⟩⟩
  · rw [e0] at hi
    have hi' : i < p.length := by omega
    refine hw i _ ?_
    show p[i]? = some (p.getD i [])
    rw [List.getD_eq_getElem?_getD, List.getElem?_eq_getElem hi']
    rfl
  · rw [e0] at hi
    obtain ⟨c1, c2, c3, c4, c5⟩ := g3 i hi
    rw [ek 97 (by decide) (by decide), ek 98 (by decide) (by decide), ek 99 (by decide) (by decide), ek 100 (by decide) (by decide), ek 101 (by decide) (by decide)]
    exact ⟨c1, pc (3 * i) _ _ (by omega) c2 c3, pc (3 * i + 1) _ _ (by omega) c3 c4, pc (3 * i + 2) _ _ (by omega) c4 c5⟩
  · rw [e0, ek 97 (by decide) (by decide)]; exact l4
  · rw [e0, ek 100 (by decide) (by decide), ek 101 (by decide) (by decide)]
    exact pc (3 * b) _ _ (by omega) l5 l6
/-- what a law told leaves -/
def LXx (mb : dM) (s k : Nat) (m : dM) : Prop := (∀ j : Nat, j ≠ 4 * s + k → m.1 95 j = mb.1 95 j ∧ m.1 96 j = mb.1 96 j) ∧ (∀ c j : Nat, 97 ≤ c → c ≤ 101 → ((j : Int) < brs mb ∨ 130 * s + 130 ≤ j) → m.1 c j = mb.1 c j) ∧ (∀ j : Nat, ((j : Int) < cds mb ∨ 420 * s + 402 ≤ j) → m.1 102 j = mb.1 102 j ∧ m.1 103 j = mb.1 103 j)
section RLY
variable {K : Nat → Int} {V : Nat → Int64} {P : Nat → Nat} {r W : gR} {mb : dM} {s : Nat} {T : gR} {PX : List lC}
theorem x_tellLaw {x1 : Int32} {k : Nat} {Q : dM → Prop} (hs : s ≤ 1) (hsd : (mb.1 70 19).toInt = s) (hk : x1.toInt = (k : Int)) (hk4 : k < 4) (hv : ∀ i, vk (K i)) (hR : RM K V P mb) (hV : ∀ n : Nat, K n = 23 → 0 ≤ (V n).toInt32.toInt ∧ (V n).toInt32.toInt ≤ 9999) (hS : ST K P mb r W) (hb : 130 * (s : Int) ≤ brs mb ∧ brs mb ≤ 130 * s + 100) (hc : 420 * (s : Int) ≤ cds mb) (hG : r.1 = 0 → opn mb = 0 ∧ cds mb ≤ 420 * s + tt mb ∧ 4 * (brs mb - 130 * s) + 1 ≤ tt mb) (hQ : ∀ m', LX mb s m' → LXx mb s k m' → ST K P m' (rb r (fun n => rb (gnd K 61 n) (gIf K 4))) W → ((rb r (fun n => rb (gnd K 61 n) (gIf K 4))).1 = 0 → LRb m' s k (lDf (lIf K V 4 (r.2 + 1)))) → Q m') : c_X12_tellLaw_70 6 x1 mb Q := by
  have hfl := hS.fl
  have hx1 : 0 ≤ x1.toInt ∧ x1.toInt ≤ 3 := by omega
  have st0 : LY K P mb s 1 100 mb r W := by
    refine ⟨⟨⟨fun _ _ _ => rfl, fun _ _ _ _ _ _ _ _ _ _ => rfl, fun _ _ _ _ _ => rfl, fun _ _ => ⟨rfl, rfl⟩, Wz.eq rfl⟩, hS.2.2, Int.le_refl _, hfl.1, ⟨Int.le_refl _, hb.2⟩, fun h0 => ?_⟩, rfl, hS⟩
    have g := hG (hfl.2.mp h0)
    exact ⟨h0, g.1, ⟨Int.le_refl _, g.2.1⟩, g.2.2⟩
  have lxx : ∀ m' : dM, LF mb s m' → (∀ j : Nat, j ≠ 4 * s + k → m'.1 95 j = mb.1 95 j ∧ m'.1 96 j = mb.1 96 j) → LXx mb s k m' := fun m' h1 h2 => ⟨h2, h1.2.2.1, h1.2.2.2.1⟩
  refine v_X12_tellLaw_70 ?_
  refine Wp.deep (st0.must (k := 61) hv hR (by decide) (by unfold vk; omega) (by decide) (fun m1 h1 st1 => ?_)) (Nat.le_of_ble_eq_true rfl)
  have eb1 : m1.1 70 40 = mb.1 70 40 := h1.2.1 40 (by decide) (by decide) (by decide) (by decide) (by decide)
  have kk : (rb r (gnd K 61)).1 = 0 → r.1 = 0 ∧ rb r (gnd K 61) = (0, r.2 + 1) ∧ r.2 + 1 ≤ 400 := fun q => by
    obtain ⟨q1, q2⟩ := rb_z q
    rw [q2] at q ⊢
    obtain ⟨k1, k2, k3⟩ := gnd_z rfl q
    exact ⟨q1, k1, by omega⟩
  refine (xl_main (x2 := m1.1 70 40) (T := rb r (fun n => rb (gnd K 61 n) (gIf K 4))) (PX := lIf K V 4 (r.2 + 1)) hs hc hb.1 hx1 hsd hv hR hV (fun m' h' hf' => ?_) (fun m' h' hf' hz => ?_) 5000).1 (0 : Int32) 0 m1 _ [] st1 (by decide) (by decide) rb_as (fun z => ?_) ?_
  · refine hQ m' ⟨fun k e1 e2 => h'.1.1.1 k e1 (by omega), h'.1.1.2.1, h'.2.1, fun q => by exfalso; omega⟩ (lxx m' h'.1.1 (fun j _ => by rw [h'.1.1.1 95 (by decide) (by decide), h'.1.1.1 96 (by decide) (by decide)]; exact ⟨rfl, rfl⟩)) h'.2.2 (fun q => ?_)
    have := h'.2.2.fl.2.mpr q
    exfalso; omega
  · have h6 := h'.1.2.2.2.2.2 hf'
    have zT := h'.2.2.fl.2.mp hf'
    have e19 : (m'.1 70 19).toInt = s := by rw [h'.1.1.2.1 19 (by decide) (by decide) (by decide) (by decide) (by decide) (by decide) (by decide) (by decide) (by decide)]; exact hsd
    have ei := y_idx (C := 4) (c := (4 : Int32)) (by decide) e19 hs hk (by decide) (by omega)
    have h5 := h'.1.2.2.2.2.1
    have LF' : LF mb s m' := h'.1.1
    refine hQ _ ⟨fun k e1 e2 => by rw [dSet_k (by omega), dSet_k (by omega)]; exact h'.1.1.1 k e1 (by omega), h'.1.1.2.1, h'.2.1, fun _ => ⟨h6.2.1, h6.2.2.1, h'.1.2.2.2.2.1.1, ?_⟩⟩ ⟨fun j hj => ?_, fun c j e1 e2 e3 => ?_, fun j e => ?_⟩ ((h'.2.2.k (by decide)).k (by decide)) (fun _ => ?_)
    · have w := h6.2.2.2
      show 4 * (brs m' - 130 * s) ≤ tt m'
      omega
    · rw [d_cn ei, dSet_k (show 95 ≠ 96 by decide), dSet_j hj, dSet_j hj, dSet_k (show 96 ≠ 95 by decide), LF'.1 95 (by decide) (by decide), LF'.1 96 (by decide) (by decide)]
      exact ⟨rfl, rfl⟩
    · rw [dSet_k (by omega), dSet_k (by omega)]; exact LF'.2.2.1 c j e1 e2 e3
    · rw [dSet_k (by omega), dSet_k (by omega), dSet_k (by omega), dSet_k (by omega)]; exact LF'.2.2.2.1 j e
    · have zk : (rb r (gnd K 61)).1 = 0 := by
        rw [← rb_as] at zT
        exact (rb_z zT).1
      obtain ⟨z0, zk2, zk3⟩ := kk zk
      have zI : (gIf K 4 (r.2 + 1)).1 = 0 := by
        rw [← rb_as, zk2] at zT
        exact zT
      obtain ⟨⟨q, q1, q2⟩, hw⟩ := lIf_ok hV 4 (r.2 + 1) zk3 zI
      have eN : ((m'.1 70 40).toInt) = brs m' := rfl
      exact hz.lrb hs hk4 (by omega) (by omega) (by omega) hw (by omega) (by rw [eb1]; rfl) eN (d_cn ei) (d_cn ei)
  · obtain ⟨z0, zk2, zk3⟩ := kk z
    rw [zk2]
    refine ⟨by unfold brs; rw [eb1]; show _ = (mb.1 70 40).toInt + ((0 : Nat) : Int); omega, ⟨?_, ⟨?_, fun j hj => absurd hj (Nat.not_lt_zero j)⟩, fun i hi => absurd hi (Nat.not_lt_zero i)⟩, rfl, rfl⟩
    · show cds m1 = cds mb + 0
      have : cds m1 = cds mb := by unfold cds; rw [h1.2.1 46 (by decide) (by decide) (by decide) (by decide) (by decide)]
      omega
    · show (cds mb).toNat + 0 ≤ 840
      have := (hG z0).2.1
      have := hS.2.2
      omega
  · have k4 := h1.2.2.2.1
    unfold mu
    have := h1.2.2.1
    rcases k4 with z | z
    · left; omega
    · right; omega
end RLY
end
