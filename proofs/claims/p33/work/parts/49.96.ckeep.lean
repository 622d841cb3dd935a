/-! THE CLASS: questions leave how it stands -/
section CKE
variable {H : Ho} {S : Zt} {P : List Zt} {L : Nat → Zt} {m : dM}
theorem k_has {x0 x1 : Int32} {Q : Int32 → dM → Prop} (hQ : ∀ r : Int32, r = 0 ∨ r = 1 → Q r m) : c_X11_has 1 x0 x1 m Q := v_X11_has ⟨fun _ => hQ _ (Or.inl rfl), fun _ => hQ _ (Or.inr rfl)⟩
theorem k_count {x : Int32} {Q : Int32 → dM → Prop} (hQ : ∀ r : Int32, Q r m) : c_J6_bitCount 1 x m Q := v_J6_bitCount (hQ _)
theorem k_ends {x : Int32} {w : Nat} {Q : Int32 → dM → Prop} (hx : x.toInt = (w : Int)) (hw : w < 10) (hQ : ∀ r : Int32, Q r m) : c_X3_endsOf_2 1 x m Q := v_X3_endsOf_2 ⟨by omega, by omega, hQ _⟩
theorem k_lit {x : Int32} {Q : Int32 → dM → Prop} (hW : CW H m) (hQ : ∀ r : Int32, Q r m) : c_X3_litWithout_2 2 x m Q := by
  have f7 := hW.1.1
  have w10 := hW.1.2.1
  have e20 := hW.2.1.1.1.1
  have e21 := hW.2.1.1.2.1.1
  have fin : ∀ y : Int32, j_X3_litWithout_2_88 2 y m Q := fun y => v_X3_litWithout_2_88 (hQ y)
  have l15 : ∀ (t : Nat) (x2 x3 : Int32), 0 ≤ x3.toInt → x3.toInt + (t : Int) = 8 → j_X3_litWithout_2_15 2 x x2 x3 m Q := by
    intro t
    induction t with
    | zero => intro x2 x3 h0 h; exact v_X3_litWithout_2_15 ⟨fun _ => fin _, fun q => by exfalso; omega⟩
    | succ t ih =>
      intro x2 x3 h0 h
      have f := dAddE (X := x3.toInt) (Y := 1) (x := x3) (y := (1 : Int32)) rfl (by decide) (by omega) (by omega)
      have l29 : ∀ (u w : Nat) (y x4 x5 : Int32), w + u = hoW H → x5.toInt = (w : Int) → j_X3_litWithout_2_29 2 x y x3 x4 x5 m Q := by
        intro u
        induction u with
        | zero => intro w y x4 x5 hw h5; exact v_X3_litWithout_2_29 ⟨fun _ => ⟨fun _ => ih y _ (by omega) (by omega), fun _ => fin _⟩, fun q => by exfalso; omega⟩
        | succ u ih2 =>
          intro w y x4 x5 hw h5
          have on : ∀ z : Int32, j_X3_litWithout_2_67 2 x z x3 x4 x5 m Q := fun z => v_X3_litWithout_2_67 (ih2 (w + 1) z x4 _ (by omega) (d_inc h5 (by omega)))
          exact v_X3_litWithout_2_29 ⟨fun q => by exfalso; omega, fun _ => k_ends h5 (by omega) (fun r1 => k_has (fun r2 _ => ⟨fun _ => on _, fun _ => ⟨fun _ => on _, fun _ => on _⟩⟩))⟩
      exact v_X3_litWithout_2_15 ⟨fun _ => fin _, fun _ => l29 (hoW H) 0 _ _ _ (by omega) (by decide)⟩
  have e1 : (1 : Int32).toInt = 1 := by decide
  exact v_X3_litWithout_2 ⟨fun _ => l15 7 _ _ (by omega) (by omega), fun _ => l15 7 _ _ (by omega) (by omega)⟩
/-- behind a question -/
theorem KC.t62 {m' : dM} (h : KC H S P L m) (hF : TyF 62 m m') (hW : CW H m') : KC H S P L m' := ⟨hW, h.2.1.of (fun k a b => hF.1 k (by omega) (by omega) (by omega) (by omega)), h.2.2.1.of (by rw [hF.1 51 (by decide) (by decide) (by decide) (by decide)]) (by rw [hF.1 51 (by decide) (by decide) (by decide) (by decide)]) (hF.1 52 (by decide) (by decide) (by decide) (by decide)), h.2.2.2.of (by rw [hF.1 51 (by decide) (by decide) (by decide) (by decide)]) (hF.1 53 (by decide) (by decide) (by decide) (by decide))⟩
theorem KC.s61 {k j : Nat} {v : Int32} (h : KC H S P L m) (hk : k = 61 ∨ k = 66) : KC H S P L (dSet m k j v) := ⟨⟨h.1.1, h.1.2.1.of (fun i a b _ => dSet_k (by omega)), h.1.2.2.of (fun i a b => dSet_k (by omega))⟩, h.2.1.of (fun i a b => dSet_k (by omega)), h.2.2.1.of (by rw [dSet_k (by omega)]) (by rw [dSet_k (by omega)]) (dSet_k (by omega)), h.2.2.2.of (by rw [dSet_k (by omega)]) (dSet_k (by omega))⟩
/-- a question's answer, whatever it is, and what it leaves -/
def QC (H : Ho) (S : Zt) (P : List Zt) (L : Nat → Zt) (m m' : dM) : Prop := CcF m m' ∧ KC H S P L m'
theorem QC.rf (h : KC H S P L m) : QC H S P L m m := ⟨CcF.rf m, h⟩
theorem QC.sc {a b : dM} (h : QC H S P L m a) (hF : ScF a b) (hW : CW H b) : QC H S P L m b := ⟨h.1.tr hF.cc, h.2.sc hF hW⟩
theorem QC.va {a b : dM} (h : QC H S P L m a) (hF : VaF a b) : QC H S P L m b := ⟨h.1.tr hF.sf.cc, h.2.va hF⟩
theorem QC.t62 {a b : dM} (h : QC H S P L m a) (hF : TyF 62 a b) (hW : CW H b) : QC H S P L m b := ⟨h.1.tr (hF.cc (Or.inr rfl)), h.2.t62 hF hW⟩
theorem QC.s61 {a : dM} {k j : Nat} {v : Int32} (h : QC H S P L m a) (hk : k = 61 ∨ k = 66) : QC H S P L m (dSet a k j v) := ⟨h.1.set (by omega), h.2.s61 hk⟩
theorem k_ways {Q : dM → Prop} {M : dM} (hq : QC H S P L m M) (hO : zOk H S) (hQ : ∀ m' : dM, QC H S P L m m' → LA H (szG S) m' → Q m') : c_X0_waysNow_54_47 3 M Q := by
  refine v_X0_waysNow_54_47 ?_
  rw [hq.2.2.1.1.2.2.2.1]
  exact y_lays hq.2.1 (hO.g1 hq.2.1.1) (fun M1 f1 w1 l1 => hQ M1 (hq.sc f1.sf w1) l1)
theorem k_usesNow {Q : Int32 → dM → Prop} {M : dM} (hq : QC H S P L m M) (hO : zOk H S) (hQ : ∀ m' : dM, QC H S P L m m' → LA H (szG S) m' → Q (onA H S (hod (szH S))) m') : c_X0_usesNow_54_47 4 M Q := by
  refine v_X0_usesNow_54_47 (v_X7_hourOfDay_47 ?_)
  rw [hq.2.2.1.1.1]
  exact y_usesAt47 hq.2.1 hq.2.2.1 (hO.g1 hq.2.1.1) (fun M1 f1 w1 l1 => hQ M1 (hq.sc f1.sf w1) l1)
/-- the amps of a flat's uses that are on -/
def amf (H : Ho) (on : Int32) (f : Nat) : Nat → Int32
  | 0 => 0
  | u + 1 => amf H on f u + cond (bt on u && decide (hoH H u = f)) (hoM H u) 0
theorem k_amps {x1 x2 : Int32} {f : Nat} {Q : Int32 → dM → Prop} {M : dM} (hW : CW H M) (hx : x2.toInt = (f : Int)) (hQ : Q (amf H x1 f (hoU H)) M) : c_X0_ampsOf_54 2 x1 x2 M Q := by
  have e22 := hW.2.1.2.1
  have u8 := hW.1.2.2.1
  have loop : ∀ (t u : Nat) (x3 x4 : Int32), u + t = hoU H → x4.toInt = (u : Int) → x3 = amf H x1 f u → j_X0_ampsOf_54_5 2 x1 x2 x3 x4 M Q := by
    intro t
    induction t with
    | zero =>
      intro u x3 x4 hu h4 h3
      refine v_X0_ampsOf_54_5 ⟨fun _ => ?_, fun q => by exfalso; omega⟩
      rw [h3, show u = hoU H by omega]
      exact hQ
    | succ t ih =>
      intro u x3 x4 hu h4 h3
      obtain ⟨b1', b2', b3', b4'⟩ := hW.2.1.2.2.2.2.1 u (by omega)
      have se : amf H x1 f (u + 1) = amf H x1 f u + cond (bt x1 u && decide (hoH H u = f)) (hoM H u) 0 := rfl
      refine v_X0_ampsOf_54_5 ⟨fun q => by exfalso; omega, fun _ => y_has h4 (by omega) (fun g => ⟨fun z => absurd z (by decide), fun _ => ⟨by omega, ?_⟩⟩) (fun g => ⟨fun _ => ih (u + 1) _ _ (by omega) (d_inc h4 (by omega)) ?_, fun z => absurd rfl z⟩)⟩
      · rw [d_cn h4, b1', b2']
        refine ⟨fun ne => ih (u + 1) _ _ (by omega) (d_inc h4 (by omega)) ?_, fun ee => ⟨by omega, ih (u + 1) _ _ (by omega) (d_inc h4 (by omega)) ?_⟩⟩
        · rw [se, g, decide_eq_false (by omega), Bool.and_false, cond_false, h3]
        · rw [se, g, decide_eq_true (by omega), h3]
          rfl
      · rw [se, g, Bool.false_and, cond_false, h3]
  exact v_X0_ampsOf_54 (loop (hoU H) 0 _ _ (by omega) (by decide) rfl)
theorem k_flat {x1 x2 : Int32} {Q : Int32 → dM → Prop} (hK : KC H S P L m) (hO : zOk H S) (hQ : ∀ (r : Int32) (m' : dM), QC H S P L m m' → Q r m') : c_X11_flat_0 6 x1 x2 m Q := by
  have q0 := QC.rf hK
  have f7 := hK.1.1.1
  refine v_X11_flat_0 (Wp.deep (y_isFlatc hK.1 (fun hu => ⟨fun _ => ?_, fun z => absurd z (by decide)⟩) (fun hu => ⟨fun z => absurd rfl z, fun _ => hQ _ m q0⟩)) (Nat.le_of_ble_eq_true rfl))
  have hx := toNat_of hu.1
  refine Wp.deep (k_ways q0 hO (fun M q1 l1 => ?_)) (Nat.le_of_ble_eq_true rfl)
  refine ⟨fun _ => ⟨by omega, hQ _ M q1⟩, fun _ => Wp.deep (k_has (fun r _ => ⟨fun _ => hQ _ M q1, fun _ => hQ _ M q1⟩)) (Nat.le_of_ble_eq_true rfl), fun _ => ⟨by omega, hQ _ M q1⟩, fun _ => Wp.deep (k_has (fun r _ => ⟨fun _ => hQ _ M q1, fun _ => ⟨by omega, hQ _ M q1⟩⟩)) (Nat.le_of_ble_eq_true rfl), fun _ => Wp.deep (y_quarrel47 q1.2.1 q1.2.2.1 hx (by omega) (fun M2 f2 => hQ _ M2 (q1.va f2))) (Nat.le_of_ble_eq_true rfl), fun _ => Wp.deep (k_usesNow q1 hO (fun M2 q2 l2 => Wp.deep (k_amps q2.2.1 hx (hQ _ M2 q2)) (Nat.le_of_ble_eq_true rfl))) (Nat.le_of_ble_eq_true rfl), fun _ => hQ _ M q1⟩
theorem k_load {x : Int32} {w : Nat} {Q : Int32 → dM → Prop} (hK : KC H S P L m) (hO : zOk H S) (hx : x.toInt = (w : Int)) (hw : w < hoW H) (hQ : ∀ m' : dM, QC H S P L m m' → Q (lod H (szG S) (onA H S (hod (szH S))) w) m') : c_X0_loadNow_54_47 5 x m Q := by
  have w10 := hK.1.1.2.1
  refine v_X0_loadNow_54_47 (k_usesNow (QC.rf hK) hO (fun M q1 l1 => Wp.deep (y_putOn47 q1.2.1 q1.2.2.1 (hO.g1 hK.1.1) (fun M2 f2 w2 l2 d2 => ?_)) (Nat.le_of_ble_eq_true rfl)))
  rw [d_cn hx, d2 w hw]
  exact ⟨by omega, hQ M2 (q1.sc f2 w2)⟩
theorem k_goingWith {on : Int32} {Q : Int32 → dM → Prop} {M : dM} (hq : QC H S P L m M) (hO : zOk H S) (hQ : ∀ m' : dM, QC H S P L m m' → Q (gng H S on (hod (szH S)) 0) m') : c_X0_goingWith_54_47 5 on M Q := by
  refine v_X0_goingWith_54_47 (Wp.deep (y_putOn47 hq.2.1 hq.2.2.1 (hO.g1 hq.2.1.1) (fun M2 f2 w2 l2 d2 => v_X7_hourOfDay_47 ?_)) (Nat.le_of_ble_eq_true rfl))
  have q2 := hq.sc f2 w2
  rw [q2.2.2.1.1.1]
  exact y_going47 w2 q2.2.2.1 d2 (fun M3 f3 => hQ M3 (q2.va f3))
theorem k_wire {x1 x2 : Int32} {Q : Int32 → dM → Prop} (hK : KC H S P L m) (hO : zOk H S) (hQ : ∀ (r : Int32) (m' : dM), QC H S P L m m' → Q r m') : c_X11_wire_0 7 x1 x2 m Q := by
  have q0 := QC.rf hK
  have w10 := hK.1.1.2.1
  refine v_X11_wire_0 (Wp.deep (y_isWirec hK.1 (fun hu => ⟨fun _ => ?_, fun z => absurd z (by decide)⟩) (fun hu => ⟨fun z => absurd rfl z, fun _ => hQ _ m q0⟩)) (Nat.le_of_ble_eq_true rfl))
  have hx := toNat_of hu.1
  exact ⟨fun _ => ⟨by omega, hQ _ m q0⟩, fun _ => ⟨by omega, hQ _ m q0⟩, fun _ => ⟨by omega, hQ _ m q0⟩, fun _ => Wp.deep (k_has (fun r _ => ⟨fun _ => hQ _ m q0, fun _ => hQ _ m q0⟩)) (Nat.le_of_ble_eq_true rfl), fun _ => ⟨by omega, hQ _ m q0⟩, fun _ => Wp.deep (k_has (fun r _ => ⟨fun _ => hQ _ m q0, fun _ => hQ _ m q0⟩)) (Nat.le_of_ble_eq_true rfl), fun _ => Wp.deep (k_load hK hO hx (by omega) (fun M q1 => hQ _ M q1)) (Nat.le_of_ble_eq_true rfl), fun _ => Wp.deep (y_cost47 hK.1 hK.2.1 hx (by omega) (fun M f => hQ _ M (q0.va f))) (Nat.le_of_ble_eq_true rfl), fun _ => v_X0_goingNow_54_47 (Wp.deep (k_usesNow q0 hO (fun M q1 _ => k_goingWith q1 hO (fun M2 q2 => Wp.deep (k_has (fun r _ => ⟨fun _ => hQ _ M2 q2, fun _ => hQ _ M2 q2⟩)) (Nat.le_of_ble_eq_true rfl)))) (Nat.le_of_ble_eq_true rfl)), fun _ => hQ _ m q0⟩
theorem k_use {x1 x2 : Int32} {Q : Int32 → dM → Prop} (hK : KC H S P L m) (hO : zOk H S) (hQ : ∀ (r : Int32) (m' : dM), QC H S P L m m' → Q r m') : c_X11_use_0 5 x1 x2 m Q := by
  have q0 := QC.rf hK
  have u8 := hK.1.1.2.2.1
  refine v_X11_use_0 (Wp.deep (y_isUsec hK.1 (fun hu => ⟨fun _ => ?_, fun z => absurd z (by decide)⟩) (fun hu => ⟨fun z => absurd rfl z, fun _ => hQ _ m q0⟩)) (Nat.le_of_ble_eq_true rfl))
  have hx := toNat_of hu.1
  refine k_usesNow q0 hO (fun M q1 _ => Wp.deep (k_has (fun r _ => ?_)) (Nat.le_of_ble_eq_true rfl))
  exact ⟨fun _ => ⟨by omega, hQ _ M q1⟩, fun _ => ⟨by omega, hQ _ M q1⟩, fun _ => ⟨by omega, hQ _ M q1⟩, fun _ => ⟨by omega, hQ _ M q1⟩, fun _ => Wp.deep (k_has (fun r _ => ⟨fun _ => hQ _ M q1, fun _ => hQ _ M q1⟩)) (Nat.le_of_ble_eq_true rfl), fun _ => ⟨fun _ => hQ _ M q1, fun _ => hQ _ M q1⟩, fun _ => ⟨fun _ => hQ _ M q1, fun _ => y_pay47 q1.2.1 q1.2.2.1 hx (by omega) (fun M2 f2 => hQ _ M2 (q1.va f2))⟩, fun _ => hQ _ M q1⟩
theorem k_whole {Q : Int32 → dM → Prop} (hK : KC H S P L m) (hQ : ∀ r : Int32, Q r m) : c_X11_wholeRatings_0 2 m Q := by
  have w10 := hK.1.1.2.1
  have e21 := hK.1.2.1.1.2.1.1
  have loop : ∀ (t w : Nat) (x1 x2 : Int32), w + t = hoW H → x2.toInt = (w : Int) → j_X11_wholeRatings_0_4 2 x1 x2 m Q := by
    intro t
    induction t with
    | zero => intro w x1 x2 hw h2; exact v_X11_wholeRatings_0_4 ⟨fun _ => hQ _, fun q => by exfalso; omega⟩
    | succ t ih => intro w x1 x2 hw h2; exact v_X11_wholeRatings_0_4 ⟨fun q => by exfalso; omega, fun _ => k_has (fun r _ => ⟨fun _ => ⟨by omega, ih (w + 1) _ _ (by omega) (d_inc h2 (by omega))⟩, fun _ => ih (w + 1) _ _ (by omega) (d_inc h2 (by omega))⟩)⟩
  exact v_X11_wholeRatings_0 (loop (hoW H) 0 _ _ (by omega) (by decide))
theorem k_cnt {x1 : Int32} {Q : Int32 → dM → Prop} (hK : KC H S P L m) (hO : zOk H S) (hQ : ∀ (r : Int32) (m' : dM), QC H S P L m m' → Q r m') : c_X11_count_0 5 x1 m Q := by
  have q0 := QC.rf hK
  refine v_X11_count_0 ⟨fun _ => hQ _ m q0, fun _ => hQ _ m q0, fun _ => hQ _ m q0, fun _ => hQ _ m q0, fun _ => hQ _ m q0, fun _ => hQ _ m q0, fun _ => hQ _ m q0, fun _ => Wp.deep (k_lit hK.1 (fun r => hQ r m q0)) (Nat.le_of_ble_eq_true rfl), fun _ => k_usesNow q0 hO (fun M q1 _ => hQ _ M q1), fun _ => hQ _ m q0, fun _ => hQ _ m q0, fun _ => hQ _ m q0, fun _ => Wp.deep (k_count (fun r => hQ r m q0)) (Nat.le_of_ble_eq_true rfl), fun _ => ?_, fun _ => hQ _ m q0, fun _ => Wp.deep (k_whole hK (fun r => hQ r m q0)) (Nat.le_of_ble_eq_true rfl), fun _ => hQ _ m q0⟩
  exact v_X0_isSurge_54 (v_X0_lot (v_X0_stirred (v_X0_stirred ⟨fun q => absurd q (by decide), fun _ => ⟨by decide, ⟨fun _ => ⟨fun _ => hQ _ m q0, fun _ => hQ _ m q0⟩, fun _ => ⟨fun _ => hQ _ m q0, fun _ => hQ _ m q0⟩⟩⟩⟩)))
theorem k_share {x1 x2 : Int32} {Q : Int32 → dM → Prop} (hK : KC H S P L m) (hO : zOk H S) (hQ : ∀ (r : Int32) (m' : dM), QC H S P L m m' → Q r m') : c_X11_share_0 5 x1 x2 m Q := by
  have q0 := QC.rf hK
  have f7 := hK.1.1.1
  have no : j_X11_share_0_16 5 m Q := v_X11_share_0_16 (hQ _ m q0)
  refine v_X11_share_0 (Wp.deep (y_isFlatc hK.1 (fun hu => ⟨fun z => absurd z (by decide), fun _ => ?_⟩) (fun hu => ⟨fun _ => no, fun z => absurd rfl z⟩)) (Nat.le_of_ble_eq_true rfl))
  have hx := toNat_of hu.1
  refine Wp.deep (y_isWirec hK.1 (fun hw => ⟨fun _ => ?_, fun z => absurd z (by decide)⟩) (fun hw => ⟨fun z => absurd rfl z, fun _ => no⟩)) (Nat.le_of_ble_eq_true rfl)
  refine Wp.deep (k_ways q0 hO (fun M q1 l1 => ⟨by omega, ?_⟩)) (Nat.le_of_ble_eq_true rfl)
  exact Wp.deep (k_has (fun r _ => ⟨fun _ => hQ _ M q1, fun _ => k_usesNow q1 hO (fun M2 q2 l2 => Wp.deep (k_amps q2.2.1 hx (hQ _ M2 q2)) (Nat.le_of_ble_eq_true rfl))⟩)) (Nat.le_of_ble_eq_true rfl)
theorem k_without {x1 : Int32} {Q : Int32 → dM → Prop} (hK : KC H S P L m) (hQ : ∀ (r : Int32) (m' : dM), QC H S P L m m' → Q r m') : c_X11_without_0 3 x1 m Q := by
  have q0 := QC.rf hK
  exact v_X11_without_0 (Wp.deep (y_isWirec hK.1 (fun hu => ⟨fun z => absurd z (by decide), fun _ => v_X3_allFlats_2 (k_lit hK.1 (fun r => hQ _ m q0))⟩) (fun hu => ⟨fun _ => hQ _ m q0, fun z => absurd rfl z⟩)) (Nat.le_of_ble_eq_true rfl))
theorem k_needed {Q : Int32 → dM → Prop} (hK : KC H S P L m) (hQ : ∀ (r : Int32) (m' : dM), QC H S P L m m' → Q r m') : c_X11_needed_0 3 m Q := by
  have q0 := QC.rf hK
  have w10 := hK.1.1.2.1
  have e21 := hK.1.2.1.1.2.1.1
  have loop : ∀ (t w : Nat) (x1 x2 x3 : Int32), w + t = hoW H → x3.toInt = (w : Int) → j_X11_needed_0_19 3 x1 x2 x3 m Q := by
    intro t
    induction t with
    | zero => intro w x1 x2 x3 hw h3; exact v_X11_needed_0_19 ⟨fun _ => hQ _ m q0, fun q => by exfalso; omega⟩
    | succ t ih =>
      intro w x1 x2 x3 hw h3
      have on : ∀ y : Int32, j_X11_needed_0_72 3 x1 y x3 m Q := fun y => v_X11_needed_0_72 (ih (w + 1) _ _ _ (by omega) (d_inc h3 (by omega)))
      exact v_X11_needed_0_19 ⟨fun q => by exfalso; omega, fun _ => Wp.deep (k_has (fun r _ => ⟨fun _ => on _, fun _ => k_lit hK.1 (fun r2 => ⟨fun _ => on _, fun _ => on _⟩)⟩)) (Nat.le_of_ble_eq_true rfl)⟩
  exact v_X11_needed_0 (k_lit hK.1 (fun r => loop (hoW H) 0 _ _ _ (by omega) (by decide)))
theorem k_hottest {x1 : Int32} {Q : Int32 → dM → Prop} (hK : KC H S P L m) (hO : zOk H S) (hQ : ∀ (r : Int32) (m' : dM), QC H S P L m m' → Q r m') : c_X11_hottest_0 5 x1 m Q := by
  have q0 := QC.rf hK
  have w10 := hK.1.1.2.1
  have no : j_X11_hottest_0_9 5 m Q := v_X11_hottest_0_9 (hQ _ m q0)
  refine v_X11_hottest_0 ⟨fun _ => no, fun _ => ⟨fun _ => k_usesNow q0 hO (fun M q1 l1 => Wp.deep (y_putOn47 q1.2.1 q1.2.2.1 (hO.g1 hK.1.1) (fun M2 f2 w2 l2 d2 => ?_)) (Nat.le_of_ble_eq_true rfl)), fun _ => no⟩⟩
  have q2 := q1.sc f2 w2
  have e21 := w2.2.1.1.2.1.1
  have loop : ∀ (t w : Nat) (x2 x3 x4 : Int32), w + t = hoW H → x4.toInt = (w : Int) → j_X11_hottest_0_42 5 x1 x2 x3 x4 M2 Q := by
    intro t
    induction t with
    | zero => intro w x2 x3 x4 hw h4; exact v_X11_hottest_0_42 ⟨fun _ => ⟨fun _ => ⟨fun _ => hQ _ M2 q2, fun _ => hQ _ M2 q2⟩, fun _ => hQ _ M2 q2⟩, fun q => by exfalso; omega⟩
    | succ t ih =>
      intro w x2 x3 x4 hw h4
      have on : ∀ y z : Int32, j_X11_hottest_0_109 5 x1 y z x4 M2 Q := fun y z => v_X11_hottest_0_109 (ih (w + 1) _ _ _ (by omega) (d_inc h4 (by omega)))
      have on2 : ∀ y : Int32, j_X11_hottest_0_103 5 x1 x4 y M2 Q := fun y => v_X11_hottest_0_103 (on _ _)
      exact v_X11_hottest_0_42 ⟨fun q => by exfalso; omega, fun _ => ⟨by omega, by omega, Wp.deep (k_has (fun r _ => ⟨fun _ => on _ _, fun _ => ⟨fun _ => on2 _, fun _ => ⟨fun _ => on _ _, fun _ => on2 _⟩⟩⟩)) (Nat.le_of_ble_eq_true rfl)⟩⟩
  exact loop (hoW H) 0 _ _ _ (by omega) (by decide)
theorem k_clash {x1 x2 : Int32} {Q : Int32 → dM → Prop} (hK : KC H S P L m) (hO : zOk H S) (hQ : ∀ (r : Int32) (m' : dM), QC H S P L m m' → Q r m') : c_X11_clash_0 7 x1 x2 m Q := by
  have q0 := QC.rf hK
  have u8 := hK.1.1.2.2.1
  have no : j_X11_clash_0_37 7 m Q := v_X11_clash_0_37 (hQ _ m q0)
  refine v_X11_clash_0 (Wp.deep (y_isUsec hK.1 (fun hu => ⟨fun z => absurd z (by decide), fun _ => Wp.deep (y_isUsec hK.1 (fun hv => ⟨fun z => absurd z (by decide), fun _ => ⟨fun _ => no, fun _ => ?_⟩⟩) (fun hv => ⟨fun _ => no, fun z => absurd rfl z⟩)) (Nat.le_of_ble_eq_true rfl)⟩) (fun hu => ⟨fun _ => no, fun z => absurd rfl z⟩)) (Nat.le_of_ble_eq_true rfl))
  refine v_X1_clashOf_61_47 (Wp.deep (k_ways q0 hO (fun M q1 l1 => ⟨by omega, ?_⟩)) (Nat.le_of_ble_eq_true rfl))
  have no2 : j_X1_clashOf_61_47_47 6 M Q := v_X1_clashOf_61_47_47 (hQ _ M q1)
  exact Wp.deep (k_has (fun r _ => ⟨fun _ => no2, fun _ => ⟨by omega, Wp.deep (k_has (fun r2 _ => ⟨fun _ => k_goingWith q1 hO (fun M2 q2 => k_goingWith q2 hO (fun M3 q3 => k_goingWith q3 hO (fun M4 q4 => Wp.deep (k_count (fun r => hQ _ M4 q4)) (Nat.le_of_ble_eq_true rfl)))), fun _ => no2⟩)) (Nat.le_of_ble_eq_true rfl)⟩⟩)) (Nat.le_of_ble_eq_true rfl)
end CKE
