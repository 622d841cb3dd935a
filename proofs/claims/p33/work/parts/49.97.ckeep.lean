/-! THE CLASS: questions leave how it stands, 2 -/
section CKF
variable {H : Ho} {S : Zt} {P : List Zt} {L : Nat → Zt} {m : dM}
theorem y_copy62 {Q : dM → Prop} {M : dM} (hq : QC H S P L m M) (hQ : ∀ m' : dM, QC H S P L m m' → CZ 62 m' S → Q m') : c_X7_copy_62_47 1 M Q := by
  obtain ⟨⟨z0, z1, z2, z3, z4, z5⟩, zR, zE, zD⟩ := hq.2.2.1
  refine v_X7_copy_62_47 (hQ _ (hq.t62 ⟨fun k _ _ _ q => by rw [dCpy_k (by omega), dCpy_k (by omega), dCpy_k (by omega), dSet_k (by omega), dSet_k (by omega), dSet_k (by omega), dSet_k (by omega), dSet_k (by omega), dSet_k (by omega)], fun j _ => by rw [dCpy_k (by decide), dCpy_k (by decide), dCpy_k (by decide), dSet_k (by decide), dSet_k (by decide), dSet_k (by decide), dSet_k (by decide), dSet_k (by decide), dSet_k (by decide)], rfl⟩ ⟨hq.2.1.1, hq.2.1.2.1.of (fun k a b _ => by rw [dCpy_k (by omega), dCpy_k (by omega), dCpy_k (by omega), dSet_k (by omega), dSet_k (by omega), dSet_k (by omega), dSet_k (by omega), dSet_k (by omega), dSet_k (by omega)]), hq.2.1.2.2.of (fun k a b => by rw [dCpy_k (by omega), dCpy_k (by omega), dCpy_k (by omega), dSet_k (by omega), dSet_k (by omega), dSet_k (by omega), dSet_k (by omega), dSet_k (by omega), dSet_k (by omega)])⟩) ⟨⟨?_, ?_, ?_, ?_, ?_, ?_⟩, fun j hj => ?_, fun j hj => ?_, fun j hj => ?_⟩)
  · rw [dCpy_k (by decide), dCpy_k (by decide), dCpy_k (by decide), dSet_j (by decide), dSet_j (by decide), dSet_j (by decide), dSet_j (by decide), dSet_j (by decide), dSet_s]; exact z0
  · rw [dCpy_k (by decide), dCpy_k (by decide), dCpy_k (by decide), dSet_j (by decide), dSet_j (by decide), dSet_j (by decide), dSet_j (by decide), dSet_s]; exact z1
  · rw [dCpy_k (by decide), dCpy_k (by decide), dCpy_k (by decide), dSet_j (by decide), dSet_j (by decide), dSet_j (by decide), dSet_s]; exact z2
  · rw [dCpy_k (by decide), dCpy_k (by decide), dCpy_k (by decide), dSet_j (by decide), dSet_j (by decide), dSet_s]; exact z3
  · rw [dCpy_k (by decide), dCpy_k (by decide), dCpy_k (by decide), dSet_j (by decide), dSet_s]; exact z4
  · rw [dCpy_k (by decide), dCpy_k (by decide), dCpy_k (by decide), dSet_s]; exact z5
  · rw [dCpy_k (by decide), dCpy_k (by decide), dCpy_e, if_pos (by simp; omega), dSet_k (by decide), dSet_k (by decide), dSet_k (by decide), dSet_k (by decide), dSet_k (by decide), dSet_k (by decide), show (0 : Int).toNat + (j - (0 : Int).toNat) = j by simp]; exact zR j hj
  · rw [dCpy_k (by decide), dCpy_e, if_pos (by simp; omega), dCpy_k (by decide), dSet_k (by decide), dSet_k (by decide), dSet_k (by decide), dSet_k (by decide), dSet_k (by decide), dSet_k (by decide), show (0 : Int).toNat + (j - (0 : Int).toNat) = j by simp]; exact zE j hj
  · rw [dCpy_e, if_pos (by simp; omega), dCpy_k (by decide), dCpy_k (by decide), dSet_k (by decide), dSet_k (by decide), dSet_k (by decide), dSet_k (by decide), dSet_k (by decide), dSet_k (by decide), show (0 : Int).toNat + (j - (0 : Int).toNat) = j by simp]; exact zD j hj
theorem k_way {x1 x2 : Int32} {Q : Int32 → dM → Prop} (hK : KC H S P L m) (hO : zOk H S) (hQ : ∀ (r : Int32) (m' : dM), QC H S P L m m' → Q r m') : c_X11_way_0 4 x1 x2 m Q := by
  have q0 := QC.rf hK
  have f7 := hK.1.1.1
  have w10 := hK.1.1.2.1
  have no : j_X11_way_0_12 4 m Q := v_X11_way_0_12 (hQ _ m q0)
  refine v_X11_way_0 (Wp.deep (y_isFlatc hK.1 (fun hu => ⟨fun z => absurd z (by decide), fun _ => ⟨fun h2 => ?_, fun _ => no⟩⟩) (fun hu => ⟨fun _ => no, fun z => absurd rfl z⟩)) (Nat.le_of_ble_eq_true rfl))
  have hx := toNat_of hu.1
  refine k_ways q0 hO (fun M q1 l1 => ?_)
  have hl' := l1.lit (f := x1.toNatClampNeg) (by omega) f7
  refine Wp.deep (y_has hx (by omega) (fun g => ⟨fun z => absurd z (by decide), fun _ => ?_⟩) (fun g => ⟨fun _ => hQ _ M q1, fun z => absurd rfl z⟩)) (Nat.le_of_ble_eq_true rfl)
  have no2 : j_X10_wireAt_57_14 3 M Q := v_X10_wireAt_57_14 (hQ _ M q1)
  have hH := q1.2.1.2.1.1
  have loop : ∀ (t i f : Nat) (x3 x4 : Int32), i + t = 7 → x4.toInt = (i : Int) → x3.toInt = (f : Int) → f < hoF H → (x2.toInt < (i : Int) + (wyD H (szG S) f : Int) ∧ i + wyD H (szG S) f ≤ 6) → j_X10_wireAt_57_21 3 x2 x3 x4 M Q := by
    intro t
    induction t with
    | zero =>
      intro i f x3 x4 hi h4 h3 hf hd
      have b := dD_le (nf := hoF H) (nw := hoW H) (e1 := hoA H) (e2 := hoB H) (G := bt (szG S)) (f := f)
      have b : wyD H (szG S) f ≤ 6 ∨ wyD H (szG S) f = 99 := b
      refine v_X10_wireAt_57_21 ⟨fun _ => ⟨by omega, hQ _ M q1⟩, fun q => ?_⟩
      exfalso
      omega
    | succ t ih =>
      intro i f x3 x4 hi h4 h3 hf hd
      have b := dD_le (nf := hoF H) (nw := hoW H) (e1 := hoA H) (e2 := hoB H) (G := bt (szG S)) (f := f)
      have b : wyD H (szG S) f ≤ 6 ∨ wyD H (szG S) f = 99 := b
      refine v_X10_wireAt_57_21 ⟨fun _ => ⟨by omega, hQ _ M q1⟩, fun q => ⟨by omega, ?_⟩⟩
      obtain ⟨n, hn⟩ : ∃ n, wyD H (szG S) f = n + 1 := ⟨wyD H (szG S) f - 1, by omega⟩
      have nk := nx_ok (nf := hoF H) (nw := hoW H) (e1 := hoA H) (e2 := hoB H) (G := bt (szG S)) (n := n) (f := f) (by omega) hn
      have e58 := l1.2.2.2.1 f hf (by show wyD H (szG S) f ≠ 99; omega) (by show wyD H (szG S) f ≠ 0; omega)
      obtain ⟨⟨w1, w2⟩, q1', q2', q3'⟩ := hH.2.2 _ nk.1
      rw [d_cn h3, d_cn e58, w1, h3]
      have dn : wyD H (szG S) (ot (hoA H) (hoB H) (nx (hoF H) (hoW H) (hoA H) (hoB H) (bt (szG S)) f) f) = n := nk.2.2
      refine ⟨by omega, fun ne => ⟨by omega, ih (i + 1) (hoA H (nx (hoF H) (hoW H) (hoA H) (hoB H) (bt (szG S)) f)) _ _ (by omega) (d_inc h4 (by omega)) w1 q1' ?_⟩, fun ee => ⟨by omega, ih (i + 1) (hoB H (nx (hoF H) (hoW H) (hoA H) (hoB H) (bt (szG S)) f)) _ _ (by omega) (d_inc h4 (by omega)) w2 q2' ?_⟩⟩
      · unfold ot at dn
        rw [if_neg (by omega)] at dn
        omega
      · unfold ot at dn
        rw [if_pos (by omega)] at dn
        omega
  have e59 := l1.2.1 x1.toNatClampNeg (by omega)
  have lit : wyD H (szG S) x1.toNatClampNeg ≠ 99 := by
    rw [g] at hl'
    unfold lt at hl'
    exact of_decide_eq_true hl'.symm
  have e59 : (M.1 59 x1.toNatClampNeg).toInt = ewy (wyD H (szG S) x1.toNatClampNeg) := e59
  unfold ewy at e59
  rw [if_neg lit] at e59
  refine v_X10_wireAt_57 ⟨fun _ => no2, fun _ => ⟨by omega, fun q => ?_, fun _ => no2⟩⟩
  have b0 := dD_le (nf := hoF H) (nw := hoW H) (e1 := hoA H) (e2 := hoB H) (G := bt (szG S)) (f := x1.toNatClampNeg)
  have b0 : wyD H (szG S) x1.toNatClampNeg ≤ 6 ∨ wyD H (szG S) x1.toNatClampNeg = 99 := b0
  exact loop 7 0 x1.toNatClampNeg _ _ rfl (by decide) hx (by omega) ⟨by omega, by omega⟩
theorem k_peak {x1 x2 x3 : Int32} {Q : Int32 → dM → Prop} (hK : KC H S P L m) (hO : zOk H S) (hQ : ∀ (r : Int32) (m' : dM), QC H S P L m m' → Q r m') : c_X11_peak_0 7 x1 x2 x3 m Q := by
  have q0 := QC.rf hK
  have w10 := hK.1.1.2.1
  have no : j_X11_peak_0_28 7 m Q := v_X11_peak_0_28 (hQ _ m q0)
  refine v_X11_peak_0 (Wp.deep (y_isWirec hK.1 (fun hu => ⟨fun z => absurd z (by decide), fun _ => ⟨fun _ => no, fun a1 => ⟨fun _ => no, fun a2 => ⟨fun _ => no, fun _ => ⟨fun _ => ?_, fun _ => no⟩⟩⟩⟩⟩) (fun hu => ⟨fun _ => no, fun z => absurd rfl z⟩)) (Nat.le_of_ble_eq_true rfl))
  have go : ∀ y : Int32, c_X1_peakOf_61_47 6 x1 x2 y m (fun r2 m2 => Q r2 m2) := fun y => by
    refine v_X1_peakOf_61_47 (Wp.deep (y_copy62 q0 (fun M q1 z1 => ?_)) (Nat.le_of_ble_eq_true rfl))
    have loop : ∀ (t : Nat) (x5 x6 x7 : Int32) (T : Zt) (M : dM), x7.toInt + (t : Int) = x2.toInt → 0 ≤ x7.toInt → QC H S P L m M → CZ 62 M T → zOk H T → j_X1_peakOf_61_47_17 6 x1 x2 y x5 x6 x7 M Q := by
      intro t
      induction t with
      | zero => intro x5 x6 x7 T M h7 h0 q1 z1 hT; exact v_X1_peakOf_61_47_17 ⟨fun _ => ⟨fun _ => hQ _ M q1, fun _ => hQ _ M q1⟩, fun q => by exfalso; omega⟩
      | succ t ih =>
        intro x5 x6 x7 T M h7 h0 q1 z1 hT
        have f := dAddE (X := x7.toInt) (Y := 1) (x := x7) (y := (1 : Int32)) rfl (by decide) (by omega) (by omega)
        refine v_X1_peakOf_61_47_17 ⟨fun q => by exfalso; omega, fun _ => y_passWires62 q1.2.1 z1 (hT.g1 hK.1.1) (fun M2 f2 w2 z2 _ => ⟨by omega, ?_, ?_⟩)⟩
        · intro _; exact v_X1_peakOf_61_47_65 (ih _ _ _ _ M2 (by omega) (by omega) (q1.t62 f2 w2) z2 (hT.w hK.1.1 _))
        · intro _; exact ⟨by omega, v_X1_peakOf_61_47_65 (ih _ _ _ _ M2 (by omega) (by omega) (q1.t62 f2 w2) z2 (hT.w hK.1.1 _))⟩
    exact loop x2.toNatClampNeg _ _ _ S M (by have := toNat_of (x := x2) (by omega); have := ti_0; omega) (by decide) q1 z1 hO
  exact ⟨fun _ => go _, fun _ => go _⟩
theorem k_tillGone {Q : Int32 → dM → Prop} {T : Zt} {M : dM} (hq : QC H S P L m M) (hZ : CZ 62 M T) (hT : zOk H T) (hQ : ∀ (r : Int32) (m' : dM), QC H S P L m m' → Q r m') : c_X1_trialTillGone_61 6 M Q := by
  have hO := hq.2.1.1
  have loop : ∀ (t : Nat) (x1 : Int32) (T : Zt) (M : dM), x1.toInt + (t : Int) = 201 → 0 ≤ x1.toInt → QC H S P L m M → CZ 62 M T → zOk H T → j_X1_trialTillGone_61_7 6 x1 M Q := by
    intro t
    induction t with
    | zero => intro x1 T M h1 h0 q1 z1 hT; exact v_X1_trialTillGone_61_7 ⟨fun _ => hQ _ M q1, fun q => by exfalso; omega⟩
    | succ t ih =>
      intro x1 T M h1 h0 q1 z1 hT
      have f := dAddE (X := x1.toInt) (Y := 1) (x := x1) (y := (1 : Int32)) rfl (by decide) (by omega) (by omega)
      exact v_X1_trialTillGone_61_7 ⟨fun q => by exfalso; omega, fun _ => y_passWires62 q1.2.1 z1 (hT.g1 hO) (fun M2 f2 w2 z2 _ => ⟨fun _ => ih _ _ _ (by omega) (by omega) ((q1.t62 f2 w2).s61 (Or.inl rfl)) (z2.of (fun k a b => dSet_k (by omega))) (hT.w hO _), fun _ => hQ _ _ ((q1.t62 f2 w2).s61 (Or.inl rfl))⟩)⟩
  exact v_X1_trialTillGone_61 (loop 200 _ T _ (by decide) (by decide) (hq.s61 (Or.inl rfl)) (hZ.of (fun k a b => dSet_k (by omega))) hT)
theorem k_bitAt {x0 x1 : Int32} {Q : Int32 → dM → Prop} {M : dM} (hQ : ∀ r : Int32, Q r M) : c_X11_bitAt 2 x0 x1 M Q := by
  have loop : ∀ (t : Nat) (x2 x3 : Int32), x3.toInt + (t : Int) = 32 → 0 ≤ x3.toInt → j_X11_bitAt_4 2 x0 x1 x2 x3 M Q := by
    intro t
    induction t with
    | zero => intro x2 x3 h3 h0; exact v_X11_bitAt_4 ⟨fun _ => hQ _, fun q => by exfalso; omega⟩
    | succ t ih =>
      intro x2 x3 h3 h0
      have f := dAddE (X := x3.toInt) (Y := 1) (x := x3) (y := (1 : Int32)) rfl (by decide) (by omega) (by omega)
      exact v_X11_bitAt_4 ⟨fun q => by exfalso; omega, fun _ => k_has (fun r _ => ⟨fun _ => v_X11_bitAt_28 (ih _ _ (by omega) (by omega)), fun _ => ⟨fun _ => v_X11_bitAt_28 (ih _ _ (by omega) (by omega)), fun _ => hQ _⟩⟩)⟩
  exact v_X11_bitAt (loop 32 _ _ (by decide) (by decide))
theorem k_first {x1 : Int32} {Q : Int32 → dM → Prop} (hK : KC H S P L m) (hO : zOk H S) (hQ : ∀ (r : Int32) (m' : dM), QC H S P L m m' → Q r m') : c_X11_first_0 8 x1 m Q := by
  have q0 := QC.rf hK
  have no : j_X11_first_0_9 8 m Q := v_X11_first_0_9 (hQ _ m q0)
  exact v_X11_first_0 ⟨fun _ => no, fun _ => ⟨fun _ => v_X1_firstGone_61_47 (Wp.deep (y_copy62 q0 (fun M q1 z1 => k_tillGone q1 z1 hO (fun r M2 q2 => ⟨fun _ => ⟨fun _ => v_X1_firstWire_61 (Wp.deep (k_bitAt (fun r => hQ _ M2 q2)) (Nat.le_of_ble_eq_true rfl)), fun _ => hQ _ M2 q2⟩, fun _ => hQ _ M2 q2⟩))) (Nat.le_of_ble_eq_true rfl)), fun _ => no⟩⟩
theorem k_thick {x1 : Int32} {Q : Int32 → dM → Prop} (hK : KC H S P L m) (hO : zOk H S) (hQ : ∀ (r : Int32) (m' : dM), QC H S P L m m' → Q r m') : c_X11_thick_0 8 x1 m Q := by
  have q0 := QC.rf hK
  have w10 := hK.1.1.2.1
  have no : j_X11_thick_0_11 8 m Q := v_X11_thick_0_11 (hQ _ m q0)
  refine v_X11_thick_0 ⟨fun _ => no, fun k1 => ⟨fun k20 => ?_, fun _ => no⟩⟩
  refine v_X1_bestThicker_61_47 (Wp.deep (y_copy62 q0 (fun M q1 z1 => k_tillGone q1 z1 hO (fun r M2 q2 => ?_))) (Nat.le_of_ble_eq_true rfl))
  have loop : ∀ (t w : Nat) (x3 x4 x5 : Int32) (M : dM), w + t = hoW H → x5.toInt = (w : Int) → QC H S P L m M → j_X1_bestThicker_61_47_20 7 x1 x3 x4 x5 M Q := by
    intro t
    induction t with
    | zero =>
      intro w x3 x4 x5 M hw h5 qM
      have e21 := qM.2.1.2.1.1.2.1.1
      exact v_X1_bestThicker_61_47_20 ⟨fun _ => v_X1_bestThicker_61_47_111 (hQ _ M qM), fun q => by exfalso; omega⟩
    | succ t ih =>
      intro w x3 x4 x5 M hw h5 qM
      have e21 := qM.2.1.2.1.1.2.1.1
      have on : ∀ (y z : Int32) (M1 : dM), QC H S P L m M1 → j_X1_bestThicker_61_47_105 7 x1 y z x5 M1 Q := fun y z M1 q => v_X1_bestThicker_61_47_105 (ih (w + 1) _ _ _ M1 (by omega) (d_inc h5 (by omega)) q)
      refine v_X1_bestThicker_61_47_20 ⟨fun q => by exfalso; omega, fun _ => ⟨fun _ => v_X1_bestThicker_61_47_111 (hQ _ M qM), fun _ => Wp.deep (k_has (fun r _ => ⟨fun _ => on _ _ M qM, fun _ => Wp.deep (y_copy62 qM (fun M3 q3 z3 => ⟨by omega, by omega, ?_⟩)) (Nat.le_of_ble_eq_true rfl)⟩)) (Nat.le_of_ble_eq_true rfl)⟩⟩
      rw [d_cn h5]
      have hT : zOk H (setR S (upd (szR S) w (if M3.1 63 w + x1 < (99 : Int32) then M3.1 63 w + x1 else 99))) := by
        obtain ⟨a, b, c, d, e, f, g⟩ := hO
        refine ⟨a, b, c, d, e, fun j hj => ?_, g⟩
        show 0 ≤ (upd (szR S) w (if M3.1 63 w + x1 < (99 : Int32) then M3.1 63 w + x1 else 99) j).toInt ∧ (upd (szR S) w (if M3.1 63 w + x1 < (99 : Int32) then M3.1 63 w + x1 else 99) j).toInt ≤ 99
        rw [upd_j]
        by_cases q3 : j = w
        · have lti : (M3.1 63 w + x1 < (99 : Int32)) ↔ (M3.1 63 w + x1).toInt < (99 : Int32).toInt := Int32.lt_iff_toInt_lt
          have e9 := ti_99
          have er : M3.1 63 w = szR S w := z3.2.1 w (by omega)
          have fw := f w (by omega)
          have fa := dAddE (X := (M3.1 63 w).toInt) (Y := x1.toInt) (x := M3.1 63 w) (y := x1) rfl rfl (by rw [er]; omega) (by rw [er]; omega)
          rw [er] at fa
          rw [if_pos q3]
          by_cases q : M3.1 63 w + x1 < (99 : Int32)
          · rw [if_pos q]
            have := lti.mp q
            rw [er] at this ⊢
            omega
          · rw [if_neg q]; omega
        · rw [if_neg q3]; exact f j hj
      have q4 : QC H S P L m (dSet M3 63 w (if M3.1 63 w + x1 < (99 : Int32) then M3.1 63 w + x1 else 99)) := q3.t62 ((TyF.rf 62 M3).set (by decide) (Or.inr rfl)) (q3.2.1.ty (n := 62) (by decide) (Or.inr rfl))
      exact k_tillGone q4 z3.r hT (fun r M5 q5 => ⟨fun _ => on _ _ M5 q5, fun _ => on _ _ M5 q5⟩)
  exact loop (hoW H) 0 _ _ _ M2 (by omega) (by decide) q2
theorem y_after {x1 : Int32} {n : Nat} {Q : dM → Prop} {M : dM} (hq : QC H S P L m M) (hO : zOk H S) (hx : x1.toInt = (n : Int)) (hn : n ≤ 72) (hQ : ∀ m' : dM, QC H S P L m m' → CZ 62 m' (itr H n S) → Q m') : c_X1_after_61_47 7 x1 M Q := by
  have loop : ∀ (t i : Nat) (x3 : Int32) (T : Zt) (M : dM), i + t = n → x3.toInt = (i : Int) → QC H S P L m M → CZ 62 M T → zOk H T → itr H t T = itr H n S → j_X1_after_61_47_10 7 x1 x3 M Q := by
    intro t
    induction t with
    | zero =>
      intro i x3 T M hi h3 qM zM hT e
      have e : T = itr H n S := e
      rw [← e] at hQ
      exact v_X1_after_61_47_10 ⟨fun _ => hQ M qM zM, fun q => by exfalso; omega⟩
    | succ t ih =>
      intro i x3 T M hi h3 qM zM hT e
      exact v_X1_after_61_47_10 ⟨fun q => by exfalso; omega, fun _ => y_passHour62 qM.2.1 zM hT (fun M1 f1 w1 z1 => ih (i + 1) _ _ M1 (by omega) (d_inc h3 (by omega)) (qM.t62 f1 w1) z1 (hT.h hq.2.1.1) e)⟩
  exact v_X1_after_61_47 (Wp.deep (y_copy62 hq (fun M1 q1 z1 => loop n 0 _ S M1 (by omega) (by decide) q1 z1 hO rfl)) (Nat.le_of_ble_eq_true rfl))
theorem k_then {x1 x2 : Int32} {Q : Int32 → dM → Prop} (hK : KC H S P L m) (hO : zOk H S) (hQ : ∀ (r : Int32) (m' : dM), QC H S P L m m' → Q r m') : c_X11_then_0 8 x1 x2 m Q := by
  have q0 := QC.rf hK
  have no : j_X11_then_0_19 8 m Q := v_X11_then_0_19 (hQ _ m q0)
  exact v_X11_then_0 ⟨fun _ => no, fun q1 => ⟨fun _ => no, fun q2 => ⟨fun _ => no, fun _ => ⟨fun _ => y_after q0 hO (toNat_of q1) (by have := toNat_of q1; omega) (fun M qM _ => ⟨fun _ => ⟨fun _ => Wp.deep (k_count (fun r => hQ _ M qM)) (Nat.le_of_ble_eq_true rfl), fun _ => hQ _ M qM⟩, fun _ => hQ _ M qM⟩), fun _ => no⟩⟩⟩⟩
theorem k_litIn {x1 x2 : Int32} {Q : Int32 → dM → Prop} (hK : KC H S P L m) (hO : zOk H S) (hQ : ∀ (r : Int32) (m' : dM), QC H S P L m m' → Q r m') : c_X11_litIn_0 8 x1 x2 m Q := by
  have q0 := QC.rf hK
  have no : j_X11_litIn_0_18 8 m Q := v_X11_litIn_0_18 (hQ _ m q0)
  exact v_X11_litIn_0 (Wp.deep (y_isFlatc hK.1 (fun hu => ⟨fun z => absurd z (by decide), fun _ => ⟨fun _ => no, fun q1 => ⟨fun q2 => y_after q0 hO (toNat_of q1) (by have := toNat_of q1; omega) (fun M qM _ => Wp.deep (k_lit qM.2.1 (fun r => Wp.deep (d := 1) (k_has (fun r2 _ => ⟨fun _ => hQ _ M qM, fun _ => hQ _ M qM⟩)) (Nat.le_of_ble_eq_true rfl))) (Nat.le_of_ble_eq_true rfl)), fun _ => no⟩⟩⟩) (fun hu => ⟨fun _ => no, fun z => absurd rfl z⟩)) (Nat.le_of_ble_eq_true rfl))
theorem k_year {x1 x2 : Int32} {Q : Int32 → dM → Prop} (hK : KC H S P L m) (hO : zOk H S) (hQ : ∀ (r : Int32) (m' : dM), QC H S P L m m' → Q r m') : c_X11_year_0 8 x1 x2 m Q := by
  have q0 := QC.rf hK
  have no : j_X11_year_0_21 8 m Q := v_X11_year_0_21 (hQ _ m q0)
  refine v_X11_year_0 ⟨fun _ => no, fun p1 => ⟨fun _ => no, fun p2 => ⟨fun _ => no, fun p3 => ⟨fun p4 => ?_, fun _ => no⟩⟩⟩⟩
  have calm : ∀ (x3 : Int32) (M : dM) (Q' : Int32 → dM → Prop), QC H S P L m M → (∀ (r : Int32) (m' : dM), QC H S P L m m' → Q' r m') → c_X1_isCalm_61_47 6 x1 x3 M Q' := fun x3 M Q' qM hQ' => by
    have loop : ∀ (t : Nat) (x4 : Int32) (T : Zt) (M : dM), x4.toInt + (t : Int) = x1.toInt → 0 ≤ x4.toInt → QC H S P L m M → CZ 62 M T → zOk H T → j_X1_isCalm_61_47_11 6 x1 x3 x4 M Q' := by
      intro t
      induction t with
      | zero => intro x4 T M h4 h0 qM zM hT; exact v_X1_isCalm_61_47_11 ⟨fun _ => hQ' _ M qM, fun q => by exfalso; omega⟩
      | succ t ih =>
        intro x4 T M h4 h0 qM zM hT
        have f := dAddE (X := x4.toInt) (Y := 1) (x := x4) (y := (1 : Int32)) rfl (by decide) (by omega) (by omega)
        exact v_X1_isCalm_61_47_11 ⟨fun q => by exfalso; omega, fun _ => Wp.deep (y_surgeOf qM.2.1.2.1 (y_passWires62 qM.2.1 zM (hT.g1 hK.1.1) (fun M2 f2 w2 z2 _ => ⟨fun _ => ih _ _ M2 (by omega) (by omega) (qM.t62 f2 w2) z2 (hT.w hK.1.1 _), fun _ => hQ' _ M2 (qM.t62 f2 w2)⟩))) (Nat.le_of_ble_eq_true rfl)⟩
    exact v_X1_isCalm_61_47 (Wp.deep (y_copy62 qM (fun M1 q1 z1 => loop x1.toNatClampNeg _ S M1 (by have := toNat_of p1; have := ti_0; omega) (by decide) q1 z1 hO)) (Nat.le_of_ble_eq_true rfl))
  have loop : ∀ (t : Nat) (x4 x5 : Int32) (M : dM), x5.toInt + (t : Int) = x2.toInt → 0 ≤ x5.toInt → QC H S P L m M → j_X1_calmSeeds_61_47_6 7 x1 x2 x4 x5 M Q := by
    intro t
    induction t with
    | zero => intro x4 x5 M h5 h0 qM; exact v_X1_calmSeeds_61_47_6 ⟨fun _ => hQ _ M qM, fun q => by exfalso; omega⟩
    | succ t ih =>
      intro x4 x5 M h5 h0 qM
      have f := dAddE (X := x5.toInt) (Y := 1) (x := x5) (y := (1 : Int32)) rfl (by decide) (by omega) (by omega)
      exact v_X1_calmSeeds_61_47_6 ⟨fun q => by exfalso; omega, fun _ => calm _ M _ qM (fun r M1 q1 => ⟨fun _ => ih _ _ M1 (by omega) (by omega) q1, fun _ => ih _ _ M1 (by omega) (by omega) q1⟩)⟩
  exact v_X1_calmSeeds_61_47 (loop x2.toNatClampNeg _ _ m (by have := toNat_of (x := x2) (by omega); have := ti_0; omega) (by decide) q0)
end CKF
