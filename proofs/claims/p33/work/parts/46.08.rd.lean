/-! THE REFERENCE's read, 9: a wire, a use told (by hand) -/
section TEW
variable {m0 : dM} {L s : Nat}
theorem t_wire {m : dM} {Q : dM → Prop} (hL : L + s = 1) (hsd : (m0.1 70 19).toInt = s) (hF : PF m0 L s m) (ht : 0 ≤ tt m ∧ tt m ≤ 400) (h0 : flt m = 0) (hG : PG m s) (hw9 : (m.1 82 s).toInt ≤ 9) (hQ : ∀ m', PI m0 L s m' → tt m ≤ tt m' → Q m') : c_X12_tellWire_70 6 m Q := by
  have hs : s ≤ 1 := by omega
  have sd := hF.sd hsd
  have b82 := hF.b82
  have b80 := hF.b80
  have b86 := hF.b86
  have nm := hG.1
  have fm := dMulE (X := 10) (Y := (s : Int)) (x := (10 : Int32)) (y := m.1 70 19) (by decide) sd.1 (by omega) (by omega)
  have fx := dAddE (X := 10 * (s : Int)) (Y := (m.1 82 s).toInt) (x := (10 : Int32) * m.1 70 19) (y := m.1 82 s) fm rfl (by omega) (by omega)
  refine v_X12_tellWire_70 ⟨by omega, ?_⟩
  rw [sd.2]
  generalize hX : (10 : Int32) * m.1 70 19 + m.1 82 s = X at fx ⊢
  have eX : X.toNatClampNeg = 10 * s + (m.1 82 s).toInt.toNat := by
    have := d_cl (x := X) (by omega)
    omega
  have w72 : ∀ (mm : dM) (r1 r2 : Int32), Mv 2 m mm → (-1 ≤ r1.toInt ∧ r1.toInt ≤ 6) → (-1 ≤ r2.toInt ∧ r2.toInt ≤ 6) → (flt mm = 0 → wst mm = 0 → 0 ≤ r1.toInt ∧ 0 ≤ r2.toInt) → j_X12_tellWire_70_72 6 X r1 r2 mm Q := by
    intro mm r1 r2 hm hr1 hr2 hz
    have Fm := hF.mv hm
    have Gm := hG.mv hm (by decide)
    refine v_X12_tellWire_70_72 ⟨by omega, ⟨by omega, ?_⟩⟩
    rw [eX]
    have F1 : PF m0 L s (dSet (dSet mm 83 (10 * s + (m.1 82 s).toInt.toNat) r1) 84 (10 * s + (m.1 82 s).toInt.toNat) r2) := by
      refine PF.set (PF.set Fm hL (by decide) (by decide) (Or.inr ?_) (fun lo hi q => by cases q)) hL (by decide) (by decide) (Or.inr ?_) (fun lo hi q => by cases q)
      · show 10 * s ≤ _ ∧ _ < 10 * s + 10; omega
      · show 10 * s ≤ _ ∧ _ < 10 * s + 10; omega
    generalize hM : dSet (dSet mm 83 (10 * s + (m.1 82 s).toInt.toNat) r1) 84 (10 * s + (m.1 82 s).toInt.toNat) r2 = M at F1 ⊢
    have kM : ∀ k : Nat, k ≠ 83 → k ≠ 84 → M.1 k = mm.1 k := fun k h1 h2 => by rw [← hM, dSet_k h2, dSet_k h1]
    have tM : tt M = tt mm := by unfold tt; rw [kM 70 (by decide) (by decide)]
    have fM : flt M = flt mm := by unfold flt; rw [kM 70 (by decide) (by decide)]
    have uM : wst M = wst mm := by unfold wst; rw [kM 70 (by decide) (by decide)]
    have m83 : ∀ j, M.1 83 j = if j = 10 * s + (m.1 82 s).toInt.toNat then r1 else mm.1 83 j := fun j => by
      rw [← hM, dSet_k (by decide), dSet_e]
      by_cases q : j = 10 * s + (m.1 82 s).toInt.toNat
      · rw [if_pos ⟨rfl, q⟩, if_pos q]
      · rw [if_neg (fun z => q z.2), if_neg q]
    have m84 : ∀ j, M.1 84 j = if j = 10 * s + (m.1 82 s).toInt.toNat then r2 else mm.1 84 j := fun j => by
      rw [← hM, dSet_e]
      by_cases q : j = 10 * s + (m.1 82 s).toInt.toNat
      · rw [if_pos ⟨rfl, q⟩, if_pos q]
      · rw [if_neg (fun z => q z.2), if_neg q, dSet_k (by decide)]
    refine Wp.deep (p_bounded (by rw [tM]; exact hm.2.2.1) (by rw [fM]; exact hm.fl) F1.b75 (by decide) (fun r m1 h1 hr => ⟨by omega, ?_⟩)) (Nat.le_of_ble_eq_true rfl)
    have F2 : PF m0 L s (dSet m1 85 (10 * s + (m.1 82 s).toInt.toNat) r) := PF.set (F1.mv h1) hL (by decide) (by decide) (Or.inr (by show 10 * s ≤ _ ∧ _ < 10 * s + 10; omega)) (fun lo hi q => by cases q)
    have t2 : tt (dSet m1 85 (10 * s + (m.1 82 s).toInt.toNat) r) = tt m1 := rfl
    have f2 : flt (dSet m1 85 (10 * s + (m.1 82 s).toInt.toNat) r) = flt m1 := rfl
    have u2 : wst (dSet m1 85 (10 * s + (m.1 82 s).toInt.toNat) r) = wst m1 := rfl
    refine Wp.deep (p_must (m := dSet m1 85 (10 * s + (m.1 82 s).toInt.toNat) r) h1.2.2.1 h1.fl (fun m2 h2 => ?_)) (Nat.le_of_ble_eq_true rfl)
    have F3 := F2.mv h2
    have q1 := h1.2.2.2.1
    have q2 := h2.2.2.2.1
    have q0 := hm.2.2.2.1
    have tle : tt m ≤ tt m2 := by rcases q0 with a | a <;> rcases q1 with b | b <;> rcases q2 with c | c <;> omega
    refine ⟨fun hf => ?_, fun hf => ?_⟩
    · have hf : flt m2 ≠ 0 := hf
      refine v_X12_tellWire_70_125 (hQ m2 (PI.bad F3 h2.2.2.1 ?_) tle)
      have := h2.fl
      omega
    · have hf : flt m2 = 0 := hf
      have sd3 := F3.sd hsd
      have fmm : flt mm = 0 := by rcases q1 with b | b <;> rcases q2 with c | c <;> omega
      have kk : ∀ k : Nat, k ≠ 70 → k ≠ 83 → k ≠ 84 → k ≠ 85 → m2.1 k = mm.1 k := fun k e1 e2 e3 e4 => by rw [h2.1 k e1, dSet_k e4, h1.1 k e1, kM k e2 e3]
      have k83 : m2.1 83 = M.1 83 := by rw [h2.1 83 (by decide), dSet_k (by decide), h1.1 83 (by decide)]
      have k84 : m2.1 84 = M.1 84 := by rw [h2.1 84 (by decide), dSet_k (by decide), h1.1 84 (by decide)]
      have jj : ∀ j : Nat, j = 12 ∨ j = 20 ∨ j = 40 ∨ j = 46 → m2.1 70 j = mm.1 70 j := fun j e => by rw [h2.2.1 j (by omega) (by omega) (by omega) (by omega) (by omega), dSet_k (by decide), h1.2.1 j (by omega) (by omega) (by omega) (by omega) (by omega), kM 70 (by decide) (by decide)]
      have e82 : m2.1 82 s = m.1 82 s := by rw [kk 82 (by decide) (by decide) (by decide) (by decide), hm.1 82 (by decide)]
      have f82 := dAddE (X := (m.1 82 s).toInt) (Y := 1) (x := m2.1 82 s) (y := (1 : Int32)) (by rw [e82]) (by decide) (by omega) (by omega)
      refine ⟨by omega, ⟨by omega, v_X12_tellWire_70_125 (hQ _ ?_ ?_)⟩⟩
      · rw [sd3.2]
        refine ⟨F3.set hL (by decide) (by decide) (Or.inr (by show 1 * s ≤ s ∧ s < 1 * s + 1; omega)) (fun lo hi q => ?_), h2.2.2.1, by show 0 ≤ flt m2; omega, fun _ => ?_⟩
        · cases q
          omega
        · obtain ⟨g1, g2, g3, g4, g5, g6⟩ := Gm
          have n2 : nms m2 = nms mm := by unfold nms; rw [jj 20 (by omega)]
          have o2 : opn m2 = opn mm := by unfold opn; rw [jj 12 (by omega)]
          have c2 : cds m2 = cds mm := by unfold cds; rw [jj 46 (by omega)]
          have b2 : brs m2 = brs mm := by unfold brs; rw [jj 40 (by omega)]
          have tmm : tt mm ≤ tt m2 := by rcases q1 with b | b <;> rcases q2 with c | c <;> omega
          have W : Wz mm m2 := (Wz.eq uM).tr (h1.2.2.2.2.tr ((Wz.eq u2).tr h2.2.2.2.2))
          refine ⟨?_, by show opn m2 = 0; omega, by show 420 * (s : Int) ≤ cds m2 ∧ cds m2 ≤ 420 * s + tt m2; omega, by show 130 * (s : Int) ≤ brs m2 ∧ 4 * (brs m2 - 130 * s) ≤ tt m2; omega, ?_, ⟨(show 0 ≤ wst m2 from W.2 g6.1), fun w => ?_⟩⟩
          · show nms m2 = (m2.1 80 s).toInt + (m2.1 86 s).toInt
            rw [kk 80 (by decide) (by decide) (by decide) (by decide), kk 86 (by decide) (by decide) (by decide) (by decide)]
            omega
          · exact LB.up (m := mm) (fun k e1 e2 j _ => by rw [dSet_k (by omega), kk k (by omega) (by omega) (by omega) (by omega)]) (fun j _ => by rw [dSet_k (by decide), dSet_k (by decide), kk 102 (by decide) (by decide) (by decide) (by decide), kk 103 (by decide) (by decide) (by decide) (by decide)]; exact ⟨rfl, rfl⟩) (by show brs mm ≤ brs m2; omega) (by show cds mm ≤ cds m2; omega) g5
          · have wm : wst mm = 0 := W.1 w
            have hz := hz fmm wm
            have g6 := g6.2 wm
            refine ⟨fun a ha => ?_, fun a ha => ?_⟩
            · rw [dSet_s] at ha
              rw [dSet_k (by decide), dSet_k (by decide), k83, k84, m83, m84]
              by_cases q : 10 * s + a = 10 * s + (m.1 82 s).toInt.toNat
              · rw [if_pos q, if_pos q]
                omega
              · rw [if_neg q, if_neg q]
                refine g6.1 a ?_
                rw [hm.1 82 (by decide)]
                omega
            · have ha : (a : Int) < (m2.1 86 s).toInt := ha
              rw [kk 86 (by decide) (by decide) (by decide) (by decide)] at ha
              have := g6.2 a ha
              rw [dSet_k (by decide), kk 87 (by decide) (by decide) (by decide) (by decide)]
              exact this
      · exact tle
  refine Wp.deep (p_knownFlat ht (by omega) (by omega) hF.b79 (fun r1 m1 h1 hr1 hz1 => ?_)) (Nat.le_of_ble_eq_true rfl)
  have F1 := hF.mv h1
  have n1 : nms m1 = nms m := by unfold nms; rw [h1.2.1 20 (by decide) (by decide) (by decide) (by decide) (by decide)]
  refine Wp.deep (p_knownFlat h1.2.2.1 h1.fl (by omega) F1.b79 (fun r2 m2 h2 hr2 hz2 => ?_)) (Nat.le_of_ble_eq_true rfl)
  have F2 := F1.mv h2
  have h12 := h1.tr h2 (by decide) (by decide)
  have hz : flt m2 = 0 → wst m2 = 0 → 0 ≤ r1.toInt ∧ 0 ≤ r2.toInt := fun a b => ⟨hz1 (by rcases h2.2.2.2.1 with q | q <;> omega) (h2.2.2.2.2.1 b), hz2 a b⟩
  have go := w72 m2 r1 r2 h12 hr1 hr2 hz
  have h66 : j_X12_tellWire_70_66 6 X r1 (m1.1 70 11) r2 m2 Q := by
    refine v_X12_tellWire_70_66 ?_
    refine Wp.deep (p_wrong h2.2.2.1 h2.fl (by decide) h1.2.2.1 (fun m3 h3 _ => ?_)) (Nat.le_of_ble_eq_true rfl)
    exact w72 m3 r1 r2 (h12.tr h3 (by decide) (by decide)) hr1 hr2 (fun a b => hz (by rcases h3.2.2.2.1 with q | q <;> omega) (h3.2.2.2.2.1 b))
  refine ⟨fun _ => go, fun _ => ⟨fun _ => go, fun _ => ⟨fun _ => go, fun _ => ⟨fun _ => h66, fun _ => ?_⟩⟩⟩⟩
  exact Wp.deep (p_areWired hs (F2.sd hsd) F2.b82 (fun r3 => ⟨fun _ => go, fun _ => h66⟩)) (Nat.le_of_ble_eq_true rfl)
theorem t_use {m : dM} {Q : dM → Prop} (hL : L + s = 1) (hsd : (m0.1 70 19).toInt = s) (hF : PF m0 L s m) (ht : 0 ≤ tt m ∧ tt m ≤ 400) (h0 : flt m = 0) (hG : PG m s) (hw9 : (m.1 86 s).toInt ≤ 7) (hQ : ∀ m', PI m0 L s m' → tt m ≤ tt m' → Q m') : c_X12_tellUse_70 6 m Q := by
  have hs : s ≤ 1 := by omega
  have sd := hF.sd hsd
  have b82 := hF.b82
  have b80 := hF.b80
  have b86 := hF.b86
  have nm := hG.1
  have fm := dMulE (X := 8) (Y := (s : Int)) (x := (8 : Int32)) (y := m.1 70 19) (by decide) sd.1 (by omega) (by omega)
  have fx := dAddE (X := 8 * (s : Int)) (Y := (m.1 86 s).toInt) (x := (8 : Int32) * m.1 70 19) (y := m.1 86 s) fm rfl (by omega) (by omega)
  refine v_X12_tellUse_70 ⟨by omega, ?_⟩
  rw [sd.2]
  generalize hX : (8 : Int32) * m.1 70 19 + m.1 86 s = X at fx ⊢
  have eX : X.toNatClampNeg = 8 * s + (m.1 86 s).toInt.toNat := by
    have := d_cl (x := X) (by omega)
    omega
  refine Wp.deep (p_named ht (by omega) (by omega) (fun r1 m1 h1 hr1 => ?_)) (Nat.le_of_ble_eq_true rfl)
  have F1 := hF.mv h1
  have n1 : nms m1 = nms m := by unfold nms; rw [h1.2.1 20 (by decide) (by decide) (by decide) (by decide) (by decide)]
  refine Wp.deep (p_knownFlat h1.2.2.1 h1.fl (by omega) F1.b79 (fun r2 m2 h2 hr2 hz2 => ?_)) (Nat.le_of_ble_eq_true rfl)
  have F2 := F1.mv h2
  have h12 := h1.tr h2 (by decide) (by decide)
  have G2 := hG.mv h12 (by decide)
  rw [eX]
  have inr : 8 * s ≤ 8 * s + (m.1 86 s).toInt.toNat ∧ 8 * s + (m.1 86 s).toInt.toNat < 8 * s + 8 := by omega
  refine ⟨by omega, ?_⟩
  have F2' : PF m0 L s (dSet m2 87 (8 * s + (m.1 86 s).toInt.toNat) r2) := F2.set hL (by decide) (by decide) (Or.inr inr) (fun lo hi q => by cases q)
  refine Wp.deep (p_bounded (m := dSet m2 87 (8 * s + (m.1 86 s).toInt.toNat) r2) h2.2.2.1 h2.fl F2'.b75 (by decide) (fun r3 m3 h3 hr3 => ⟨by omega, ?_⟩)) (Nat.le_of_ble_eq_true rfl)
  have F3 : PF m0 L s (dSet m3 88 (8 * s + (m.1 86 s).toInt.toNat) r3) := (F2'.mv h3).set hL (by decide) (by decide) (Or.inr inr) (fun lo hi q => by cases q)
  refine Wp.deep (p_bounded (m := dSet m3 88 (8 * s + (m.1 86 s).toInt.toNat) r3) h3.2.2.1 h3.fl F3.b75 (by decide) (fun r4 m4 h4 hr4 => ⟨by omega, ⟨by omega, ?_⟩⟩)) (Nat.le_of_ble_eq_true rfl)
  have F4 : PF m0 L s (dSet m4 89 (8 * s + (m.1 86 s).toInt.toNat) r4) := (F3.mv h4).set hL (by decide) (by decide) (Or.inr inr) (fun lo hi q => by cases q; exact hr4)
  have q3 := h3.2.2.2.1
  have q4 := h4.2.2.2.1
  have k3 : (flt m2 = 0 ∧ flt m3 = 0 ∧ tt m3 = tt m2 + 1) ∨ (0 < flt m3 ∧ tt m2 ≤ tt m3 ∧ tt m3 ≤ tt m2 + 1) := q3
  have k4 : (flt m3 = 0 ∧ flt m4 = 0 ∧ tt m4 = tt m3 + 1) ∨ (0 < flt m4 ∧ tt m3 ≤ tt m4 ∧ tt m4 ≤ tt m3 + 1) := q4
  have kk4 : ∀ k : Nat, k ≠ 70 → k ≠ 87 → k ≠ 88 → m4.1 k = m2.1 k := fun k e1 e2 e3 => by rw [h4.1 k e1, dSet_k e3, h3.1 k e1, dSet_k e2]
  have k87 : m4.1 87 = (dSet m2 87 (8 * s + (m.1 86 s).toInt.toNat) r2).1 87 := by rw [h4.1 87 (by decide), dSet_k (by decide), h3.1 87 (by decide)]
  have jj4 : ∀ j : Nat, j = 12 ∨ j = 20 ∨ j = 40 ∨ j = 46 → m4.1 70 j = m2.1 70 j := fun j e => by rw [h4.2.1 j (by omega) (by omega) (by omega) (by omega) (by omega), dSet_k (by decide), h3.2.1 j (by omega) (by omega) (by omega) (by omega) (by omega), dSet_k (by decide)]
  have w4 : Wz m2 m4 := (show Wz m2 m3 from h3.2.2.2.2).tr (show Wz m3 m4 from h4.2.2.2.2)
  have tail : ∀ x : Int32, 0 ≤ x.toInt ∧ x.toInt ≤ 9999 → c_X12_bounded_70 5 x (23 : Int32) (dSet m4 89 (8 * s + (m.1 86 s).toInt.toNat) r4) (fun r5 m5 => ((0 ≤ X.toInt ∧ X.toInt < 16) ∧ c_X12_endsName_70 5 r1 (-1 : Int32) (dSet m5 90 (8 * s + (m.1 86 s).toInt.toNat) r5) (fun m6 => (((m6.1 70 13).toInt ≠ 0 → j_X12_tellUse_70_118 (5 + 1) m6 Q) ∧ ((m6.1 70 13).toInt = 0 → ((0 ≤ (m6.1 70 19).toInt ∧ (m6.1 70 19).toInt < 2) ∧ ((0 ≤ (m6.1 70 19).toInt ∧ (m6.1 70 19).toInt < 2) ∧ j_X12_tellUse_70_118 (5 + 1) (dSet m6 86 (m6.1 70 19).toNatClampNeg ((m6.1 86 (m6.1 70 19).toNatClampNeg) + (1 : Int32))) Q))))))) := by
    intro x hx
    refine Wp.deep (p_bounded (m := dSet m4 89 (8 * s + (m.1 86 s).toInt.toNat) r4) h4.2.2.1 h4.fl F4.b75 hx (fun r5 m5 h5 hr5 => ⟨by omega, ?_⟩)) (Nat.le_of_ble_eq_true rfl)
    have F5 : PF m0 L s (dSet m5 90 (8 * s + (m.1 86 s).toInt.toNat) r5) := (F4.mv h5).set hL (by decide) (by decide) (Or.inr inr) (fun lo hi q => by cases q; exact hr5)
    have k5 : (flt m4 = 0 ∧ flt m5 = 0 ∧ tt m5 = tt m4 + 1) ∨ (0 < flt m5 ∧ tt m4 ≤ tt m5 ∧ tt m5 ≤ tt m4 + 1) := h5.2.2.2.1
    have kk5 : ∀ k : Nat, k ≠ 70 → k ≠ 87 → k ≠ 88 → k ≠ 89 → m5.1 k = m2.1 k := fun k e1 e2 e3 e4 => by rw [h5.1 k e1, dSet_k e4, kk4 k e1 e2 e3]
    have jj5 : ∀ j : Nat, j = 12 ∨ j = 20 ∨ j = 40 ∨ j = 46 → m5.1 70 j = m2.1 70 j := fun j e => by rw [h5.2.1 j (by omega) (by omega) (by omega) (by omega) (by omega), dSet_k (by decide), jj4 j e]
    have n5 : nms (dSet m5 90 (8 * s + (m.1 86 s).toInt.toNat) r5) = nms m := by
      show (m5.1 70 20).toInt = _
      rw [jj5 20 (by omega), h12.2.1 20 (by decide) (by decide) (by decide) (by decide) (by decide)]
      rfl
    have q12 := h12.2.2.2.1
    refine Wp.deep (p_endsName (m := dSet m5 90 (8 * s + (m.1 86 s).toInt.toNat) r5) h5.2.2.1 h5.fl hr1 (fun _ => by omega) (fun m6 h6 hf6 => ?_) (fun m6 h6 hf6 hfM => ?_)) (Nat.le_of_ble_eq_true rfl)
    · have F6 := F5.mv h6
      have k6 : (flt m5 = 0 ∧ flt m6 = 0 ∧ tt m6 = tt m5 + 1) ∨ (0 < flt m6 ∧ tt m5 ≤ tt m6 ∧ tt m6 ≤ tt m5 + 1) := h6.2.2.2.1
      refine ⟨fun _ => v_X12_tellUse_70_118 (hQ m6 (PI.bad F6 h6.2.2.1 hf6) ?_), fun q => ?_⟩
      · rcases q12 with a | a <;> rcases k3 with b | b <;> rcases k4 with c | c <;> rcases k5 with d | d <;> rcases k6 with e | e <;> omega
      · have q : flt m6 = 0 := q
        exfalso; omega
    · have F6 := F5.mv h6
      have k6 : (flt m5 = 0 ∧ flt m6 = 0 ∧ tt m6 = tt m5 + 1) ∨ (0 < flt m6 ∧ tt m5 ≤ tt m6 ∧ tt m6 ≤ tt m5 + 1) := h6.2.2.2.1
      have f5 : flt m5 = 0 := by rcases k6 with e | e <;> omega
      have f4 : flt m4 = 0 := by rcases k5 with e | e <;> omega
      have f3 : flt m3 = 0 := by rcases k4 with e | e <;> omega
      have f2 : flt m2 = 0 := by rcases k3 with e | e <;> omega
      have tt2 : tt m2 ≤ tt m6 := by rcases k3 with b | b <;> rcases k4 with c | c <;> rcases k5 with d | d <;> rcases k6 with e | e <;> omega
      have tt0 : tt m ≤ tt m6 := by rcases q12 with a | a <;> omega
      have kk6 : ∀ k : Nat, k ≠ 70 → k ≠ 87 → k ≠ 88 → k ≠ 89 → k ≠ 90 → m6.1 k = m2.1 k := fun k e1 e2 e3 e4 e5 => by rw [h6.1 k e1, dSet_k e5, kk5 k e1 e2 e3 e4]
      have k87' : m6.1 87 = (dSet m2 87 (8 * s + (m.1 86 s).toInt.toNat) r2).1 87 := by rw [h6.1 87 (by decide), dSet_k (by decide), h5.1 87 (by decide), dSet_k (by decide), k87]
      have jj6 : ∀ j : Nat, j = 12 ∨ j = 20 ∨ j = 40 ∨ j = 46 → m6.1 70 j = m2.1 70 j := fun j e => by rw [h6.2.1 j (by omega) (by omega) (by omega) (by omega) (by omega), dSet_k (by decide), jj5 j e]
      have w6 : Wz m2 m6 := w4.tr ((show Wz m4 m5 from h5.2.2.2.2).tr (show Wz m5 m6 from h6.2.2.2.2))
      have n6 : nms m6 = nms m := by
        have : m6.1 70 20 = m2.1 70 20 := jj6 20 (by omega)
        unfold nms
        rw [this, h12.2.1 20 (by decide) (by decide) (by decide) (by decide) (by decide)]
      have e20 : (m6.1 70 20).toInt = nms m6 := rfl
      have fn := dAddE (X := nms m6) (Y := 1) (x := m6.1 70 20) (y := (1 : Int32)) rfl (by decide) (by omega) (by omega)
      have e86 : m6.1 86 s = m.1 86 s := by rw [kk6 86 (by decide) (by decide) (by decide) (by decide) (by decide), h12.1 86 (by decide)]
      have f86 := dAddE (X := (m.1 86 s).toInt) (Y := 1) (x := m6.1 86 s) (y := (1 : Int32)) (by rw [e86]) (by decide) (by omega) (by omega)
      have F7 : PF m0 L s (dSet (dSet (dSetL m6 78 (m6.1 70 20).toNatClampNeg (m6.2.1 76 r1.toNatClampNeg)) 79 (m6.1 70 20).toNatClampNeg (-1 : Int32)) 70 20 ((m6.1 70 20) + (1 : Int32))) := by
        refine PF.set70 (PF.set (show PF m0 L s (dSetL m6 78 (m6.1 70 20).toNatClampNeg (m6.2.1 76 r1.toNatClampNeg)) from F6) hL (by decide) (by decide) (Or.inl rfl) (fun lo hi q => ?_)) (by decide) (by decide) (by decide) (by decide)
        cases q
        decide
      have sd7 := F7.sd hsd
      refine ⟨fun q => absurd hf6 q, fun _ => ⟨by omega, ⟨by omega, v_X12_tellUse_70_118 (hQ _ ?_ ?_)⟩⟩⟩
      · rw [sd7.2]
        refine ⟨F7.set hL (by decide) (by decide) (Or.inr (by show 1 * s ≤ s ∧ s < 1 * s + 1; omega)) (fun lo hi q => ?_), h6.2.2.1, by show 0 ≤ flt m6; omega, fun _ => ?_⟩
        · cases q
          show 0 ≤ (m6.1 86 s + (1 : Int32)).toInt ∧ (m6.1 86 s + (1 : Int32)).toInt ≤ 8
          omega
        · obtain ⟨g1, g2, g3, g4, g5, g6⟩ := G2
          have o2 : opn m6 = opn m2 := by unfold opn; rw [jj6 12 (by omega)]
          have c2 : cds m6 = cds m2 := by unfold cds; rw [jj6 46 (by omega)]
          have b2 : brs m6 = brs m2 := by unfold brs; rw [jj6 40 (by omega)]
          refine ⟨?_, by show opn m6 = 0; omega, by show 420 * (s : Int) ≤ cds m6 ∧ cds m6 ≤ 420 * s + tt m6; omega, by show 130 * (s : Int) ≤ brs m6 ∧ 4 * (brs m6 - 130 * s) ≤ tt m6; omega, ?_, ⟨(show 0 ≤ wst m6 from w6.2 g6.1), fun w => ?_⟩⟩
          · show (m6.1 70 20 + (1 : Int32)).toInt = (m6.1 80 s).toInt + _
            rw [dSet_s]
            show (m6.1 70 20 + (1 : Int32)).toInt = (m6.1 80 s).toInt + (m6.1 86 s + (1 : Int32)).toInt
            have e80 : m6.1 80 s = m.1 80 s := by rw [kk6 80 (by decide) (by decide) (by decide) (by decide) (by decide), h12.1 80 (by decide)]
            rw [e80]
            omega
          · exact LB.up (m := m2) (fun k e1 e2 j _ => by rw [dSet_k (by omega), dSet_k (by omega), dSet_k (by omega)]; show m6.1 k j = _; rw [kk6 k (by omega) (by omega) (by omega) (by omega) (by omega)]) (fun j _ => by show m6.1 102 j = _ ∧ m6.1 103 j = _; rw [kk6 102 (by decide) (by decide) (by decide) (by decide) (by decide), kk6 103 (by decide) (by decide) (by decide) (by decide) (by decide)]; exact ⟨rfl, rfl⟩) (by show brs m2 ≤ brs m6; omega) (by show cds m2 ≤ cds m6; omega) g5
          · have w : wst m6 = 0 := w
            have g6 := g6.2 (w6.1 w)
            have hz := hz2 f2 (w6.1 w)
            refine ⟨fun a ha => ?_, fun a ha => ?_⟩
            · have ha : (a : Int) < (m6.1 82 s).toInt := ha
              rw [kk6 82 (by decide) (by decide) (by decide) (by decide) (by decide)] at ha
              have := g6.1 a ha
              show (0 ≤ (m6.1 83 _).toInt ∧ (m6.1 83 _).toInt ≤ 6) ∧ (0 ≤ (m6.1 84 _).toInt ∧ (m6.1 84 _).toInt ≤ 6)
              rw [kk6 83 (by decide) (by decide) (by decide) (by decide) (by decide), kk6 84 (by decide) (by decide) (by decide) (by decide) (by decide)]
              exact this
            · rw [dSet_s] at ha
              have ha : (a : Int) < (m6.1 86 s + (1 : Int32)).toInt := ha
              show 0 ≤ (m6.1 87 (8 * s + a)).toInt ∧ (m6.1 87 (8 * s + a)).toInt ≤ 6
              rw [k87', dSet_e]
              by_cases q : 8 * s + a = 8 * s + (m.1 86 s).toInt.toNat
              · rw [if_pos ⟨rfl, q⟩]
                omega
              · rw [if_neg (fun z => q z.2)]
                refine g6.2 a ?_
                rw [h12.1 86 (by decide)]
                omega
      · exact tt0
  exact ⟨fun hc => ⟨by omega, tail r4 hr4⟩, fun _ => tail 0 (by decide)⟩
end TEW
