/-! THE REFERENCE's tells, 3: a use -/
section RUV
variable {K : Nat → Int} {V : Nat → Int64} {P : Nat → Nat} {m0 m : dM} {L s cf cw cu n : Nat} {W : gR} {st : mSt} {Ds : Nat → lD}
def UFv (s cu : Nat) (m mm : dM) : Prop := UF m mm ∧ ∀ k j : Nat, 87 ≤ k → k ≤ 90 → j ≠ 8 * s + cu → mm.1 k j = m.1 k j
theorem UFv.cx {a b : dM} (h : UFv s cu m a) (hc : Cx a b) : UFv s cu m b := ⟨h.1.cx hc, fun k j h1 h2 h3 => by rw [hc.1 k (by omega)]; exact h.2 k j h1 h2 h3⟩
theorem UFv.set {a : dM} {k j : Nat} {v : Int32} (h : UFv s cu m a) (hk : 87 ≤ k ∧ k ≤ 90) (hj : j = 8 * s + cu) : UFv s cu m (dSet a k j v) := ⟨h.1.set hk, fun c i h1 h2 h3 => by
  rw [dSet_e, if_neg (fun w => h3 (by omega))]
  exact h.2 c i h1 h2 h3⟩
theorem FXv.uf {mm : dM} (h : FXv m0 L m) (hL : L + s = 1) (hc : cu ≤ 7) (hu : UFv s cu m mm) : FXv m0 L mm := ⟨h.1.uf hu.1, fun k j q => by
  have b := lvS_k q
  by_cases q2 : 87 ≤ k ∧ k ≤ 90
  · rw [hu.2 k j q2.1 q2.2 (by unfold lvS at q; omega)]; exact h.2 k j q
  · rw [hu.1.1 k (by omega) q2]; exact h.2 k j q⟩
theorem x_use {Q : dM → Prop} (hL : L + s = 1) (hsd : (m0.1 70 19).toInt = (s : Int)) (hv : ∀ i, vk (K i)) (hP : ∀ i j : Nat, i < j → lvK K j → P i < P j) (hS : ST K P m (0, n + 1) W) (hR : RM K V P m) (hF : FXv m0 L m) (hC : CT s cf cw cu m) (h7 : cu ≤ 7) (hQ : LQ s m) (hW : W.1 ≠ 0 → W.2 < n) (hN : W.1 = 0 → NH V s st m ∧ st.1.length = cf ∧ st.2.1.length = cw ∧ st.2.2.1.length = cu) (hD : LDs m s Ds)
    (hB : (gsq K [22, 22, 23, 23, 23, 59] (n + 1)).1 ≠ 0 → ∀ (m' : dM) (W' : gR), ST K P m' (gsq K [22, 22, 23, 23, 23, 59] (n + 1)) W' → FXv m0 L m' → Q m')
    (hG : (gsq K [22, 22, 23, 23, 23, 59] (n + 1)).1 = 0 → ∀ (m' : dM) (W' : gR) (st' : mSt), TIv K V P m0 L s cf cw (cu + 1) (n + 7) W' st' Ds m' → WM (mUse V n st) W W' st' → Q m') : c_X12_tellUse_70 6 m Q := by
  have hs : s ≤ 1 := by omega
  have hC5 := hC.2.2.2.2
  have sd := hF.sd hsd
  have fm := dMulE (X := 8) (Y := (s : Int)) (x := (8 : Int32)) (y := m.1 70 19) (by decide) sd.1 (by omega) (by omega)
  have fx := dAddE (X := 8 * (s : Int)) (Y := (cu : Int)) (x := (8 : Int32) * m.1 70 19) (y := m.1 86 s) fm hC.2.2.1 (by omega) (by omega)
  have gG : gsq K [22, 22, 23, 23, 23, 59] (n + 1) = rb (rb (rb (rb (rb (gnd K 22 (n + 1)) (gnd K 22)) (gnd K 23)) (gnd K 23)) (gnd K 23)) (gnd K 59) := by
    have : gsq K [22, 22, 23, 23, 23, 59] (n + 1) = rb (gnd K 22 (n + 1)) (gsq K [22, 23, 23, 23, 59]) := rfl
    rw [this, gsq_r, gsq_r, gsq_r, gsq_r, gsq_r, rb_id]
  rw [gG] at hB hG
  refine v_X12_tellUse_70 ⟨by omega, ?_⟩
  rw [sd.2]
  generalize hX : (8 : Int32) * m.1 70 19 + m.1 86 s = X at fx ⊢
  have eX : X.toNatClampNeg = 8 * s + cu := by
    have := d_cl (x := X) (by omega)
    omega
  have e0 : (m.1 70 11).toInt = ((n + 1 : Nat) : Int) := (hS.1 rfl).2.1
  have lv1 : lvK K (n + 1) := (hS.1 rfl).2.2.2.1
  have n1 : n + 1 ≤ 400 := (hS.1 rfl).2.2.1
  refine Wp.deep (q_named hv hP hR hS hC.2.2.2.1 (by omega) (fun w => by have := hW w; omega) (fun m1 W1 c1 h1 hw1 => ?_)) (Nat.le_of_ble_eq_true rfl)
  have U1 : UFv s cu m m1 := ⟨⟨fun k a _ => c1.1 k a, c1.2.1, c1.2.2⟩, fun k j h1 h2 _ => by rw [c1.1 k (by omega)]⟩
  have hW1 : (gnd K 22 (n + 1)).1 = 0 → W1.1 ≠ 0 → W1.2 < n + 2 := fun z w => by
    rcases hw1 z with ⟨-, e⟩ | ⟨-, e⟩
    · rw [e] at w ⊢
      by_cases w0 : W.1 = 0
      · rw [wadd_z w0]; show n + 1 < n + 2; omega
      · rw [wadd_n w0]; have := hW w0; omega
    · rw [e] at w ⊢; have := hW w; omega
  refine Wp.deep (q_knownFlat hv hP (hR.cx c1) h1 (hC.cx c1).2.2.2.1 (by omega) (fun z w => by rw [(gnd_0 z).1]; exact hW1 z w) (fun r2 m2 W2 c2 h2 hw2 => ?_)) (Nat.le_of_ble_eq_true rfl)
  rw [eX]
  have U2 : UFv s cu m (dSet m2 87 (8 * s + cu) r2) := (U1.cx c2).set (by decide) rfl
  have S2 : ST K P (dSet m2 87 (8 * s + cu) r2) (rb (gnd K 22 (n + 1)) (gnd K 22)) W2 := h2.k (by decide)
  have hw2' : (rb (gnd K 22 (n + 1)) (gnd K 22)).1 = 0 → ((∃ k : Nat, k < cf + cu ∧ m.2.1 78 k = V (n + 2) ∧ 0 ≤ (m.1 79 k).toInt ∧ r2 = m.1 79 k) ∧ W2 = W1) ∨ ((∀ k : Nat, k < cf + cu → m.2.1 78 k = V (n + 2) → (m.1 79 k).toInt < 0) ∧ r2 = -1 ∧ W2 = wadd W1 (4, n + 2)) := fun z => by
    have := hw2 z
    rw [(gnd2_z z).1, c1.2.2, c1.1 79 (by decide)] at this
    exact this
  have hW2 : (rb (gnd K 22 (n + 1)) (gnd K 22)).1 = 0 → W2.1 ≠ 0 → W2.2 < n + 3 := fun z w => by
    have z1 := (rb_z z).1
    rcases hw2' z with ⟨-, e⟩ | ⟨-, -, e⟩
    · rw [e] at w ⊢; have := hW1 z1 w; omega
    · rw [e] at w ⊢
      by_cases w0 : W1.1 = 0
      · rw [wadd_z w0]; show n + 2 < n + 3; omega
      · rw [wadd_n w0]; have := hW1 z1 w0; omega
  have A2 : ∀ j : Nat, (dSet m2 87 (8 * s + cu) r2).1 87 j = if j = 8 * s + cu then r2 else m.1 87 j := fun j => by
    rw [dSet_e, c2.1 87 (by decide), c1.1 87 (by decide)]
    by_cases q : j = 8 * s + cu
    · rw [if_pos ⟨rfl, q⟩, if_pos q]
    · rw [if_neg (fun w => q w.2), if_neg q]
  have B2 : ∀ k : Nat, k = 88 ∨ k = 89 ∨ k = 90 → (dSet m2 87 (8 * s + cu) r2).1 k = m.1 k := fun k e => by rw [dSet_k (by omega), c2.1 k (by omega), c1.1 k (by omega)]
  refine ⟨by omega, ?_⟩
  generalize dSet m2 87 (8 * s + cu) r2 = M2 at U2 S2 A2 B2 ⊢
  refine Wp.deep (q_bounded hv hP (hR.uf U2.1) S2 (fun z w => by rw [(gnd2_z z).2.2.1]; exact hW2 z w) (fun r3 m3 W3 c3 h3 hw3 => ⟨by omega, ?_⟩)) (Nat.le_of_ble_eq_true rfl)
  have U3 : UFv s cu m (dSet m3 88 (8 * s + cu) r3) := (U2.cx c3).set (by decide) rfl
  have S3 : ST K P (dSet m3 88 (8 * s + cu) r3) (rb (rb (gnd K 22 (n + 1)) (gnd K 22)) (gnd K 23)) W3 := h3.k (by decide)
  have hw3' : (rb (rb (gnd K 22 (n + 1)) (gnd K 22)) (gnd K 23)).1 = 0 → rb (rb (gnd K 22 (n + 1)) (gnd K 22)) (gnd K 23) = (0, n + 4) ∧ W3 = bX V 1 19 (n + 3) W2 := fun z => by
    have a := hw3 z
    have z2 := (rb_z z).1
    rw [(gnd2_z z2).2.2.1] at a z ⊢
    exact ⟨(gnd_0 z).1, a.2⟩
  have hW3 : (rb (rb (gnd K 22 (n + 1)) (gnd K 22)) (gnd K 23)).1 = 0 → W3.1 ≠ 0 → W3.2 < n + 4 := fun z => by
    rw [(hw3' z).2]
    exact bX_lt (fun w => by have := hW2 (rb_z z).1 w; omega) (by omega)
  have hr3 : (rb (rb (gnd K 22 (n + 1)) (gnd K 22)) (gnd K 23)).1 = 0 → r3 = (V (n + 3)).toInt32 := fun z => by
    have a := (hw3 z).1
    rw [(gnd2_z (rb_z z).1).2.2.1] at a
    exact a
  have A3 : ∀ j : Nat, (dSet m3 88 (8 * s + cu) r3).1 88 j = if j = 8 * s + cu then r3 else m.1 88 j := fun j => by
    rw [dSet_e, c3.1 88 (by decide), B2 88 (by decide)]
    by_cases q : j = 8 * s + cu
    · rw [if_pos ⟨rfl, q⟩, if_pos q]
    · rw [if_neg (fun w => q w.2), if_neg q]
  have B3 : ∀ k : Nat, k = 89 ∨ k = 90 → (dSet m3 88 (8 * s + cu) r3).1 k = m.1 k := fun k e => by rw [dSet_k (by omega), c3.1 k (by omega), B2 k (by omega)]
  have C3 : (dSet m3 88 (8 * s + cu) r3).1 87 = M2.1 87 := by rw [dSet_k (by decide), c3.1 87 (by decide)]
  generalize dSet m3 88 (8 * s + cu) r3 = M3 at U3 S3 A3 B3 C3 ⊢
  refine Wp.deep (q_bounded hv hP (hR.uf U3.1) S3 (fun z w => by rw [(hw3' z).1]; exact hW3 z w) (fun r4 m4 W4 c4 h4 hw4 => ⟨by omega, ⟨by omega, ?_⟩⟩)) (Nat.le_of_ble_eq_true rfl)
  have U4 : UFv s cu m (dSet m4 89 (8 * s + cu) r4) := (U3.cx c4).set (by decide) rfl
  have S4 : ST K P (dSet m4 89 (8 * s + cu) r4) (rb (rb (rb (gnd K 22 (n + 1)) (gnd K 22)) (gnd K 23)) (gnd K 23)) W4 := h4.k (by decide)
  have hw4' : (rb (rb (rb (gnd K 22 (n + 1)) (gnd K 22)) (gnd K 23)) (gnd K 23)).1 = 0 → rb (rb (rb (gnd K 22 (n + 1)) (gnd K 22)) (gnd K 23)) (gnd K 23) = (0, n + 5) ∧ r4.toInt = iV V (n + 4) ∧ W4 = bX V 0 23 (n + 4) W3 := fun z => by
    have a := hw4 z
    have z2 := (rb_z z).1
    rw [(hw3' z2).1] at a z ⊢
    exact ⟨(gnd_0 z).1, by rw [a.1]; rfl, a.2⟩
  have hW4 : (rb (rb (rb (gnd K 22 (n + 1)) (gnd K 22)) (gnd K 23)) (gnd K 23)).1 = 0 → W4.1 ≠ 0 → W4.2 < n + 5 := fun z => by
    rw [(hw4' z).2.2]
    exact bX_lt (fun w => by have := hW3 (rb_z z).1 w; omega) (by omega)
  have tail : ∀ x : Int32, (W4.1 = 0 → (rb (rb (rb (gnd K 22 (n + 1)) (gnd K 22)) (gnd K 23)) (gnd K 23)).1 = 0 → W3.1 = 0 → x.toInt = iV V (n + 4)) → c_X12_bounded_70 5 x (23 : Int32) (dSet m4 89 (8 * s + cu) r4) (fun r5 m5 => ((0 ≤ X.toInt ∧ X.toInt < 16) ∧ c_X12_endsName_70 5 (m.1 70 11) (-1 : Int32) (dSet m5 90 (8 * s + cu) r5) (fun m6 => (((m6.1 70 13).toInt ≠ 0 → j_X12_tellUse_70_118 (5 + 1) m6 Q) ∧ ((m6.1 70 13).toInt = 0 → ((0 ≤ (m6.1 70 19).toInt ∧ (m6.1 70 19).toInt < 2) ∧ ((0 ≤ (m6.1 70 19).toInt ∧ (m6.1 70 19).toInt < 2) ∧ j_X12_tellUse_70_118 (5 + 1) (dSet m6 86 (m6.1 70 19).toNatClampNeg ((m6.1 86 (m6.1 70 19).toNatClampNeg) + (1 : Int32))) Q))))))) := by
    intro x hx
    have hr4 : (rb (rb (rb (gnd K 22 (n + 1)) (gnd K 22)) (gnd K 23)) (gnd K 23)).1 = 0 → r4 = (V (n + 4)).toInt32 := fun z => by
      have a := (hw4 z).1
      rw [(hw3' (rb_z z).1).1] at a
      exact a
    have A4 : ∀ j : Nat, (dSet m4 89 (8 * s + cu) r4).1 89 j = if j = 8 * s + cu then r4 else m.1 89 j := fun j => by
      rw [dSet_e, c4.1 89 (by decide), B3 89 (by decide)]
      by_cases q : j = 8 * s + cu
      · rw [if_pos ⟨rfl, q⟩, if_pos q]
      · rw [if_neg (fun w => q w.2), if_neg q]
    have B4 : (dSet m4 89 (8 * s + cu) r4).1 90 = m.1 90 := by rw [dSet_k (by decide), c4.1 90 (by decide), B3 90 (by decide)]
    have C4 : ∀ k : Nat, k = 87 ∨ k = 88 → (dSet m4 89 (8 * s + cu) r4).1 k = M3.1 k := fun k e => by rw [dSet_k (by omega), c4.1 k (by omega)]
    generalize dSet m4 89 (8 * s + cu) r4 = M4 at U4 S4 A4 B4 C4 ⊢
    refine Wp.deep (q_bounded hv hP (hR.uf U4.1) S4 (fun z w => by rw [(hw4' z).1]; exact hW4 z w) (fun r5 m5 W5 c5 h5 hw5 => ⟨by omega, ?_⟩)) (Nat.le_of_ble_eq_true rfl)
    have U5 : UFv s cu m (dSet m5 90 (8 * s + cu) r5) := (U4.cx c5).set (by decide) rfl
    have S5 : ST K P (dSet m5 90 (8 * s + cu) r5) (rb (rb (rb (rb (gnd K 22 (n + 1)) (gnd K 22)) (gnd K 23)) (gnd K 23)) (gnd K 23)) W5 := h5.k (by decide)
    have hw5' : (rb (rb (rb (rb (gnd K 22 (n + 1)) (gnd K 22)) (gnd K 23)) (gnd K 23)) (gnd K 23)).1 = 0 → rb (rb (rb (rb (gnd K 22 (n + 1)) (gnd K 22)) (gnd K 23)) (gnd K 23)) (gnd K 23) = (0, n + 6) ∧ W5 = bX V x.toInt 23 (n + 5) W4 := fun z => by
      have a := hw5 z
      have z2 := (rb_z z).1
      rw [(hw4' z2).1] at a z ⊢
      exact ⟨(gnd_0 z).1, a.2⟩
    have hr5 : (rb (rb (rb (rb (gnd K 22 (n + 1)) (gnd K 22)) (gnd K 23)) (gnd K 23)) (gnd K 23)).1 = 0 → r5 = (V (n + 5)).toInt32 := fun z => by
      have a := (hw5 z).1
      rw [(hw4' (rb_z z).1).1] at a
      exact a
    have A5 : ∀ j : Nat, (dSet m5 90 (8 * s + cu) r5).1 90 j = if j = 8 * s + cu then r5 else m.1 90 j := fun j => by
      rw [dSet_e, c5.1 90 (by decide), B4]
      by_cases q : j = 8 * s + cu
      · rw [if_pos ⟨rfl, q⟩, if_pos q]
      · rw [if_neg (fun w => q w.2), if_neg q]
    have C5 : ∀ k : Nat, k = 87 ∨ k = 88 ∨ k = 89 → (dSet m5 90 (8 * s + cu) r5).1 k = M4.1 k := fun k e => by rw [dSet_k (by omega), c5.1 k (by omega)]
    generalize dSet m5 90 (8 * s + cu) r5 = M5 at U5 S5 A5 C5 ⊢
    have F5 := hF.uf hL h7 U5
    have R5 := hR.uf U5.1
    have U5 := U5.1
    have N5 : nms M5 = ((cf + cu : Nat) : Int) := by unfold nms; rw [U5.2.1 20 (by decide) (by decide) (by decide) (by decide) (by decide)]; exact hC.2.2.2.1
    refine Wp.deep (q_endsName (N := cf + cu) (tok := n + 1) hv R5 S5 e0 n1 N5 (by omega) (fun z6 m6 c6 h6 => ?_) (fun z6 m6 E6 h6 => ?_)) (Nat.le_of_ble_eq_true rfl)
    · have f6 := h6.fl
      exact ⟨fun _ => v_X12_tellUse_70_118 (hB z6 m6 W5 h6 (F5.cx c6)), fun q => absurd (f6.2.mp q) z6⟩
    · have f6 := h6.fl
      have F6 := F5.en E6
      have sd6 := F6.sd hsd
      rw [sd6.2]
      refine ⟨fun q => absurd (f6.2.mpr z6) q, fun _ => ⟨by omega, ⟨by omega, v_X12_tellUse_70_118 ?_⟩⟩⟩
      have z5 := (rb_z z6).1
      have z4 := (rb_z z5).1
      have z3 := (rb_z z4).1
      have z2 := (rb_z z3).1
      have z1 := (rb_z z2).1
      have t6 : rb (rb (rb (rb (rb (gnd K 22 (n + 1)) (gnd K 22)) (gnd K 23)) (gnd K 23)) (gnd K 23)) (gnd K 59) = (0, n + 7) := by
        have z := z6
        rw [(hw5' z5).1, rb_0] at z ⊢
        exact (gnd_0 z).1
      have h6' := h6
      rw [t6] at h6'
      have yn : M5.2.1 76 (n + 1) = V (n + 1) := by
        have hk1 := (gnd_0 z1).2.1
        exact (R5 (n + 1) n1 lv1).2.2.1 (by omega)
      rw [yn] at E6
      have e86 : (m6.1 86 s).toInt = (cu : Int) := by rw [E6.1 86 (by decide) (by decide), U5.1 86 (by decide) (by decide)]; exact hC.2.2.1
      have jj : ∀ j : Nat, j = 12 ∨ j = 40 ∨ j = 46 → m6.1 70 j = m.1 70 j := fun j e => by rw [E6.2.1 j (by omega) (by omega) (by omega) (by omega) (by omega) (by omega), U5.2.1 j (by omega) (by omega) (by omega) (by omega) (by omega)]
      have tt6 : tt m6 = ((n + 7 : Nat) : Int) := (h6'.1 rfl).2.1
      have tt0 : tt m = ((n + 1 : Nat) : Int) := e0
      have SS : ST K P (dSet m6 86 s (m6.1 86 s + 1)) (0, n + 7) W5 := h6'.k (by decide)
      have RR : RM K V P (dSet m6 86 s (m6.1 86 s + 1)) := R5.of (fun k a b => by rw [dSet_k (by omega)]; exact E6.1 k (by omega) (by omega)) (by show m6.2.1 76 = M5.2.1 76; exact E6.2.2.2.2.1 76 (by decide))
      have QQ : LQ s (dSet m6 86 s (m6.1 86 s + 1)) := hQ.j (jj 12 (by omega)) (jj 46 (by omega)) (jj 40 (by omega)) (by show tt m ≤ tt m6; omega)
      have FF : FXv m0 L (dSet m6 86 s (m6.1 86 s + 1)) := F6.set (by decide) (by decide) (by unfold lvS; omega)
      have CC : CT s cf cw (cu + 1) (dSet m6 86 s (m6.1 86 s + 1)) := by
        refine ⟨?_, ?_, by rw [dSet_s]; exact d_inc e86 (by omega), ?_, by omega, by omega, by omega⟩
        · rw [dSet_k (by decide), E6.1 80 (by decide) (by decide), U5.1 80 (by decide) (by decide)]; exact hC.1
        · rw [dSet_k (by decide), E6.1 82 (by decide) (by decide), U5.1 82 (by decide) (by decide)]; exact hC.2.1
        · show (m6.1 70 20).toInt = _
          rw [E6.2.2.1]
          omega
      have e3 := (hw3' z3).2
      have e4 := (hw4' z4).2.2
      have e5 := (hw5' z5).2
      have w5lt : W5.1 ≠ 0 → W5.2 < n + 7 := by
        rw [e5]
        exact bX_lt (fun w => by have := hW4 z4 w; omega) (by omega)
      have stays : W2.1 ≠ 0 → W5 = W2 := fun w => by rw [e5, e4, e3, bX_n w, bX_n w, bX_n w]
      have key : ∃ st' : mSt, (W5.1 = 0 → NH V s st' (dSet m6 86 s (m6.1 86 s + 1)) ∧ st'.1.length = cf ∧ st'.2.1.length = cw ∧ st'.2.2.1.length = cu + 1) ∧ WM (mUse V n st) W W5 st' := by
        unfold WM
        by_cases w0 : W.1 = 0
        · obtain ⟨⟨hN1, hH1⟩, hl1, hl2, hl3⟩ := hN w0
          have kn : (∃ k : Nat, k < cf + cu ∧ m.2.1 78 k = V (n + 1)) ↔ knw V st (V (n + 1)) = true := by
            rw [← hl1, ← hl3]; exact hN1.kn
          have wr : ∀ (c i : Nat), W5 = (c + 1, i) → mUse V n st = ((c + 1, i), st) → ∃ st' : mSt, (W5.1 = 0 → NH V s st' (dSet m6 86 s (m6.1 86 s + 1)) ∧ st'.1.length = cf ∧ st'.2.1.length = cw ∧ st'.2.2.1.length = cu + 1) ∧ (W.1 ≠ 0 → W5 = W) ∧ (W.1 = 0 → ((mUse V n st).1.1 = 0 → W5.1 = 0 ∧ st' = (mUse V n st).2) ∧ ((mUse V n st).1.1 ≠ 0 → W5 = (mUse V n st).1)) := fun c i a b => by
            rw [a, b]
            exact ⟨st, fun q => absurd q (Nat.succ_ne_zero c), fun q => absurd w0 q, fun _ => ⟨fun q => absurd q (Nat.succ_ne_zero c), fun _ => rfl⟩⟩
          rcases hw1 z1 with ⟨ex, e1⟩ | ⟨ex, e1⟩
          · have kt := kn.mp ex
            rw [wadd_z w0] at e1
            have e2 : W2 = (3, n + 1) := by
              rcases hw2' z2 with ⟨-, e⟩ | ⟨-, -, e⟩
              · rw [e, e1]
              · rw [e, e1, wadd_n (Nat.succ_ne_zero 2)]
            refine wr 2 (n + 1) (by rw [stays (by rw [e2]; exact Nat.succ_ne_zero 2), e2]) ?_
            unfold mUse
            rw [kt]
            rfl
          · have kf : knw V st (V (n + 1)) = false := by
              cases hh : knw V st (V (n + 1)) with
              | false => rfl
              | true =>
                obtain ⟨k, k1, k2⟩ := kn.mpr hh
                exact absurd k2 (ex k k1)
            rcases hw2' z2 with ⟨⟨k, k2, k3, k4, k5⟩, e2⟩ | ⟨k1, k2, e2⟩
            · obtain ⟨h, fh, vh⟩ := hN1.sm (by omega) k3 k4
              have mU : mUse V n st = bnd V (n + 3) 1 19 (bnd V (n + 4) 0 23 (bnd V (n + 5) (iV V (n + 4)) 23 ((0, 0), (st.1, st.2.1, st.2.2.1 ++ [(n, h)], st.2.2.2)) st) st) st := by
                unfold mUse
                rw [kf, fh]
                rfl
              rw [e1] at e2
              rw [e2] at e3
              unfold bX at e3 e4 e5
              by_cases b3 : (1 : Int) ≤ iV V (n + 3) ∧ iV V (n + 3) ≤ 19
              · rw [if_pos b3] at e3
                rw [e3] at e4
                by_cases b4 : (0 : Int) ≤ iV V (n + 4) ∧ iV V (n + 4) ≤ 23
                · rw [if_pos b4] at e4
                  have ex5 := hx (by rw [e4]; exact w0) z4 (by rw [e3]; exact w0)
                  rw [ex5, e4] at e5
                  by_cases b5 : iV V (n + 4) ≤ iV V (n + 5) ∧ iV V (n + 5) ≤ 23
                  · rw [if_pos b5] at e5
                    have mU' : mUse V n st = ((0, 0), (st.1, st.2.1, st.2.2.1 ++ [(n, h)], st.2.2.2)) := by
                      rw [mU]
                      unfold bnd
                      rw [if_pos b3, if_pos b4, if_pos b5]
                    rw [mU', e5]
                    refine ⟨(st.1, st.2.1, st.2.2.1 ++ [(n, h)], st.2.2.2), fun _ => ⟨⟨?_, ?_⟩, hl1, hl2, ?_⟩, fun q => absurd w0 q, fun _ => ⟨fun _ => ⟨w0, rfl⟩, fun q => absurd rfl q⟩⟩
                    · refine hN1.use (N := cf + cu) (v := (-1 : Int32)) (by omega) (by decide) (fun j => ?_) ?_ ?_ (fun j => ?_)
                      · rw [dSet_k (by decide), E6.2.2.2.1 j, U5.1 79 (by decide) (by decide)]
                      · rw [dSet_k (by decide), E6.1 83 (by decide) (by decide), U5.1 83 (by decide) (by decide)]
                      · rw [dSet_k (by decide), E6.1 84 (by decide) (by decide), U5.1 84 (by decide) (by decide)]
                      · show m6.2.1 78 j = _
                        rw [E6.2.2.2.2.2.1 j, U5.2.2]
                    · refine hH1.use (v := r2) (by rw [k5]; exact vh) (fun j => ?_) (fun j => ?_) (fun j => ?_) (fun j => ?_) (fun k e => ?_)
                      · rw [dSet_k (by decide), E6.1 87 (by decide) (by decide), C5 87 (by decide), C4 87 (by decide), C3, A2, hl3]
                      · rw [dSet_k (by decide), E6.1 88 (by decide) (by decide), C5 88 (by decide), C4 88 (by decide), A3, hl3, hr3 z3]
                      · rw [dSet_k (by decide), E6.1 89 (by decide) (by decide), C5 89 (by decide), A4, hl3, hr4 z4]
                      · rw [dSet_k (by decide), E6.1 90 (by decide) (by decide), A5, hl3, hr5 z5]
                      · rw [dSet_k (by omega), E6.1 k (by omega) (by omega), U5.1 k (by omega) (by omega)]
                    · show (st.2.2.1 ++ [(n, h)]).length = cu + 1
                      rw [List.length_append, hl3]; rfl
                  · rw [if_neg b5, wadd_z w0] at e5
                    refine wr 4 (n + 5) e5 ?_
                    rw [mU]
                    unfold bnd
                    rw [if_pos b3, if_pos b4, if_neg b5]
                · rw [if_neg b4, wadd_z w0] at e4
                  rw [e4] at e5
                  refine wr 4 (n + 4) (by rw [e5]; split; rfl; exact wadd_n (Nat.succ_ne_zero 4)) ?_
                  rw [mU]
                  unfold bnd
                  rw [if_pos b3, if_neg b4]
              · rw [if_neg b3, wadd_z w0] at e3
                have e4' : W4 = (5, n + 3) := by rw [e4, e3]; split; rfl; exact wadd_n (Nat.succ_ne_zero 4)
                refine wr 4 (n + 3) (by rw [e5, e4']; split; rfl; exact wadd_n (Nat.succ_ne_zero 4)) ?_
                rw [mU]
                unfold bnd
                rw [if_neg b3]
            · have fh := hN1.nn (y := V (n + 2)) (fun k hk he => k1 k (by omega) he)
              have e2' : W2 = (4, n + 2) := by rw [e2, e1, wadd_z w0]
              refine wr 3 (n + 2) (by rw [stays (by rw [e2']; exact Nat.succ_ne_zero 3), e2']) ?_
              unfold mUse
              rw [kf, fh]
              rfl
        · have e1 : W1 = W := by
            rcases hw1 z1 with ⟨-, e⟩ | ⟨-, e⟩
            · rw [e, wadd_n w0]
            · exact e
          have e2 : W2 = W := by
            rcases hw2' z2 with ⟨-, e⟩ | ⟨-, -, e⟩
            · rw [e, e1]
            · rw [e, e1, wadd_n w0]
          have e5' : W5 = W := by rw [stays (by rw [e2]; exact w0), e2]
          rw [e5']
          exact ⟨st, fun q => absurd q w0, fun _ => rfl, fun q => absurd q w0⟩
      obtain ⟨st', kn, kwn⟩ := key
      exact hG z6 _ W5 st' ⟨SS, RR, FF, CC, QQ, w5lt, kn, hD.of (fun c h1 h2 => by rw [dSet_k (by omega), E6.1 c (by omega) (by omega), U5.1 c (by omega) (by omega)]) (jj 40 (by omega)) (jj 46 (by omega))⟩ kwn
  refine ⟨fun q => ⟨by omega, tail r4 (fun _ z _ => (hw4' z).2.1)⟩, fun q => tail (0 : Int32) (fun w z w3 => ?_)⟩
  exfalso
  have e23 : (23 : Int32).toInt = 23 := by decide
  have a := hw4' z
  rw [a.2.2] at w
  unfold bX at w
  rw [if_neg (by omega), wadd_z w3] at w
  exact absurd w (Nat.succ_ne_zero 4)
end RUV
